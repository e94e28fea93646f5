/-! THE PROVER'S OWN KIT: contracts over a fixed list of cells that keep their addresses; calls that put the callee's cells back in place; array rows by a Nat index -/
abbrev nwA : Cond := .methodLinkNest RX0 28 yX1_cell RX1
abbrev nwB : Cond := .methodLinkNest RX0 76 yX1_nextTo RX1
/-- what the tables say of an array of arrays: its class, and that of its rows -/
def zAO (ty : FieldType) (U : State) : Prop := ∃ (c d : ClassId) (k : Class), U.vm.findClass (FieldType.array ty).toString = some d ∧ U.vm.classes[c]? = some k ∧ k.kind = .array d (.array ty) ∧ U.vm.findClass ("[" ++ (FieldType.array ty).toString) = some c
theorem zAO.moved {ty : FieldType} {u U : State} (hvm : u.vm.Alike U.vm) (h : zAO ty u) : zAO ty U := by
  obtain ⟨c, d, k, h1, h2, h3, h4⟩ := h
  obtain ⟨k', hk', he⟩ := hvm.2.2 _ _ h2
  exact ⟨c, d, k', by rw [hvm.findClass]; exact h1, hk', by rw [he]; exact h3, by rw [hvm.findClass]; exact h4⟩
def zN (U : State) : Prop := va_Nw nwA U ∧ va_Nw nwB U ∧ zAO .int U ∧ zAO .boolean U
theorem zN.same {u U : State} (h : u.vm = U.vm) (z : zN u) : zN U := ⟨va_Nw.same rfl h z.1, va_Nw.same rfl h z.2.1, z.2.2.1.moved (by rw [h]; exact Vm.Alike.refl _), z.2.2.2.moved (by rw [h]; exact Vm.Alike.refl _)⟩
theorem zN.warm {s U : State} (hW : s.WarmedH U.vm) (z : zN s) : zN U := ⟨va_Nw.warmM hW z.1, va_Nw.warmM hW z.2.1, z.2.2.1.moved hW.alike, z.2.2.2.moved hW.alike⟩
abbrev zT : Type := List (ClassId × FieldType)
def zput : va_W → List Nat → va_W → va_W
  | ws, i :: is, q :: qs => zput (ws.set i q) is qs
  | ws, [], _ => ws
  | ws, _ :: _, [] => ws
theorem zput_P {D : va_G} {cl : List vw_C} {H1 : Heap} : ∀ (is : List Nat) (W1 ws : va_W), (∀ (k : Nat) (q : Nat × va_E), ws[k]? = some q → k ∈ is ∨ va_at D cl q H1) → va_P D cl W1 H1 → is.length = W1.length → va_P D cl (zput ws is W1) H1
  | [], W1, ws, h, _, _ => fun k q hq => by
      have e : zput ws [] W1 = ws := by cases W1 <;> rfl
      rw [e] at hq
      rcases h k q hq with h | h
      · cases h
      · exact h
  | i :: is, [], ws, _, _, hl => by simp at hl
  | i :: is, q :: qs, ws, h, h1, hl => by
      show va_P D cl (zput (ws.set i q) is qs) H1
      refine zput_P is qs (ws.set i q) ?_ (fun k x hx => h1 (k + 1) x (by simpa using hx)) (by simpa using hl)
      intro k x hx
      by_cases hk : i = k
      · subst hk
        have hi : i < (ws.set i q).length := (List.getElem?_eq_some_iff.mp hx).1
        have hi2 : i < ws.length := by simpa using hi
        rw [List.getElem?_set_self hi2] at hx
        cases hx
        exact Or.inr (h1 0 q rfl)
      · rw [List.getElem?_set_ne hk] at hx
        rcases h k x hx with hm | ha
        · rcases List.mem_cons.mp hm with e | hm
          · exact absurd e.symm hk
          · exact Or.inl hm
        · exact Or.inr ha
theorem zset_self {α : Type} : ∀ (l : List α) (i : Nat) (x : α), l[i]? = some x → l.set i x = l
  | [], i, x, h => by simp at h
  | a :: l, 0, x, h => by simp at h; subst h; rfl
  | a :: l, i + 1, x, h => by
      have h2 : l[i]? = some x := by simpa using h
      show a :: l.set i x = a :: l
      rw [zset_self l i x h2]
theorem zput_fst : ∀ (is : List Nat) (W1 ws : va_W), (is.map fun i => (ws.map Prod.fst)[i]?) = W1.map (fun q => some q.1) → (zput ws is W1).map Prod.fst = ws.map Prod.fst
  | [], W1, ws, _ => by cases W1 <;> rfl
  | i :: is, [], ws, h => by simp at h
  | i :: is, q :: qs, ws, h => by
      show (zput (ws.set i q) is qs).map Prod.fst = _
      simp only [List.map_cons, List.cons.injEq] at h
      have e : (ws.set i q).map Prod.fst = ws.map Prod.fst := by
        rw [List.map_set]
        exact zset_self _ _ _ h.1
      rw [zput_fst is qs (ws.set i q) (by rw [e]; exact h.2), e]
theorem zD {A : Nat → Prop} {ws ws' : va_W} (h : ws'.map Prod.fst = ws.map Prod.fst) (hD : va_D A ws) : va_D A ws' := by
  have key : ∀ (k : Nat) (q : Nat × va_E), ws'[k]? = some q → ∃ q0, ws[k]? = some q0 ∧ q0.1 = q.1 := by
    intro k q hq
    have h1 : (ws'.map Prod.fst)[k]? = some q.1 := by rw [List.getElem?_map, hq]; rfl
    rw [h, List.getElem?_map] at h1
    cases hw : ws[k]? with
    | none => rw [hw] at h1; cases h1
    | some q0 => rw [hw] at h1; exact ⟨q0, rfl, Option.some.inj h1⟩
  refine ⟨fun i j p q hp hq hpq => ?_, fun k q hq => ?_⟩
  · obtain ⟨p0, e1, e2⟩ := key i p hp
    obtain ⟨q0, e3, e4⟩ := key j q hq
    exact hD.1 i j p0 q0 e1 e3 (by rw [e2, e4, hpq])
  · obtain ⟨q0, e1, e2⟩ := key k q hq
    rw [← e2]
    exact hD.2 k q0 e1
theorem z_subP {D : va_G} {cl : List vw_C} {ws W : va_W} {H : Heap} (hP : va_P D cl ws H) (isC : List Nat) (hC : isC.map (fun i => ws[i]?) = W.map some) : va_P D cl W H := by
  intro k q hq
  have h1 : (isC.map (fun i => ws[i]?))[k]? = some (some q) := by rw [hC, List.getElem?_map, hq]; rfl
  rw [List.getElem?_map] at h1
  cases hi : isC[k]? with
  | none => rw [hi] at h1; cases h1
  | some i => rw [hi] at h1; exact hP i q (Option.some.inj h1)
theorem z_jn {D : va_G} {cl : List vw_C} {A0 : Nat → Prop} {ws W W1 : va_W} {H H1 : Heap} (hP : va_P D cl ws H) (hD : va_D A0 ws) (isC : List Nat) (hC : isC.map (fun i => ws[i]?) = W.map some) (hk : ∀ q : Nat, q < H.size → ¬ va_A W H.size q → H1[q]? = H[q]?) (hP1 : va_P D cl W1 H1) (hf : W1.map Prod.fst = W.map Prod.fst) : va_P D cl (zput ws isC W1) H1 ∧ va_D A0 (zput ws isC W1) := by
  have hl0 : isC.length = W.length := by have := congrArg List.length hC; simpa using this
  have hl : isC.length = W1.length := by have := congrArg List.length hf; rw [List.length_map, List.length_map] at this; omega
  constructor
  · refine zput_P isC W1 ws (fun k q hq => ?_) hP1 hl
    by_cases hm : k ∈ isC
    · exact Or.inl hm
    · right
      have hlt := (hP k q hq).lt
      refine (hP k q hq).kept (hk q.1 hlt ?_)
      rintro (⟨k2, e, h⟩ | h)
      · have h1 : (isC.map (fun i => ws[i]?))[k2]? = some (some (q.1, e)) := by rw [hC, List.getElem?_map, h]; rfl
        rw [List.getElem?_map] at h1
        cases hi : isC[k2]? with
        | none => rw [hi] at h1; cases h1
        | some j =>
          rw [hi] at h1
          have h2 : ws[j]? = some (q.1, e) := Option.some.inj h1
          have e3 := hD.1 k j q (q.1, e) hq h2 rfl
          exact hm (by rw [e3]; exact List.mem_of_getElem? hi)
      · omega
  · refine zD (zput_fst isC W1 ws ?_) hD
    have e1 : (isC.map fun i => (ws.map Prod.fst)[i]?) = (isC.map (fun i => ws[i]?)).map (Option.map Prod.fst) := by
      rw [List.map_map]
      exact List.map_congr_left (fun i _ => by rw [List.getElem?_map]; rfl)
    have e2 : W1.map (fun q => some q.1) = (W.map some).map (Option.map Prod.fst) := by
      rw [List.map_map]
      have := congrArg (List.map some) hf
      rw [List.map_map, List.map_map] at this
      exact this
    rw [e1, e2, hC]
def zPc (D : va_G) (T : zT) (W : va_W) (av : List Value) (sz : Nat) : Array Value → State → Prop := va_Pc av (fun U => U.heap.size = sz ∧ va_P D vwCl W U.heap ∧ va_K D vwCl T U ∧ va_D (fun _ => True) W ∧ zN U)
theorem zPc_blind {D : va_G} {T : zT} {W : va_W} {av : List Value} {sz : Nat} : FrameBlind (zPc D T W av sz) := fun a U g mk q => by
  obtain ⟨q0, q1, qP, qK, qD, qN⟩ := q
  exact ⟨q0, q1, qP, va_K.moved (u := U) (U := U.calling g mk a) (Vm.Alike.refl U.vm) qK, qD, zN.same (u := U) (U := U.calling g mk a) rfl qN⟩
def zI (l : Launch) (D : va_G) (T : zT) (y : MethodName) (ws : List Cond) (rm : Room) (W : va_W) (av : List Value) {S : Type} (W1 : S → va_W) (post : Int32 → S → Prop) : Prop := ∀ sz, Met l y ws rm (zPc D T W av sz) (va_Qi post (fun u t => va_P D vwCl (W1 u) t.heap) (va_A W sz)) 0 0 (va_A W sz)
def zL (l : Launch) (D : va_G) (T : zT) (y : MethodName) (ws : List Cond) (rm : Room) (W : va_W) (av : List Value) {S : Type} (W1 : S → va_W) (post : Int64 → S → Prop) : Prop := ∀ sz, Met l y ws rm (zPc D T W av sz) (va_Ql post (fun u t => va_P D vwCl (W1 u) t.heap) (va_A W sz)) 0 0 (va_A W sz)
def zV (l : Launch) (D : va_G) (T : zT) (y : MethodName) (ws : List Cond) (rm : Room) (W : va_W) (av : List Value) {S : Type} (W1 : S → va_W) (post : S → Prop) : Prop := ∀ sz, Met l y ws rm (zPc D T W av sz) (va_Qv post (fun u t => va_P D vwCl (W1 u) t.heap) (va_A W sz)) 0 0 (va_A W sz)
section ZR
variable {p : Program} {l : Launch} {e : Env} {R : Room} {s : State} {m : MethodId} {args : Array Value} {below : List Frame} {meth : Method} {c : Code} {H : Heap} {locs : List Loc} {cells slots : Nat} {Q : State → Prop}
variable {cc : ByteArray} {pc : Nat} {ls : Array Slot} {rest : List Value} {D : va_G} {cl : List vw_C} {A : Nat → Prop} {a : Nat} {tys : List (ClassId × FieldType)} {ws : va_W} {H0 : Heap}
/-- the entry: the locals hold the arguments -/
theorem z_entry {vs : List Value} {n : Nat} (ha : args = vs.toArray) (h : (lg_sl vs).length ≤ n) (k : ∀ ls : Array Slot, lv_has ls n (lv_args 0 vs) → W p l e R s m args below meth c H locs cells slots Q (F0 m 0 ls [])) : W p l e R s m args below meth c H locs cells slots Q (entryFrame m args n) := by
  have e1 : entryFrame m args n = F0 m 0 ((lg_sl vs ++ List.replicate (n - (lg_sl vs).length) Slot.unset).toArray) [] := by rw [ha]; exact lg_entry_eq m vs n
  rw [e1]
  exact k _ (lv_entry vs h)
theorem z_iald (hexec : p.tables.exec = Jvm.exec) (hb : c.code = cc) (hK : va_K D cl tys s) (hP : va_P D cl ws H) (q0 t0 : Nat) {cA : ClassId} {n : Nat} {f : Nat → Int32} (ha : ws[q0]? = some (a, .inl (cA, n, .inl f))) (ht : tys[t0]? = some (cA, .int)) {i : Int32} (k : Nat) (hi : i = nI k) (hk : k < n) (hn : n < 2 ^ 31) (hdg : decode cc pc = .ok (.iaload, 1))
    (kk : W p l e R s m args below meth c H locs cells slots Q (F0 m (pc + 1) ls (.int (f k) :: rest))) : W p l e R s m args below meth c H locs cells slots Q (F0 m pc ls (.int i :: .ref a :: rest)) := by
  subst hi
  refine va_iald hexec hb hK hP q0 t0 ha ht (vp_in_nI hk hn) hdg ?_
  rw [nI_clamp (Nat.lt_trans hk hn)]
  exact kk
theorem z_zald (hexec : p.tables.exec = Jvm.exec) (hb : c.code = cc) (hK : va_K D cl tys s) (hP : va_P D cl ws H) (q0 t0 : Nat) {cA : ClassId} {n : Nat} {f : Nat → Int32} (ha : ws[q0]? = some (a, .inl (cA, n, .inl f))) (ht : tys[t0]? = some (cA, .boolean)) {i : Int32} (k : Nat) (hi : i = nI k) (hk : k < n) (hn : n < 2 ^ 31) (hdg : decode cc pc = .ok (.baload, 1))
    (kk : W p l e R s m args below meth c H locs cells slots Q (F0 m (pc + 1) ls (.int (f k) :: rest))) : W p l e R s m args below meth c H locs cells slots Q (F0 m pc ls (.int i :: .ref a :: rest)) := by
  subst hi
  refine va_zald hexec hb hK hP q0 t0 ha ht (vp_in_nI hk hn) hdg ?_
  rw [nI_clamp (Nat.lt_trans hk hn)]
  exact kk
theorem z_iast (hexec : p.tables.exec = Jvm.exec) (hb : c.code = cc) (hK : va_K D cl tys s) (hP : va_P D cl ws H) (hD : va_D A ws) (hS : va_S A H0 H locs) (q0 t0 : Nat) {cA : ClassId} {n : Nat} {f : Nat → Int32} (ha : ws[q0]? = some (a, .inl (cA, n, .inl f))) (ht : tys[t0]? = some (cA, .int)) {i : Int32} {x : Int32} (k : Nat) (hi : i = nI k) (hk : k < n) (hn : n < 2 ^ 31) (hdg : decode cc pc = .ok (.iastore, 1))
    (kk : ∀ (H1 : Heap) (locs1 : List Loc), va_P D cl (ws.set q0 (a, .inl (cA, n, .inl (upd f k x)))) H1 → va_D A (ws.set q0 (a, .inl (cA, n, .inl (upd f k x)))) → va_S A H0 H1 locs1 → W p l e R s m args below meth c H1 locs1 cells slots Q (F0 m (pc + 1) ls rest)) : W p l e R s m args below meth c H locs cells slots Q (F0 m pc ls (.int x :: .int i :: .ref a :: rest)) := by
  subst hi
  refine va_iast hexec hb hK hP hD hS q0 t0 ha ht (vp_in_nI hk hn) hdg ?_
  rw [nI_clamp (Nat.lt_trans hk hn)]
  exact kk
theorem z_nar (b : Bool) : vp_nar .boolean (if b then 1 else 0) = if b then 1 else 0 := by cases b <;> decide +kernel
theorem z_zast (hexec : p.tables.exec = Jvm.exec) (hb : c.code = cc) (hK : va_K D cl tys s) (hP : va_P D cl ws H) (hD : va_D A ws) (hS : va_S A H0 H locs) (q0 t0 : Nat) {cA : ClassId} {n : Nat} {f : Nat → Int32} (ha : ws[q0]? = some (a, .inl (cA, n, .inl f))) (ht : tys[t0]? = some (cA, .boolean)) {i : Int32} {x : Int32} (k : Nat) (hi : i = nI k) (hk : k < n) (hn : n < 2 ^ 31) (hx : vp_nar .boolean x = x) (hdg : decode cc pc = .ok (.bastore, 1))
    (kk : ∀ (H1 : Heap) (locs1 : List Loc), va_P D cl (ws.set q0 (a, .inl (cA, n, .inl (upd f k x)))) H1 → va_D A (ws.set q0 (a, .inl (cA, n, .inl (upd f k x)))) → va_S A H0 H1 locs1 → W p l e R s m args below meth c H1 locs1 cells slots Q (F0 m (pc + 1) ls rest)) : W p l e R s m args below meth c H locs cells slots Q (F0 m pc ls (.int x :: .int i :: .ref a :: rest)) := by
  subst hi
  refine va_zast hexec hb hK hP hD hS q0 t0 ha ht (vp_in_nI hk hn) hdg ?_
  rw [nI_clamp (Nat.lt_trans hk hn), hx]
  exact kk
theorem z_pre {W0 : va_W} {T : zT} {av : List Value} (hK : va_K D vwCl T s) (hN : zN s) (hP : va_P D vwCl W0 H) (hD : va_D A W0) : ∀ U : State, U.heap = H → s.WarmedH U.vm → zPc D T W0 av H.size av.toArray U := fun U hU hW => ⟨rfl, by rw [hU], by rw [hU]; exact hP, va_K.moved hW.alike hK, hD.weaken (fun _ _ _ _ => trivial), zN.warm hW hN⟩
variable {Ts wsy : List Cond} {bytes : ByteArray} {nL maxL index n : Nat} {own C host : String} {y : MethodName} {ret : Option FieldType} {rm : Room} {b : Nat} {As st0 : List Value} {T : zT} {W0 : va_W} {S : Type} {W1 : S → va_W}
/-- virtual calls -/
theorem z_callVi {post : Int32 → S → Prop} (F : CallFix p m c cc nL s args Ts own) (hM : zI l D T y wsy rm W0 (.ref b :: As) W1 post) (cw : CallW R s args own C index y bytes maxL ret wsy rm 0 0 n) (hK : va_K D vwCl T s) (hN : zN s) (hP : va_P D vwCl ws H) (hD : va_D A ws) (hS : va_S A H0 H locs) (hA : ∀ q, H0.size ≤ q → A q)
    (isC : List Nat) (hC : isC.map (fun i => ws[i]?) = W0.map some) (hnd : va_nd isC = true) (hf : ∀ u, (W1 u).map Prod.fst = W0.map Prod.fst) (q0 : Nat) {ci : Nat} {q : vw_C} {fs : List Value} (hc : vwCl[ci]? = some q) (hq : q.1 = C) (he : ws[q0]? = some (b, .inr (ci, fs)))
    (hn : As.length = n) (hl : ls.size = nL) (hst : st0 = As.reverse ++ .ref b :: rest) (hW : (rest.map fun v => v.category).sum ≤ 8) (hdg : decode cc pc = .ok (.invokevirtual index, 3)) (hcs : cells + 0 ≤ R.cells ∧ slots + 0 ≤ R.slots)
    (kk : ∀ (r : Int32) (u : S) (H1 : Heap) (locs1 : List Loc), post r u → va_P D vwCl (zput ws isC (W1 u)) H1 → va_D A (zput ws isC (W1 u)) → va_S A H0 H1 locs1 → W p l e R s m args below meth c H1 locs1 cells slots Q (F0 m (pc + 3) ls (.int r :: rest))) : W p l e R s m args below meth c H locs cells slots Q (F0 m pc ls st0) := by
  have hFc := va_free (wc := W0) hD hS hA isC hC
  have hr := va_recv hK hP hc he
  rw [hq] at hr
  exact va_calli (va_runV F (hM H.size) cw ⟨zPc_blind, hr, z_pre hK hN (z_subP hP isC hC) (hD.sub isC hnd hC)⟩ rfl hn hl hst (lv_room hW) hdg hcs) hS (fun q _ h => hFc q h) hFc (fun r u t H1 locs1 ht _ hp hB _ hk1 hS1 => by
    obtain ⟨h1, h2⟩ := z_jn hP hD isC hC hk1 (by rw [← ht]; exact hB) (hf u)
    exact kk r u H1 locs1 hp h1 h2 hS1)
theorem z_callVl {post : Int64 → S → Prop} (F : CallFix p m c cc nL s args Ts own) (hM : zL l D T y wsy rm W0 (.ref b :: As) W1 post) (cw : CallW R s args own C index y bytes maxL ret wsy rm 0 0 n) (hK : va_K D vwCl T s) (hN : zN s) (hP : va_P D vwCl ws H) (hD : va_D A ws) (hS : va_S A H0 H locs) (hA : ∀ q, H0.size ≤ q → A q)
    (isC : List Nat) (hC : isC.map (fun i => ws[i]?) = W0.map some) (hnd : va_nd isC = true) (hf : ∀ u, (W1 u).map Prod.fst = W0.map Prod.fst) (q0 : Nat) {ci : Nat} {q : vw_C} {fs : List Value} (hc : vwCl[ci]? = some q) (hq : q.1 = C) (he : ws[q0]? = some (b, .inr (ci, fs)))
    (hn : As.length = n) (hl : ls.size = nL) (hst : st0 = As.reverse ++ .ref b :: rest) (hW : (rest.map fun v => v.category).sum ≤ 8) (hdg : decode cc pc = .ok (.invokevirtual index, 3)) (hcs : cells + 0 ≤ R.cells ∧ slots + 0 ≤ R.slots)
    (kk : ∀ (r : Int64) (u : S) (H1 : Heap) (locs1 : List Loc), post r u → va_P D vwCl (zput ws isC (W1 u)) H1 → va_D A (zput ws isC (W1 u)) → va_S A H0 H1 locs1 → W p l e R s m args below meth c H1 locs1 cells slots Q (F0 m (pc + 3) ls (.long r :: rest))) : W p l e R s m args below meth c H locs cells slots Q (F0 m pc ls st0) := by
  have hFc := va_free (wc := W0) hD hS hA isC hC
  have hr := va_recv hK hP hc he
  rw [hq] at hr
  exact va_calll (va_runV F (hM H.size) cw ⟨zPc_blind, hr, z_pre hK hN (z_subP hP isC hC) (hD.sub isC hnd hC)⟩ rfl hn hl hst (lv_room hW) hdg hcs) hS (fun q _ h => hFc q h) hFc (fun r u t H1 locs1 ht _ hp hB _ hk1 hS1 => by
    obtain ⟨h1, h2⟩ := z_jn hP hD isC hC hk1 (by rw [← ht]; exact hB) (hf u)
    exact kk r u H1 locs1 hp h1 h2 hS1)
theorem z_callVv {post : S → Prop} (F : CallFix p m c cc nL s args Ts own) (hM : zV l D T y wsy rm W0 (.ref b :: As) W1 post) (cw : CallW R s args own C index y bytes maxL ret wsy rm 0 0 n) (hK : va_K D vwCl T s) (hN : zN s) (hP : va_P D vwCl ws H) (hD : va_D A ws) (hS : va_S A H0 H locs) (hA : ∀ q, H0.size ≤ q → A q)
    (isC : List Nat) (hC : isC.map (fun i => ws[i]?) = W0.map some) (hnd : va_nd isC = true) (hf : ∀ u, (W1 u).map Prod.fst = W0.map Prod.fst) (q0 : Nat) {ci : Nat} {q : vw_C} {fs : List Value} (hc : vwCl[ci]? = some q) (hq : q.1 = C) (he : ws[q0]? = some (b, .inr (ci, fs)))
    (hn : As.length = n) (hl : ls.size = nL) (hst : st0 = As.reverse ++ .ref b :: rest) (hW : (rest.map fun v => v.category).sum ≤ 8) (hdg : decode cc pc = .ok (.invokevirtual index, 3)) (hcs : cells + 0 ≤ R.cells ∧ slots + 0 ≤ R.slots)
    (kk : ∀ (u : S) (H1 : Heap) (locs1 : List Loc), post u → va_P D vwCl (zput ws isC (W1 u)) H1 → va_D A (zput ws isC (W1 u)) → va_S A H0 H1 locs1 → W p l e R s m args below meth c H1 locs1 cells slots Q (F0 m (pc + 3) ls rest)) : W p l e R s m args below meth c H locs cells slots Q (F0 m pc ls st0) := by
  have hFc := va_free (wc := W0) hD hS hA isC hC
  have hr := va_recv hK hP hc he
  rw [hq] at hr
  exact va_callv (va_runV F (hM H.size) cw ⟨zPc_blind, hr, z_pre hK hN (z_subP hP isC hC) (hD.sub isC hnd hC)⟩ rfl hn hl hst (lv_room hW) hdg hcs) hS (fun q _ h => hFc q h) hFc (fun u t H1 locs1 ht _ hp hB _ hk1 hS1 => by
    obtain ⟨h1, h2⟩ := z_jn hP hD isC hC hk1 (by rw [← ht]; exact hB) (hf u)
    exact kk u H1 locs1 hp h1 h2 hS1)
/-- static calls of the own class or a foreign one, without cells -/
theorem z_callSi {post : Int32 → Unit → Prop} (F : CallFix p m c cc nL s args Ts own) (hM : zI l D T y wsy rm [] As (fun _ => []) post) (cw : CallB R s args own index y bytes maxL ret wsy rm 0 0 n ∧ (Cond.static y).before args s = true) (hK : va_K D vwCl T s) (hN : zN s) (hP : va_P D vwCl ws H) (hD : va_D A ws) (hS : va_S A H0 H locs) (hA : ∀ q, H0.size ≤ q → A q)
    (hn : As.length = n) (hl : ls.size = nL) (hst : st0 = As.reverse ++ rest) (hW : (rest.map fun v => v.category).sum ≤ 8) (hdg : decode cc pc = .ok (.invokestatic index, 3)) (hcs : cells + 0 ≤ R.cells ∧ slots + 0 ≤ R.slots)
    (kk : ∀ (r : Int32) (H1 : Heap) (locs1 : List Loc), post r () → va_P D vwCl ws H1 → va_S A H0 H1 locs1 → W p l e R s m args below meth c H1 locs1 cells slots Q (F0 m (pc + 3) ls (.int r :: rest))) : W p l e R s m args below meth c H locs cells slots Q (F0 m pc ls st0) := by
  have hFc := va_free (wc := []) hD hS hA [] rfl
  exact va_calli (va_runS F (hM H.size) cw ⟨zPc_blind, z_pre (A := A) hK hN (fun k q h => by simp at h) ⟨fun i j p q h => by simp at h, fun k q h => by simp at h⟩⟩ rfl hn hl hst (lv_room hW) hdg hcs) hS (fun q _ h => hFc q h) hFc (fun r u t H1 locs1 ht _ hp hB _ hk1 hS1 => by
    obtain ⟨h1, h2⟩ := z_jn (W := []) (W1 := []) hP hD [] rfl hk1 (by rw [← ht]; exact hB) rfl
    exact kk r H1 locs1 hp h1 hS1)
theorem z_callSl {post : Int64 → Unit → Prop} (F : CallFix p m c cc nL s args Ts own) (hM : zL l D T y wsy rm [] As (fun _ => []) post) (cw : CallB R s args own index y bytes maxL ret wsy rm 0 0 n ∧ (Cond.static y).before args s = true) (hK : va_K D vwCl T s) (hN : zN s) (hP : va_P D vwCl ws H) (hD : va_D A ws) (hS : va_S A H0 H locs) (hA : ∀ q, H0.size ≤ q → A q)
    (hn : As.length = n) (hl : ls.size = nL) (hst : st0 = As.reverse ++ rest) (hW : (rest.map fun v => v.category).sum ≤ 8) (hdg : decode cc pc = .ok (.invokestatic index, 3)) (hcs : cells + 0 ≤ R.cells ∧ slots + 0 ≤ R.slots)
    (kk : ∀ (r : Int64) (H1 : Heap) (locs1 : List Loc), post r () → va_P D vwCl ws H1 → va_S A H0 H1 locs1 → W p l e R s m args below meth c H1 locs1 cells slots Q (F0 m (pc + 3) ls (.long r :: rest))) : W p l e R s m args below meth c H locs cells slots Q (F0 m pc ls st0) := by
  have hFc := va_free (wc := []) hD hS hA [] rfl
  exact va_calll (va_runS F (hM H.size) cw ⟨zPc_blind, z_pre (A := A) hK hN (fun k q h => by simp at h) ⟨fun i j p q h => by simp at h, fun k q h => by simp at h⟩⟩ rfl hn hl hst (lv_room hW) hdg hcs) hS (fun q _ h => hFc q h) hFc (fun r u t H1 locs1 ht _ hp hB _ hk1 hS1 => by
    obtain ⟨h1, h2⟩ := z_jn (W := []) (W1 := []) hP hD [] rfl hk1 (by rw [← ht]; exact hB) rfl
    exact kk r H1 locs1 hp h1 hS1)
/-- a static call with cells (an array handed on) -/
theorem z_callSWi {post : Int32 → S → Prop} (F : CallFix p m c cc nL s args Ts own) (hM : zI l D T y wsy rm W0 As W1 post) (cw : CallB R s args own index y bytes maxL ret wsy rm 0 0 n ∧ (Cond.static y).before args s = true) (hK : va_K D vwCl T s) (hN : zN s) (hP : va_P D vwCl ws H) (hD : va_D A ws) (hS : va_S A H0 H locs) (hA : ∀ q, H0.size ≤ q → A q)
    (isC : List Nat) (hC : isC.map (fun i => ws[i]?) = W0.map some) (hnd : va_nd isC = true) (hf : ∀ u, (W1 u).map Prod.fst = W0.map Prod.fst)
    (hn : As.length = n) (hl : ls.size = nL) (hst : st0 = As.reverse ++ rest) (hW : (rest.map fun v => v.category).sum ≤ 8) (hdg : decode cc pc = .ok (.invokestatic index, 3)) (hcs : cells + 0 ≤ R.cells ∧ slots + 0 ≤ R.slots)
    (kk : ∀ (r : Int32) (u : S) (H1 : Heap) (locs1 : List Loc), post r u → va_P D vwCl (zput ws isC (W1 u)) H1 → va_D A (zput ws isC (W1 u)) → va_S A H0 H1 locs1 → W p l e R s m args below meth c H1 locs1 cells slots Q (F0 m (pc + 3) ls (.int r :: rest))) : W p l e R s m args below meth c H locs cells slots Q (F0 m pc ls st0) := by
  have hFc := va_free (wc := W0) hD hS hA isC hC
  exact va_calli (va_runS F (hM H.size) cw ⟨zPc_blind, z_pre hK hN (z_subP hP isC hC) (hD.sub isC hnd hC)⟩ rfl hn hl hst (lv_room hW) hdg hcs) hS (fun q _ h => hFc q h) hFc (fun r u t H1 locs1 ht _ hp hB _ hk1 hS1 => by
    obtain ⟨h1, h2⟩ := z_jn hP hD isC hC hk1 (by rw [← ht]; exact hB) (hf u)
    exact kk r u H1 locs1 hp h1 h2 hS1)
/-- a static call of a nest mate, without cells -/
theorem z_callNi {post : Int32 → Unit → Prop} (F : CallFix p m c cc nL s args Ts own) (hM : zI l D T y wsy rm [] As (fun _ => []) post) (cw : va_CN R s args own index y host bytes maxL ret wsy rm 0 0 n ∧ (Cond.static y).before args s = true ∧ True) (hK : va_K D vwCl T s) (hN : zN s) (hP : va_P D vwCl ws H) (hD : va_D A ws) (hS : va_S A H0 H locs) (hA : ∀ q, H0.size ≤ q → A q)
    (hn : As.length = n) (hl : ls.size = nL) (hst : st0 = As.reverse ++ rest) (hW : (rest.map fun v => v.category).sum ≤ 8) (hdg : decode cc pc = .ok (.invokestatic index, 3)) (hcs : cells + 0 ≤ R.cells ∧ slots + 0 ≤ R.slots)
    (kk : ∀ (r : Int32) (H1 : Heap) (locs1 : List Loc), post r () → va_P D vwCl ws H1 → va_S A H0 H1 locs1 → W p l e R s m args below meth c H1 locs1 cells slots Q (F0 m (pc + 3) ls (.int r :: rest))) : W p l e R s m args below meth c H locs cells slots Q (F0 m pc ls st0) := by
  have hFc := va_free (wc := []) hD hS hA [] rfl
  exact va_calli (va_runSN F (hM H.size) cw ⟨zPc_blind, z_pre (A := A) hK hN (fun k q h => by simp at h) ⟨fun i j p q h => by simp at h, fun k q h => by simp at h⟩⟩ rfl hn hl hst (lv_room hW) hdg hcs) hS (fun q _ h => hFc q h) hFc (fun r u t H1 locs1 ht _ hp hB _ hk1 hS1 => by
    obtain ⟨h1, h2⟩ := z_jn (W := []) (W1 := []) hP hD [] rfl hk1 (by rw [← ht]; exact hB) rfl
    exact kk r H1 locs1 hp h1 hS1)
end ZR
section ZE
variable {p : Program} {l : Launch} {e : Env} {R : Room} {s : State} {m : MethodId} {args : Array Value} {below : List Frame} {meth : Method} {c : Code} {H : Heap} {locs : List Loc}
variable {cc : ByteArray} {pc : Nat} {ls : Array Slot} {D : va_G} {A : Nat → Prop} {ws : va_W} {S : Type} {W1 : S → va_W}
/-- the ends of a contract -/
theorem z_iret {post : Int32 → S → Prop} {v : Int32} (hx : p.tables.exec = Jvm.exec) (hb : c.code = cc) (hr : meth.sig.returnType = some .int) (hlocks : meth.locks = false) (hP : va_P D vwCl ws H) (hS : va_S A s.heap H locs) (u : S) (hw : W1 u = ws) (hp : post v u) (hdg : decode cc pc = .ok (.ireturn, 1)) : W p l e R s m args below meth c H locs 0 0 (MQ below (va_Qi post (fun u t => va_P D vwCl (W1 u) t.heap) A) args s 0 0 A) (F0 m pc ls [.int v]) :=
  W.iret hx hb hr (fun t ht _ => ⟨⟨v, u, rfl, hp, by show va_P D vwCl (W1 u) t.heap; rw [hw, ht]; exact hP⟩, hS.F ht⟩) hS.2.2 hdg hlocks
theorem z_zret {post : Int32 → S → Prop} {v : Int32} (hx : p.tables.exec = Jvm.exec) (hb : c.code = cc) (hr : meth.sig.returnType = some .boolean) (hlocks : meth.locks = false) (hv : narrow .boolean (.int v) = .int v) (hP : va_P D vwCl ws H) (hS : va_S A s.heap H locs) (u : S) (hw : W1 u = ws) (hp : post v u) (hdg : decode cc pc = .ok (.ireturn, 1)) : W p l e R s m args below meth c H locs 0 0 (MQ below (va_Qi post (fun u t => va_P D vwCl (W1 u) t.heap) A) args s 0 0 A) (F0 m pc ls [.int v]) :=
  W.zret hx hb hr hv (fun t ht _ => ⟨⟨v, u, rfl, hp, by show va_P D vwCl (W1 u) t.heap; rw [hw, ht]; exact hP⟩, hS.F ht⟩) hS.2.2 hdg hlocks
theorem z_lret {post : Int64 → S → Prop} {v : Int64} (hx : p.tables.exec = Jvm.exec) (hb : c.code = cc) (hr : meth.sig.returnType = some .long) (hlocks : meth.locks = false) (hP : va_P D vwCl ws H) (hS : va_S A s.heap H locs) (u : S) (hw : W1 u = ws) (hp : post v u) (hdg : decode cc pc = .ok (.lreturn, 1)) : W p l e R s m args below meth c H locs 0 0 (MQ below (va_Ql post (fun u t => va_P D vwCl (W1 u) t.heap) A) args s 0 0 A) (F0 m pc ls [.long v]) :=
  W.lret hx hb hr (fun t ht _ => ⟨⟨v, u, rfl, hp, by show va_P D vwCl (W1 u) t.heap; rw [hw, ht]; exact hP⟩, hS.F ht⟩) hS.2.2 hdg hlocks
theorem z_vret {post : S → Prop} (hx : p.tables.exec = Jvm.exec) (hb : c.code = cc) (hr : meth.sig.returnType = none) (hlocks : meth.locks = false) (hP : va_P D vwCl ws H) (hS : va_S A s.heap H locs) (u : S) (hw : W1 u = ws) (hp : post u) (hdg : decode cc pc = .ok (.return_, 1)) : W p l e R s m args below meth c H locs 0 0 (MQ below (va_Qv post (fun u t => va_P D vwCl (W1 u) t.heap) A) args s 0 0 A) (F0 m pc ls []) :=
  W.vret hx hb hr (fun t ht _ => ⟨⟨u, rfl, hp, by show va_P D vwCl (W1 u) t.heap; rw [hw, ht]; exact hP⟩, hS.F ht⟩) hS.2.2 hdg hlocks
end ZE
/-! pure words -/
abbrev ushr (x k : Int32) : Int32 := (x.toUInt32 >>> (k.toUInt32 &&& Int32.toUInt32 31)).toInt32
def zfill (f g : Nat → Int32) (i : Nat) : Nat → Int32 := fun k => if k < i then f k else g k
theorem zfill_0 (f g : Nat → Int32) : zfill f g 0 = g := by funext k; simp [zfill]
theorem zfill_succ (f g : Nat → Int32) (i : Nat) : upd (zfill f g i) i (f i) = zfill f g (i + 1) := by
  funext k
  unfold upd zfill
  by_cases h : k = i
  · subst h; simp
  · by_cases h2 : k < i
    · simp [h, h2, Nat.lt_succ_of_lt h2]
    · have : ¬ k < i + 1 := by omega
      simp [h, h2, this]
theorem zfill_at {f g : Nat → Int32} {i k : Nat} (h : i ≤ k) : zfill f g i k = g k := by simp [zfill, Nat.not_lt.mpr h]
theorem zfill_in {f g : Nat → Int32} {i k : Nat} (h : k < i) : zfill f g i k = f k := by simp [zfill, h]
