/-! contracts over worlds in segments: what a method leaves may lie elsewhere than what it found; calls of them, and their ends -/
def sI (l : Launch) (D : va_G) (T : zT) (y : MethodName) (ws : List Cond) (rm : Room) (C : gW) (av : List Value) {S : Type} (W1 : S → gW) (post : Int32 → S → Prop) (mc ms : Nat) : Prop := ∀ sz, Met l y ws rm (zPc D T C.flatten av sz) (va_Qi post (fun u t => va_P D vwCl (W1 u).flatten t.heap ∧ va_D (va_A C.flatten sz) (W1 u).flatten) (va_A C.flatten sz)) mc ms (va_A C.flatten sz)
def sDb (l : Launch) (D : va_G) (T : zT) (y : MethodName) (ws : List Cond) (rm : Room) (C : gW) (av : List Value) {S : Type} (W1 : S → gW) (post : UInt64 → S → Prop) (mc ms : Nat) : Prop := ∀ sz, Met l y ws rm (zPc D T C.flatten av sz) (va_Qd post (fun u t => va_P D vwCl (W1 u).flatten t.heap ∧ va_D (va_A C.flatten sz) (W1 u).flatten) (va_A C.flatten sz)) mc ms (va_A C.flatten sz)
def sV (l : Launch) (D : va_G) (T : zT) (y : MethodName) (ws : List Cond) (rm : Room) (C : gW) (av : List Value) {S : Type} (W1 : S → gW) (post : S → Prop) (mc ms : Nat) : Prop := ∀ sz, Met l y ws rm (zPc D T C.flatten av sz) (va_Qv post (fun u t => va_P D vwCl (W1 u).flatten t.heap ∧ va_D (va_A C.flatten sz) (W1 u).flatten) (va_A C.flatten sz)) mc ms (va_A C.flatten sz)
def sR (l : Launch) (D : va_G) (T : zT) (y : MethodName) (ws : List Cond) (rm : Room) (C : gW) (av : List Value) {S : Type} (W1 : S → gW) (ad : S → Nat) (post : S → Prop) (mc ms : Nat) : Prop := ∀ sz, Met l y ws rm (zPc D T C.flatten av sz) (va_Qr post (fun u ra t => ra = ad u ∧ va_P D vwCl (W1 u).flatten t.heap ∧ va_D (va_A C.flatten sz) (W1 u).flatten) (va_A C.flatten sz)) mc ms (va_A C.flatten sz)
section SCC
variable {p : Program} {l : Launch} {e : Env} {R : Room} {s : State} {m : MethodId} {args : Array Value} {below : List Frame} {meth : Method} {c : Code} {H : Heap} {locs : List Loc} {cells slots : Nat} {Q : State → Prop}
variable {cc : ByteArray} {pc : Nat} {ls : Array Slot} {rest : List Value} {D : va_G} {A : Nat → Prop} {segs C : gW} {H0 : Heap}
variable {Ts wsy : List Cond} {bytes : ByteArray} {nL maxL index n mc ms : Nat} {own Cn : String} {y : MethodName} {ret : Option FieldType} {rm : Room} {b : Nat} {As st0 : List Value} {T : zT} {S : Type} {W1 : S → gW}
theorem s_callVi {post : Int32 → S → Prop} (F : CallFix p m c cc nL s args Ts own) (hM : sI l D T y wsy rm C (.ref b :: As) W1 post mc ms) (cw : CallW R s args own Cn index y bytes maxL ret wsy rm mc ms n) (hK : va_K D vwCl T s) (hN : zN s) (hP : va_P D vwCl segs.flatten H) (hD : va_D A segs.flatten) (hS : va_S A H0 H locs) (hA : ∀ q, H0.size ≤ q → A q)
    (is js : List Nat) (n0 : Nat) (hn0 : segs.length = n0) (hC : is.map (fun i => segs[i]?) = C.map some) (hp : (is ++ js).isPerm (List.range n0) = true) (fin : S → gW) (fs gs : List Nat) (n1 : Nat) (hn1 : ∀ u, (fin u).length = n1) (hf : ∀ u, fs.map (fun i => (fin u)[i]?) = (W1 u).map some) (hg : ∀ u, gs.filterMap (fun i => (fin u)[i]?) = js.filterMap (fun i => segs[i]?)) (hq : (fs ++ gs).isPerm (List.range n1) = true)
    (k0 i0 : Nat) {sg : va_W} {ci : Nat} {q : vw_C} {fs0 : List Value} (hk0 : segs[k0]? = some sg) (hi0 : sg[i0]? = some (b, .inr (ci, fs0))) (hc : vwCl[ci]? = some q) (hqn : q.1 = Cn)
    (hn : As.length = n) (hl : ls.size = nL) (hst : st0 = As.reverse ++ .ref b :: rest) (hW : (rest.map fun v => v.category).sum ≤ 8) (hdg : decode cc pc = .ok (.invokevirtual index, 3)) (hcs : cells + mc ≤ R.cells ∧ slots + ms ≤ R.slots)
    (kk : ∀ (r : Int32) (u : S) (H1 : Heap) (locs1 : List Loc), post r u → va_P D vwCl (fin u).flatten H1 → va_D A (fin u).flatten → va_S A H0 H1 locs1 → W p l e R s m args below meth c H1 locs1 (cells + mc) (slots + ms) Q (F0 m (pc + 3) ls (.int r :: rest))) : W p l e R s m args below meth c H locs cells slots Q (F0 m pc ls st0) := by
  obtain ⟨hPC, hDC⟩ := sg_take hP hD is js n0 hn0 hC hp
  have hFc := sg_free hDC hS hA
  obtain ⟨q0, h1, -⟩ := sg_at segs k0 sg i0 _ hk0 hi0
  have hr := va_recv hK hP hc h1
  rw [hqn] at hr
  exact va_calli (va_runV F (hM H.size) cw ⟨zPc_blind, hr, z_pre hK hN hPC hDC⟩ rfl hn hl hst (lv_room hW) hdg hcs) hS (fun q _ h => hFc q h) hFc (fun r u t H1 locs1 ht _ hp1 hB _ hk1 hS1 => by
    obtain ⟨h1, h2⟩ := sg_frame (fin := fin u) hP hD is js n0 hn0 hC hp hk1 hFc (by rw [← ht]; exact hB.1) hB.2 fs gs n1 (hn1 u) (hf u) (hg u) hq
    exact kk r u H1 locs1 hp1 h1 h2 hS1)
theorem s_callVd {post : UInt64 → S → Prop} (F : CallFix p m c cc nL s args Ts own) (hM : sDb l D T y wsy rm C (.ref b :: As) W1 post mc ms) (cw : CallW R s args own Cn index y bytes maxL ret wsy rm mc ms n) (hK : va_K D vwCl T s) (hN : zN s) (hP : va_P D vwCl segs.flatten H) (hD : va_D A segs.flatten) (hS : va_S A H0 H locs) (hA : ∀ q, H0.size ≤ q → A q)
    (is js : List Nat) (n0 : Nat) (hn0 : segs.length = n0) (hC : is.map (fun i => segs[i]?) = C.map some) (hp : (is ++ js).isPerm (List.range n0) = true) (fin : S → gW) (fs gs : List Nat) (n1 : Nat) (hn1 : ∀ u, (fin u).length = n1) (hf : ∀ u, fs.map (fun i => (fin u)[i]?) = (W1 u).map some) (hg : ∀ u, gs.filterMap (fun i => (fin u)[i]?) = js.filterMap (fun i => segs[i]?)) (hq : (fs ++ gs).isPerm (List.range n1) = true)
    (k0 i0 : Nat) {sg : va_W} {ci : Nat} {q : vw_C} {fs0 : List Value} (hk0 : segs[k0]? = some sg) (hi0 : sg[i0]? = some (b, .inr (ci, fs0))) (hc : vwCl[ci]? = some q) (hqn : q.1 = Cn)
    (hn : As.length = n) (hl : ls.size = nL) (hst : st0 = As.reverse ++ .ref b :: rest) (hW : (rest.map fun v => v.category).sum ≤ 8) (hdg : decode cc pc = .ok (.invokevirtual index, 3)) (hcs : cells + mc ≤ R.cells ∧ slots + ms ≤ R.slots)
    (kk : ∀ (r : UInt64) (u : S) (H1 : Heap) (locs1 : List Loc), post r u → va_P D vwCl (fin u).flatten H1 → va_D A (fin u).flatten → va_S A H0 H1 locs1 → W p l e R s m args below meth c H1 locs1 (cells + mc) (slots + ms) Q (F0 m (pc + 3) ls (.double r :: rest))) : W p l e R s m args below meth c H locs cells slots Q (F0 m pc ls st0) := by
  obtain ⟨hPC, hDC⟩ := sg_take hP hD is js n0 hn0 hC hp
  have hFc := sg_free hDC hS hA
  obtain ⟨q0, h1, -⟩ := sg_at segs k0 sg i0 _ hk0 hi0
  have hr := va_recv hK hP hc h1
  rw [hqn] at hr
  exact va_calld (va_runV F (hM H.size) cw ⟨zPc_blind, hr, z_pre hK hN hPC hDC⟩ rfl hn hl hst (lv_room hW) hdg hcs) hS (fun q _ h => hFc q h) hFc (fun r u t H1 locs1 ht _ hp1 hB _ hk1 hS1 => by
    obtain ⟨h1, h2⟩ := sg_frame (fin := fin u) hP hD is js n0 hn0 hC hp hk1 hFc (by rw [← ht]; exact hB.1) hB.2 fs gs n1 (hn1 u) (hf u) (hg u) hq
    exact kk r u H1 locs1 hp1 h1 h2 hS1)
theorem s_callVr {ad : S → Nat} {post : S → Prop} (F : CallFix p m c cc nL s args Ts own) (hM : sR l D T y wsy rm C (.ref b :: As) W1 ad post mc ms) (cw : CallW R s args own Cn index y bytes maxL ret wsy rm mc ms n) (hK : va_K D vwCl T s) (hN : zN s) (hP : va_P D vwCl segs.flatten H) (hD : va_D A segs.flatten) (hS : va_S A H0 H locs) (hA : ∀ q, H0.size ≤ q → A q)
    (is js : List Nat) (n0 : Nat) (hn0 : segs.length = n0) (hC : is.map (fun i => segs[i]?) = C.map some) (hp : (is ++ js).isPerm (List.range n0) = true) (fin : S → gW) (fs gs : List Nat) (n1 : Nat) (hn1 : ∀ u, (fin u).length = n1) (hf : ∀ u, fs.map (fun i => (fin u)[i]?) = (W1 u).map some) (hg : ∀ u, gs.filterMap (fun i => (fin u)[i]?) = js.filterMap (fun i => segs[i]?)) (hq : (fs ++ gs).isPerm (List.range n1) = true)
    (k0 i0 : Nat) {sg : va_W} {ci : Nat} {q : vw_C} {fs0 : List Value} (hk0 : segs[k0]? = some sg) (hi0 : sg[i0]? = some (b, .inr (ci, fs0))) (hc : vwCl[ci]? = some q) (hqn : q.1 = Cn)
    (hn : As.length = n) (hl : ls.size = nL) (hst : st0 = As.reverse ++ .ref b :: rest) (hW : (rest.map fun v => v.category).sum ≤ 8) (hdg : decode cc pc = .ok (.invokevirtual index, 3)) (hcs : cells + mc ≤ R.cells ∧ slots + ms ≤ R.slots)
    (kk : ∀ (u : S) (H1 : Heap) (locs1 : List Loc), post u → va_P D vwCl (fin u).flatten H1 → va_D A (fin u).flatten → va_S A H0 H1 locs1 → W p l e R s m args below meth c H1 locs1 (cells + mc) (slots + ms) Q (F0 m (pc + 3) ls (.ref (ad u) :: rest))) : W p l e R s m args below meth c H locs cells slots Q (F0 m pc ls st0) := by
  obtain ⟨hPC, hDC⟩ := sg_take hP hD is js n0 hn0 hC hp
  have hFc := sg_free hDC hS hA
  obtain ⟨q0, h1, -⟩ := sg_at segs k0 sg i0 _ hk0 hi0
  have hr := va_recv hK hP hc h1
  rw [hqn] at hr
  exact va_callr (va_runV F (hM H.size) cw ⟨zPc_blind, hr, z_pre hK hN hPC hDC⟩ rfl hn hl hst (lv_room hW) hdg hcs) hS (fun q _ h => hFc q h) hFc (fun u ra t H1 locs1 ht _ hp1 hB _ hk1 hS1 => by
    obtain ⟨e1, hB⟩ := hB
    subst e1
    obtain ⟨h1, h2⟩ := sg_frame (fin := fin u) hP hD is js n0 hn0 hC hp hk1 hFc (by rw [← ht]; exact hB.1) hB.2 fs gs n1 (hn1 u) (hf u) (hg u) hq
    exact kk u H1 locs1 hp1 h1 h2 hS1)
theorem s_callSr {ad : S → Nat} {post : S → Prop} (F : CallFix p m c cc nL s args Ts own) (hM : sR l D T y wsy rm C As W1 ad post mc ms) (cw : CallB R s args own index y bytes maxL ret wsy rm mc ms n ∧ (Cond.static y).before args s = true) (hK : va_K D vwCl T s) (hN : zN s) (hP : va_P D vwCl segs.flatten H) (hD : va_D A segs.flatten) (hS : va_S A H0 H locs) (hA : ∀ q, H0.size ≤ q → A q)
    (is js : List Nat) (n0 : Nat) (hn0 : segs.length = n0) (hC : is.map (fun i => segs[i]?) = C.map some) (hp : (is ++ js).isPerm (List.range n0) = true) (fin : S → gW) (fs gs : List Nat) (n1 : Nat) (hn1 : ∀ u, (fin u).length = n1) (hf : ∀ u, fs.map (fun i => (fin u)[i]?) = (W1 u).map some) (hg : ∀ u, gs.filterMap (fun i => (fin u)[i]?) = js.filterMap (fun i => segs[i]?)) (hq : (fs ++ gs).isPerm (List.range n1) = true)
    (hn : As.length = n) (hl : ls.size = nL) (hst : st0 = As.reverse ++ rest) (hW : (rest.map fun v => v.category).sum ≤ 8) (hdg : decode cc pc = .ok (.invokestatic index, 3)) (hcs : cells + mc ≤ R.cells ∧ slots + ms ≤ R.slots)
    (kk : ∀ (u : S) (H1 : Heap) (locs1 : List Loc), post u → va_P D vwCl (fin u).flatten H1 → va_D A (fin u).flatten → va_S A H0 H1 locs1 → W p l e R s m args below meth c H1 locs1 (cells + mc) (slots + ms) Q (F0 m (pc + 3) ls (.ref (ad u) :: rest))) : W p l e R s m args below meth c H locs cells slots Q (F0 m pc ls st0) := by
  obtain ⟨hPC, hDC⟩ := sg_take hP hD is js n0 hn0 hC hp
  have hFc := sg_free hDC hS hA
  exact va_callr (va_runS F (hM H.size) cw ⟨zPc_blind, z_pre hK hN hPC hDC⟩ rfl hn hl hst (lv_room hW) hdg hcs) hS (fun q _ h => hFc q h) hFc (fun u ra t H1 locs1 ht _ hp1 hB _ hk1 hS1 => by
    obtain ⟨e1, hB⟩ := hB
    subst e1
    obtain ⟨h1, h2⟩ := sg_frame (fin := fin u) hP hD is js n0 hn0 hC hp hk1 hFc (by rw [← ht]; exact hB.1) hB.2 fs gs n1 (hn1 u) (hf u) (hg u) hq
    exact kk u H1 locs1 hp1 h1 h2 hS1)
/-- a static call without cells -/
theorem s_callSi0 {post : Int32 → Unit → Prop} (F : CallFix p m c cc nL s args Ts own) (hM : zI l D T y wsy rm [] As (fun _ => []) post) (cw : CallB R s args own index y bytes maxL ret wsy rm 0 0 n ∧ (Cond.static y).before args s = true) (hK : va_K D vwCl T s) (hN : zN s) (hP : va_P D vwCl segs.flatten H) (hD : va_D A segs.flatten) (hS : va_S A H0 H locs) (hA : ∀ q, H0.size ≤ q → A q)
    (hn : As.length = n) (hl : ls.size = nL) (hst : st0 = As.reverse ++ rest) (hW : (rest.map fun v => v.category).sum ≤ 8) (hdg : decode cc pc = .ok (.invokestatic index, 3)) (hcs : cells + 0 ≤ R.cells ∧ slots + 0 ≤ R.slots)
    (kk : ∀ (r : Int32) (H1 : Heap) (locs1 : List Loc), post r () → va_P D vwCl segs.flatten H1 → va_S A H0 H1 locs1 → W p l e R s m args below meth c H1 locs1 cells slots Q (F0 m (pc + 3) ls (.int r :: rest))) : W p l e R s m args below meth c H locs cells slots Q (F0 m pc ls st0) :=
  z_callSi F hM cw hK hN hP hD hS hA hn hl hst hW hdg hcs kk
/-- a constructor -/
theorem s_callI {post : S → Prop} (F : CallFix p m c cc nL s args Ts own) (hM : sV l D T y wsy rm C (.ref b :: As) W1 post mc ms) (cw : CallB R s args own index y bytes maxL none wsy rm mc ms n ∧ y.name = "<init>" ∧ (Cond.instanceMethod y).before args s = true) (hK : va_K D vwCl T s) (hN : zN s) (hP : va_P D vwCl segs.flatten H) (hD : va_D A segs.flatten) (hS : va_S A H0 H locs) (hA : ∀ q, H0.size ≤ q → A q)
    (is js : List Nat) (n0 : Nat) (hn0 : segs.length = n0) (hC : is.map (fun i => segs[i]?) = C.map some) (hp : (is ++ js).isPerm (List.range n0) = true) (fin : S → gW) (fs gs : List Nat) (n1 : Nat) (hn1 : ∀ u, (fin u).length = n1) (hf : ∀ u, fs.map (fun i => (fin u)[i]?) = (W1 u).map some) (hg : ∀ u, gs.filterMap (fun i => (fin u)[i]?) = js.filterMap (fun i => segs[i]?)) (hq : (fs ++ gs).isPerm (List.range n1) = true)
    (hn : As.length = n) (hl : ls.size = nL) (hst : st0 = As.reverse ++ .ref b :: rest) (hW : (rest.map fun v => v.category).sum ≤ 8) (hdg : decode cc pc = .ok (.invokespecial index, 3)) (hcs : cells + mc ≤ R.cells ∧ slots + ms ≤ R.slots)
    (kk : ∀ (u : S) (H1 : Heap) (locs1 : List Loc), post u → va_P D vwCl (fin u).flatten H1 → va_D A (fin u).flatten → va_S A H0 H1 locs1 → W p l e R s m args below meth c H1 locs1 (cells + mc) (slots + ms) Q (F0 m (pc + 3) ls rest)) : W p l e R s m args below meth c H locs cells slots Q (F0 m pc ls st0) := by
  obtain ⟨hPC, hDC⟩ := sg_take hP hD is js n0 hn0 hC hp
  have hFc := sg_free hDC hS hA
  exact va_callv (va_runI F (hM H.size) cw ⟨zPc_blind, z_pre hK hN hPC hDC⟩ rfl hn hl hst (lv_room hW) hdg hcs) hS (fun q _ h => hFc q h) hFc (fun u t H1 locs1 ht _ hp1 hB _ hk1 hS1 => by
    obtain ⟨h1, h2⟩ := sg_frame (fin := fin u) hP hD is js n0 hn0 hC hp hk1 hFc (by rw [← ht]; exact hB.1) hB.2 fs gs n1 (hn1 u) (hf u) (hg u) hq
    exact kk u H1 locs1 hp1 h1 h2 hS1)
end SCC
section SCE
variable {p : Program} {l : Launch} {e : Env} {R : Room} {s : State} {m : MethodId} {args : Array Value} {below : List Frame} {meth : Method} {c : Code} {H : Heap} {locs : List Loc} {cells slots : Nat}
variable {cc : ByteArray} {pc : Nat} {ls : Array Slot} {D : va_G} {A : Nat → Prop} {segs : gW} {S : Type} {W1 : S → gW} {mc ms : Nat}
theorem s_iret {post : Int32 → S → Prop} {v : Int32} (hx : p.tables.exec = Jvm.exec) (hb : c.code = cc) (hr : meth.sig.returnType = some .int) (hlocks : meth.locks = false) (hP : va_P D vwCl segs.flatten H) (hD : va_D A segs.flatten) (hS : va_S A s.heap H locs) (u : S) (is js : List Nat) (n0 : Nat) (hn0 : segs.length = n0) (hC : is.map (fun i => segs[i]?) = (W1 u).map some) (hp : (is ++ js).isPerm (List.range n0) = true) (hq : post v u) (h1 : cells ≤ mc) (h2 : slots ≤ ms) (hdg : decode cc pc = .ok (.ireturn, 1)) : W p l e R s m args below meth c H locs cells slots (MQ below (va_Qi post (fun u t => va_P D vwCl (W1 u).flatten t.heap ∧ va_D A (W1 u).flatten) A) args s mc ms A) (F0 m pc ls [.int v]) :=
  W.widen h1 h2 (W.iret hx hb hr (fun t ht _ => ⟨⟨v, u, rfl, hq, by show va_P D vwCl (W1 u).flatten t.heap ∧ va_D A (W1 u).flatten; rw [ht]; exact sg_take hP hD is js n0 hn0 hC hp⟩, hS.F ht⟩) hS.2.2 hdg hlocks)
theorem s_zret {post : Int32 → S → Prop} {v : Int32} (hx : p.tables.exec = Jvm.exec) (hb : c.code = cc) (hr : meth.sig.returnType = some .boolean) (hlocks : meth.locks = false) (hv : narrow .boolean (.int v) = .int v) (hP : va_P D vwCl segs.flatten H) (hD : va_D A segs.flatten) (hS : va_S A s.heap H locs) (u : S) (is js : List Nat) (n0 : Nat) (hn0 : segs.length = n0) (hC : is.map (fun i => segs[i]?) = (W1 u).map some) (hp : (is ++ js).isPerm (List.range n0) = true) (hq : post v u) (h1 : cells ≤ mc) (h2 : slots ≤ ms) (hdg : decode cc pc = .ok (.ireturn, 1)) : W p l e R s m args below meth c H locs cells slots (MQ below (va_Qi post (fun u t => va_P D vwCl (W1 u).flatten t.heap ∧ va_D A (W1 u).flatten) A) args s mc ms A) (F0 m pc ls [.int v]) :=
  W.widen h1 h2 (W.zret hx hb hr hv (fun t ht _ => ⟨⟨v, u, rfl, hq, by show va_P D vwCl (W1 u).flatten t.heap ∧ va_D A (W1 u).flatten; rw [ht]; exact sg_take hP hD is js n0 hn0 hC hp⟩, hS.F ht⟩) hS.2.2 hdg hlocks)
theorem s_vret {post : S → Prop} (hx : p.tables.exec = Jvm.exec) (hb : c.code = cc) (hr : meth.sig.returnType = none) (hlocks : meth.locks = false) (hP : va_P D vwCl segs.flatten H) (hD : va_D A segs.flatten) (hS : va_S A s.heap H locs) (u : S) (is js : List Nat) (n0 : Nat) (hn0 : segs.length = n0) (hC : is.map (fun i => segs[i]?) = (W1 u).map some) (hp : (is ++ js).isPerm (List.range n0) = true) (hq : post u) (h1 : cells ≤ mc) (h2 : slots ≤ ms) (hdg : decode cc pc = .ok (.return_, 1)) : W p l e R s m args below meth c H locs cells slots (MQ below (va_Qv post (fun u t => va_P D vwCl (W1 u).flatten t.heap ∧ va_D A (W1 u).flatten) A) args s mc ms A) (F0 m pc ls []) :=
  W.widen h1 h2 (W.vret hx hb hr (fun t ht _ => ⟨⟨u, rfl, hq, by show va_P D vwCl (W1 u).flatten t.heap ∧ va_D A (W1 u).flatten; rw [ht]; exact sg_take hP hD is js n0 hn0 hC hp⟩, hS.F ht⟩) hS.2.2 hdg hlocks)
theorem s_aret {ad : S → Nat} {post : S → Prop} {a : Nat} {rt : FieldType} (hx : p.tables.exec = Jvm.exec) (hb : c.code = cc) (hr : meth.sig.returnType = some rt) (hrt : (∃ n, rt = .object n) ∨ ∃ t, rt = .array t) (hlocks : meth.locks = false) (hP : va_P D vwCl segs.flatten H) (hD : va_D A segs.flatten) (hS : va_S A s.heap H locs) (u : S) (ha : a = ad u) (is js : List Nat) (n0 : Nat) (hn0 : segs.length = n0) (hC : is.map (fun i => segs[i]?) = (W1 u).map some) (hp : (is ++ js).isPerm (List.range n0) = true) (hq : post u) (h1 : cells ≤ mc) (h2 : slots ≤ ms) (hdg : decode cc pc = .ok (.areturn, 1)) : W p l e R s m args below meth c H locs cells slots (MQ below (va_Qr post (fun u ra t => ra = ad u ∧ va_P D vwCl (W1 u).flatten t.heap ∧ va_D A (W1 u).flatten) A) args s mc ms A) (F0 m pc ls [.ref a]) :=
  W.widen h1 h2 (W.aret hx hb hr hrt (Or.inr ⟨a, rfl⟩) (fun t ht _ => ⟨⟨u, a, rfl, hq, by show a = ad u ∧ va_P D vwCl (W1 u).flatten t.heap ∧ va_D A (W1 u).flatten; rw [ht]; exact ⟨ha, sg_take hP hD is js n0 hn0 hC hp⟩⟩, hS.F ht⟩) hS.2.2 hdg hlocks)
end SCE
/-- a contract over one fixed world, as one over a segment; its end as a world of its own -/
theorem sg_one (g : va_W) : ([g] : gW).flatten = g := by rw [List.flatten_cons, List.flatten_nil, List.append_nil]
theorem z_toI {l : Launch} {D : va_G} {T : zT} {y : MethodName} {ws : List Cond} {rm : Room} {C1 : va_W} {av : List Value} {S : Type} {W1 : S → va_W} {post : Int32 → S → Prop} (h : zI l D T y ws rm C1 av W1 post) (hf : ∀ u, (W1 u).map Prod.fst = C1.map Prod.fst) {post2 : Int32 → va_W → Prop} (hp : ∀ r u, post r u → post2 r (W1 u)) : sI l D T y ws rm [C1] av (fun g : va_W => [g]) post2 0 0 := by
  intro sz
  rw [sg_one]
  refine MetFree.mono (h sz) (fun _ _ h => h) (fun _ _ _ _ _ h => h) ?_
  rintro a st o t ⟨-, -, -, -, hD, -⟩ ⟨⟨⟨r, u, ho, hq, hB⟩, hF⟩, hL⟩
  refine ⟨⟨⟨r, W1 u, ho, hp r u hq, ?_, ?_⟩, hF⟩, hL⟩
  · rw [sg_one]; exact hB
  · rw [sg_one]; exact zD (hf u) (hD.self)
theorem z_toD {l : Launch} {D : va_G} {T : zT} {y : MethodName} {ws : List Cond} {rm : Room} {C1 : va_W} {av : List Value} {S : Type} {W1 : S → va_W} {post : UInt64 → S → Prop} (h : zDb l D T y ws rm C1 av W1 post) (hf : ∀ u, (W1 u).map Prod.fst = C1.map Prod.fst) {post2 : UInt64 → va_W → Prop} (hp : ∀ r u, post r u → post2 r (W1 u)) : sDb l D T y ws rm [C1] av (fun g : va_W => [g]) post2 0 0 := by
  intro sz
  rw [sg_one]
  refine MetFree.mono (h sz) (fun _ _ h => h) (fun _ _ _ _ _ h => h) ?_
  rintro a st o t ⟨-, -, -, -, hD, -⟩ ⟨⟨⟨r, u, ho, hq, hB⟩, hF⟩, hL⟩
  refine ⟨⟨⟨r, W1 u, ho, hp r u hq, ?_, ?_⟩, hF⟩, hL⟩
  · rw [sg_one]; exact hB
  · rw [sg_one]; exact zD (hf u) (hD.self)
theorem z_toC {l : Launch} {D : va_G} {T : zT} {y : MethodName} {ws : List Cond} {rm : Room} {C1 : va_W} {av : List Value} {S : Type} {W1 : S → va_W} {post : S → Prop} {mc ms : Nat} (h : zC l D T y ws rm C1 av W1 post mc ms) {post2 : va_W → Prop} (hp : ∀ u, post u → post2 (W1 u)) : sV l D T y ws rm [C1] av (fun g : va_W => [g]) post2 mc ms := by
  intro sz
  rw [sg_one]
  refine MetFree.mono (h sz) (fun _ _ h => h) (fun _ _ _ _ _ h => h) ?_
  rintro a st o t - ⟨⟨⟨u, ho, hq, hB⟩, hF⟩, hL⟩
  exact ⟨⟨⟨W1 u, ho, hp u hq, by show va_P D vwCl ([W1 u] : gW).flatten t.heap ∧ va_D (va_A C1 sz) ([W1 u] : gW).flatten; rw [sg_one]; exact hB⟩, hF⟩, hL⟩
