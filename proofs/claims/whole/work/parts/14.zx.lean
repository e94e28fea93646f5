/-! THE PROVER'S OWN KIT for methods that throw: what a throw needs of the start, one row a throw, calls of such methods -/
abbrev xIA : String := "java/lang/IllegalArgumentException"
abbrev xIO : String := "java/lang/IndexOutOfBoundsException"
abbrev xNm : List String := ["java/lang/RuntimeException", "java/lang/Exception"]
def zSt : List (Nat × String) := [(39, "a map is 2 to 5 cells wide and high"), (53, "no such cell or colour"), (67, "no such cell"), (72, "the need is 1 to 4"), (77, "1 to 40 waves"), (103, "no such colour"), (140, "1 to 24 waves")]
def zW (U : State) : Prop := va_Nw (.castable xIA xIA) U ∧ va_Nw (.castable xIO xIO) U ∧ va_Nw (.declares (Bundle.initS "java/lang/RuntimeException")) U ∧ va_Nw (.declares (Bundle.initS "java/lang/Exception")) U ∧ va_Nw (.declares (Bundle.initS Bundle.tN)) U ∧ va_Nc xIA xIO U ∧ va_Nc xIO xIA U
theorem zW.warm {s U : State} (hW : s.WarmedH U.vm) (h : zW s) : zW U := by
  obtain ⟨h1, h2, h3, h4, h5, h6, h7⟩ := h
  exact ⟨va_Nw.warmC hW h1, va_Nw.warmC hW h2, va_Nw.warmD hW h3, va_Nw.warmD hW h4, va_Nw.warmD hW h5, va_Nc.moved hW.alike h6, va_Nc.moved hW.alike h7⟩
theorem zW.same {u U : State} (h : u.vm = U.vm) (z : zW u) : zW U := by
  obtain ⟨h1, h2, h3, h4, h5, h6, h7⟩ := z
  have hal : u.vm.Alike U.vm := by rw [← h]; exact Vm.Alike.refl u.vm
  exact ⟨va_Nw.same rfl h h1, va_Nw.same rfl h h2, va_Nw.same rfl h h3, va_Nw.same rfl h h4, va_Nw.same rfl h h5, va_Nc.moved hal h6, va_Nc.moved hal h7⟩
def zE (A : Nat → Prop) (ad : Nat → Nat) (U : State) (H : Heap) : Prop := zN U ∧ vx_Zq Bundle.tN "UNASSIGNED_STACK" Bundle.steD A U H ∧ vx_Zq Bundle.tN "SUPPRESSED_SENTINEL" Bundle.listD A U H ∧ zW U ∧ ∀ q ∈ zSt, vk_R RX1 q.1 q.2 (ad q.1) U
theorem zE.warm {A : Nat → Prop} {ad : Nat → Nat} {s U : State} {H : Heap} (hW : s.WarmedH U.vm) (h : zE A ad s H) : zE A ad U H := by
  obtain ⟨h1, h2, h3, h4, h5⟩ := h
  exact ⟨h1.warm hW, h2.moved hW.alike, h3.moved hW.alike, h4.warm hW, fun q hq => vk_R.warm hW (h5 q hq)⟩
theorem zE.same {A : Nat → Prop} {ad : Nat → Nat} {u U : State} {H : Heap} (h : u.vm = U.vm) (z : zE A ad u H) : zE A ad U H := by
  obtain ⟨h1, h2, h3, h4, h5⟩ := z
  have hal : u.vm.Alike U.vm := by rw [← h]; exact Vm.Alike.refl u.vm
  exact ⟨h1.same h, h2.moved hal, h3.moved hal, h4.same h, fun q hq => vk_R.same h.symm (h5 q hq)⟩
theorem zE.kept {A : Nat → Prop} {ad : Nat → Nat} {U : State} {H H1 : Heap} (h : zE A ad U H) (hq : ∀ a : Nat, a < H.size → ¬ A a → H1[a]? = H[a]?) : zE A ad U H1 := ⟨h.1, h.2.1.kept hq, h.2.2.1.kept hq, h.2.2.2⟩
theorem zE.narrow {A B : Nat → Prop} {ad : Nat → Nat} {U : State} {H : Heap} (h : zE A ad U H) (hAB : ∀ q, B q → A q) : zE B ad U H := ⟨h.1, h.2.1.narrow hAB, h.2.2.1.narrow hAB, h.2.2.2⟩
def zPx (D : va_G) (T : zT) (ad : Nat → Nat) (W : va_W) (av : List Value) (sz : Nat) : Array Value → State → Prop := va_Pc av (fun U => U.heap.size = sz ∧ va_P D vwCl W U.heap ∧ va_K D vwCl T U ∧ va_D (fun _ => True) W ∧ zE (va_A W sz) ad U U.heap)
theorem zPx_blind {D : va_G} {T : zT} {ad : Nat → Nat} {W : va_W} {av : List Value} {sz : Nat} : FrameBlind (zPx D T ad W av sz) := fun a U g mk q => by
  obtain ⟨q0, q1, qP, qK, qD, qE⟩ := q
  exact ⟨q0, q1, qP, va_K.moved (u := U) (U := U.calling g mk a) (Vm.Alike.refl U.vm) qK, qD, zE.same (u := U) (U := U.calling g mk a) rfl qE⟩
def zX (thr : String → Prop) (D : va_G) (W : va_W) (A : Nat → Prop) : String → State → State → Prop := vx_X (fun _ : Unit => True) (fun E _ t => thr E ∧ va_P D vwCl W t.heap) A
def zXI (l : Launch) (D : va_G) (T : zT) (ad : Nat → Nat) (y : MethodName) (ws : List Cond) (rm : Room) (W : va_W) (av : List Value) {S : Type} (W1 : S → va_W) (post : Int32 → S → Prop) (thr : String → Prop) : Prop := ∀ sz, vx_Met l y ws rm (zPx D T ad W av sz) (va_Qi post (fun u t => va_P D vwCl (W1 u) t.heap) (va_A W sz)) (zX thr D W (va_A W sz)) 1 6 (va_A W sz)
def zXD (l : Launch) (D : va_G) (T : zT) (ad : Nat → Nat) (y : MethodName) (ws : List Cond) (rm : Room) (W : va_W) (av : List Value) {S : Type} (W1 : S → va_W) (post : UInt64 → S → Prop) (thr : String → Prop) : Prop := ∀ sz, vx_Met l y ws rm (zPx D T ad W av sz) (va_Qd post (fun u t => va_P D vwCl (W1 u) t.heap) (va_A W sz)) (zX thr D W (va_A W sz)) 1 6 (va_A W sz)
section ZXR
variable {p : Program} {l : Launch} {e : Env} {R : Room} {s : State} {m : MethodId} {args : Array Value} {below : List Frame} {meth : Method} {c : Code} {H : Heap} {locs : List Loc} {cells slots : Nat} {Q : State → Prop}
variable {cc : ByteArray} {pc : Nat} {ls : Array Slot} {rest : List Value} {D : va_G} {A : Nat → Prop} {tys : List (ClassId × FieldType)} {ws : va_W} {H0 : Heap} {ad : Nat → Nat} {thr : String → Prop}
theorem z_preX {W0 : va_W} {T : zT} {av : List Value} (hK : va_K D vwCl T s) (hE : zE A ad s s.heap) (hS : va_S A s.heap H locs) (hP : va_P D vwCl W0 H) (hD : va_D A W0) (hF : ∀ q, va_A W0 H.size q → A q) : ∀ U : State, U.heap = H → s.WarmedH U.vm → zPx D T ad W0 av H.size av.toArray U := fun U hU hW => ⟨rfl, by rw [hU], by rw [hU]; exact hP, va_K.moved hW.alike hK, hD.weaken (fun _ _ _ _ => trivial), by rw [hU]; exact zE.warm hW ((hE.kept hS.2.1).narrow hF)⟩
variable {Ts wsy : List Cond} {bytes : ByteArray} {nL maxL index n : Nat} {own C host : String} {y : MethodName} {ret : Option FieldType} {rm : Room} {b : Nat} {As st0 : List Value} {T : zT} {W0 : va_W} {S : Type} {W1 : S → va_W}
theorem z_xcallVi {post : Int32 → S → Prop} (F : CallFix p m c cc nL s args Ts own) (hM : zXI l D T ad y wsy rm W0 (.ref b :: As) W1 post thr) (cw : CallW R s args own C index y bytes maxL ret wsy rm 1 6 n) (hK : va_K D vwCl T s) (hE : zE A ad s s.heap) (hP : va_P D vwCl ws H) (hD : va_D A ws) (hS : va_S A s.heap H locs) (hA : ∀ q, s.heap.size ≤ q → A q)
    (isC : List Nat) (hC : isC.map (fun i => ws[i]?) = W0.map some) (hnd : va_nd isC = true) (hf : ∀ u, (W1 u).map Prod.fst = W0.map Prod.fst) (hz : zput ws isC W0 = ws) (q0 : Nat) {ci : Nat} {q : vw_C} {fs : List Value} (hc : vwCl[ci]? = some q) (hq : q.1 = C) (he : ws[q0]? = some (b, .inr (ci, fs)))
    (hn : As.length = n) (hl : ls.size = nL) (hst : st0 = As.reverse ++ .ref b :: rest) (hW : (rest.map fun v => v.category).sum ≤ 8) (hdg : decode cc pc = .ok (.invokevirtual index, 3)) (hcs : cells + 1 ≤ R.cells ∧ slots + 6 ≤ R.slots)
    (kx : ∀ (E : String) (ce : Cell) (a9 : Addr) (H1 : Heap) (locs1 : List Loc), thr E → va_P D vwCl ws H1 → va_S A s.heap H1 locs1 → H1[a9]? = some ce → ce.vm = .none → s.vm.findClass E = some ce.cls → vx_W p l e R s m args below meth c H1 locs1 (cells + 1) (slots + 6) Q (F0 m pc ls rest) a9)
    (kk : ∀ (r : Int32) (u : S) (H1 : Heap) (locs1 : List Loc), post r u → va_P D vwCl (zput ws isC (W1 u)) H1 → va_D A (zput ws isC (W1 u)) → va_S A s.heap H1 locs1 → W p l e R s m args below meth c H1 locs1 (cells + 1) (slots + 6) Q (F0 m (pc + 3) ls (.int r :: rest))) : W p l e R s m args below meth c H locs cells slots Q (F0 m pc ls st0) := by
  have hFc := va_free (wc := W0) hD hS hA isC hC
  have hr := va_recv hK hP hc he
  rw [hq] at hr
  refine vx_calli (vx_runV F (hM H.size) cw ⟨zPx_blind, hr, z_preX hK hE hS (z_subP hP isC hC) (hD.sub isC hnd hC) hFc⟩ rfl hn hl hst (lv_room hW) hdg hcs) hS (fun q _ h => hFc q h) hFc (fun q _ h => hFc q h) ?_ ?_
  · intro E ce a9 u t H1 locs1 ht _ _ hB _ hk1 hS1 h1 h2 h3
    obtain ⟨hth, hB⟩ := hB
    obtain ⟨g1, -⟩ := z_jn (W1 := W0) hP hD isC hC hk1 (by rw [← ht]; exact hB) rfl
    rw [hz] at g1
    exact kx E ce a9 H1 locs1 hth g1 hS1 h1 h2 h3
  · intro r u t H1 locs1 ht _ hp hB _ hk1 hS1
    obtain ⟨h1, h2⟩ := z_jn hP hD isC hC hk1 (by rw [← ht]; exact hB) (hf u)
    exact kk r u H1 locs1 hp h1 h2 hS1
theorem z_xcallVd {post : UInt64 → S → Prop} (F : CallFix p m c cc nL s args Ts own) (hM : zXD l D T ad y wsy rm W0 (.ref b :: As) W1 post thr) (cw : CallW R s args own C index y bytes maxL ret wsy rm 1 6 n) (hK : va_K D vwCl T s) (hE : zE A ad s s.heap) (hP : va_P D vwCl ws H) (hD : va_D A ws) (hS : va_S A s.heap H locs) (hA : ∀ q, s.heap.size ≤ q → A q)
    (isC : List Nat) (hC : isC.map (fun i => ws[i]?) = W0.map some) (hnd : va_nd isC = true) (hf : ∀ u, (W1 u).map Prod.fst = W0.map Prod.fst) (hz : zput ws isC W0 = ws) (q0 : Nat) {ci : Nat} {q : vw_C} {fs : List Value} (hc : vwCl[ci]? = some q) (hq : q.1 = C) (he : ws[q0]? = some (b, .inr (ci, fs)))
    (hn : As.length = n) (hl : ls.size = nL) (hst : st0 = As.reverse ++ .ref b :: rest) (hW : (rest.map fun v => v.category).sum ≤ 8) (hdg : decode cc pc = .ok (.invokevirtual index, 3)) (hcs : cells + 1 ≤ R.cells ∧ slots + 6 ≤ R.slots)
    (kx : ∀ (E : String) (ce : Cell) (a9 : Addr) (H1 : Heap) (locs1 : List Loc), thr E → va_P D vwCl ws H1 → va_S A s.heap H1 locs1 → H1[a9]? = some ce → ce.vm = .none → s.vm.findClass E = some ce.cls → vx_W p l e R s m args below meth c H1 locs1 (cells + 1) (slots + 6) Q (F0 m pc ls rest) a9)
    (kk : ∀ (r : UInt64) (u : S) (H1 : Heap) (locs1 : List Loc), post r u → va_P D vwCl (zput ws isC (W1 u)) H1 → va_D A (zput ws isC (W1 u)) → va_S A s.heap H1 locs1 → W p l e R s m args below meth c H1 locs1 (cells + 1) (slots + 6) Q (F0 m (pc + 3) ls (.double r :: rest))) : W p l e R s m args below meth c H locs cells slots Q (F0 m pc ls st0) := by
  have hFc := va_free (wc := W0) hD hS hA isC hC
  have hr := va_recv hK hP hc he
  rw [hq] at hr
  refine vx_calld (vx_runV F (hM H.size) cw ⟨zPx_blind, hr, z_preX hK hE hS (z_subP hP isC hC) (hD.sub isC hnd hC) hFc⟩ rfl hn hl hst (lv_room hW) hdg hcs) hS (fun q _ h => hFc q h) hFc (fun q _ h => hFc q h) ?_ ?_
  · intro E ce a9 u t H1 locs1 ht _ _ hB _ hk1 hS1 h1 h2 h3
    obtain ⟨hth, hB⟩ := hB
    obtain ⟨g1, -⟩ := z_jn (W1 := W0) hP hD isC hC hk1 (by rw [← ht]; exact hB) rfl
    rw [hz] at g1
    exact kx E ce a9 H1 locs1 hth g1 hS1 h1 h2 h3
  · intro r u t H1 locs1 ht _ hp hB _ hk1 hS1
    obtain ⟨h1, h2⟩ := z_jn hP hD isC hC hk1 (by rw [← ht]; exact hB) (hf u)
    exact kk r u H1 locs1 hp h1 h2 hS1
/-- a throw of the class: new, dup, ldc, <init>, athrow -/
theorem z_thr (hx : p.tables.exec = Jvm.exec) (hb : c.code = cc) (hl : l.stackTraces = false) {cls text : String} {ik is ic : Nat} (hown : s.vm.findClass RX1 = some m.cls) (hcls : Bundle.fit cls = true) (hk : (Cond.classLink RX1 ik cls).before args s = true) (hini : (Cond.initialized cls).before args s = true) (hstr : (is, text) ∈ zSt)
    (hat : ∀ w ∈ (vx_atS RX1 ic cls xNm).filter goodWord, w.before args s = true) (hbad : ∀ w ∈ (vx_atS RX1 ic cls xNm).filter (fun w => !goodWord w), w ∈ [Cond.castable cls cls, Cond.declares (Bundle.initS "java/lang/RuntimeException"), Cond.declares (Bundle.initS "java/lang/Exception"), Cond.declares (Bundle.initS Bundle.tN)]) (hgood : ∀ w ∈ Cond.classLink RX1 ik cls :: Cond.initialized cls :: vx_atS RX1 ic cls xNm, vx_ot w = true)
    (hcc : va_Nw (.castable cls cls) s) (hE : zE A ad s s.heap) (hP : va_P D vwCl ws H) (hS : va_S A s.heap H locs) (hsize : ls.size = c.maxLocals)
    (d0 : decode cc pc = .ok (.new ik, 3)) (d3 : decode cc (pc + 3) = .ok (.dup, 1)) (d4 : decode cc (pc + 4) = .ok (.ldc is, 2)) (d6 : decode cc (pc + 6) = .ok (.invokespecial ic, 3)) (d9 : decode cc (pc + 9) = .ok (.athrow, 1))
    (hout : ∀ x ∈ c.exceptionTable.toList, False) (hRf : 6 ≤ R.frames) (hRl : 90 ≤ R.locals) (hRc : 1 ≤ R.cells) (hRs : 6 ≤ R.slots) (hlocks : meth.locks = false) (hth : thr cls) {Qc : Array Value → State → Outcome → State → Prop} :
    W p l e R s m args below meth c H locs 0 0 (vx_MQ below Qc (zX thr D ws A) args s 1 6 A) (F0 m pc ls []) := by
  have hNm : ∀ n ∈ xNm, Bundle.fit n = true := by decide +kernel
  refine vx_throwS (names := xNm) (sa := ad is) hx hb hl hown hcls hNm hk hini (hE.2.2.2.2 (is, text) hstr) (vx_hat hat hbad (vx_c (va_Nw.use rfl hcc) (vx_c (va_Nw.use rfl hE.2.2.2.1.2.2.1) (vx_c (va_Nw.use rfl hE.2.2.2.1.2.2.2.1) (vx_c (va_Nw.use rfl hE.2.2.2.1.2.2.2.2.1) vx_n))))) hgood hE.2.1 hE.2.2.1 hS hsize d0 d3 d4 d6 d9 (fun x hx => (hout x hx).elim) (by show 2 + 3 < R.frames; omega) (by show 0 + (13 * (2 + 1) + 43) ≤ R.locals; omega) (by omega) (by omega) hlocks ?_ hS.2.2 (Nat.le_refl _) (Nat.le_refl _)
  intro t hal hsz hk
  refine ⟨(), trivial, ⟨hth, hP.kept (fun k x hx => hk x.1 ((hP k x hx).lt))⟩, Nat.le_trans hS.1 hsz, fun q h1 h2 => ?_⟩
  rw [hk q (Nat.lt_of_lt_of_le h1 hS.1)]
  exact hS.2.1 q h1 h2
theorem z_bad41 : ∀ w ∈ (vx_atS RX1 41 xIA xNm).filter (fun w => !goodWord w), w ∈ [Cond.castable xIA xIA, Cond.declares (Bundle.initS "java/lang/RuntimeException"), Cond.declares (Bundle.initS "java/lang/Exception"), Cond.declares (Bundle.initS Bundle.tN)] := by decide +kernel
theorem z_bad55 : ∀ w ∈ (vx_atS RX1 55 xIO xNm).filter (fun w => !goodWord w), w ∈ [Cond.castable xIO xIO, Cond.declares (Bundle.initS "java/lang/RuntimeException"), Cond.declares (Bundle.initS "java/lang/Exception"), Cond.declares (Bundle.initS Bundle.tN)] := by decide +kernel
theorem z_good41 : ∀ w ∈ Cond.classLink RX1 37 xIA :: Cond.initialized xIA :: vx_atS RX1 41 xIA xNm, vx_ot w = true := by decide +kernel
theorem z_good55 : ∀ w ∈ Cond.classLink RX1 51 xIO :: Cond.initialized xIO :: vx_atS RX1 55 xIO xNm, vx_ot w = true := by decide +kernel
end ZXR
section ZXE
variable {p : Program} {l : Launch} {e : Env} {R : Room} {s : State} {m : MethodId} {args : Array Value} {below : List Frame} {meth : Method} {c : Code} {H : Heap} {locs : List Loc}
variable {cc : ByteArray} {pc : Nat} {ls : Array Slot} {D : va_G} {A : Nat → Prop} {ws W0 : va_W} {S : Type} {W1 : S → va_W} {thr : String → Prop}
theorem zx_iret {post : Int32 → S → Prop} {v : Int32} (hx : p.tables.exec = Jvm.exec) (hb : c.code = cc) (hr : meth.sig.returnType = some .int) (hlocks : meth.locks = false) (hP : va_P D vwCl ws H) (hS : va_S A s.heap H locs) (u : S) (hw : W1 u = ws) (hp : post v u) (hdg : decode cc pc = .ok (.ireturn, 1)) : W p l e R s m args below meth c H locs 0 0 (vx_MQ below (va_Qi post (fun u t => va_P D vwCl (W1 u) t.heap) A) (zX thr D W0 A) args s 1 6 A) (F0 m pc ls [.int v]) := by
  refine vx_ret ?_
  refine W.widen (k := 1) (n := 6) (Nat.zero_le _) (Nat.zero_le _) ?_
  exact W.iret hx hb hr (fun t ht _ => ⟨⟨v, u, rfl, hp, by show va_P D vwCl (W1 u) t.heap; rw [hw, ht]; exact hP⟩, hS.F ht⟩) hS.2.2 hdg hlocks
theorem zx_zret {post : Int32 → S → Prop} {v : Int32} (hx : p.tables.exec = Jvm.exec) (hb : c.code = cc) (hr : meth.sig.returnType = some .boolean) (hlocks : meth.locks = false) (hv : narrow .boolean (.int v) = .int v) (hP : va_P D vwCl ws H) (hS : va_S A s.heap H locs) (u : S) (hw : W1 u = ws) (hp : post v u) (hdg : decode cc pc = .ok (.ireturn, 1)) : W p l e R s m args below meth c H locs 0 0 (vx_MQ below (va_Qi post (fun u t => va_P D vwCl (W1 u) t.heap) A) (zX thr D W0 A) args s 1 6 A) (F0 m pc ls [.int v]) := by
  refine vx_ret ?_
  refine W.widen (k := 1) (n := 6) (Nat.zero_le _) (Nat.zero_le _) ?_
  exact W.zret hx hb hr hv (fun t ht _ => ⟨⟨v, u, rfl, hp, by show va_P D vwCl (W1 u) t.heap; rw [hw, ht]; exact hP⟩, hS.F ht⟩) hS.2.2 hdg hlocks
theorem zx_dret {post : UInt64 → S → Prop} {v : UInt64} (hx : p.tables.exec = Jvm.exec) (hb : c.code = cc) (hr : meth.sig.returnType = some .double) (hlocks : meth.locks = false) (hP : va_P D vwCl ws H) (hS : va_S A s.heap H locs) (u : S) (hw : W1 u = ws) (hp : post v u) (hdg : decode cc pc = .ok (.dreturn, 1)) : W p l e R s m args below meth c H locs 0 0 (vx_MQ below (va_Qd post (fun u t => va_P D vwCl (W1 u) t.heap) A) (zX thr D W0 A) args s 1 6 A) (F0 m pc ls [.double v]) := by
  refine vx_ret ?_
  refine W.widen (k := 1) (n := 6) (Nat.zero_le _) (Nat.zero_le _) ?_
  exact W.dret hx hb hr (fun t ht _ => ⟨⟨v, u, rfl, hp, by show va_P D vwCl (W1 u) t.heap; rw [hw, ht]; exact hP⟩, hS.F ht⟩) hS.2.2 hdg hlocks
end ZXE
/-- a quotient of two small counts is a number -/
theorem z_quot : ∀ a, a < 33 → ∀ b, b < 26 → 4 ≤ b → vf_n64 (FP.ddiv (FP.i2d (nI a)) (FP.i2d (nI b))) := by
  unfold vf_n64
  decide +kernel
