/-! the script: a contract's start that also holds the ints xs of an array that lies apart from the world; calls of them; static calls that answer ints -/
def zPx (D : va_G) (T : zT) (W : va_W) (av : List Value) (b L : Nat) (xs : Nat → Int32) (sz : Nat) : Array Value → State → Prop := va_Pc av (fun U => U.heap.size = sz ∧ va_P D vwCl W U.heap ∧ va_K D vwCl T U ∧ va_D (fun _ => True) W ∧ zN U ∧ va_X b L xs U U.heap ∧ b < U.heap.size ∧ ¬ ∃ e, (b, e) ∈ W)
theorem zPx_blind {D : va_G} {T : zT} {W : va_W} {av : List Value} {b L sz : Nat} {xs : Nat → Int32} : FrameBlind (zPx D T W av b L xs sz) := fun a U g mk q => by
  obtain ⟨q0, q1, qP, qK, qD, qN, qX, ql, qw⟩ := q
  exact ⟨q0, q1, qP, va_K.moved (u := U) (U := U.calling g mk a) (Vm.Alike.refl U.vm) qK, qD, zN.same (u := U) (U := U.calling g mk a) rfl qN, va_X.moved (u := U) (U := U.calling g mk a) (Vm.Alike.refl U.vm) qX, ql, qw⟩
def sXI (l : Launch) (D : va_G) (T : zT) (b0 L0 : Nat) (xs0 : Nat → Int32) (y : MethodName) (ws : List Cond) (rm : Room) (C : gW) (av : List Value) {S : Type} (W1 : S → gW) (post : Int32 → S → Prop) (mc ms : Nat) : Prop := ∀ sz, Met l y ws rm (zPx D T C.flatten av b0 L0 xs0 sz) (va_Qi post (fun u t => va_P D vwCl (W1 u).flatten t.heap ∧ va_D (va_A C.flatten sz) (W1 u).flatten) (va_A C.flatten sz)) mc ms (va_A C.flatten sz)
def sXR (l : Launch) (D : va_G) (T : zT) (b0 L0 : Nat) (xs0 : Nat → Int32) (y : MethodName) (ws : List Cond) (rm : Room) (C : gW) (av : List Value) {S : Type} (W1 : S → gW) (ad : S → Nat) (post : S → Prop) (mc ms : Nat) : Prop := ∀ sz, Met l y ws rm (zPx D T C.flatten av b0 L0 xs0 sz) (va_Qr post (fun u ra t => ra = ad u ∧ va_P D vwCl (W1 u).flatten t.heap ∧ va_D (va_A C.flatten sz) (W1 u).flatten) (va_A C.flatten sz)) mc ms (va_A C.flatten sz)
section SXC
variable {p : Program} {l : Launch} {e : Env} {R : Room} {s : State} {m : MethodId} {args : Array Value} {below : List Frame} {meth : Method} {c : Code} {H : Heap} {locs : List Loc} {cells slots : Nat} {Q : State → Prop}
variable {cc : ByteArray} {pc : Nat} {ls : Array Slot} {rest : List Value} {D : va_G} {A : Nat → Prop} {segs C : gW} {H0 : Heap}
variable {Ts wsy : List Cond} {bytes : ByteArray} {nL maxL index n mc ms : Nat} {own : String} {y : MethodName} {ret : Option FieldType} {rm : Room} {As st0 : List Value} {T : zT} {S : Type} {W1 : S → gW} {b0 L0 : Nat} {xs0 : Nat → Int32}
theorem zx_pre {W0 : va_W} {av : List Value} (hK : va_K D vwCl T s) (hN : zN s) (hX : va_X b0 L0 xs0 s H0) (hbl : b0 < H0.size) (hbA : ¬ A b0) (hS : va_S A H0 H locs) (hbw : ¬ ∃ e, (b0, e) ∈ W0) (hP : va_P D vwCl W0 H) (hD : va_D A W0) : ∀ U : State, U.heap = H → s.WarmedH U.vm → zPx D T W0 av b0 L0 xs0 H.size av.toArray U := fun U hU hW => ⟨rfl, by rw [hU], by rw [hU]; exact hP, va_K.moved hW.alike hK, hD.weaken (fun _ _ _ _ => trivial), zN.warm hW hN, by rw [hU]; exact va_X.moved hW.alike (hX.kept (hS.2.1 b0 hbl hbA)), by rw [hU]; exact Nat.lt_of_lt_of_le hbl hS.1, hbw⟩
theorem s_sld (hexec : p.tables.exec = Jvm.exec) (hb : c.code = cc) (hX : va_X b0 L0 xs0 s H0) (hbl : b0 < H0.size) (hbA : ¬ A b0) (hS : va_S A H0 H locs) {i : Int32} (k : Nat) (hi : i = nI k) (hk : k < L0) (hL : L0 < 2 ^ 31) (hdg : decode cc pc = .ok (.iaload, 1))
    (kk : W p l e R s m args below meth c H locs cells slots Q (F0 m (pc + 1) ls (.int (xs0 k) :: rest))) : W p l e R s m args below meth c H locs cells slots Q (F0 m pc ls (.int i :: .ref b0 :: rest)) := by
  subst hi
  refine va_sld hexec hb hX hbl hbA hS (vp_in_nI hk hL) hdg ?_
  rw [nI_clamp (Nat.lt_trans hk hL)]
  exact kk
theorem s_callSi {post : Int32 → S → Prop} (F : CallFix p m c cc nL s args Ts own) (hM : sI l D T y wsy rm C As W1 post mc ms) (cw : CallB R s args own index y bytes maxL ret wsy rm mc ms n ∧ (Cond.static y).before args s = true) (hK : va_K D vwCl T s) (hN : zN s) (hP : va_P D vwCl segs.flatten H) (hD : va_D A segs.flatten) (hS : va_S A H0 H locs) (hA : ∀ q, H0.size ≤ q → A q)
    (is js : List Nat) (n0 : Nat) (hn0 : segs.length = n0) (hC : is.map (fun i => segs[i]?) = C.map some) (hp : (is ++ js).isPerm (List.range n0) = true) (fin : S → gW) (fs gs : List Nat) (n1 : Nat) (hn1 : ∀ u, (fin u).length = n1) (hf : ∀ u, fs.map (fun i => (fin u)[i]?) = (W1 u).map some) (hg : ∀ u, gs.filterMap (fun i => (fin u)[i]?) = js.filterMap (fun i => segs[i]?)) (hq : (fs ++ gs).isPerm (List.range n1) = true)
    (hn : As.length = n) (hl : ls.size = nL) (hst : st0 = As.reverse ++ rest) (hW : (rest.map fun v => v.category).sum ≤ 8) (hdg : decode cc pc = .ok (.invokestatic index, 3)) (hcs : cells + mc ≤ R.cells ∧ slots + ms ≤ R.slots)
    (kk : ∀ (r : Int32) (u : S) (H1 : Heap) (locs1 : List Loc), post r u → va_P D vwCl (fin u).flatten H1 → va_D A (fin u).flatten → va_S A H0 H1 locs1 → W p l e R s m args below meth c H1 locs1 (cells + mc) (slots + ms) Q (F0 m (pc + 3) ls (.int r :: rest))) : W p l e R s m args below meth c H locs cells slots Q (F0 m pc ls st0) := by
  obtain ⟨hPC, hDC⟩ := sg_take hP hD is js n0 hn0 hC hp
  have hFc := sg_free hDC hS hA
  exact va_calli (va_runS F (hM H.size) cw ⟨zPc_blind, z_pre hK hN hPC hDC⟩ rfl hn hl hst (lv_room hW) hdg hcs) hS (fun q _ h => hFc q h) hFc (fun r u t H1 locs1 ht _ hp1 hB _ hk1 hS1 => by
    obtain ⟨h1, h2⟩ := sg_frame (fin := fin u) hP hD is js n0 hn0 hC hp hk1 hFc (by rw [← ht]; exact hB.1) hB.2 fs gs n1 (hn1 u) (hf u) (hg u) hq
    exact kk r u H1 locs1 hp1 h1 h2 hS1)
theorem sx_callSi {post : Int32 → S → Prop} (F : CallFix p m c cc nL s args Ts own) (hM : sXI l D T b0 L0 xs0 y wsy rm C As W1 post mc ms) (cw : CallB R s args own index y bytes maxL ret wsy rm mc ms n ∧ (Cond.static y).before args s = true) (hK : va_K D vwCl T s) (hN : zN s) (hX : va_X b0 L0 xs0 s H0) (hbl : b0 < H0.size) (hbA : ¬ A b0) (hP : va_P D vwCl segs.flatten H) (hD : va_D A segs.flatten) (hS : va_S A H0 H locs) (hA : ∀ q, H0.size ≤ q → A q)
    (is js : List Nat) (n0 : Nat) (hn0 : segs.length = n0) (hC : is.map (fun i => segs[i]?) = C.map some) (hp : (is ++ js).isPerm (List.range n0) = true) (fin : S → gW) (fs gs : List Nat) (n1 : Nat) (hn1 : ∀ u, (fin u).length = n1) (hf : ∀ u, fs.map (fun i => (fin u)[i]?) = (W1 u).map some) (hg : ∀ u, gs.filterMap (fun i => (fin u)[i]?) = js.filterMap (fun i => segs[i]?)) (hq : (fs ++ gs).isPerm (List.range n1) = true)
    (hn : As.length = n) (hl : ls.size = nL) (hst : st0 = As.reverse ++ rest) (hW : (rest.map fun v => v.category).sum ≤ 8) (hdg : decode cc pc = .ok (.invokestatic index, 3)) (hcs : cells + mc ≤ R.cells ∧ slots + ms ≤ R.slots)
    (kk : ∀ (r : Int32) (u : S) (H1 : Heap) (locs1 : List Loc), post r u → va_P D vwCl (fin u).flatten H1 → va_D A (fin u).flatten → va_S A H0 H1 locs1 → W p l e R s m args below meth c H1 locs1 (cells + mc) (slots + ms) Q (F0 m (pc + 3) ls (.int r :: rest))) : W p l e R s m args below meth c H locs cells slots Q (F0 m pc ls st0) := by
  obtain ⟨hPC, hDC⟩ := sg_take hP hD is js n0 hn0 hC hp
  have hFc := sg_free hDC hS hA
  have hbw : ¬ ∃ e, (b0, e) ∈ C.flatten := fun ⟨e, he⟩ => hbA ((sg_memD.mp hDC).2 (b0, e) he)
  exact va_calli (va_runS F (hM H.size) cw ⟨zPx_blind, zx_pre hK hN hX hbl hbA hS hbw hPC hDC⟩ rfl hn hl hst (lv_room hW) hdg hcs) hS (fun q _ h => hFc q h) hFc (fun r u t H1 locs1 ht _ hp1 hB _ hk1 hS1 => by
    obtain ⟨h1, h2⟩ := sg_frame (fin := fin u) hP hD is js n0 hn0 hC hp hk1 hFc (by rw [← ht]; exact hB.1) hB.2 fs gs n1 (hn1 u) (hf u) (hg u) hq
    exact kk r u H1 locs1 hp1 h1 h2 hS1)
theorem sx_callSr {ad : S → Nat} {post : S → Prop} (F : CallFix p m c cc nL s args Ts own) (hM : sXR l D T b0 L0 xs0 y wsy rm C As W1 ad post mc ms) (cw : CallB R s args own index y bytes maxL ret wsy rm mc ms n ∧ (Cond.static y).before args s = true) (hK : va_K D vwCl T s) (hN : zN s) (hX : va_X b0 L0 xs0 s H0) (hbl : b0 < H0.size) (hbA : ¬ A b0) (hP : va_P D vwCl segs.flatten H) (hD : va_D A segs.flatten) (hS : va_S A H0 H locs) (hA : ∀ q, H0.size ≤ q → A q)
    (is js : List Nat) (n0 : Nat) (hn0 : segs.length = n0) (hC : is.map (fun i => segs[i]?) = C.map some) (hp : (is ++ js).isPerm (List.range n0) = true) (fin : S → gW) (fs gs : List Nat) (n1 : Nat) (hn1 : ∀ u, (fin u).length = n1) (hf : ∀ u, fs.map (fun i => (fin u)[i]?) = (W1 u).map some) (hg : ∀ u, gs.filterMap (fun i => (fin u)[i]?) = js.filterMap (fun i => segs[i]?)) (hq : (fs ++ gs).isPerm (List.range n1) = true)
    (hn : As.length = n) (hl : ls.size = nL) (hst : st0 = As.reverse ++ rest) (hW : (rest.map fun v => v.category).sum ≤ 8) (hdg : decode cc pc = .ok (.invokestatic index, 3)) (hcs : cells + mc ≤ R.cells ∧ slots + ms ≤ R.slots)
    (kk : ∀ (u : S) (H1 : Heap) (locs1 : List Loc), post u → va_P D vwCl (fin u).flatten H1 → va_D A (fin u).flatten → va_S A H0 H1 locs1 → W p l e R s m args below meth c H1 locs1 (cells + mc) (slots + ms) Q (F0 m (pc + 3) ls (.ref (ad u) :: rest))) : W p l e R s m args below meth c H locs cells slots Q (F0 m pc ls st0) := by
  obtain ⟨hPC, hDC⟩ := sg_take hP hD is js n0 hn0 hC hp
  have hFc := sg_free hDC hS hA
  have hbw : ¬ ∃ e, (b0, e) ∈ C.flatten := fun ⟨e, he⟩ => hbA ((sg_memD.mp hDC).2 (b0, e) he)
  exact va_callr (va_runS F (hM H.size) cw ⟨zPx_blind, zx_pre hK hN hX hbl hbA hS hbw hPC hDC⟩ rfl hn hl hst (lv_room hW) hdg hcs) hS (fun q _ h => hFc q h) hFc (fun u ra t H1 locs1 ht _ hp1 hB _ hk1 hS1 => by
    obtain ⟨e1, hB⟩ := hB
    subst e1
    obtain ⟨h1, h2⟩ := sg_frame (fin := fin u) hP hD is js n0 hn0 hC hp hk1 hFc (by rw [← ht]; exact hB.1) hB.2 fs gs n1 (hn1 u) (hf u) (hg u) hq
    exact kk u H1 locs1 hp1 h1 h2 hS1)
end SXC
/-- what the law takes of a number: the rest behind its sign's bit is cleared -/
def blw (v : Int32) (n : Nat) : Nat := v.toBitVec.toNat % 2 ^ 31 % n
theorem gZ_U {w x y i j : Nat} {b : Bool} {T : Nat → Bool} (hx : x < w) (hi : i < w) : gU (gZ w T) x y (bz b) i j = gZ w (fun d => if d = w * y + x then b else T d) i j := by
  show (if i = x then upd (fun j => bz (T (w * j + i))) y (bz b) else fun j => bz (T (w * j + i))) j = bz (if w * j + i = w * y + x then b else T (w * j + i))
  by_cases q : i = x
  · subst q
    rw [if_pos rfl]
    show (if j = y then bz b else bz (T (w * j + i))) = _
    by_cases q2 : j = y
    · subst q2; rw [if_pos rfl, if_pos rfl]
    · rw [if_neg q2, if_neg (fun z => q2 (wy_inj hx hi z).2)]
  · rw [if_neg q, if_neg (fun z => q (wy_inj hx hi z).1)]
theorem gM_U {w x y i j : Nat} {b : Nat} {T : Nat → Nat} (hx : x < w) (hi : i < w) : gU (gM w T) x y (nI b) i j = gM w (fun d => if d = w * y + x then b else T d) i j := by
  show (if i = x then upd (fun j => nI (T (w * j + i))) y (nI b) else fun j => nI (T (w * j + i))) j = nI (if w * j + i = w * y + x then b else T (w * j + i))
  by_cases q : i = x
  · subst q
    rw [if_pos rfl]
    show (if j = y then nI b else nI (T (w * j + i))) = _
    by_cases q2 : j = y
    · subst q2; rw [if_pos rfl, if_pos rfl]
    · rw [if_neg q2, if_neg (fun z => q2 (wy_inj hx hi z).2)]
  · rw [if_neg q, if_neg (fun z => q (wy_inj hx hi z).1)]
