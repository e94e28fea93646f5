section
-- ===== PART A: goes FIRST, ahead of the names: the tables' words, and 'selects' of the private methods out of them =====
/-- a private method of a class that the tables say can be made, by its rows of tables_1 -/
def lw_okq (q : MethodName × Nat) : Prop := (q.1.cls ≠ "java/lang/invoke/MethodHandle" ∧ q.1.cls ≠ "java/lang/invoke/VarHandle") ∧ Cond.instantiable q.1.cls q.2 ∈ tables_1 ∧ Cond.privateMethod q.1 ∈ tables_1 ∧ Cond.instanceMethod q.1 ∈ tables_1
theorem lw_p0 : lw_okq (⟨"ColourTide$Tide", "addGains", "(I)V"⟩, 6) := ⟨⟨by decide +kernel, by decide +kernel⟩, List.mem_of_getElem? (i := 21) (by decide +kernel), List.mem_of_getElem? (i := 131) (by decide +kernel), List.mem_of_getElem? (i := 132) (by decide +kernel)⟩
theorem lw_p1 : lw_okq (⟨"ColourTide$Tide", "takeGains", "(I)V"⟩, 6) := ⟨⟨by decide +kernel, by decide +kernel⟩, List.mem_of_getElem? (i := 21) (by decide +kernel), List.mem_of_getElem? (i := 159) (by decide +kernel), List.mem_of_getElem? (i := 160) (by decide +kernel)⟩
theorem lw_p2 : lw_okq (⟨"ColourTide", "digestOfMap", "()J"⟩, 5) := ⟨⟨by decide +kernel, by decide +kernel⟩, List.mem_of_getElem? (i := 13) (by decide +kernel), List.mem_of_getElem? (i := 167) (by decide +kernel), List.mem_of_getElem? (i := 168) (by decide +kernel)⟩
theorem lw_p3 : lw_okq (⟨"ColourTide", "mixCell", "(JI)J"⟩, 5) := ⟨⟨by decide +kernel, by decide +kernel⟩, List.mem_of_getElem? (i := 13) (by decide +kernel), List.mem_of_getElem? (i := 199) (by decide +kernel), List.mem_of_getElem? (i := 200) (by decide +kernel)⟩
theorem lw_p4 : lw_okq (⟨"java/lang/Throwable", "fillInStackTrace", "(I)Ljava/lang/Throwable;"⟩, 6) := ⟨⟨by decide +kernel, by decide +kernel⟩, List.mem_of_getElem? (i := 267) (by decide +kernel), List.mem_of_getElem? (i := 265) (by decide +kernel), List.mem_of_getElem? (i := 266) (by decide +kernel)⟩
theorem lw_p5 : lw_okq (⟨"ColourTide", "isOnMap", "(II)Z"⟩, 5) := ⟨⟨by decide +kernel, by decide +kernel⟩, List.mem_of_getElem? (i := 13) (by decide +kernel), List.mem_of_getElem? (i := 305) (by decide +kernel), List.mem_of_getElem? (i := 306) (by decide +kernel)⟩
theorem lw_p6 : lw_okq (⟨"ColourTide", "countAfter", "(III)I"⟩, 5) := ⟨⟨by decide +kernel, by decide +kernel⟩, List.mem_of_getElem? (i := 13) (by decide +kernel), List.mem_of_getElem? (i := 425) (by decide +kernel), List.mem_of_getElem? (i := 426) (by decide +kernel)⟩
theorem lw_p7 : lw_okq (⟨"ColourTide", "winsWith", "(II)Z"⟩, 5) := ⟨⟨by decide +kernel, by decide +kernel⟩, List.mem_of_getElem? (i := 13) (by decide +kernel), List.mem_of_getElem? (i := 436) (by decide +kernel), List.mem_of_getElem? (i := 437) (by decide +kernel)⟩
theorem lw_p8 : lw_okq (⟨"ColourTide", "winsWithOneSeed", "(I)Z"⟩, 5) := ⟨⟨by decide +kernel, by decide +kernel⟩, List.mem_of_getElem? (i := 13) (by decide +kernel), List.mem_of_getElem? (i := 447) (by decide +kernel), List.mem_of_getElem? (i := 448) (by decide +kernel)⟩
theorem lw_p9 : lw_okq (⟨"ColourTide", "winsWithTwoSeeds", "(I)Z"⟩, 5) := ⟨⟨by decide +kernel, by decide +kernel⟩, List.mem_of_getElem? (i := 13) (by decide +kernel), List.mem_of_getElem? (i := 451) (by decide +kernel), List.mem_of_getElem? (i := 452) (by decide +kernel)⟩
theorem lw_p10 : lw_okq (⟨"ColourTideModel", "take", "(II)V"⟩, 14) := ⟨⟨by decide +kernel, by decide +kernel⟩, List.mem_of_getElem? (i := 470) (by decide +kernel), List.mem_of_getElem? (i := 476) (by decide +kernel), List.mem_of_getElem? (i := 477) (by decide +kernel)⟩
theorem lw_p11 : lw_okq (⟨"ColourTideModel", "fail", "(I)I"⟩, 14) := ⟨⟨by decide +kernel, by decide +kernel⟩, List.mem_of_getElem? (i := 470) (by decide +kernel), List.mem_of_getElem? (i := 535) (by decide +kernel), List.mem_of_getElem? (i := 536) (by decide +kernel)⟩
theorem lw_p12 : lw_okq (⟨"ColourTideModel", "cells", "()I"⟩, 14) := ⟨⟨by decide +kernel, by decide +kernel⟩, List.mem_of_getElem? (i := 470) (by decide +kernel), List.mem_of_getElem? (i := 539) (by decide +kernel), List.mem_of_getElem? (i := 540) (by decide +kernel)⟩
theorem lw_p13 : lw_okq (⟨"ColourTideModel", "isCell", "(II)Z"⟩, 14) := ⟨⟨by decide +kernel, by decide +kernel⟩, List.mem_of_getElem? (i := 470) (by decide +kernel), List.mem_of_getElem? (i := 547) (by decide +kernel), List.mem_of_getElem? (i := 548) (by decide +kernel)⟩
theorem lw_p14 : lw_okq (⟨"ColourTideModel", "wave", "()I"⟩, 14) := ⟨⟨by decide +kernel, by decide +kernel⟩, List.mem_of_getElem? (i := 470) (by decide +kernel), List.mem_of_getElem? (i := 566) (by decide +kernel), List.mem_of_getElem? (i := 567) (by decide +kernel)⟩
theorem lw_p15 : lw_okq (⟨"ColourTideModel", "nextOf", "(I)I"⟩, 14) := ⟨⟨by decide +kernel, by decide +kernel⟩, List.mem_of_getElem? (i := 470) (by decide +kernel), List.mem_of_getElem? (i := 570) (by decide +kernel), List.mem_of_getElem? (i := 571) (by decide +kernel)⟩
def lw_privs_1 : List (MethodName × Nat) := [(⟨"ColourTide$Tide", "addGains", "(I)V"⟩, 6), (⟨"ColourTide$Tide", "takeGains", "(I)V"⟩, 6), (⟨"ColourTide", "digestOfMap", "()J"⟩, 5), (⟨"ColourTide", "mixCell", "(JI)J"⟩, 5), (⟨"java/lang/Throwable", "fillInStackTrace", "(I)Ljava/lang/Throwable;"⟩, 6), (⟨"ColourTide", "isOnMap", "(II)Z"⟩, 5), (⟨"ColourTide", "countAfter", "(III)I"⟩, 5), (⟨"ColourTide", "winsWith", "(II)Z"⟩, 5), (⟨"ColourTide", "winsWithOneSeed", "(I)Z"⟩, 5), (⟨"ColourTide", "winsWithTwoSeeds", "(I)Z"⟩, 5), (⟨"ColourTideModel", "take", "(II)V"⟩, 14), (⟨"ColourTideModel", "fail", "(I)I"⟩, 14), (⟨"ColourTideModel", "cells", "()I"⟩, 14), (⟨"ColourTideModel", "isCell", "(II)Z"⟩, 14), (⟨"ColourTideModel", "wave", "()I"⟩, 14), (⟨"ColourTideModel", "nextOf", "(I)I"⟩, 14)]
theorem lw_r1 : ∀ q ∈ lw_privs_1, lw_okq q := List.forall_mem_cons.mpr ⟨lw_p0, List.forall_mem_cons.mpr ⟨lw_p1, List.forall_mem_cons.mpr ⟨lw_p2, List.forall_mem_cons.mpr ⟨lw_p3, List.forall_mem_cons.mpr ⟨lw_p4, List.forall_mem_cons.mpr ⟨lw_p5, List.forall_mem_cons.mpr ⟨lw_p6, List.forall_mem_cons.mpr ⟨lw_p7, List.forall_mem_cons.mpr ⟨lw_p8, List.forall_mem_cons.mpr ⟨lw_p9, List.forall_mem_cons.mpr ⟨lw_p10, List.forall_mem_cons.mpr ⟨lw_p11, List.forall_mem_cons.mpr ⟨lw_p12, List.forall_mem_cons.mpr ⟨lw_p13, List.forall_mem_cons.mpr ⟨lw_p14, List.forall_mem_cons.mpr ⟨lw_p15, fun _ h => absurd h List.not_mem_nil⟩⟩⟩⟩⟩⟩⟩⟩⟩⟩⟩⟩⟩⟩⟩⟩
theorem lw_p16 : lw_okq (⟨"ColourTideModel", "beside", "(II)I"⟩, 14) := ⟨⟨by decide +kernel, by decide +kernel⟩, List.mem_of_getElem? (i := 470) (by decide +kernel), List.mem_of_getElem? (i := 574) (by decide +kernel), List.mem_of_getElem? (i := 575) (by decide +kernel)⟩
theorem lw_p17 : lw_okq (⟨"ColourTideModel", "hang", "()V"⟩, 14) := ⟨⟨by decide +kernel, by decide +kernel⟩, List.mem_of_getElem? (i := 470) (by decide +kernel), List.mem_of_getElem? (i := 601) (by decide +kernel), List.mem_of_getElem? (i := 602) (by decide +kernel)⟩
theorem lw_p18 : lw_okq (⟨"ColourTideModel", "spread", "(I)V"⟩, 14) := ⟨⟨by decide +kernel, by decide +kernel⟩, List.mem_of_getElem? (i := 470) (by decide +kernel), List.mem_of_getElem? (i := 605) (by decide +kernel), List.mem_of_getElem? (i := 606) (by decide +kernel)⟩
theorem lw_p19 : lw_okq (⟨"ColourTideModel", "sizeOf", "(I)I"⟩, 14) := ⟨⟨by decide +kernel, by decide +kernel⟩, List.mem_of_getElem? (i := 470) (by decide +kernel), List.mem_of_getElem? (i := 609) (by decide +kernel), List.mem_of_getElem? (i := 610) (by decide +kernel)⟩
theorem lw_p20 : lw_okq (⟨"ColourTideModel", "stubbornOnes", "()I"⟩, 14) := ⟨⟨by decide +kernel, by decide +kernel⟩, List.mem_of_getElem? (i := 470) (by decide +kernel), List.mem_of_getElem? (i := 633) (by decide +kernel), List.mem_of_getElem? (i := 634) (by decide +kernel)⟩
theorem lw_p21 : lw_okq (⟨"ColourTideModel", "cellsWith", "(I)I"⟩, 14) := ⟨⟨by decide +kernel, by decide +kernel⟩, List.mem_of_getElem? (i := 470) (by decide +kernel), List.mem_of_getElem? (i := 641) (by decide +kernel), List.mem_of_getElem? (i := 642) (by decide +kernel)⟩
theorem lw_p22 : lw_okq (⟨"ColourTideModel", "regions", "(IZ)I"⟩, 14) := ⟨⟨by decide +kernel, by decide +kernel⟩, List.mem_of_getElem? (i := 470) (by decide +kernel), List.mem_of_getElem? (i := 652) (by decide +kernel), List.mem_of_getElem? (i := 653) (by decide +kernel)⟩
theorem lw_p23 : lw_okq (⟨"ColourTideModel", "between", "()I"⟩, 14) := ⟨⟨by decide +kernel, by decide +kernel⟩, List.mem_of_getElem? (i := 470) (by decide +kernel), List.mem_of_getElem? (i := 665) (by decide +kernel), List.mem_of_getElem? (i := 666) (by decide +kernel)⟩
theorem lw_p24 : lw_okq (⟨"ColourTideModel", "first", "()I"⟩, 14) := ⟨⟨by decide +kernel, by decide +kernel⟩, List.mem_of_getElem? (i := 470) (by decide +kernel), List.mem_of_getElem? (i := 673) (by decide +kernel), List.mem_of_getElem? (i := 674) (by decide +kernel)⟩
theorem lw_p25 : lw_okq (⟨"ColourTideModel", "still", "()Z"⟩, 14) := ⟨⟨by decide +kernel, by decide +kernel⟩, List.mem_of_getElem? (i := 470) (by decide +kernel), List.mem_of_getElem? (i := 681) (by decide +kernel), List.mem_of_getElem? (i := 682) (by decide +kernel)⟩
theorem lw_p26 : lw_okq (⟨"ColourTideModel", "all", "()I"⟩, 14) := ⟨⟨by decide +kernel, by decide +kernel⟩, List.mem_of_getElem? (i := 470) (by decide +kernel), List.mem_of_getElem? (i := 689) (by decide +kernel), List.mem_of_getElem? (i := 690) (by decide +kernel)⟩
theorem lw_p27 : lw_okq (⟨"ColourTideModel", "keep", "()V"⟩, 14) := ⟨⟨by decide +kernel, by decide +kernel⟩, List.mem_of_getElem? (i := 470) (by decide +kernel), List.mem_of_getElem? (i := 697) (by decide +kernel), List.mem_of_getElem? (i := 698) (by decide +kernel)⟩
theorem lw_p28 : lw_okq (⟨"ColourTideModel", "bringBack", "()V"⟩, 14) := ⟨⟨by decide +kernel, by decide +kernel⟩, List.mem_of_getElem? (i := 470) (by decide +kernel), List.mem_of_getElem? (i := 701) (by decide +kernel), List.mem_of_getElem? (i := 702) (by decide +kernel)⟩
theorem lw_p29 : lw_okq (⟨"ColourTideModel", "after", "(II)I"⟩, 14) := ⟨⟨by decide +kernel, by decide +kernel⟩, List.mem_of_getElem? (i := 470) (by decide +kernel), List.mem_of_getElem? (i := 709) (by decide +kernel), List.mem_of_getElem? (i := 710) (by decide +kernel)⟩
theorem lw_p30 : lw_okq (⟨"ColourTideModel", "winsWith", "(III)Z"⟩, 14) := ⟨⟨by decide +kernel, by decide +kernel⟩, List.mem_of_getElem? (i := 470) (by decide +kernel), List.mem_of_getElem? (i := 717) (by decide +kernel), List.mem_of_getElem? (i := 718) (by decide +kernel)⟩
theorem lw_p31 : lw_okq (⟨"ColourTideModel", "winsNow", "(I)Z"⟩, 14) := ⟨⟨by decide +kernel, by decide +kernel⟩, List.mem_of_getElem? (i := 470) (by decide +kernel), List.mem_of_getElem? (i := 721) (by decide +kernel), List.mem_of_getElem? (i := 722) (by decide +kernel)⟩
def lw_privs_2 : List (MethodName × Nat) := [(⟨"ColourTideModel", "beside", "(II)I"⟩, 14), (⟨"ColourTideModel", "hang", "()V"⟩, 14), (⟨"ColourTideModel", "spread", "(I)V"⟩, 14), (⟨"ColourTideModel", "sizeOf", "(I)I"⟩, 14), (⟨"ColourTideModel", "stubbornOnes", "()I"⟩, 14), (⟨"ColourTideModel", "cellsWith", "(I)I"⟩, 14), (⟨"ColourTideModel", "regions", "(IZ)I"⟩, 14), (⟨"ColourTideModel", "between", "()I"⟩, 14), (⟨"ColourTideModel", "first", "()I"⟩, 14), (⟨"ColourTideModel", "still", "()Z"⟩, 14), (⟨"ColourTideModel", "all", "()I"⟩, 14), (⟨"ColourTideModel", "keep", "()V"⟩, 14), (⟨"ColourTideModel", "bringBack", "()V"⟩, 14), (⟨"ColourTideModel", "after", "(II)I"⟩, 14), (⟨"ColourTideModel", "winsWith", "(III)Z"⟩, 14), (⟨"ColourTideModel", "winsNow", "(I)Z"⟩, 14)]
theorem lw_r2 : ∀ q ∈ lw_privs_2, lw_okq q := List.forall_mem_cons.mpr ⟨lw_p16, List.forall_mem_cons.mpr ⟨lw_p17, List.forall_mem_cons.mpr ⟨lw_p18, List.forall_mem_cons.mpr ⟨lw_p19, List.forall_mem_cons.mpr ⟨lw_p20, List.forall_mem_cons.mpr ⟨lw_p21, List.forall_mem_cons.mpr ⟨lw_p22, List.forall_mem_cons.mpr ⟨lw_p23, List.forall_mem_cons.mpr ⟨lw_p24, List.forall_mem_cons.mpr ⟨lw_p25, List.forall_mem_cons.mpr ⟨lw_p26, List.forall_mem_cons.mpr ⟨lw_p27, List.forall_mem_cons.mpr ⟨lw_p28, List.forall_mem_cons.mpr ⟨lw_p29, List.forall_mem_cons.mpr ⟨lw_p30, List.forall_mem_cons.mpr ⟨lw_p31, fun _ h => absurd h List.not_mem_nil⟩⟩⟩⟩⟩⟩⟩⟩⟩⟩⟩⟩⟩⟩⟩⟩
def lw_privs : List (MethodName × Nat) := lw_privs_1 ++ (lw_privs_2)
def lw_tbl : List Cond := k2_sels lw_privs ++ tables_1
theorem lw_privs_ok : ∀ q ∈ lw_privs, lw_okq q := by
  show ∀ q ∈ lw_privs_1 ++ (lw_privs_2), lw_okq q
  exact List.forall_mem_append.mpr ⟨lw_r1, lw_r2⟩
/-- the streams that the claim lets the run draw from -/
abbrev lw_cs : List Choice := [Jvm.Choice.named "NaN.bits"]
theorem lw_bits : nanBits ∈ lw_cs := by first | decide | exact List.mem_cons_self | simp [lw_cs, nanBits]
-- ===== end of PART A; then your names; then what follows =====
end
section
/-! ===== BEGIN words of one list among another's, by their places ===== -/
theorem goodIn_r {big : List Cond} (ws : List Cond) (ps : List Nat) (hp : ws = ps.filterMap (fun i => big[i]?)) (h : ws.all goodWord = true) : GoodIn big ws := by
  intro w hw
  have h1 := List.all_eq_true.mp h w hw
  rw [hp] at hw
  obtain ⟨i, -, hi⟩ := List.mem_filterMap.mp hw
  have hm : w ∈ big := by first | exact List.mem_of_getElem? hi | exact List.getElem?_mem hi
  exact ⟨hm, good_of_word h1⟩
theorem goodIn_app {big a b : List Cond} (ha : GoodIn big a) (hb : GoodIn big b) : GoodIn big (a ++ b) := fun w h => (List.mem_append.mp h).elim (ha w) (hb w)
theorem goodIn_ca {big a b : List Cond} {c : Cond} (ha : GoodIn big (c :: a)) (hb : GoodIn big b) : GoodIn big (c :: (a ++ b)) := fun w h => (List.mem_cons.mp h).elim (fun e => ha w (List.mem_cons.mpr (Or.inl e))) (fun h => (List.mem_append.mp h).elim (fun h => ha w (List.mem_cons.mpr (Or.inr h))) (hb w))
theorem goodIn_sub {big ws : List Cond} (hm : ∀ w ∈ ws, w ∈ big) (h : ws.all goodWord = true) : GoodIn big ws := fun w hw => ⟨hm w hw, good_of_word (List.all_eq_true.mp h w hw)⟩
/-! ===== END ===== -/

/-! ===== BEGIN exceptions that leave a method, and their catching by the caller (launches without stack traces) ===== -/
section VXA
/-! The laws vx_back, vx_callV, vx_callS, vx_callSW, vx_throw0, vx_throwS follow proofs of the library, with one case more: JvmDerived/Free/Laws.lean (Back.of_free), Shelf42/LK1.lean (callV, callS), Shelf/KitTraced.lean (throwNew0V, throwNewS). -/
/-- where a method has thrown q: the class by its name, the cell, what was written, the world -/
def vx_T (XC : String → State → State → Prop) (st : State) (q : Addr) (t : State) (mc ms : Nat) (free : Addr → Prop) : Prop :=
  ∃ (E : String) (ce : Cell) (L : List Loc), XC E st t ∧ t.heap[q]? = some ce ∧ ce.vm = .none ∧ st.vm.findClass E = some ce.cls ∧ st.WarmedH t.vm ∧ st.sameButNew ({ t with vm := st.vm } : State) L mc ms ∧ ∀ z ∈ L, free z.base
def vx_Q (Qc : Array Value → State → Outcome → State → Prop) (XC : String → State → State → Prop) (mc ms : Nat) (free : Addr → Prop) : Array Value → State → Outcome → State → Prop := fun a st o t =>
  (Qc a st o t ∧ ∃ L, FrameEnd st o t L mc ms ∧ ∀ q ∈ L, free q.base) ∨ ∃ q, o = .threw q ∧ vx_T XC st q t mc ms free
/-- a callee that returns or throws -/
def vx_Met (l : Launch) (y : MethodName) (ws : List Cond) (rm : Room) (Pc : Array Value → State → Prop) (Qc : Array Value → State → Outcome → State → Prop) (XC : String → State → State → Prop) (mc ms : Nat) (free : Addr → Prop) : Prop :=
  MetFree l y (headSpec ws rm) Pc (fun _ _ _ _ _ => True) (vx_Q Qc XC mc ms free)
def vx_Post (XC : String → State → State → Prop) (mc ms : Nat) (free : Addr → Prop) : Pt → Array Value → Addr → Pt → Prop := fun A a q B =>
  ∃ (g : JFrame) (mk : MethodId) (t : State) (L : List Loc) (E : String) (ce : Cell), B.U.heap = t.heap ∧ B.U.vm = t.vm ∧ XC E (A.U.calling g mk a) t ∧ t.heap[q]? = some ce ∧ ce.vm = .none ∧ A.U.vm.findClass E = some ce.cls ∧ B.locs = A.locs ++ L ∧ (∀ z ∈ L, free z.base) ∧ B.cells = A.cells + mc ∧ B.slots = A.slots + ms
def vx_Back (l : Launch) (R : Room) (p : Program) (e : Env) (below : List Frame) (s : State) (sargs : Array Value) (y : MethodName) (len W9 : Nat)
    (Pre : Pt → Array Value → Prop) (Post : Pt → Array Value → Option Value → Pt → Prop) (PostX : Pt → Array Value → Addr → Pt → Prop) : Prop :=
  ∀ (m : MethodId) (meth : Method) (c : Code) (A : Pt) (g : JFrame) (ig : Instr) (mk : MethodId) (a : Array Value),
    Stand p l e R s m sargs below meth c A.U A.locs A.cells A.slots → g.method = m → g.locals.size = c.maxLocals → decode c.code g.pc = .ok (ig, len) →
    2 * g.monitorRoom + (g.stack.map fun v => v.category).sum ≤ W9 → A.U.methodNamed? y = some mk → Pre A a →
    (∃ (v : Option Value) (B : Pt), Stand p l e R s m sargs below meth c B.U B.locs B.cells B.slots ∧ Post A a v B ∧
      Steps p.tables e below (doInvoke e (A.U.setTop g) [] mk a).1 (B.U.setTop { g with pc := g.pc + len, stack := v.toList ++ g.stack })) ∨
    (∃ (q : Addr) (B : Pt), Stand p l e R s m sargs below meth c B.U B.locs B.cells B.slots ∧ PostX A a q B ∧
      Steps p.tables e below (doInvoke e (A.U.setTop g) [] mk a).1 ((B.U.setTop g).pushFrame (.throwing q)))
section Payer
variable {l : Launch} {R : Room} {p : Program} {e : Env} {below : List Frame} {s : State} {sargs : Array Value} {y : MethodName} {len W9 : Nat}
theorem vx_back {ws : List Cond} {rm : Room} {Pc : Array Value → State → Prop} {Qc : Array Value → State → Outcome → State → Prop} {XC : String → State → State → Prop} {mc ms : Nat} {free : Addr → Prop} {bytes : ByteArray} {maxL : Nat} {ret : Option FieldType}
    (hM : vx_Met l y ws rm Pc Qc XC mc ms free) (hblind : FrameBlind Pc) (hrc : rm.cells = mc) (hrs : rm.slots = ms)
    (hframes : rm.frames + 1 ≤ R.frames) (hlocals : W9 + (maxL + 11) + rm.locals ≤ R.locals)
    (hws : ∀ w ∈ ws, ∀ a' U, s.WarmedH U.vm → w.before a' U = true) (hcode : Cond.code y bytes maxL ret ∈ ws) (hinit : ∀ a' U, s.WarmedH U.vm → (Cond.initialized y.cls).before a' U = true) :
    vx_Back l R p e below s sargs y len W9 (PreOf R mc ms Pc) (PostOf Qc mc ms free) (vx_Post XC mc ms free) := by
  intro m meth c A g ig mk a X hg hsize hdg hW hn hp
  have h1 : (headSpec ws rm).pre.before a A.U = true := atoms_intro fun w hw => hws w hw _ _ X.warmed
  have h2 : (Cond.code y bytes maxL ret).before a A.U = true := hws _ hcode _ _ X.warmed
  have h3 : (Cond.initialized y.cls).before a A.U = true := hinit _ _ X.warmed
  have h4 : A.cells + (headSpec ws rm).room.cells ≤ R.cells := by rw [show (headSpec ws rm).room.cells = mc from hrc]; exact hp.1
  have h5 : A.slots + (headSpec ws rm).room.slots ≤ R.slots := by rw [show (headSpec ws rm).room.slots = ms from hrs]; exact hp.2.1
  have hPc : Pc a (A.U.calling g mk a) := hblind _ _ _ _ hp.2.2
  obtain ⟨U, Ls, c0, s0⟩ := A
  dsimp only [Pt.U, Pt.locs, Pt.cells, Pt.slots] at h1 h2 h3 h4 h5 X hn hPc ⊢
  obtain ⟨methY, cY, hmY, hcY, -, hlY, -, -, -, -⟩ := Cond.code_spec hn h2
  obtain ⟨kY, hkY, -⟩ := className_of_methodNamed hn
  have hinitY : kY.init = .initialized := Cond.initialized_spec (findClass_of_methodNamed hn) hkY h3
  have h : At U g.method c below := by rw [hg]; exact X.here
  have hlocals9 : W9 + (maxL + 11) + (headSpec ws rm).room.locals ≤ R.locals := hlocals
  have happ : (headSpec ws rm).appliesLoose y e.platform (U.calling g mk a) = true :=
    Spec.appliesLoose_calling (g := g) h hdg hn hkY hinitY
      (X.room_calling (g := g) (R' := (headSpec ws rm).room) hsize hmY hcY hframes (by rw [hlY]; omega) h4 h5) h1
  obtain ⟨mid, hmid⟩ := h.above
  have hfr : (U.setTop g).frames = (.java g :: mid) ++ below := by rw [State.frames_setTop' g h.top, hmid]; rfl
  obtain ⟨o, s₂, hsteps, -, hend, hq⟩ := Steps.callFree hM p X.admits X.cas X.clock (acts := []) hfr happ hPc trivial
  have hq' : vx_Q Qc XC mc ms free a (U.calling g mk a) o s₂ := hq
  rw [State.frames_setTop' g h.top] at hend
  obtain ⟨g₀, hg0⟩ := Option.isSome_iff_exists.mp h.top
  obtain ⟨r, hr⟩ := State.topJava?_eq_some.mp hg0
  have hr' : (({ U with heap := s₂.heap, slotsUsed := s₂.slotsUsed } : State).setVm s₂.vm).frames = .java g₀ :: r := hr
  rcases hq' with ⟨hqc, L, hfe, hL⟩ | ⟨q, rfl, E, ce, L, hx, hce, hcv, hcl, hW₂, hsm, hL⟩
  · obtain ⟨⟨v, rfl⟩, hW₂, e2, q2, q3, q4, q5, q6⟩ := id hfe
    have e3 : s₂ = ({ (U.calling g mk a).setFrames s₂.frames with heap := s₂.heap, slotsUsed := s₂.slotsUsed } : State).setVm s₂.vm := by
      have : s₂ = ({ s₂ with vm := (U.calling g mk a).vm } : State).setVm s₂.vm := rfl
      rw [e2] at this
      exact this
    obtain ⟨c₂, i₂, len₂, hc₂, hd₂, hf₂⟩ := hend
    have hW' : U.WarmedH s₂.vm := hW₂
    have hcc : c₂ = c := by
      have h1 : s₂.code? g.method = U.code? g.method := by
        rw [State.code?_eq, State.code?_eq, hW'.alike.method?]
      exact Option.some.inj (hc₂.symm.trans (h1.trans h.code))
    subst hcc
    have hlen : len₂ = len := by rw [hdg] at hd₂; cases hd₂; rfl
    subst hlen
    have hs₂ : s₂ = (({ U with heap := s₂.heap, slotsUsed := s₂.slotsUsed } : State).setVm s₂.vm).setTop { g with pc := g.pc + len₂, stack := v.toList ++ g.stack } := by
      refine e3.trans ?_
      rw [hf₂, State.calling_eq h.top, State.setFrames_setFrames, State.setTop_of_frames _ hr', hr]
      rfl
    have hsame : U.sameButNew ({ U with heap := s₂.heap, slotsUsed := s₂.slotsUsed } : State) L mc ms := by
      refine ⟨?_, q2, q3, q4, q5, q6⟩
      obtain ⟨t, ht, -⟩ := State.frames_cons hr
      show ({ U with heap := s₂.heap, slotsUsed := s₂.slotsUsed } : State) = { U.setFrames U.frames with heap := s₂.heap, slotsUsed := s₂.slotsUsed }
      rw [State.setFrames_self ht]
    subst hg
    refine Or.inl ⟨v, ⟨(({ U with heap := s₂.heap, slotsUsed := s₂.slotsUsed } : State).setVm s₂.vm), Ls ++ L, c0 + mc, s0 + ms⟩,
      ⟨X.admits, X.cas, X.clock, X.frames, X.room, X.hears, X.method, X.code, (X.here.setHeapUsed s₂.heap s₂.slotsUsed).setVm hW'.alike, X.tail, State.WarmedH.trans X.warmed hW', X.limits, X.bytes, X.same.trans (hsame.setVm s.vm)⟩,
      ⟨g, mk, s₂, L, rfl, rfl, hqc, rfl, hL, rfl, rfl⟩, ?_⟩
    show Steps p.tables e below _ ((({ U with heap := s₂.heap, slotsUsed := s₂.slotsUsed } : State).setVm s₂.vm).setTop { g with pc := g.pc + len₂, stack := v.toList ++ g.stack })
    rw [← hs₂]
    exact hsteps
  · obtain ⟨e2, q2, q3, q4, q5, q6⟩ := id hsm
    have e3 : s₂ = ({ (U.calling g mk a).setFrames s₂.frames with heap := s₂.heap, slotsUsed := s₂.slotsUsed } : State).setVm s₂.vm := by
      have : s₂ = ({ s₂ with vm := (U.calling g mk a).vm } : State).setVm s₂.vm := rfl
      rw [e2] at this
      exact this
    have hf₂ : s₂.frames = .throwing q :: .java g :: U.frames.tail := hend
    have hW' : U.WarmedH s₂.vm := hW₂
    have hs₂ : s₂ = ((({ U with heap := s₂.heap, slotsUsed := s₂.slotsUsed } : State).setVm s₂.vm).setTop g).pushFrame (.throwing q) := by
      refine e3.trans ?_
      rw [hf₂, State.calling_eq h.top, State.setFrames_setFrames, State.pushFrame, State.frames_setTop _ hr', State.setTop_of_frames _ hr', State.setFrames_setFrames, hr]
      rfl
    have hsame : U.sameButNew ({ U with heap := s₂.heap, slotsUsed := s₂.slotsUsed } : State) L mc ms := by
      refine ⟨?_, q2, q3, q4, q5, q6⟩
      obtain ⟨t, ht, -⟩ := State.frames_cons hr
      show ({ U with heap := s₂.heap, slotsUsed := s₂.slotsUsed } : State) = { U.setFrames U.frames with heap := s₂.heap, slotsUsed := s₂.slotsUsed }
      rw [State.setFrames_self ht]
    subst hg
    refine Or.inr ⟨q, ⟨(({ U with heap := s₂.heap, slotsUsed := s₂.slotsUsed } : State).setVm s₂.vm), Ls ++ L, c0 + mc, s0 + ms⟩,
      ⟨X.admits, X.cas, X.clock, X.frames, X.room, X.hears, X.method, X.code, (X.here.setHeapUsed s₂.heap s₂.slotsUsed).setVm hW'.alike, X.tail, State.WarmedH.trans X.warmed hW', X.limits, X.bytes, X.same.trans (hsame.setVm s.vm)⟩,
      ⟨g, mk, s₂, L, E, ce, rfl, rfl, hx, hce, hcv, hcl, rfl, hL, rfl, rfl⟩, ?_⟩
    show Steps p.tables e below _ (((({ U with heap := s₂.heap, slotsUsed := s₂.slotsUsed } : State).setVm s₂.vm).setTop g).pushFrame (.throwing q))
    rw [← hs₂]
    exact hsteps
end Payer
section Calls
variable {p : Program} {l : Launch} {e : Env} {R : Room} {s : State} {m : MethodId} {args : Array Value} {below : List Frame} {meth : Method} {c : Code} {T : State} {locs : List Loc} {cells slots : Nat}
theorem vx_callV (X : Stand p l e R s m args below meth c T locs cells slots) (hexec : p.tables.exec = Jvm.exec) {own C : String} {index : Nat} {y : MethodName} {bytes : ByteArray} {maxL : Nat} {ret : Option FieldType}
    (hown : s.vm.findClass own = some m.cls) (hlink : (Cond.methodLink own index y).before args s = true) (hinst : (Cond.instanceMethod y).before args s = true) (hsel : (Cond.selects C y y).before args s = true)
    (hcode : (Cond.code y bytes maxL ret).before args s = true) (hy : y.cls ≠ "java/lang/invoke/MethodHandle" ∧ y.cls ≠ "java/lang/invoke/VarHandle")
    {W9 : Nat} {Pre : Pt → Array Value → Prop} {Post : Pt → Array Value → Option Value → Pt → Prop} {PostX : Pt → Array Value → Addr → Pt → Prop} (hK : vx_Back l R p e below s args y 3 W9 Pre Post PostX)
    {b : Addr} {cellB : Cell} (hcell : T.heap[b]? = some cellB) (hobj : cellB.vm.isStatics = false) (hcls : s.vm.findClass C = some cellB.cls)
    {g : JFrame} (hg : g.method = m) (hsize : g.locals.size = c.maxLocals) {argsL rest : List Value} (hlen : ∀ sig, parseMethodDescriptor y.desc = some sig → argsL.length = sig.parameters.length)
    (hstack : g.stack = argsL.reverse ++ .ref b :: rest) (hW : 2 * g.monitorRoom + (rest.map fun v => v.category).sum ≤ W9) (hdg : decode c.code g.pc = .ok (.invokevirtual index, 3))
    (hpre : ∀ vm₁, s.WarmedH vm₁ → Pre ⟨T.setVm vm₁, locs, cells, slots⟩ (Value.ref b :: argsL).toArray) :
    (∃ (v : Option Value) (vm₁ : Vm) (B : Pt), s.WarmedH vm₁ ∧ Stand p l e R s m args below meth c B.U B.locs B.cells B.slots ∧ Post ⟨T.setVm vm₁, locs, cells, slots⟩ (Value.ref b :: argsL).toArray v B ∧
      ∀ target, Steps p.tables e below (B.U.setTop { g with pc := g.pc + 3, stack := v.toList ++ rest }) target → Steps p.tables e below (T.setTop g) target) ∨
    (∃ (q : Addr) (vm₁ : Vm) (B : Pt), s.WarmedH vm₁ ∧ Stand p l e R s m args below meth c B.U B.locs B.cells B.slots ∧ PostX ⟨T.setVm vm₁, locs, cells, slots⟩ (Value.ref b :: argsL).toArray q B ∧
      Steps p.tables e below (T.setTop g) ((B.U.setTop { g with stack := rest }).pushFrame (.throwing q))) := by
  obtain ⟨mk, methM, hnamed, hmethM, hstM, habM⟩ := Cond.instanceMethod_spec hinst
  obtain ⟨methM', cM, hmethM', -, -, -, -, -, -, hsigM⟩ := Cond.code_spec hnamed hcode
  cases hmethM.symm.trans hmethM'
  obtain ⟨c2, r2, m2, q1, q2, q3, q4, kP, hkP, hkPi⟩ := Cond.selects_spec hsel
  cases hcls.symm.trans q1
  cases (State.methodFound?_of_named hnamed hy).symm.trans q2
  cases hnamed.symm.trans q3
  have hselP : selectMethod e.platform s.vm cellB.cls mk = .method mk := by rw [Launch.admits_selectMethod X.admits]; exact q4
  obtain ⟨vm₁, X₁, hstep₁⟩ := X.invokevirtual hexec hown hlink hnamed hmethM hstM hkP hkPi hy (a := b) (cell := cellB) hcell
    (fun z h => by rw [h] at hobj; cases hobj) hselP hmethM habM hkP hkPi (g := g) hg (argsL := argsL) (rest := rest) (hlen _ hsigM) hstack hdg
  rcases hK m meth c ⟨T.setVm vm₁, locs, cells, slots⟩ { g with stack := rest } (.invokevirtual index) mk (Value.ref b :: argsL).toArray X₁ hg hsize hdg hW (X₁.named hnamed) (hpre vm₁ X₁.warmed) with ⟨v, B, X', hpost, hsteps⟩ | ⟨q, B, X', hpost, hsteps⟩
  · exact Or.inl ⟨v, vm₁, B, X₁.warmed, X', hpost, fun target h => hstep₁ _ fun acts => by rw [doInvoke_state]; exact hsteps.trans h⟩
  · exact Or.inr ⟨q, vm₁, B, X₁.warmed, X', hpost, hstep₁ _ fun acts => by rw [doInvoke_state]; exact hsteps⟩
theorem vx_callS (X : Stand p l e R s m args below meth c T locs cells slots) (hexec : p.tables.exec = Jvm.exec) {own : String} {index : Nat} {y : MethodName} {bytes : ByteArray} {maxL : Nat} {ret : Option FieldType}
    (hown : s.vm.findClass own = some m.cls) (hlink : (Cond.methodLink own index y).before args s = true) (hstat : (Cond.static y).before args s = true) (hinit : (Cond.initialized y.cls).before args s = true)
    (hcode : (Cond.code y bytes maxL ret).before args s = true) (hy : y.cls ≠ "java/lang/invoke/MethodHandle" ∧ y.cls ≠ "java/lang/invoke/VarHandle")
    {W9 : Nat} {Pre : Pt → Array Value → Prop} {Post : Pt → Array Value → Option Value → Pt → Prop} {PostX : Pt → Array Value → Addr → Pt → Prop} (hK : vx_Back l R p e below s args y 3 W9 Pre Post PostX)
    {g : JFrame} (hg : g.method = m) (hsize : g.locals.size = c.maxLocals) {argsL rest : List Value} (hlen : ∀ sig, parseMethodDescriptor y.desc = some sig → argsL.length = sig.parameters.length)
    (hstack : g.stack = argsL.reverse ++ rest) (hW : 2 * g.monitorRoom + (rest.map fun v => v.category).sum ≤ W9) (hdg : decode c.code g.pc = .ok (.invokestatic index, 3))
    (hpre : ∀ vm₁, s.WarmedH vm₁ → Pre ⟨T.setVm vm₁, locs, cells, slots⟩ argsL.toArray) :
    (∃ (v : Option Value) (vm₁ : Vm) (B : Pt), s.WarmedH vm₁ ∧ Stand p l e R s m args below meth c B.U B.locs B.cells B.slots ∧ Post ⟨T.setVm vm₁, locs, cells, slots⟩ argsL.toArray v B ∧
      ∀ target, Steps p.tables e below (B.U.setTop { g with pc := g.pc + 3, stack := v.toList ++ rest }) target → Steps p.tables e below (T.setTop g) target) ∨
    (∃ (q : Addr) (vm₁ : Vm) (B : Pt), s.WarmedH vm₁ ∧ Stand p l e R s m args below meth c B.U B.locs B.cells B.slots ∧ PostX ⟨T.setVm vm₁, locs, cells, slots⟩ argsL.toArray q B ∧
      Steps p.tables e below (T.setTop g) ((B.U.setTop { g with stack := rest }).pushFrame (.throwing q))) := by
  obtain ⟨mk, hnamed⟩ := Cond.code_named hcode
  obtain ⟨methM, cM, hmethM, -, -, -, -, -, -, hsigM⟩ := Cond.code_spec hnamed hcode
  have hstatic : methM.isStatic = true := Cond.static_spec hnamed hmethM hstat
  obtain ⟨kP, hkP, -⟩ := className_of_methodNamed hnamed
  have hinitP : kP.init = .initialized := Cond.initialized_spec (findClass_of_methodNamed hnamed) hkP hinit
  obtain ⟨vm₁, X₁, hstep₁⟩ := X.invokestatic hexec hown hlink hnamed hmethM hstatic hkP hinitP hy (g := g) hg (argsL := argsL) (rest := rest) (hlen _ hsigM) hstack hdg
  rcases hK m meth c ⟨T.setVm vm₁, locs, cells, slots⟩ { g with stack := rest } (.invokestatic index) mk argsL.toArray X₁ hg hsize hdg hW (X₁.named hnamed) (hpre vm₁ X₁.warmed) with ⟨v, B, X', hpost, hsteps⟩ | ⟨q, B, X', hpost, hsteps⟩
  · exact Or.inl ⟨v, vm₁, B, X₁.warmed, X', hpost, fun target h => hstep₁ _ fun acts => by rw [doInvoke_state]; exact hsteps.trans h⟩
  · exact Or.inr ⟨q, vm₁, B, X₁.warmed, X', hpost, hstep₁ _ fun acts => by rw [doInvoke_state]; exact hsteps⟩
end Calls
theorem vx_cls {s : State} {T : State} {vm₁ : Vm} {E : String} {k : ClassId} (hW : s.WarmedH vm₁) (h : (T.setVm vm₁).vm.findClass E = some k) : s.vm.findClass E = some k := by
  have h1 : vm₁.findClass E = some k := h
  rw [hW.alike.findClass] at h1
  exact h1
/-- the method's frame g, with q thrown over it -/
def vx_W (p : Program) (l : Launch) (e : Env) (R : Room) (s : State) (m : MethodId) (args : Array Value) (below : List Frame) (meth : Method) (c : Code) (H : Heap) (locs : List Loc) (cells slots : Nat) (Q : State → Prop) (g : JFrame) (q : Addr) : Prop :=
  ∀ T : State, T.heap = H → Stand p l e R s m args below meth c T locs cells slots → ∃ t, Steps p.tables e below ((T.setTop g).pushFrame (.throwing q)) t ∧ Q t
def vx_Run (p : Program) (l : Launch) (e : Env) (R : Room) (s : State) (m : MethodId) (args : Array Value) (below : List Frame) (meth : Method) (c : Code) (H : Heap) (locs : List Loc) (cells slots mc ms : Nat) (g : JFrame) (rest : List Value) (Qa : State → Outcome → State → Prop) (XC : String → State → State → Prop) (free : Addr → Prop) : Prop :=
  ∀ T : State, T.heap = H → Stand p l e R s m args below meth c T locs cells slots →
    (∃ (v : Option Value) (st₀ t T' : State) (L : List Loc), st₀.heap = H ∧ Stand p l e R s m args below meth c T' (locs ++ L) (cells + mc) (slots + ms) ∧ (∀ q ∈ L, free q.base) ∧ T'.heap = t.heap ∧ T'.vm = t.vm ∧ Qa st₀ (.returned v) t ∧
      Goes p e below T g T' { g with pc := g.pc + 3, stack := v.toList ++ rest }) ∨
    (∃ (q : Addr) (st₀ t T' : State) (L : List Loc) (E : String) (ce : Cell), st₀.heap = H ∧ Stand p l e R s m args below meth c T' (locs ++ L) (cells + mc) (slots + ms) ∧ (∀ z ∈ L, free z.base) ∧ T'.heap = t.heap ∧ T'.vm = t.vm ∧ XC E st₀ t ∧ t.heap[q]? = some ce ∧ ce.vm = .none ∧ s.vm.findClass E = some ce.cls ∧
      Steps p.tables e below (T.setTop g) ((T'.setTop { g with stack := rest }).pushFrame (.throwing q)))
def vx_X {S : Type} (px : S → Prop) (B : String → S → State → Prop) (A : Nat → Prop) : String → State → State → Prop := fun E st t => ∃ u : S, px u ∧ B E u t ∧ va_F A st t
section Runs
variable {p : Program} {l : Launch} {e : Env} {R : Room} {s : State} {m : MethodId} {args : Array Value} {below : List Frame} {meth : Method} {c : Code} {H : Heap} {locs : List Loc} {cells slots : Nat}
variable {y : MethodName} {bytes cc : ByteArray} {maxL nL mc ms n index : Nat} {ret : Option FieldType} {ws : List Cond} {rm : Room} {Pc : Array Value → State → Prop} {Qc : Array Value → State → Outcome → State → Prop} {XC : String → State → State → Prop} {free : Addr → Prop} {Ts : List Cond} {own C : String} {b : Addr} {As rest : List Value} {g : JFrame}
theorem vx_callBack (cb : CallB R s args own index y bytes maxL ret ws rm mc ms n) (hM : vx_Met l y ws rm Pc Qc XC mc ms free) (hbl : FrameBlind Pc) : vx_Back l R p e below s args y 3 8 (PreOf R mc ms Pc) (PostOf Qc mc ms free) (vx_Post XC mc ms free) := by
  obtain ⟨hrc, hrs, hfr, hlo, hws, hcw, -, hini, -⟩ := cb
  exact vx_back (bytes := bytes) (maxL := maxL) (ret := ret) hM hbl hrc hrs hfr hlo hws hcw (fun a' U hW => word_at hW (Or.inl (by first | rfl | simp [Cond.onTables, Cond.keeps, Cond.steady])) hini)
theorem vx_runV (S : CallFix p m c cc nL s args Ts own) (hM : vx_Met l y ws rm Pc Qc XC mc ms free) (cw : CallW R s args own C index y bytes maxL ret ws rm mc ms n) (hp : PreV s H C b Pc As)
    (hg : g.method = m) (hn : As.length = n) (hsize : g.locals.size = nL) (hstack : g.stack = As.reverse ++ .ref b :: rest) (hW : 2 * g.monitorRoom + (rest.map fun v => v.category).sum ≤ 8) (hdg : decode cc g.pc = .ok (.invokevirtual index, 3)) (hf : cells + mc ≤ R.cells ∧ slots + ms ≤ R.slots) :
    vx_Run p l e R s m args below meth c H locs cells slots mc ms g rest (Qc (Value.ref b :: As).toArray) XC free := by
  have hK : vx_Back l R p e below s args y 3 8 (PreOf R mc ms Pc) (PostOf Qc mc ms free) (vx_Post XC mc ms free) := vx_callBack cw.1 hM hp.1
  obtain ⟨⟨-, -, -, -, -, -, hcode, -, hy, hlen, hl⟩, hin, hse⟩ := cw
  obtain ⟨hx, hb, hml, ho, -⟩ := S
  obtain ⟨-, ⟨cellB, hcB, hoB, hclB⟩, hPc⟩ := hp
  intro T hT X
  rcases vx_callV X hx (C := C) (bytes := bytes) (maxL := maxL) (ret := ret) ho hl hin hse hcode hy hK (by rw [hT]; exact hcB) hoB hclB hg (hsize.trans hml.symm) (argsL := As) (rest := rest) (fun sig h => hn.trans (hlen sig h)) hstack hW (by rw [hb]; exact hdg)
    (fun vm₁ hW₁ => ⟨hf.1, hf.2, hPc (T.setVm vm₁) hT hW₁⟩) with ⟨v, vm₁, ⟨U', l2, c2, s2⟩, hW₁, X', ⟨g', mk, t, L, e1, e2, hq, h1, hL, h2, h3⟩, st⟩ | ⟨q, vm₁, ⟨U', l2, c2, s2⟩, hW₁, X', ⟨g', mk, t, L, E, ce, e1, e2, hq, hce, hcv, hcl, h1, hL, h2, h3⟩, st⟩
  · dsimp only [Pt.U, Pt.locs, Pt.cells, Pt.slots] at X' e1 e2 h1 h2 h3 st
    subst h1; subst h2; subst h3
    exact Or.inl ⟨v, (T.setVm vm₁).calling g' mk (Value.ref b :: As).toArray, t, U', L, hT, X', hL, e1, e2, hq, st⟩
  · dsimp only [Pt.U, Pt.locs, Pt.cells, Pt.slots] at X' e1 e2 h1 h2 h3 st hcl
    subst h1; subst h2; subst h3
    exact Or.inr ⟨q, (T.setVm vm₁).calling g' mk (Value.ref b :: As).toArray, t, U', L, E, ce, hT, X', hL, e1, e2, hq, hce, hcv, vx_cls hW₁ hcl, st⟩
theorem vx_runS (S : CallFix p m c cc nL s args Ts own) (hM : vx_Met l y ws rm Pc Qc XC mc ms free) (cw : CallB R s args own index y bytes maxL ret ws rm mc ms n ∧ (Cond.static y).before args s = true) (hp : PreS s H Pc As)
    (hg : g.method = m) (hn : As.length = n) (hsize : g.locals.size = nL) (hstack : g.stack = As.reverse ++ rest) (hW : 2 * g.monitorRoom + (rest.map fun v => v.category).sum ≤ 8) (hdg : decode cc g.pc = .ok (.invokestatic index, 3)) (hf : cells + mc ≤ R.cells ∧ slots + ms ≤ R.slots) :
    vx_Run p l e R s m args below meth c H locs cells slots mc ms g rest (Qc As.toArray) XC free := by
  have hK : vx_Back l R p e below s args y 3 8 (PreOf R mc ms Pc) (PostOf Qc mc ms free) (vx_Post XC mc ms free) := vx_callBack cw.1 hM hp.1
  obtain ⟨⟨-, -, -, -, -, -, hcode, hini, hy, hlen, hl⟩, hstt⟩ := cw
  obtain ⟨hx, hb, hml, ho, -⟩ := S
  intro T hT X
  rcases vx_callS X hx (bytes := bytes) (maxL := maxL) (ret := ret) ho hl hstt hini hcode hy hK hg (hsize.trans hml.symm) (argsL := As) (rest := rest) (fun sig h => hn.trans (hlen sig h)) hstack hW (by rw [hb]; exact hdg)
    (fun vm₁ hW₁ => ⟨hf.1, hf.2, hp.2 (T.setVm vm₁) hT hW₁⟩) with ⟨v, vm₁, ⟨U', l2, c2, s2⟩, hW₁, X', ⟨g', mk, t, L, e1, e2, hq, h1, hL, h2, h3⟩, st⟩ | ⟨q, vm₁, ⟨U', l2, c2, s2⟩, hW₁, X', ⟨g', mk, t, L, E, ce, e1, e2, hq, hce, hcv, hcl, h1, hL, h2, h3⟩, st⟩
  · dsimp only [Pt.U, Pt.locs, Pt.cells, Pt.slots] at X' e1 e2 h1 h2 h3 st
    subst h1; subst h2; subst h3
    exact Or.inl ⟨v, (T.setVm vm₁).calling g' mk As.toArray, t, U', L, hT, X', hL, e1, e2, hq, st⟩
  · dsimp only [Pt.U, Pt.locs, Pt.cells, Pt.slots] at X' e1 e2 h1 h2 h3 st hcl
    subst h1; subst h2; subst h3
    exact Or.inr ⟨q, (T.setVm vm₁).calling g' mk As.toArray, t, U', L, E, ce, hT, X', hL, e1, e2, hq, hce, hcv, vx_cls hW₁ hcl, st⟩
end Runs
section Rows
variable {p : Program} {l : Launch} {e : Env} {R : Room} {s : State} {m : MethodId} {args : Array Value} {below : List Frame} {meth : Method} {c : Code} {H : Heap} {locs : List Loc} {cells slots : Nat} {Q : State → Prop}
variable {mc ms : Nat} {free : Addr → Prop} {A0 A1 : Nat → Prop} {H0 : Heap} {a : Array Value} {pc : Nat} {ls : Array Slot} {st0 rest : List Value}
theorem vx_keep {st₀ t T' : State} {L : List Loc} (h0 : st₀.heap = H) (e1 : T'.heap = t.heap) (hS : va_S A0 H0 H locs) (hA : ∀ q, q < H.size → A1 q → A0 q) (hf : ∀ q, free q → A0 q) (hL : ∀ q ∈ L, free q.base) (hF : va_F A1 st₀ t) :
    H.size ≤ T'.heap.size ∧ (∀ q : Nat, q < H.size → ¬ A1 q → T'.heap[q]? = H[q]?) ∧ va_S A0 H0 T'.heap (locs ++ L) := by
  obtain ⟨hz, hk⟩ := hF
  rw [h0] at hz hk
  exact ⟨by rw [e1]; exact hz, fun q h1 h2 => by rw [e1]; exact hk q h1 h2,
    ⟨Nat.le_trans hS.1 (by rw [e1]; exact hz), fun q h1 h2 => by rw [e1, hk q (Nat.lt_of_lt_of_le h1 hS.1) (fun z => h2 (hA q (Nat.lt_of_lt_of_le h1 hS.1) z))]; exact hS.2.1 q h1 h2, fun q hq => by
      rcases List.mem_append.mp hq with h | h
      · exact hS.2.2 q h
      · exact hf _ (hL q h)⟩⟩
theorem vx_calli {S SX : Type} {post : Int32 → S → Prop} {px : SX → Prop} {B : S → State → Prop} {BX : String → SX → State → Prop} {AX : Nat → Prop} (hr : vx_Run p l e R s m args below meth c H locs cells slots mc ms (F0 m pc ls st0) rest (va_Qi post B A1 a) (vx_X px BX AX) free) (hS : va_S A0 H0 H locs) (hA : ∀ q, q < H.size → A1 q → A0 q) (hf : ∀ q, free q → A0 q) (hAX : ∀ q, q < H.size → AX q → A0 q)
    (kx : ∀ (E : String) (ce : Cell) (q9 : Addr) (u : SX) (t : State) (H1 : Heap) (locs1 : List Loc), t.heap = H1 → s.vm.Alike t.vm → px u → BX E u t → H.size ≤ H1.size → (∀ q : Nat, q < H.size → ¬ AX q → H1[q]? = H[q]?) → va_S A0 H0 H1 locs1 → H1[q9]? = some ce → ce.vm = .none → s.vm.findClass E = some ce.cls → vx_W p l e R s m args below meth c H1 locs1 (cells + mc) (slots + ms) Q (F0 m pc ls rest) q9)
    (kk : ∀ (r : Int32) (u : S) (t : State) (H1 : Heap) (locs1 : List Loc), t.heap = H1 → s.vm.Alike t.vm → post r u → B u t → H.size ≤ H1.size → (∀ q : Nat, q < H.size → ¬ A1 q → H1[q]? = H[q]?) → va_S A0 H0 H1 locs1 → W p l e R s m args below meth c H1 locs1 (cells + mc) (slots + ms) Q (F0 m (pc + 3) ls (.int r :: rest))) : W p l e R s m args below meth c H locs cells slots Q (F0 m pc ls st0) := by
  intro T hT X
  rcases hr T hT X with ⟨v, st₀, t, T', L, h0, X', hL, e1, e2, ⟨⟨r, u, hv, hp, hb⟩, hF⟩, st⟩ | ⟨q, st₀, t, T', L, E, ce, h0, X', hL, e1, e2, ⟨u, hp, hb, hF⟩, hce, hcv, hcl, st⟩
  · cases hv
    obtain ⟨k1, k2, k3⟩ := vx_keep h0 e1 hS hA hf hL hF
    obtain ⟨t2, a1, b1⟩ := kk r u t T'.heap (locs ++ L) e1.symm (by rw [← e2]; exact X'.warmed.alike) hp hb k1 k2 k3 T' rfl X'
    exact ⟨t2, st t2 a1, b1⟩
  · obtain ⟨k1, k2, k3⟩ := vx_keep h0 e1 hS hAX hf hL hF
    obtain ⟨t2, a1, b1⟩ := kx E ce q u t T'.heap (locs ++ L) e1.symm (by rw [← e2]; exact X'.warmed.alike) hp hb k1 k2 k3 (by rw [e1]; exact hce) hcv hcl T' rfl X'
    exact ⟨t2, st.trans a1, b1⟩
theorem vx_calll {S SX : Type} {post : Int64 → S → Prop} {px : SX → Prop} {B : S → State → Prop} {BX : String → SX → State → Prop} {AX : Nat → Prop} (hr : vx_Run p l e R s m args below meth c H locs cells slots mc ms (F0 m pc ls st0) rest (va_Ql post B A1 a) (vx_X px BX AX) free) (hS : va_S A0 H0 H locs) (hA : ∀ q, q < H.size → A1 q → A0 q) (hf : ∀ q, free q → A0 q) (hAX : ∀ q, q < H.size → AX q → A0 q)
    (kx : ∀ (E : String) (ce : Cell) (q9 : Addr) (u : SX) (t : State) (H1 : Heap) (locs1 : List Loc), t.heap = H1 → s.vm.Alike t.vm → px u → BX E u t → H.size ≤ H1.size → (∀ q : Nat, q < H.size → ¬ AX q → H1[q]? = H[q]?) → va_S A0 H0 H1 locs1 → H1[q9]? = some ce → ce.vm = .none → s.vm.findClass E = some ce.cls → vx_W p l e R s m args below meth c H1 locs1 (cells + mc) (slots + ms) Q (F0 m pc ls rest) q9)
    (kk : ∀ (r : Int64) (u : S) (t : State) (H1 : Heap) (locs1 : List Loc), t.heap = H1 → s.vm.Alike t.vm → post r u → B u t → H.size ≤ H1.size → (∀ q : Nat, q < H.size → ¬ A1 q → H1[q]? = H[q]?) → va_S A0 H0 H1 locs1 → W p l e R s m args below meth c H1 locs1 (cells + mc) (slots + ms) Q (F0 m (pc + 3) ls (.long r :: rest))) : W p l e R s m args below meth c H locs cells slots Q (F0 m pc ls st0) := by
  intro T hT X
  rcases hr T hT X with ⟨v, st₀, t, T', L, h0, X', hL, e1, e2, ⟨⟨r, u, hv, hp, hb⟩, hF⟩, st⟩ | ⟨q, st₀, t, T', L, E, ce, h0, X', hL, e1, e2, ⟨u, hp, hb, hF⟩, hce, hcv, hcl, st⟩
  · cases hv
    obtain ⟨k1, k2, k3⟩ := vx_keep h0 e1 hS hA hf hL hF
    obtain ⟨t2, a1, b1⟩ := kk r u t T'.heap (locs ++ L) e1.symm (by rw [← e2]; exact X'.warmed.alike) hp hb k1 k2 k3 T' rfl X'
    exact ⟨t2, st t2 a1, b1⟩
  · obtain ⟨k1, k2, k3⟩ := vx_keep h0 e1 hS hAX hf hL hF
    obtain ⟨t2, a1, b1⟩ := kx E ce q u t T'.heap (locs ++ L) e1.symm (by rw [← e2]; exact X'.warmed.alike) hp hb k1 k2 k3 (by rw [e1]; exact hce) hcv hcl T' rfl X'
    exact ⟨t2, st.trans a1, b1⟩
theorem vx_callf {S SX : Type} {post : UInt32 → S → Prop} {px : SX → Prop} {B : S → State → Prop} {BX : String → SX → State → Prop} {AX : Nat → Prop} (hr : vx_Run p l e R s m args below meth c H locs cells slots mc ms (F0 m pc ls st0) rest (va_Qf post B A1 a) (vx_X px BX AX) free) (hS : va_S A0 H0 H locs) (hA : ∀ q, q < H.size → A1 q → A0 q) (hf : ∀ q, free q → A0 q) (hAX : ∀ q, q < H.size → AX q → A0 q)
    (kx : ∀ (E : String) (ce : Cell) (q9 : Addr) (u : SX) (t : State) (H1 : Heap) (locs1 : List Loc), t.heap = H1 → s.vm.Alike t.vm → px u → BX E u t → H.size ≤ H1.size → (∀ q : Nat, q < H.size → ¬ AX q → H1[q]? = H[q]?) → va_S A0 H0 H1 locs1 → H1[q9]? = some ce → ce.vm = .none → s.vm.findClass E = some ce.cls → vx_W p l e R s m args below meth c H1 locs1 (cells + mc) (slots + ms) Q (F0 m pc ls rest) q9)
    (kk : ∀ (r : UInt32) (u : S) (t : State) (H1 : Heap) (locs1 : List Loc), t.heap = H1 → s.vm.Alike t.vm → post r u → B u t → H.size ≤ H1.size → (∀ q : Nat, q < H.size → ¬ A1 q → H1[q]? = H[q]?) → va_S A0 H0 H1 locs1 → W p l e R s m args below meth c H1 locs1 (cells + mc) (slots + ms) Q (F0 m (pc + 3) ls (.float r :: rest))) : W p l e R s m args below meth c H locs cells slots Q (F0 m pc ls st0) := by
  intro T hT X
  rcases hr T hT X with ⟨v, st₀, t, T', L, h0, X', hL, e1, e2, ⟨⟨r, u, hv, hp, hb⟩, hF⟩, st⟩ | ⟨q, st₀, t, T', L, E, ce, h0, X', hL, e1, e2, ⟨u, hp, hb, hF⟩, hce, hcv, hcl, st⟩
  · cases hv
    obtain ⟨k1, k2, k3⟩ := vx_keep h0 e1 hS hA hf hL hF
    obtain ⟨t2, a1, b1⟩ := kk r u t T'.heap (locs ++ L) e1.symm (by rw [← e2]; exact X'.warmed.alike) hp hb k1 k2 k3 T' rfl X'
    exact ⟨t2, st t2 a1, b1⟩
  · obtain ⟨k1, k2, k3⟩ := vx_keep h0 e1 hS hAX hf hL hF
    obtain ⟨t2, a1, b1⟩ := kx E ce q u t T'.heap (locs ++ L) e1.symm (by rw [← e2]; exact X'.warmed.alike) hp hb k1 k2 k3 (by rw [e1]; exact hce) hcv hcl T' rfl X'
    exact ⟨t2, st.trans a1, b1⟩
theorem vx_calld {S SX : Type} {post : UInt64 → S → Prop} {px : SX → Prop} {B : S → State → Prop} {BX : String → SX → State → Prop} {AX : Nat → Prop} (hr : vx_Run p l e R s m args below meth c H locs cells slots mc ms (F0 m pc ls st0) rest (va_Qd post B A1 a) (vx_X px BX AX) free) (hS : va_S A0 H0 H locs) (hA : ∀ q, q < H.size → A1 q → A0 q) (hf : ∀ q, free q → A0 q) (hAX : ∀ q, q < H.size → AX q → A0 q)
    (kx : ∀ (E : String) (ce : Cell) (q9 : Addr) (u : SX) (t : State) (H1 : Heap) (locs1 : List Loc), t.heap = H1 → s.vm.Alike t.vm → px u → BX E u t → H.size ≤ H1.size → (∀ q : Nat, q < H.size → ¬ AX q → H1[q]? = H[q]?) → va_S A0 H0 H1 locs1 → H1[q9]? = some ce → ce.vm = .none → s.vm.findClass E = some ce.cls → vx_W p l e R s m args below meth c H1 locs1 (cells + mc) (slots + ms) Q (F0 m pc ls rest) q9)
    (kk : ∀ (r : UInt64) (u : S) (t : State) (H1 : Heap) (locs1 : List Loc), t.heap = H1 → s.vm.Alike t.vm → post r u → B u t → H.size ≤ H1.size → (∀ q : Nat, q < H.size → ¬ A1 q → H1[q]? = H[q]?) → va_S A0 H0 H1 locs1 → W p l e R s m args below meth c H1 locs1 (cells + mc) (slots + ms) Q (F0 m (pc + 3) ls (.double r :: rest))) : W p l e R s m args below meth c H locs cells slots Q (F0 m pc ls st0) := by
  intro T hT X
  rcases hr T hT X with ⟨v, st₀, t, T', L, h0, X', hL, e1, e2, ⟨⟨r, u, hv, hp, hb⟩, hF⟩, st⟩ | ⟨q, st₀, t, T', L, E, ce, h0, X', hL, e1, e2, ⟨u, hp, hb, hF⟩, hce, hcv, hcl, st⟩
  · cases hv
    obtain ⟨k1, k2, k3⟩ := vx_keep h0 e1 hS hA hf hL hF
    obtain ⟨t2, a1, b1⟩ := kk r u t T'.heap (locs ++ L) e1.symm (by rw [← e2]; exact X'.warmed.alike) hp hb k1 k2 k3 T' rfl X'
    exact ⟨t2, st t2 a1, b1⟩
  · obtain ⟨k1, k2, k3⟩ := vx_keep h0 e1 hS hAX hf hL hF
    obtain ⟨t2, a1, b1⟩ := kx E ce q u t T'.heap (locs ++ L) e1.symm (by rw [← e2]; exact X'.warmed.alike) hp hb k1 k2 k3 (by rw [e1]; exact hce) hcv hcl T' rfl X'
    exact ⟨t2, st.trans a1, b1⟩
theorem vx_callv {S SX : Type} {post : S → Prop} {px : SX → Prop} {B : S → State → Prop} {BX : String → SX → State → Prop} {AX : Nat → Prop} (hr : vx_Run p l e R s m args below meth c H locs cells slots mc ms (F0 m pc ls st0) rest (va_Qv post B A1 a) (vx_X px BX AX) free) (hS : va_S A0 H0 H locs) (hA : ∀ q, q < H.size → A1 q → A0 q) (hf : ∀ q, free q → A0 q) (hAX : ∀ q, q < H.size → AX q → A0 q)
    (kx : ∀ (E : String) (ce : Cell) (q9 : Addr) (u : SX) (t : State) (H1 : Heap) (locs1 : List Loc), t.heap = H1 → s.vm.Alike t.vm → px u → BX E u t → H.size ≤ H1.size → (∀ q : Nat, q < H.size → ¬ AX q → H1[q]? = H[q]?) → va_S A0 H0 H1 locs1 → H1[q9]? = some ce → ce.vm = .none → s.vm.findClass E = some ce.cls → vx_W p l e R s m args below meth c H1 locs1 (cells + mc) (slots + ms) Q (F0 m pc ls rest) q9)
    (kk : ∀ (u : S) (t : State) (H1 : Heap) (locs1 : List Loc), t.heap = H1 → s.vm.Alike t.vm → post u → B u t → H.size ≤ H1.size → (∀ q : Nat, q < H.size → ¬ A1 q → H1[q]? = H[q]?) → va_S A0 H0 H1 locs1 → W p l e R s m args below meth c H1 locs1 (cells + mc) (slots + ms) Q (F0 m (pc + 3) ls (rest))) : W p l e R s m args below meth c H locs cells slots Q (F0 m pc ls st0) := by
  intro T hT X
  rcases hr T hT X with ⟨v, st₀, t, T', L, h0, X', hL, e1, e2, ⟨⟨u, hv, hp, hb⟩, hF⟩, st⟩ | ⟨q, st₀, t, T', L, E, ce, h0, X', hL, e1, e2, ⟨u, hp, hb, hF⟩, hce, hcv, hcl, st⟩
  · cases hv
    obtain ⟨k1, k2, k3⟩ := vx_keep h0 e1 hS hA hf hL hF
    obtain ⟨t2, a1, b1⟩ := kk u t T'.heap (locs ++ L) e1.symm (by rw [← e2]; exact X'.warmed.alike) hp hb k1 k2 k3 T' rfl X'
    exact ⟨t2, st t2 a1, b1⟩
  · obtain ⟨k1, k2, k3⟩ := vx_keep h0 e1 hS hAX hf hL hF
    obtain ⟨t2, a1, b1⟩ := kx E ce q u t T'.heap (locs ++ L) e1.symm (by rw [← e2]; exact X'.warmed.alike) hp hb k1 k2 k3 (by rw [e1]; exact hce) hcv hcl T' rfl X'
    exact ⟨t2, st.trans a1, b1⟩
/-- caught by the row x of this method's table; the rows ahead don't take it -/
theorem vx_catch {own name : String} {E : String} {ce : Cell} {q : Addr} (hown : s.vm.findClass own = some m.cls) (pre : List ExceptionTableEntry) (x : ExceptionTableEntry) (suf : List ExceptionTableEntry) (hsplit : c.exceptionTable.toList = pre ++ x :: suf)
    (hpass : ∀ z ∈ pre, covers z pc = false ∨ (z.catchType ≠ 0 ∧ ∃ nm : String, (Cond.classLink own z.catchType nm).before args s = true ∧ va_Nc E nm s)) (hx : covers x pc = true) (h0 : x.catchType ≠ 0)
    (hlink : (Cond.classLink own x.catchType name).before args s = true) (hcast : (Cond.castable E name).before args s = true) (hcell : H[q]? = some ce) (hv : ce.vm = .none) (hcl : s.vm.findClass E = some ce.cls)
    (kk : W p l e R s m args below meth c H locs cells slots Q (F0 m x.handlerPc ls [.ref q])) : vx_W p l e R s m args below meth c H locs cells slots Q (F0 m pc ls rest) q := by
  intro T hT X
  have hpl : e.platform.magicAccessors = ({} : Platform).magicAccessors := by rw [X.admits.platform]
  obtain ⟨c3, c4, hc3, hc4, hasg⟩ := Cond.castable_spec hcast
  cases Option.some.inj (hc3.symm.trans hcl)
  obtain ⟨c5, hc5, hcl5⟩ := Cond.classLink_spec hown hlink e.platform hpl
  cases Option.some.inj (hc4.symm.trans hc5)
  obtain ⟨vm', X', st⟩ := X.thenCaughtThrough q (g := F0 m pc ls rest) rfl (Steps.refl _) (by rw [hT]; exact hcell) (by rw [hv]; rfl) (by obtain ⟨k9, h9, -⟩ := Vm.findClass_spec hcl; exact ⟨k9, h9⟩) pre x suf hsplit
    (fun z hz => by
      rcases hpass z hz with h | ⟨hz0, nm, hl1, hn1⟩
      · exact Or.inl h
      · obtain ⟨c6, hc6, hcl6⟩ := Cond.classLink_spec hown hl1 e.platform hpl
        obtain ⟨a8, b8, h1, h2, h3⟩ := hn1
        cases Option.some.inj (h1.symm.trans hcl)
        cases Option.some.inj (h2.symm.trans hc6)
        exact Or.inr ⟨hz0, _, hcl6, h3⟩) hx (Or.inr ⟨h0, c4, hcl5, hasg⟩)
  obtain ⟨t, a1, b1⟩ := kk (T.setVm vm') hT X'
  exact ⟨t, st.trans a1, b1⟩
end Rows
section Ends
variable {p : Program} {l : Launch} {e : Env} {R : Room} {s : State} {m : MethodId} {args : Array Value} {below : List Frame} {meth : Method} {c : Code} {H : Heap} {locs : List Loc} {cells slots : Nat} {Q : State → Prop}
variable {mc ms : Nat} {free : Addr → Prop} {A0 A1 : Nat → Prop} {H0 : Heap} {a : Array Value} {ls : Array Slot} {st0 rest : List Value}
variable {Qc : Array Value → State → Outcome → State → Prop} {XC : String → State → State → Prop}
/-- what a body that may throw owes at its end -/
def vx_MQ (below : List Frame) (Qc : Array Value → State → Outcome → State → Prop) (XC : String → State → State → Prop) (a : Array Value) (s : State) (mc ms : Nat) (free : Addr → Prop) : State → Prop := fun t =>
  ∃ o, t.status = .running ∧ Ended t below o ∧ vx_Q Qc XC mc ms free a s o t
theorem vx_ret {g : JFrame} {mc ms : Nat} (k : W p l e R s m args below meth c H locs cells slots (MQ below Qc args s mc ms free) g) : W p l e R s m args below meth c H locs cells slots (vx_MQ below Qc XC args s mc ms free) g := by
  intro T hT X
  obtain ⟨t, a1, o, b1, b2, b3, b4⟩ := k T hT X
  exact ⟨t, a1, o, b1, b2, Or.inl ⟨b3, b4⟩⟩
/-- not caught here: it goes on to the caller -/
theorem vx_widen {g : JFrame} {q : Addr} {k n : Nat} (h1 : cells ≤ k) (h2 : slots ≤ n) (kk : vx_W p l e R s m args below meth c H locs k n Q g q) : vx_W p l e R s m args below meth c H locs cells slots Q g q := fun T hT X => kk T hT (stand_widen X h1 h2)
theorem vx_out {pc : Nat} {E : String} {ce : Cell} {q : Addr} {mc ms : Nat} (hout : ∀ x ∈ c.exceptionTable.toList, covers x pc = false) (hlocks : meth.locks = false) (hcell : H[q]? = some ce) (hv : ce.vm = .none) (hcl : s.vm.findClass E = some ce.cls)
    (hx : ∀ t : State, t.heap = H → s.vm.Alike t.vm → XC E s t) (hf : ∀ z ∈ locs, free z.base) (hc : cells ≤ mc) (hs : slots ≤ ms) :
    vx_W p l e R s m args below meth c H locs cells slots (vx_MQ below Qc XC args s mc ms free) (F0 m pc ls rest) q := by
  intro T hT X
  obtain ⟨st1, hrun, hend, hW, hsm⟩ := X.leaveThrown q (g := F0 m pc ls rest) rfl rfl rfl hout hlocks
  have hcell9 : (T.setFrames (.throwing q :: below)).heap[q]? = some ce := by
    show T.heap[q]? = some ce
    rw [hT]; exact hcell
  exact ⟨_, st1, .threw q, hrun, hend, Or.inr ⟨q, rfl, E, ce, locs, hx _ hT hW.alike, hcell9, hv, hcl, hW, hsm.mono hc hs, hf⟩⟩
theorem vx_frame {U : State} {k n : Nat} (h : s.sameButNew ({ U with vm := s.vm } : State) locs k n) : s.heap.size ≤ U.heap.size ∧ ∀ q : Nat, q < s.heap.size → (∀ z ∈ locs, z.base ≠ q) → U.heap[q]? = s.heap[q]? := by
  obtain ⟨-, h2, -, -, -, h6⟩ := h
  refine ⟨h2, fun q hq hz => ?_⟩
  obtain ⟨c9, e1, e2, e3, e4⟩ := h6 q _ (Array.getElem?_eq_getElem hq)
  have hs : c9.slots = (s.heap[q]).slots := Array.ext_getElem? fun i => e4 i fun hm => hz _ hm rfl
  have h9 : c9 = s.heap[q] := by
    rw [hs] at e2
    exact e2
  have e5 : U.heap[q]? = some c9 := e1
  rw [e5, h9, Array.getElem?_eq_getElem hq]
/-- the words of a throw but the four that speak of the heap -/
def vx_no (w : Cond) : Bool := decide (w ≠ .isRef (.static Bundle.tN "UNASSIGNED_STACK" Bundle.steD)) && decide (w ≠ .isRef (.static Bundle.tN "SUPPRESSED_SENTINEL" Bundle.listD)) && decide (w ≠ .laysStatic Bundle.tN "UNASSIGNED_STACK" Bundle.steD) && decide (w ≠ .laysStatic Bundle.tN "SUPPRESSED_SENTINEL" Bundle.listD)
def vx_at0 (own : String) (ic : Nat) (X : String) (names : List String) : List Cond := (Bundle.ownAtoms0 own ic X names).filter vx_no
def vx_atS (own : String) (ic : Nat) (X : String) (names : List String) : List Cond := (Bundle.ownAtoms own ic X names).filter vx_no
/-- a word that the tables alone decide, or a good one -/
def vx_ot (w : Cond) : Bool := w.onTables || goodWord w
theorem vx_ot_at {args a' : Array Value} {s U : State} {w : Cond} (hW : s.WarmedH U.vm) (hvm : s.vm = U.vm) (hg : vx_ot w = true) (h : w.before args s = true) : w.before a' U = true := by
  simp only [vx_ot, Bool.or_eq_true] at hg
  rcases hg with hg | hg
  · exact va_tabs hg hvm h
  · exact word_at hW (good_of_word hg) h
/-- a list's words: the good ones out of the method's own list, the others by premises of their own -/
theorem vx_hat {args : Array Value} {s : State} {L B : List Cond} (h1 : ∀ w ∈ L.filter goodWord, w.before args s = true) (h2 : ∀ w ∈ L.filter (fun w => !goodWord w), w ∈ B) (h3 : ∀ w ∈ B, w.before args s = true) : ∀ w ∈ L, w.before args s = true := by
  intro w hw
  by_cases g : goodWord w = true
  · exact h1 w (List.mem_filter.mpr ⟨hw, g⟩)
  · refine h3 w (h2 w (List.mem_filter.mpr ⟨hw, ?_⟩))
    show (!goodWord w) = true
    cases hgw : goodWord w
    · rfl
    · exact absurd hgw g
theorem vx_c {args : Array Value} {s : State} {w : Cond} {B : List Cond} (h : w.before args s = true) (t : ∀ w ∈ B, w.before args s = true) : ∀ w' ∈ w :: B, w'.before args s = true := fun w' h' => (List.mem_cons.mp h').elim (fun e => by rw [e]; exact h) (t w')
theorem vx_n {args : Array Value} {s : State} : ∀ w ∈ ([] : List Cond), w.before args s = true := fun _ h => nomatch h
theorem vx_own {args : Array Value} {s : State} {L : List Cond} (h1 : ∀ w ∈ L.filter vx_no, w.before args s = true)
    (hU : (Cond.isRef (.static Bundle.tN "UNASSIGNED_STACK" Bundle.steD)).before args s = true) (hN : (Cond.isRef (.static Bundle.tN "SUPPRESSED_SENTINEL" Bundle.listD)).before args s = true)
    (lU : (Cond.laysStatic Bundle.tN "UNASSIGNED_STACK" Bundle.steD).before args s = true) (lN : (Cond.laysStatic Bundle.tN "SUPPRESSED_SENTINEL" Bundle.listD).before args s = true) : ∀ w ∈ L, w.before args s = true := by
  intro w hw
  by_cases e1 : w = .isRef (.static Bundle.tN "UNASSIGNED_STACK" Bundle.steD)
  · rw [e1]; exact hU
  · by_cases e2 : w = .isRef (.static Bundle.tN "SUPPRESSED_SENTINEL" Bundle.listD)
    · rw [e2]; exact hN
    · by_cases e3 : w = .laysStatic Bundle.tN "UNASSIGNED_STACK" Bundle.steD
      · rw [e3]; exact lU
      · by_cases e4 : w = .laysStatic Bundle.tN "SUPPRESSED_SENTINEL" Bundle.listD
        · rw [e4]; exact lN
        · exact h1 w (List.mem_filter.mpr ⟨hw, by unfold vx_no; rw [decide_eq_true e1, decide_eq_true e2, decide_eq_true e3, decide_eq_true e4]; rfl⟩)
/-- where a static field lies, its class's statics cell in H -/
def vx_L (C n d : String) (A : Nat → Prop) (U : State) (H : Heap) : Prop := ∃ (c : ClassId) (k : Class) (i : Nat) (f : Field) (a : Nat) (cell : Cell), U.vm.findClass C = some c ∧ U.fieldFound? C n d = some (c, k, i, f) ∧ f.isStatic = true ∧ k.statics = some a ∧ H[a]? = some cell ∧ cell.vm.isStatics = true ∧ cell.cls = c ∧ f.slot < cell.slots.size ∧ k.staticTypes[f.slot]? = some f.type ∧ ¬ A a
theorem vx_L.moved {C n d : String} {A : Nat → Prop} {u U : State} {H : Heap} (hvm : u.vm.Alike U.vm) (h : vx_L C n d A u H) : vx_L C n d A U H := by
  obtain ⟨c, k, i, f, a, cell, h1, h2, h3, h4, h5, h6, h7, h8, h9, h10⟩ := h
  obtain ⟨k', hi', he⟩ := State.fieldFound?_setVm hvm h2
  exact ⟨c, k', i, f, a, cell, by rw [hvm.findClass]; exact h1, hi', h3, by rw [he]; exact h4, h5, h6, h7, h8, by rw [he]; exact h9, h10⟩
theorem vx_L.kept {C n d : String} {A : Nat → Prop} {U : State} {H H1 : Heap} (h : vx_L C n d A U H) (hq : ∀ a : Nat, a < H.size → ¬ A a → H1[a]? = H[a]?) : vx_L C n d A U H1 := by
  obtain ⟨c, k, i, f, a, cell, h1, h2, h3, h4, h5, h6, h7, h8, h9, h10⟩ := h
  exact ⟨c, k, i, f, a, cell, h1, h2, h3, h4, by rw [hq a (Array.getElem?_eq_some_iff.mp h5).1 h10]; exact h5, h6, h7, h8, h9, h10⟩
theorem vx_L.narrow {C n d : String} {A B : Nat → Prop} {U : State} {H : Heap} (h : vx_L C n d A U H) (hAB : ∀ q, B q → A q) : vx_L C n d B U H := by
  obtain ⟨c, k, i, f, a, cell, h1, h2, h3, h4, h5, h6, h7, h8, h9, h10⟩ := h
  exact ⟨c, k, i, f, a, cell, h1, h2, h3, h4, h5, h6, h7, h8, h9, fun z => h10 (hAB _ z)⟩
theorem vx_L.word {C n d : String} {A : Nat → Prop} {s : State} {args : Array Value} (h : vx_L C n d A s s.heap) : (Cond.laysStatic C n d).before args s = true := by
  obtain ⟨c, k, i, f, a, cell, h1, h2, h3, h4, h5, h6, h7, h8, h9, -⟩ := h
  show (Cond.laysStatic C n d).holds args s none s [] = true
  exact Cond.laysStatic_of h1 h2 h3 h4 h5 h6 h7 h8 h9
/-- .. and what it holds: null or some reference -/
def vx_Zq (C n d : String) (A : Nat → Prop) (U : State) (H : Heap) : Prop := va_Zq C n d A U H ∧ vx_L C n d A U H
theorem vx_Zq.moved {C n d : String} {A : Nat → Prop} {u U : State} {H : Heap} (hvm : u.vm.Alike U.vm) (h : vx_Zq C n d A u H) : vx_Zq C n d A U H := ⟨va_Zq.moved hvm h.1, vx_L.moved hvm h.2⟩
theorem vx_Zq.kept {C n d : String} {A : Nat → Prop} {U : State} {H H1 : Heap} (h : vx_Zq C n d A U H) (hq : ∀ a : Nat, a < H.size → ¬ A a → H1[a]? = H[a]?) : vx_Zq C n d A U H1 := ⟨va_Zq.kept h.1 hq, vx_L.kept h.2 hq⟩
theorem vx_Zq.narrow {C n d : String} {A B : Nat → Prop} {U : State} {H : Heap} (h : vx_Zq C n d A U H) (hAB : ∀ q, B q → A q) : vx_Zq C n d B U H := ⟨va_Zq.narrow h.1 hAB, vx_L.narrow h.2 hAB⟩
theorem vx_Zqof {args : Array Value} {s : State} {C n d : String} {A : Nat → Prop} (hl : (Cond.laysStatic C n d).before args s = true) (hini : (Cond.initialized C).before args s = true) (h : (Cond.isRef (.static C n d)).before args s = true) (hA : ∀ a : Nat, a < s.heap.size → ¬ A a) : vx_Zq C n d A s s.heap := by
  refine ⟨va_Zqof hl hini h hA, ?_⟩
  obtain ⟨c, k, i, f, a, cell, h1, h2, h3, h4, h5, h6, h7, h8, h9⟩ := Cond.laysStatic_spec hl
  exact ⟨c, k, i, f, a, cell, h1, h2, h3, h4, h5, h6, h7, h8, h9, hA a (Array.getElem?_eq_some_iff.mp h5).1⟩
theorem vx_isRef {C n d : String} {v : Value} {A : Nat → Prop} {s : State} {args : Array Value} (h : va_Z C n d v A s s.heap) (hv : v.isRef = true) : (Cond.isRef (.static C n d)).before args s = true := by
  obtain ⟨cf, kf, fi, f, a, cell, h1, h2, h3, h4, h5, h6, h7, -⟩ := h
  have he : (Term.static C n d).eval args s none [] s = some v := by
    simp [Term.eval, State.fieldNamed?, h1, h2, h4, h5, h6, h7]
  simp only [Cond.before, Cond.holds, Cond.value, he]
  cases v <;> simp_all [Value.isRef]
theorem vx_isRefq {C n d : String} {A : Nat → Prop} {s : State} {args : Array Value} (h : va_Zq C n d A s s.heap) : (Cond.isRef (.static C n d)).before args s = true := by
  rcases h with h | ⟨t, h⟩
  · exact vx_isRef h rfl
  · exact vx_isRef h rfl
/-- the same frame, seen from here: as if the method were called anew in this heap -/
theorem vx_rebase {T : State} (X : Stand p l e R s m args below meth c T locs cells slots) {R' : Room} (hf : R'.frames ≤ R.frames) (hl : R'.locals ≤ R.locals) (hc : cells + R'.cells ≤ R.cells) (hs : slots + R'.slots ≤ R.slots) :
    Stand p l e R' ((T.setVm s.vm).setFrames (.invoking m args :: below)) m args below meth c T [] 0 0 := by
  have htop : (T.setVm s.vm).topJava?.isSome := X.here.top
  have hF : ((T.setVm s.vm).setFrames (.invoking m args :: below)).frames = .invoking m args :: below := State.frames_setFrames _ (State.cur_lt_of_top htop)
  obtain ⟨g₀, hg0⟩ := Option.isSome_iff_exists.mp htop
  obtain ⟨r, hr⟩ := State.topJava?_eq_some.mp hg0
  have hl9 : e.platform.stackLimits (T.setVm s.vm).me = e.platform.stackLimits s.me := X.limits
  have hb9 : (T.setVm s.vm).me.stackBytes = s.me.stackBytes := X.bytes
  refine ⟨X.admits, X.cas, X.clock, hF, ?_, X.hears, X.method, X.code, X.here, X.tail, X.warmed, ?_, ?_, ?_⟩
  · have h := X.room
    have hU : ((T.setVm s.vm).setFrames (.invoking m args :: below)).localsInUse = s.localsInUse := by
      rw [State.localsInUse_invoking hF (meth := meth) (c := c) X.method X.code, State.localsInUse_invoking X.frames X.method X.code]
    simp only [State.hasRoom, Bool.and_eq_true, decide_eq_true_eq] at h ⊢
    obtain ⟨⟨⟨⟨h1, h2, h3, h4, h5, h6⟩, h7⟩, h8⟩, h9⟩ := h
    rw [X.frames, List.length_cons] at h2 h3
    have q1 := X.heapSize
    have q2 := X.used
    simp only [hF, hU, List.length_cons, State.stackLimits_setFrames, State.stackBytes_setFrames, hl9, hb9]
    refine ⟨⟨⟨⟨by omega, by omega, by omega, by omega, by omega, h6⟩, ?_⟩, ?_⟩, X.book⟩
    · show T.heap.size + R'.cells ≤ e.platform.maxCells
      omega
    · show T.slotsUsed + R'.slots ≤ e.platform.maxSlots
      omega
  · rw [State.stackLimits_setFrames]; rfl
  · rw [State.stackBytes_setFrames]; rfl
  · refine ⟨?_, Nat.le_refl _, Nat.le_refl _, ?_, ?_, fun a c9 h9 => ⟨c9, h9, rfl, rfl, fun _ _ => rfl⟩⟩
    · obtain ⟨t, ht, -⟩ := State.frames_cons hr
      show T.setVm s.vm = { ((T.setVm s.vm).setFrames (.invoking m args :: below)).setFrames (T.setVm s.vm).frames with heap := T.heap, slotsUsed := T.slotsUsed }
      rw [State.setFrames_setFrames, State.setFrames_self ht]
      rfl
    · show T.slotsUsed = T.slotsUsed + ((T.heap.toList.drop T.heap.size).map (·.slots.size)).sum
      rw [List.drop_eq_nil_of_le (Nat.le_of_eq Array.length_toList)]
      rfl
    · show ((T.heap.toList.drop T.heap.size).map (·.slots.size)).sum ≤ 0
      rw [List.drop_eq_nil_of_le (Nat.le_of_eq Array.length_toList)]
      exact Nat.le_refl _
/-- 'throw new E()': new; dup; invokespecial; athrow -/
theorem vx_throw0 {cc : ByteArray} {pc : Nat} (hexec : p.tables.exec = Jvm.exec) (hb : c.code = cc) (hl : l.stackTraces = false) {own cls : String} {names : List String} {ik ic mc ms : Nat} {A : Nat → Prop}
    (hown : s.vm.findClass own = some m.cls) (hcls : Bundle.fit cls = true) (hnames : ∀ n ∈ names, Bundle.fit n = true)
    (hk : (Cond.classLink own ik cls).before args s = true) (hini : (Cond.initialized cls).before args s = true) (hat : ∀ w ∈ vx_at0 own ic cls names, w.before args s = true)
    (hgood : ∀ w ∈ Cond.classLink own ik cls :: Cond.initialized cls :: vx_at0 own ic cls names, vx_ot w = true)
    (hU : vx_Zq Bundle.tN "UNASSIGNED_STACK" Bundle.steD A s s.heap) (hN : vx_Zq Bundle.tN "SUPPRESSED_SENTINEL" Bundle.listD A s s.heap) (hS : va_S A s.heap H locs) (hsize : ls.size = c.maxLocals)
    (d0 : decode cc pc = .ok (.new ik, 3)) (d3 : decode cc (pc + 3) = .ok (.dup, 1)) (d4 : decode cc (pc + 4) = .ok (.invokespecial ic, 3)) (d7 : decode cc (pc + 7) = .ok (.athrow, 1))
    (hout : ∀ x ∈ c.exceptionTable.toList, covers x (pc + 7) = false)
    (hRframes : names.length + 3 < R.frames) (hRlocals : (rest.map fun v => v.category).sum + (13 * (names.length + 1) + 42) ≤ R.locals) (hRcells : cells + 1 ≤ R.cells) (hRslots : slots + 6 ≤ R.slots) (hlocks : meth.locks = false)
    (hx : ∀ t : State, s.vm.Alike t.vm → H.size ≤ t.heap.size → (∀ q : Nat, q < H.size → t.heap[q]? = H[q]?) → XC cls s t)
    (hf : ∀ z ∈ locs, free z.base) (hc : cells + 1 ≤ mc) (hs : slots + 6 ≤ ms) :
    W p l e R s m args below meth c H locs cells slots (vx_MQ below Qc XC args s mc ms free) (F0 m pc ls rest) := by
  intro T hT X
  have htr : e.platform.stackTraces = false := (show e.platform.stackTraces = l.stackTraces by rw [X.admits.platform]).trans hl
  have Y := vx_rebase X (R' := { frames := R.frames, locals := R.locals, cells := 1, slots := 6 }) (Nat.le_refl _) (Nat.le_refl _) hRcells hRslots
  obtain ⟨s', hA⟩ : ∃ z, z = (T.setVm s.vm).setFrames (.invoking m args :: below) := ⟨_, rfl⟩
  rw [← hA] at Y
  have hvm : s'.vm = s.vm := by rw [hA]; rfl
  have hhp : s'.heap = H := by rw [hA]; exact hT
  have hW0 : s.WarmedH s'.vm := by rw [hvm]; exact State.WarmedH.refl s
  have hat' : ∀ w ∈ vx_at0 own ic cls names, w.before args s' = true := fun w hw => vx_ot_at hW0 hvm.symm (hgood w (List.mem_cons_of_mem _ (List.mem_cons_of_mem _ hw))) (hat w hw)
  have hk' : (Cond.classLink own ik cls).before args s' = true := vx_ot_at hW0 hvm.symm (hgood _ List.mem_cons_self) hk
  have hini' : (Cond.initialized cls).before args s' = true := vx_ot_at hW0 hvm.symm (hgood _ (List.mem_cons_of_mem _ List.mem_cons_self)) hini
  have hU' : vx_Zq Bundle.tN "UNASSIGNED_STACK" Bundle.steD A s' s'.heap := by rw [hhp]; exact vx_Zq.moved hW0.alike (hU.kept hS.2.1)
  have hN' : vx_Zq Bundle.tN "SUPPRESSED_SENTINEL" Bundle.listD A s' s'.heap := by rw [hhp]; exact vx_Zq.moved hW0.alike (hN.kept hS.2.1)
  have h : ∀ w ∈ Bundle.ownAtoms0 own ic cls names, w.before args s' = true := vx_own hat' (vx_isRefq hU'.1) (vx_isRefq hN'.1) hU'.2.word hN'.2.word
  have hown' : s'.vm.findClass own = some m.cls := by rw [hvm]; exact hown
  have hins : (Cond.instantiable cls 6).before args s' = true := h _ (by simp [Bundle.ownAtoms0])
  obtain ⟨vm₁, cX, kX, hfX, hkX, -, -, X₁, st1⟩ := Y.newCold hexec (own := own) (C := cls) (index := ik) (n := 6) hown' hk' hins hini'
    (g := F0 m pc ls rest) rfl (by rw [hb]; exact d0) (Nat.le_refl _) (Nat.le_refl _)
  generalize hT1 : (T.setVm vm₁).pushCell { cls := cX, slots := kX.instanceTypes.map defaultValue, vm := .none } = T1 at X₁ st1
  have hcat : (Value.ref T.heap.size).category = 1 := rfl
  have hcellA : T1.heap[T.heap.size]? = some (freshCell cX kX) := by rw [← hT1]; exact State.heap_pushCell_size _ _
  have d3' : decode c.code (pc + 3) = .ok (.dup, 1) := by rw [hb]; exact d3
  obtain ⟨U, hsteps, hrun, hend, hW, hsame, ce, hce, hO⟩ := X₁.ctorThrow0 hexec htr (own := own) (cls := cls) (names := names) (ic := ic) hown' hcls hnames h (fun x hx => nomatch hx) hfX hkX hcellA (by rw [hhp, hT]; exact Nat.le_refl _)
    (g := { method := m, pc := pc + 4, locals := ls, stack := .ref T.heap.size :: .ref T.heap.size :: rest, locked := none }) rfl hsize rfl rfl (rest := rest) rfl
    (by rw [hb]; exact d4) (by rw [hb]; exact d7) hout hRframes (by simp only [List.map_cons, List.sum_cons, hcat]; omega) hlocks
  obtain ⟨f1, f2⟩ := vx_frame hsame
  rw [hhp] at f1 f2
  have hWs : s.WarmedH U.vm := State.WarmedH.trans hW0 hW
  have hcl : s.vm.findClass cls = some ce.cls := by
    have h9 := hO.cls
    rw [hvm] at h9
    exact h9
  have hall : s.sameButNew ({ U with vm := s.vm } : State) locs mc ms := by
    subst hA
    obtain ⟨e1, e2⟩ := hsame
    rw [State.setFrames_setFrames] at e1
    have h2 : (T.setVm s.vm).sameButNew ({ U with vm := s.vm } : State) [] (0 + 1) (0 + 6) := ⟨e1, e2⟩
    have h3 := X.same.trans h2
    rw [List.append_nil] at h3
    exact h3.mono hc hs
  refine ⟨U, ?_, .threw T.heap.size, hrun, hend, Or.inr ⟨T.heap.size, rfl, cls, ce, locs, hx U hWs.alike f1 (fun q hq => f2 q hq (fun z hz => nomatch hz)), hce, hO.vm, hcl, hWs, hall, hf⟩⟩
  refine st1 _ ?_
  show Steps p.tables e below (T1.setTop { method := m, pc := pc + 3, locals := ls, stack := .ref T.heap.size :: rest, locked := none }) _
  jvm_step X₁.here [X₁.here.top, hexec, d3', Value.category]
  exact hsteps
/-- 'throw new E("text")': new; dup; ldc; invokespecial; athrow -/
theorem vx_throwS {cc : ByteArray} {pc : Nat} (hexec : p.tables.exec = Jvm.exec) (hb : c.code = cc) (hl : l.stackTraces = false) {own cls text : String} {names : List String} {ik is ic mc ms sa : Nat} {A : Nat → Prop}
    (hown : s.vm.findClass own = some m.cls) (hcls : Bundle.fit cls = true) (hnames : ∀ n ∈ names, Bundle.fit n = true)
    (hk : (Cond.classLink own ik cls).before args s = true) (hini : (Cond.initialized cls).before args s = true) (hstr : vk_R own is text sa s) (hat : ∀ w ∈ vx_atS own ic cls names, w.before args s = true)
    (hgood : ∀ w ∈ Cond.classLink own ik cls :: Cond.initialized cls :: vx_atS own ic cls names, vx_ot w = true)
    (hU : vx_Zq Bundle.tN "UNASSIGNED_STACK" Bundle.steD A s s.heap) (hN : vx_Zq Bundle.tN "SUPPRESSED_SENTINEL" Bundle.listD A s s.heap) (hS : va_S A s.heap H locs) (hsize : ls.size = c.maxLocals)
    (d0 : decode cc pc = .ok (.new ik, 3)) (d3 : decode cc (pc + 3) = .ok (.dup, 1)) (d4 : decode cc (pc + 4) = .ok (.ldc is, 2)) (d6 : decode cc (pc + 6) = .ok (.invokespecial ic, 3)) (d9 : decode cc (pc + 9) = .ok (.athrow, 1))
    (hout : ∀ x ∈ c.exceptionTable.toList, covers x (pc + 9) = false)
    (hRframes : names.length + 3 < R.frames) (hRlocals : (rest.map fun v => v.category).sum + (13 * (names.length + 1) + 43) ≤ R.locals) (hRcells : cells + 1 ≤ R.cells) (hRslots : slots + 6 ≤ R.slots) (hlocks : meth.locks = false)
    (hx : ∀ t : State, s.vm.Alike t.vm → H.size ≤ t.heap.size → (∀ q : Nat, q < H.size → t.heap[q]? = H[q]?) → XC cls s t)
    (hf : ∀ z ∈ locs, free z.base) (hc : cells + 1 ≤ mc) (hs : slots + 6 ≤ ms) :
    W p l e R s m args below meth c H locs cells slots (vx_MQ below Qc XC args s mc ms free) (F0 m pc ls rest) := by
  intro T hT X
  have htr : e.platform.stackTraces = false := (show e.platform.stackTraces = l.stackTraces by rw [X.admits.platform]).trans hl
  have Y := vx_rebase X (R' := { frames := R.frames, locals := R.locals, cells := 1, slots := 6 }) (Nat.le_refl _) (Nat.le_refl _) hRcells hRslots
  obtain ⟨s', hA⟩ : ∃ z, z = (T.setVm s.vm).setFrames (.invoking m args :: below) := ⟨_, rfl⟩
  rw [← hA] at Y
  have hvm : s'.vm = s.vm := by rw [hA]; rfl
  have hhp : s'.heap = H := by rw [hA]; exact hT
  have hW0 : s.WarmedH s'.vm := by rw [hvm]; exact State.WarmedH.refl s
  have hat' : ∀ w ∈ vx_atS own ic cls names, w.before args s' = true := fun w hw => vx_ot_at hW0 hvm.symm (hgood w (List.mem_cons_of_mem _ (List.mem_cons_of_mem _ hw))) (hat w hw)
  have hk' : (Cond.classLink own ik cls).before args s' = true := vx_ot_at hW0 hvm.symm (hgood _ List.mem_cons_self) hk
  have hini' : (Cond.initialized cls).before args s' = true := vx_ot_at hW0 hvm.symm (hgood _ (List.mem_cons_of_mem _ List.mem_cons_self)) hini
  have hU' : vx_Zq Bundle.tN "UNASSIGNED_STACK" Bundle.steD A s' s'.heap := by rw [hhp]; exact vx_Zq.moved hW0.alike (hU.kept hS.2.1)
  have hN' : vx_Zq Bundle.tN "SUPPRESSED_SENTINEL" Bundle.listD A s' s'.heap := by rw [hhp]; exact vx_Zq.moved hW0.alike (hN.kept hS.2.1)
  have h : ∀ w ∈ Bundle.ownAtoms own ic cls names, w.before args s' = true := vx_own hat' (vx_isRefq hU'.1) (vx_isRefq hN'.1) hU'.2.word hN'.2.word
  have hown' : s'.vm.findClass own = some m.cls := by rw [hvm]; exact hown
  have hins : (Cond.instantiable cls 6).before args s' = true := h _ (by simp [Bundle.ownAtoms])
  obtain ⟨vm₁, cX, kX, hfX, hkX, -, -, X₁, st1⟩ := Y.newCold hexec (own := own) (C := cls) (index := ik) (n := 6) hown' hk' hins hini'
    (g := F0 m pc ls rest) rfl (by rw [hb]; exact d0) (Nat.le_refl _) (Nat.le_refl _)
  generalize hT1 : (T.setVm vm₁).pushCell { cls := cX, slots := kX.instanceTypes.map defaultValue, vm := .none } = T1 at X₁ st1
  have hcat : (Value.ref T.heap.size).category = 1 := rfl
  have hcellA : T1.heap[T.heap.size]? = some (freshCell cX kX) := by rw [← hT1]; exact State.heap_pushCell_size _ _
  have d3' : decode c.code (pc + 3) = .ok (.dup, 1) := by rw [hb]; exact d3
  have d4' : decode c.code (pc + 4) = .ok (.ldc is, 2) := by rw [hb]; exact d4
  have hstr' : vk_R own is text sa s' := vk_R.warm hW0 hstr
  obtain ⟨U, hsteps, hrun, hend, hW, hsame, ce, hce, hO⟩ := X₁.ctorThrowS hexec htr (own := own) (cls := cls) (names := names) (ic := ic) hown' hcls hnames h (fun x hx => nomatch hx) hfX hkX hcellA (by rw [hhp, hT]; exact Nat.le_refl _) (msg := .ref sa) rfl
    (g := { method := m, pc := pc + 6, locals := ls, stack := .ref sa :: .ref T.heap.size :: .ref T.heap.size :: rest, locked := none }) rfl hsize rfl rfl (rest := rest) rfl
    (by rw [hb]; exact d6) (by rw [hb]; exact d9) hout hRframes (by simp only [List.map_cons, List.sum_cons, hcat]; omega) hlocks
  obtain ⟨f1, f2⟩ := vx_frame hsame
  rw [hhp] at f1 f2
  have hWs : s.WarmedH U.vm := State.WarmedH.trans hW0 hW
  have hcl : s.vm.findClass cls = some ce.cls := by
    have h9 := hO.cls
    rw [hvm] at h9
    exact h9
  have hall : s.sameButNew ({ U with vm := s.vm } : State) locs mc ms := by
    subst hA
    obtain ⟨e1, e2⟩ := hsame
    rw [State.setFrames_setFrames] at e1
    have h2 : (T.setVm s.vm).sameButNew ({ U with vm := s.vm } : State) [] (0 + 1) (0 + 6) := ⟨e1, e2⟩
    have h3 := X.same.trans h2
    rw [List.append_nil] at h3
    exact h3.mono hc hs
  refine ⟨U, ?_, .threw T.heap.size, hrun, hend, Or.inr ⟨T.heap.size, rfl, cls, ce, locs, hx U hWs.alike f1 (fun q hq => f2 q hq (fun z hz => nomatch hz)), hce, hO.vm, hcl, hWs, hall, hf⟩⟩
  refine st1 _ ?_
  show Steps p.tables e below (T1.setTop { method := m, pc := pc + 3, locals := ls, stack := .ref T.heap.size :: rest, locked := none }) _
  jvm_step X₁.here [X₁.here.top, hexec, d3', Value.category]
  exact X₁.ldcString hexec (own := own) (text := text) (index := is) (a := sa) hown' hstr'.1 hstr'.2
    (g := { method := m, pc := pc + 4, locals := ls, stack := .ref T.heap.size :: .ref T.heap.size :: rest, locked := none }) rfl d4' _ hsteps
/-- 'throw new E("text")', the text by a wide index -/
theorem vx_throwSW {cc : ByteArray} {pc : Nat} (hexec : p.tables.exec = Jvm.exec) (hb : c.code = cc) (hl : l.stackTraces = false) {own cls text : String} {names : List String} {ik is ic mc ms sa : Nat} {A : Nat → Prop}
    (hown : s.vm.findClass own = some m.cls) (hcls : Bundle.fit cls = true) (hnames : ∀ n ∈ names, Bundle.fit n = true)
    (hk : (Cond.classLink own ik cls).before args s = true) (hini : (Cond.initialized cls).before args s = true) (hstr : vk_R own is text sa s) (hat : ∀ w ∈ vx_atS own ic cls names, w.before args s = true)
    (hgood : ∀ w ∈ Cond.classLink own ik cls :: Cond.initialized cls :: vx_atS own ic cls names, vx_ot w = true)
    (hU : vx_Zq Bundle.tN "UNASSIGNED_STACK" Bundle.steD A s s.heap) (hN : vx_Zq Bundle.tN "SUPPRESSED_SENTINEL" Bundle.listD A s s.heap) (hS : va_S A s.heap H locs) (hsize : ls.size = c.maxLocals)
    (d0 : decode cc pc = .ok (.new ik, 3)) (d3 : decode cc (pc + 3) = .ok (.dup, 1)) (d4 : decode cc (pc + 4) = .ok (.ldc_w is, 3)) (d7 : decode cc (pc + 7) = .ok (.invokespecial ic, 3)) (d10 : decode cc (pc + 10) = .ok (.athrow, 1))
    (hout : ∀ x ∈ c.exceptionTable.toList, covers x (pc + 10) = false)
    (hRframes : names.length + 3 < R.frames) (hRlocals : (rest.map fun v => v.category).sum + (13 * (names.length + 1) + 43) ≤ R.locals) (hRcells : cells + 1 ≤ R.cells) (hRslots : slots + 6 ≤ R.slots) (hlocks : meth.locks = false)
    (hx : ∀ t : State, s.vm.Alike t.vm → H.size ≤ t.heap.size → (∀ q : Nat, q < H.size → t.heap[q]? = H[q]?) → XC cls s t)
    (hf : ∀ z ∈ locs, free z.base) (hc : cells + 1 ≤ mc) (hs : slots + 6 ≤ ms) :
    W p l e R s m args below meth c H locs cells slots (vx_MQ below Qc XC args s mc ms free) (F0 m pc ls rest) := by
  intro T hT X
  have htr : e.platform.stackTraces = false := (show e.platform.stackTraces = l.stackTraces by rw [X.admits.platform]).trans hl
  have Y := vx_rebase X (R' := { frames := R.frames, locals := R.locals, cells := 1, slots := 6 }) (Nat.le_refl _) (Nat.le_refl _) hRcells hRslots
  obtain ⟨s', hA⟩ : ∃ z, z = (T.setVm s.vm).setFrames (.invoking m args :: below) := ⟨_, rfl⟩
  rw [← hA] at Y
  have hvm : s'.vm = s.vm := by rw [hA]; rfl
  have hhp : s'.heap = H := by rw [hA]; exact hT
  have hW0 : s.WarmedH s'.vm := by rw [hvm]; exact State.WarmedH.refl s
  have hat' : ∀ w ∈ vx_atS own ic cls names, w.before args s' = true := fun w hw => vx_ot_at hW0 hvm.symm (hgood w (List.mem_cons_of_mem _ (List.mem_cons_of_mem _ hw))) (hat w hw)
  have hk' : (Cond.classLink own ik cls).before args s' = true := vx_ot_at hW0 hvm.symm (hgood _ List.mem_cons_self) hk
  have hini' : (Cond.initialized cls).before args s' = true := vx_ot_at hW0 hvm.symm (hgood _ (List.mem_cons_of_mem _ List.mem_cons_self)) hini
  have hU' : vx_Zq Bundle.tN "UNASSIGNED_STACK" Bundle.steD A s' s'.heap := by rw [hhp]; exact vx_Zq.moved hW0.alike (hU.kept hS.2.1)
  have hN' : vx_Zq Bundle.tN "SUPPRESSED_SENTINEL" Bundle.listD A s' s'.heap := by rw [hhp]; exact vx_Zq.moved hW0.alike (hN.kept hS.2.1)
  have h : ∀ w ∈ Bundle.ownAtoms own ic cls names, w.before args s' = true := vx_own hat' (vx_isRefq hU'.1) (vx_isRefq hN'.1) hU'.2.word hN'.2.word
  have hown' : s'.vm.findClass own = some m.cls := by rw [hvm]; exact hown
  have hins : (Cond.instantiable cls 6).before args s' = true := h _ (by simp [Bundle.ownAtoms])
  obtain ⟨vm₁, cX, kX, hfX, hkX, -, -, X₁, st1⟩ := Y.newCold hexec (own := own) (C := cls) (index := ik) (n := 6) hown' hk' hins hini'
    (g := F0 m pc ls rest) rfl (by rw [hb]; exact d0) (Nat.le_refl _) (Nat.le_refl _)
  generalize hT1 : (T.setVm vm₁).pushCell { cls := cX, slots := kX.instanceTypes.map defaultValue, vm := .none } = T1 at X₁ st1
  have hcat : (Value.ref T.heap.size).category = 1 := rfl
  have hcellA : T1.heap[T.heap.size]? = some (freshCell cX kX) := by rw [← hT1]; exact State.heap_pushCell_size _ _
  have d3' : decode c.code (pc + 3) = .ok (.dup, 1) := by rw [hb]; exact d3
  have d4' : decode c.code (pc + 4) = .ok (.ldc_w is, 3) := by rw [hb]; exact d4
  have hstr' : vk_R own is text sa s' := vk_R.warm hW0 hstr
  obtain ⟨U, hsteps, hrun, hend, hW, hsame, ce, hce, hO⟩ := X₁.ctorThrowS hexec htr (own := own) (cls := cls) (names := names) (ic := ic) hown' hcls hnames h (fun x hx => nomatch hx) hfX hkX hcellA (by rw [hhp, hT]; exact Nat.le_refl _) (msg := .ref sa) rfl
    (g := { method := m, pc := pc + 7, locals := ls, stack := .ref sa :: .ref T.heap.size :: .ref T.heap.size :: rest, locked := none }) rfl hsize rfl rfl (rest := rest) rfl
    (by rw [hb]; exact d7) (by rw [hb]; exact d10) hout hRframes (by simp only [List.map_cons, List.sum_cons, hcat]; omega) hlocks
  obtain ⟨f1, f2⟩ := vx_frame hsame
  rw [hhp] at f1 f2
  have hWs : s.WarmedH U.vm := State.WarmedH.trans hW0 hW
  have hcl : s.vm.findClass cls = some ce.cls := by
    have h9 := hO.cls
    rw [hvm] at h9
    exact h9
  have hall : s.sameButNew ({ U with vm := s.vm } : State) locs mc ms := by
    subst hA
    obtain ⟨e1, e2⟩ := hsame
    rw [State.setFrames_setFrames] at e1
    have h2 : (T.setVm s.vm).sameButNew ({ U with vm := s.vm } : State) [] (0 + 1) (0 + 6) := ⟨e1, e2⟩
    have h3 := X.same.trans h2
    rw [List.append_nil] at h3
    exact h3.mono hc hs
  refine ⟨U, ?_, .threw T.heap.size, hrun, hend, Or.inr ⟨T.heap.size, rfl, cls, ce, locs, hx U hWs.alike f1 (fun q hq => f2 q hq (fun z hz => nomatch hz)), hce, hO.vm, hcl, hWs, hall, hf⟩⟩
  refine st1 _ ?_
  show Steps p.tables e below (T1.setTop { method := m, pc := pc + 3, locals := ls, stack := .ref T.heap.size :: rest, locked := none }) _
  jvm_step X₁.here [X₁.here.top, hexec, d3', Value.category]
  exact X₁.ldcStringW hexec (own := own) (text := text) (index := is) (a := sa) hown' hstr'.1 hstr'.2
    (g := { method := m, pc := pc + 4, locals := ls, stack := .ref T.heap.size :: .ref T.heap.size :: rest, locked := none }) rfl d4' _ hsteps
end Ends
section Bodies
variable {l : Launch}
theorem vx_ofW {y : MethodName} {ws ws' : List Cond} {rm : Room} {Pc : Array Value → State → Prop} {Qc : Array Value → State → Outcome → State → Prop} {XC : String → State → State → Prop} {mc ms : Nat} {free : Addr → Prop} {cc : ByteArray} {maxL : Nat} {ret : Option FieldType}
    (hy : plainName y.cls = true) (hw : ws = Cond.code y cc maxL ret :: ws')
    (body : ∀ p e s m args below meth c s₁, BodyLoose p l y (headSpec ws rm) cc maxL ret e s m args below meth c s₁ → c.maxLocals = maxL → (∀ x ∈ c.exceptionTable.toList, False) → Pc args s →
      W p l e (headSpec ws rm).room s m args below meth c s.heap [] 0 0 (vx_MQ below Qc XC args s mc ms free) (entryFrame m args maxL)) : vx_Met l y ws rm Pc Qc XC mc ms free := by
  refine MetFree.of_bodyS (code := cc) (maxLocals := maxL) (ret := ret) hy ?_ ?_
  · intro args s m h hn
    obtain ⟨meth, c, h1, h2, h3, h4, h5, h6, -, -⟩ := Cond.code_spec hn (atoms_spec (ws := ws) h _ (by rw [hw]; exact List.mem_cons_self))
    exact ⟨meth, c, h1, h2, h3, h4, h5, h6⟩
  · intro p e s m args below meth c s₁ B hml hP _
    have hh0 : s₁.heap = s.heap := by rw [B.state]; rfl
    have ht : ∀ x ∈ c.exceptionTable.toList, False := by
      obtain ⟨meth9, c9, h1, h2, -, -, -, -, h7, -⟩ := Cond.code_spec B.named (atoms_spec (ws := ws) B.pre _ (by rw [hw]; exact List.mem_cons_self))
      cases Option.some.inj (h1.symm.trans B.method)
      cases Option.some.inj (h2.symm.trans (Stand.of_body B).code)
      intro x hx
      rw [Array.isEmpty_iff.mp h7] at hx
      cases hx
    obtain ⟨t, a1, o, b1, b2, b3⟩ := body p e s m args below meth c s₁ B hml ht hP s₁ hh0 (Stand.of_body B)
    exact ⟨t, o, a1, b1, b2, b3⟩
/-- the table of a body with handlers -/
theorem vx_table {p : Program} {x y : MethodName} {S : Spec} {cc bytes : ByteArray} {maxL maxL' : Nat} {ret ret' : Option FieldType} {e : Env} {s s₁ : State} {m : MethodId} {args : Array Value} {below : List Frame} {meth : Method} {c : Code} {hh : List (Nat × Nat × Nat × Nat)}
    (B : BodyLoose p l y S cc maxL ret e s m args below meth c s₁) (h : (Cond.codeWith y bytes maxL' ret' hh).before args s = true) : c.exceptionTable.toList = tableOf hh := by
  obtain ⟨m9, meth9, c9, hn9, h1, h2, -, -, h6, -⟩ := Cond.codeWith_spec h
  cases Option.some.inj (hn9.symm.trans B.named)
  cases Option.some.inj (h1.symm.trans B.method)
  cases Option.some.inj (h2.symm.trans (Stand.of_body B).code)
  rw [← h6, table_eq]
end Bodies
end VXA
/-! ===== END ===== -/
/-! ===== BEGIN a static call of a method with an exception table ===== -/
section VXS
variable {p : Program} {l : Launch} {e : Env} {R : Room} {s : State} {m : MethodId} {args : Array Value} {below : List Frame} {meth : Method} {c : Code} {T : State} {H : Heap} {locs : List Loc} {cells slots : Nat}
abbrev vx_CSW (R : Room) (s : State) (args : Array Value) (own : String) (index : Nat) (y : MethodName) (bytes : ByteArray) (maxL : Nat) (ret : Option FieldType) (hh : List (Nat × Nat × Nat × Nat)) (ws : List Cond) (rm : Room) (mc ms n : Nat) : Prop :=
  (rm.cells = mc ∧ rm.slots = ms ∧ rm.frames + 1 ≤ R.frames ∧ 8 + (maxL + 11) + rm.locals ≤ R.locals ∧ (∀ w ∈ ws, ∀ (a' : Array Value) (U : State), s.WarmedH U.vm → w.before a' U = true) ∧ Cond.codeWith y bytes maxL ret hh ∈ ws) ∧
  (Cond.codeWith y bytes maxL ret hh).before args s = true ∧ (Cond.initialized y.cls).before args s = true ∧ (y.cls ≠ "java/lang/invoke/MethodHandle" ∧ y.cls ≠ "java/lang/invoke/VarHandle") ∧
  (∀ sig, parseMethodDescriptor y.desc = some sig → n = sig.parameters.length) ∧ (Cond.methodLink own index y).before args s = true ∧ (Cond.static y).before args s = true
theorem vx_cwSW {own : String} {index maxL mc ms : Nat} {y : MethodName} {bytes : ByteArray} {ret : Option FieldType} {hh : List (Nat × Nat × Nat × Nat)} {Ts ws ws' : List Cond} {rm : Room} (n : Nat) (ht : ∀ w ∈ Ts, w.before args s = true) (hT : GoodIn Ts (va_wsS own index y ws)) (hw : ws = Cond.codeWith y bytes maxL ret hh :: ws') (hrc : rm.cells = mc) (hrs : rm.slots = ms)
    (hd : y.cls ≠ "java/lang/invoke/MethodHandle" ∧ y.cls ≠ "java/lang/invoke/VarHandle" ∧ (parseMethodDescriptor y.desc).map (fun d => d.parameters.length) = some n) (hR : rm.frames + 1 ≤ R.frames ∧ 8 + (maxL + 11) + rm.locals ≤ R.locals) :
    vx_CSW R s args own index y bytes maxL ret hh ws rm mc ms n := by
  have ok : ∀ w ∈ va_wsS own index y ws, w.before args s = true := fun w h => ht w (hT w h).1
  have hG : GoodIn Ts ws := fun w h => hT w (by unfold va_wsS; exact List.mem_append_right _ h)
  have hc : Cond.codeWith y bytes maxL ret hh ∈ ws := by rw [hw]; exact List.mem_cons_self
  refine ⟨⟨hrc, hrs, hR.1, hR.2, pay_in ht hG, hc⟩, ht _ (hG _ hc).1, ok _ (by simp [va_wsS]), ⟨hd.1, hd.2.1⟩, fun sig h => ?_, ok _ (by simp [va_wsS]), ok _ (by simp [va_wsS])⟩
  have h2 := hd.2.2
  rw [h] at h2
  exact (Option.some.inj h2).symm
theorem vx_callSW (X : Stand p l e R s m args below meth c T locs cells slots) (hexec : p.tables.exec = Jvm.exec) {own : String} {index : Nat} {y : MethodName} {bytes : ByteArray} {maxL : Nat} {ret : Option FieldType} {hh : List (Nat × Nat × Nat × Nat)}
    (hown : s.vm.findClass own = some m.cls) (hlink : (Cond.methodLink own index y).before args s = true) (hstat : (Cond.static y).before args s = true) (hinit : (Cond.initialized y.cls).before args s = true)
    (hcode : (Cond.codeWith y bytes maxL ret hh).before args s = true) (hy : y.cls ≠ "java/lang/invoke/MethodHandle" ∧ y.cls ≠ "java/lang/invoke/VarHandle")
    {W9 : Nat} {Pre : Pt → Array Value → Prop} {Post : Pt → Array Value → Option Value → Pt → Prop} (hK : Back l R p e below s args y 3 W9 Pre Post)
    {g : JFrame} (hg : g.method = m) (hsize : g.locals.size = c.maxLocals) {argsL rest : List Value} (hlen : ∀ sig, parseMethodDescriptor y.desc = some sig → argsL.length = sig.parameters.length)
    (hstack : g.stack = argsL.reverse ++ rest) (hW : 2 * g.monitorRoom + (rest.map fun v => v.category).sum ≤ W9) (hdg : decode c.code g.pc = .ok (.invokestatic index, 3))
    (hpre : ∀ vm₁, s.WarmedH vm₁ → Pre ⟨T.setVm vm₁, locs, cells, slots⟩ argsL.toArray) :
    ∃ (v : Option Value) (vm₁ : Vm) (B : Pt), s.WarmedH vm₁ ∧ Stand p l e R s m args below meth c B.U B.locs B.cells B.slots ∧ Post ⟨T.setVm vm₁, locs, cells, slots⟩ argsL.toArray v B ∧
      ∀ target, Steps p.tables e below (B.U.setTop { g with pc := g.pc + 3, stack := v.toList ++ rest }) target → Steps p.tables e below (T.setTop g) target := by
  obtain ⟨mk, methM, cM, hnamed, hmethM, -, -, -, -, -, -, hsigM⟩ := Cond.codeWith_spec hcode
  have hstatic : methM.isStatic = true := Cond.static_spec hnamed hmethM hstat
  obtain ⟨kP, hkP, -⟩ := className_of_methodNamed hnamed
  have hinitP : kP.init = .initialized := Cond.initialized_spec (findClass_of_methodNamed hnamed) hkP hinit
  obtain ⟨vm₁, X₁, hstep₁⟩ := X.invokestatic hexec hown hlink hnamed hmethM hstatic hkP hinitP hy (g := g) hg (argsL := argsL) (rest := rest) (hlen _ hsigM) hstack hdg
  obtain ⟨v, B, X', hpost, hsteps⟩ := hK m meth c ⟨T.setVm vm₁, locs, cells, slots⟩ { g with stack := rest } (.invokestatic index) mk argsL.toArray X₁ hg hsize hdg hW (X₁.named hnamed) (hpre vm₁ X₁.warmed)
  exact ⟨v, vm₁, B, X₁.warmed, X', hpost, fun target h => hstep₁ _ fun acts => by rw [doInvoke_state]; exact hsteps.trans h⟩
theorem vx_runSW {y : MethodName} {bytes cc : ByteArray} {maxL nL mc ms n index : Nat} {ret : Option FieldType} {hh : List (Nat × Nat × Nat × Nat)} {ws : List Cond} {rm : Room} {Pc : Array Value → State → Prop} {Qc : Array Value → State → Outcome → State → Prop} {free : Addr → Prop} {Ts : List Cond} {own : String} {As rest : List Value} {g : JFrame}
    (S : CallFix p m c cc nL s args Ts own) (hM : Met l y ws rm Pc Qc mc ms free) (cw : vx_CSW R s args own index y bytes maxL ret hh ws rm mc ms n) (hp : PreS s H Pc As)
    (hg : g.method = m) (hn : As.length = n) (hsize : g.locals.size = nL) (hstack : g.stack = As.reverse ++ rest) (hW : 2 * g.monitorRoom + (rest.map fun v => v.category).sum ≤ 8) (hdg : decode cc g.pc = .ok (.invokestatic index, 3)) (hf : cells + mc ≤ R.cells ∧ slots + ms ≤ R.slots) :
    va_Run p l e R s m args below meth c H locs cells slots mc ms g rest (Qc As.toArray) (free) := by
  obtain ⟨⟨hrc, hrs, hfr, hlo, hws, hcw⟩, hcode, hini, hy, hlen, hl, hstt⟩ := cw
  have hK : Back l R p e below s args y 3 8 (PreOf R mc ms Pc) (PostOf Qc mc ms free) := va_backW (hh := hh) (bytes := bytes) (maxL := maxL) (ret := ret) hM hp.1 hrc hrs hfr hlo hws hcw (fun a' U hW => word_at hW (Or.inl (by first | rfl | simp [Cond.onTables, Cond.keeps, Cond.steady])) hini)
  obtain ⟨hx, hb, hml, ho, -⟩ := S
  intro T hT X
  obtain ⟨v, vm₁, ⟨U', l2, c2, s2⟩, hW₁, X', ⟨g', mk, t, L, e1, e2, hq, h1, hL, h2, h3⟩, st⟩ := vx_callSW X hx (hh := hh) (bytes := bytes) (maxL := maxL) (ret := ret) ho hl hstt hini hcode hy hK hg (hsize.trans hml.symm) (argsL := As) (rest := rest) (fun sig h => hn.trans (hlen sig h)) hstack hW (by rw [hb]; exact hdg)
    (fun vm₁ hW₁ => ⟨hf.1, hf.2, hp.2 (T.setVm vm₁) hT hW₁⟩)
  dsimp only [Pt.U, Pt.locs, Pt.cells, Pt.slots] at X' e1 e2 h1 h2 h3 st
  subst h1; subst h2; subst h3
  exact ⟨v, (T.setVm vm₁).calling g' mk As.toArray, t, U', L, hT, X', hL, e1, e2, hq, st⟩
/-- not caught here, past rows that name other classes: it goes on to the caller -/
theorem vx_outP {p : Program} {l : Launch} {e : Env} {R : Room} {s : State} {m : MethodId} {args : Array Value} {below : List Frame} {meth : Method} {c : Code} {H : Heap} {locs : List Loc} {cells slots : Nat} {free : Addr → Prop} {ls : Array Slot} {rest : List Value} {Qc : Array Value → State → Outcome → State → Prop} {XC : String → State → State → Prop}
    {pc : Nat} {own E : String} {ce : Cell} {q : Addr} {mc ms : Nat} (hown : s.vm.findClass own = some m.cls) (hlocks : meth.locks = false)
    (hpass : ∀ z ∈ c.exceptionTable.toList, covers z pc = false ∨ (z.catchType ≠ 0 ∧ ∃ nm : String, (Cond.classLink own z.catchType nm).before args s = true ∧ va_Nc E nm s)) (hcell : H[q]? = some ce) (hv : ce.vm = .none) (hcl : s.vm.findClass E = some ce.cls)
    (hx : ∀ t : State, t.heap = H → s.vm.Alike t.vm → XC E s t) (hf : ∀ z ∈ locs, free z.base) (hc : cells ≤ mc) (hs : slots ≤ ms) :
    vx_W p l e R s m args below meth c H locs cells slots (vx_MQ below Qc XC args s mc ms free) (F0 m pc ls rest) q := by
  intro T hT X
  have hpl : e.platform.magicAccessors = ({} : Platform).magicAccessors := by rw [X.admits.platform]
  obtain ⟨vm', hW', X', st⟩ := X.outThrough hlocks q (g := F0 m pc ls rest) rfl rfl rfl (cell := ce) (by rw [hT]; exact hcell) (by rw [hv]; rfl)
    (by obtain ⟨k9, h9, -⟩ := Vm.findClass_spec hcl; exact ⟨k9, h9⟩) (fun z hz => by
      rcases hpass z hz with h | ⟨hz0, nm, hl1, hn1⟩
      · exact Or.inl h
      · obtain ⟨c6, hc6, hcl6⟩ := Cond.classLink_spec hown hl1 e.platform hpl
        obtain ⟨a8, b8, h1, h2, h3⟩ := hn1
        cases Option.some.inj (h1.symm.trans hcl)
        cases Option.some.inj (h2.symm.trans hc6)
        exact Or.inr ⟨hz0, _, hcl6, h3⟩)
  obtain ⟨g₀, hfr⟩ := X'.frames_eq
  have hcell9 : ((T.setVm vm').setFrames (.throwing q :: below)).heap[q]? = some ce := by
    show T.heap[q]? = some ce
    rw [hT]; exact hcell
  have hend : Ended ((T.setVm vm').setFrames (.throwing q :: below)) below (.threw q) := State.frames_setFrames _ (State.cur_lt_of_frames hfr)
  refine ⟨(T.setVm vm').setFrames (.throwing q :: below), ?_, .threw q, X'.here.running, hend, Or.inr ⟨q, rfl, E, ce, locs, hx _ hT (X'.ends _).1.alike, hcell9, hv, hcl, (X'.ends _).1, (X'.ends _).2.mono hc hs, hf⟩⟩
  rw [X.pushThrowing_eq]
  exact st
/-- a thing of a world lies in the heap -/
theorem vx_lt {D : va_G} {cl : List vw_C} {ws : va_W} {H1 : Heap} (h : va_P D cl ws H1) {k : Nat} {q : Nat × va_E} (hk : ws[k]? = some q) : q.1 < H1.size := (h k q hk).lt
end VXS
/-! ===== END ===== -/
/-! ===== BEGIN methods with a table of their own: called by a name, returning or throwing ===== -/
section VXH
/-! vx_backW, vx_callVX, vx_callSX, vx_callVW, vx_runVW, vx_runVX, vx_runSX, vx_ofWH follow the same proofs as their sisters above (Free/Laws.lean, Shelf42/LK1.lean); vx_outP calls Shelf42/NT130.lean (outThrough). -/
section
variable {l : Launch} {R : Room} {p : Program} {e : Env} {below : List Frame} {s : State} {sargs : Array Value} {y : MethodName} {len W9 : Nat}
theorem vx_backW {ws : List Cond} {rm : Room} {Pc : Array Value → State → Prop} {Qc : Array Value → State → Outcome → State → Prop} {XC : String → State → State → Prop} {mc ms : Nat} {free : Addr → Prop} {bytes : ByteArray} {maxL : Nat} {ret : Option FieldType} {hh : List (Nat × Nat × Nat × Nat)}
    (hM : vx_Met l y ws rm Pc Qc XC mc ms free) (hblind : FrameBlind Pc) (hrc : rm.cells = mc) (hrs : rm.slots = ms)
    (hframes : rm.frames + 1 ≤ R.frames) (hlocals : W9 + (maxL + 11) + rm.locals ≤ R.locals)
    (hws : ∀ w ∈ ws, ∀ a' U, s.WarmedH U.vm → w.before a' U = true) (hcode : Cond.codeWith y bytes maxL ret hh ∈ ws) (hinit : ∀ a' U, s.WarmedH U.vm → (Cond.initialized y.cls).before a' U = true) :
    vx_Back l R p e below s sargs y len W9 (PreOf R mc ms Pc) (PostOf Qc mc ms free) (vx_Post XC mc ms free) := by
  intro m meth c A g ig mk a X hg hsize hdg hW hn hp
  have h1 : (headSpec ws rm).pre.before a A.U = true := atoms_intro fun w hw => hws w hw _ _ X.warmed
  have h2 : (Cond.codeWith y bytes maxL ret hh).before a A.U = true := hws _ hcode _ _ X.warmed
  have h3 : (Cond.initialized y.cls).before a A.U = true := hinit _ _ X.warmed
  have h4 : A.cells + (headSpec ws rm).room.cells ≤ R.cells := by rw [show (headSpec ws rm).room.cells = mc from hrc]; exact hp.1
  have h5 : A.slots + (headSpec ws rm).room.slots ≤ R.slots := by rw [show (headSpec ws rm).room.slots = ms from hrs]; exact hp.2.1
  have hPc : Pc a (A.U.calling g mk a) := hblind _ _ _ _ hp.2.2
  obtain ⟨U, Ls, c0, s0⟩ := A
  dsimp only [Pt.U, Pt.locs, Pt.cells, Pt.slots] at h1 h2 h3 h4 h5 X hn hPc ⊢
  obtain ⟨m9, methY, cY, hn9, hmY, hcY, -, hlY, -⟩ := Cond.codeWith_spec h2
  cases Option.some.inj (hn9.symm.trans hn)
  obtain ⟨kY, hkY, -⟩ := className_of_methodNamed hn
  have hinitY : kY.init = .initialized := Cond.initialized_spec (findClass_of_methodNamed hn) hkY h3
  have h : At U g.method c below := by rw [hg]; exact X.here
  have hlocals9 : W9 + (maxL + 11) + (headSpec ws rm).room.locals ≤ R.locals := hlocals
  have happ : (headSpec ws rm).appliesLoose y e.platform (U.calling g mk a) = true :=
    Spec.appliesLoose_calling (g := g) h hdg hn hkY hinitY
      (X.room_calling (g := g) (R' := (headSpec ws rm).room) hsize hmY hcY hframes (by rw [hlY]; omega) h4 h5) h1
  obtain ⟨mid, hmid⟩ := h.above
  have hfr : (U.setTop g).frames = (.java g :: mid) ++ below := by rw [State.frames_setTop' g h.top, hmid]; rfl
  obtain ⟨o, s₂, hsteps, -, hend, hq⟩ := Steps.callFree hM p X.admits X.cas X.clock (acts := []) hfr happ hPc trivial
  have hq' : vx_Q Qc XC mc ms free a (U.calling g mk a) o s₂ := hq
  rw [State.frames_setTop' g h.top] at hend
  obtain ⟨g₀, hg0⟩ := Option.isSome_iff_exists.mp h.top
  obtain ⟨r, hr⟩ := State.topJava?_eq_some.mp hg0
  have hr' : (({ U with heap := s₂.heap, slotsUsed := s₂.slotsUsed } : State).setVm s₂.vm).frames = .java g₀ :: r := hr
  rcases hq' with ⟨hqc, L, hfe, hL⟩ | ⟨q, rfl, E, ce, L, hx, hce, hcv, hcl, hW₂, hsm, hL⟩
  · obtain ⟨⟨v, rfl⟩, hW₂, e2, q2, q3, q4, q5, q6⟩ := id hfe
    have e3 : s₂ = ({ (U.calling g mk a).setFrames s₂.frames with heap := s₂.heap, slotsUsed := s₂.slotsUsed } : State).setVm s₂.vm := by
      have : s₂ = ({ s₂ with vm := (U.calling g mk a).vm } : State).setVm s₂.vm := rfl
      rw [e2] at this
      exact this
    obtain ⟨c₂, i₂, len₂, hc₂, hd₂, hf₂⟩ := hend
    have hW' : U.WarmedH s₂.vm := hW₂
    have hcc : c₂ = c := by
      have h1 : s₂.code? g.method = U.code? g.method := by
        rw [State.code?_eq, State.code?_eq, hW'.alike.method?]
      exact Option.some.inj (hc₂.symm.trans (h1.trans h.code))
    subst hcc
    have hlen : len₂ = len := by rw [hdg] at hd₂; cases hd₂; rfl
    subst hlen
    have hs₂ : s₂ = (({ U with heap := s₂.heap, slotsUsed := s₂.slotsUsed } : State).setVm s₂.vm).setTop { g with pc := g.pc + len₂, stack := v.toList ++ g.stack } := by
      refine e3.trans ?_
      rw [hf₂, State.calling_eq h.top, State.setFrames_setFrames, State.setTop_of_frames _ hr', hr]
      rfl
    have hsame : U.sameButNew ({ U with heap := s₂.heap, slotsUsed := s₂.slotsUsed } : State) L mc ms := by
      refine ⟨?_, q2, q3, q4, q5, q6⟩
      obtain ⟨t, ht, -⟩ := State.frames_cons hr
      show ({ U with heap := s₂.heap, slotsUsed := s₂.slotsUsed } : State) = { U.setFrames U.frames with heap := s₂.heap, slotsUsed := s₂.slotsUsed }
      rw [State.setFrames_self ht]
    subst hg
    refine Or.inl ⟨v, ⟨(({ U with heap := s₂.heap, slotsUsed := s₂.slotsUsed } : State).setVm s₂.vm), Ls ++ L, c0 + mc, s0 + ms⟩,
      ⟨X.admits, X.cas, X.clock, X.frames, X.room, X.hears, X.method, X.code, (X.here.setHeapUsed s₂.heap s₂.slotsUsed).setVm hW'.alike, X.tail, State.WarmedH.trans X.warmed hW', X.limits, X.bytes, X.same.trans (hsame.setVm s.vm)⟩,
      ⟨g, mk, s₂, L, rfl, rfl, hqc, rfl, hL, rfl, rfl⟩, ?_⟩
    show Steps p.tables e below _ ((({ U with heap := s₂.heap, slotsUsed := s₂.slotsUsed } : State).setVm s₂.vm).setTop { g with pc := g.pc + len₂, stack := v.toList ++ g.stack })
    rw [← hs₂]
    exact hsteps
  · obtain ⟨e2, q2, q3, q4, q5, q6⟩ := id hsm
    have e3 : s₂ = ({ (U.calling g mk a).setFrames s₂.frames with heap := s₂.heap, slotsUsed := s₂.slotsUsed } : State).setVm s₂.vm := by
      have : s₂ = ({ s₂ with vm := (U.calling g mk a).vm } : State).setVm s₂.vm := rfl
      rw [e2] at this
      exact this
    have hf₂ : s₂.frames = .throwing q :: .java g :: U.frames.tail := hend
    have hW' : U.WarmedH s₂.vm := hW₂
    have hs₂ : s₂ = ((({ U with heap := s₂.heap, slotsUsed := s₂.slotsUsed } : State).setVm s₂.vm).setTop g).pushFrame (.throwing q) := by
      refine e3.trans ?_
      rw [hf₂, State.calling_eq h.top, State.setFrames_setFrames, State.pushFrame, State.frames_setTop _ hr', State.setTop_of_frames _ hr', State.setFrames_setFrames, hr]
      rfl
    have hsame : U.sameButNew ({ U with heap := s₂.heap, slotsUsed := s₂.slotsUsed } : State) L mc ms := by
      refine ⟨?_, q2, q3, q4, q5, q6⟩
      obtain ⟨t, ht, -⟩ := State.frames_cons hr
      show ({ U with heap := s₂.heap, slotsUsed := s₂.slotsUsed } : State) = { U.setFrames U.frames with heap := s₂.heap, slotsUsed := s₂.slotsUsed }
      rw [State.setFrames_self ht]
    subst hg
    refine Or.inr ⟨q, ⟨(({ U with heap := s₂.heap, slotsUsed := s₂.slotsUsed } : State).setVm s₂.vm), Ls ++ L, c0 + mc, s0 + ms⟩,
      ⟨X.admits, X.cas, X.clock, X.frames, X.room, X.hears, X.method, X.code, (X.here.setHeapUsed s₂.heap s₂.slotsUsed).setVm hW'.alike, X.tail, State.WarmedH.trans X.warmed hW', X.limits, X.bytes, X.same.trans (hsame.setVm s.vm)⟩,
      ⟨g, mk, s₂, L, E, ce, rfl, rfl, hx, hce, hcv, hcl, rfl, hL, rfl, rfl⟩, ?_⟩
    show Steps p.tables e below _ (((({ U with heap := s₂.heap, slotsUsed := s₂.slotsUsed } : State).setVm s₂.vm).setTop g).pushFrame (.throwing q))
    rw [← hs₂]
    exact hsteps
end
variable {p : Program} {l : Launch} {e : Env} {R : Room} {s : State} {m : MethodId} {args : Array Value} {below : List Frame} {meth : Method} {c : Code} {T : State} {H : Heap} {locs : List Loc} {cells slots : Nat}
theorem vx_callVX (X : Stand p l e R s m args below meth c T locs cells slots) (hexec : p.tables.exec = Jvm.exec) {own C : String} {index : Nat} {y : MethodName} {bytes : ByteArray} {maxL : Nat} {ret : Option FieldType} {hh : List (Nat × Nat × Nat × Nat)}
    (hown : s.vm.findClass own = some m.cls) (hlink : (Cond.methodLink own index y).before args s = true) (hinst : (Cond.instanceMethod y).before args s = true) (hsel : (Cond.selects C y y).before args s = true)
    (hcode : (Cond.codeWith y bytes maxL ret hh).before args s = true) (hy : y.cls ≠ "java/lang/invoke/MethodHandle" ∧ y.cls ≠ "java/lang/invoke/VarHandle")
    {W9 : Nat} {Pre : Pt → Array Value → Prop} {Post : Pt → Array Value → Option Value → Pt → Prop} {PostX : Pt → Array Value → Addr → Pt → Prop} (hK : vx_Back l R p e below s args y 3 W9 Pre Post PostX)
    {b : Addr} {cellB : Cell} (hcell : T.heap[b]? = some cellB) (hobj : cellB.vm.isStatics = false) (hcls : s.vm.findClass C = some cellB.cls)
    {g : JFrame} (hg : g.method = m) (hsize : g.locals.size = c.maxLocals) {argsL rest : List Value} (hlen : ∀ sig, parseMethodDescriptor y.desc = some sig → argsL.length = sig.parameters.length)
    (hstack : g.stack = argsL.reverse ++ .ref b :: rest) (hW : 2 * g.monitorRoom + (rest.map fun v => v.category).sum ≤ W9) (hdg : decode c.code g.pc = .ok (.invokevirtual index, 3))
    (hpre : ∀ vm₁, s.WarmedH vm₁ → Pre ⟨T.setVm vm₁, locs, cells, slots⟩ (Value.ref b :: argsL).toArray) :
    (∃ (v : Option Value) (vm₁ : Vm) (B : Pt), s.WarmedH vm₁ ∧ Stand p l e R s m args below meth c B.U B.locs B.cells B.slots ∧ Post ⟨T.setVm vm₁, locs, cells, slots⟩ (Value.ref b :: argsL).toArray v B ∧
      ∀ target, Steps p.tables e below (B.U.setTop { g with pc := g.pc + 3, stack := v.toList ++ rest }) target → Steps p.tables e below (T.setTop g) target) ∨
    (∃ (q : Addr) (vm₁ : Vm) (B : Pt), s.WarmedH vm₁ ∧ Stand p l e R s m args below meth c B.U B.locs B.cells B.slots ∧ PostX ⟨T.setVm vm₁, locs, cells, slots⟩ (Value.ref b :: argsL).toArray q B ∧
      Steps p.tables e below (T.setTop g) ((B.U.setTop { g with stack := rest }).pushFrame (.throwing q))) := by
  obtain ⟨mk, methM, hnamed, hmethM, hstM, habM⟩ := Cond.instanceMethod_spec hinst
  obtain ⟨m8, methM', cM, hn8, hmethM', -, -, -, -, -, -, hsigM⟩ := Cond.codeWith_spec hcode
  cases Option.some.inj (hn8.symm.trans hnamed)
  cases hmethM.symm.trans hmethM'
  obtain ⟨c2, r2, m2, q1, q2, q3, q4, kP, hkP, hkPi⟩ := Cond.selects_spec hsel
  cases hcls.symm.trans q1
  cases (State.methodFound?_of_named hnamed hy).symm.trans q2
  cases hnamed.symm.trans q3
  have hselP : selectMethod e.platform s.vm cellB.cls mk = .method mk := by rw [Launch.admits_selectMethod X.admits]; exact q4
  obtain ⟨vm₁, X₁, hstep₁⟩ := X.invokevirtual hexec hown hlink hnamed hmethM hstM hkP hkPi hy (a := b) (cell := cellB) hcell
    (fun z h => by rw [h] at hobj; cases hobj) hselP hmethM habM hkP hkPi (g := g) hg (argsL := argsL) (rest := rest) (hlen _ hsigM) hstack hdg
  rcases hK m meth c ⟨T.setVm vm₁, locs, cells, slots⟩ { g with stack := rest } (.invokevirtual index) mk (Value.ref b :: argsL).toArray X₁ hg hsize hdg hW (X₁.named hnamed) (hpre vm₁ X₁.warmed) with ⟨v, B, X', hpost, hsteps⟩ | ⟨q, B, X', hpost, hsteps⟩
  · exact Or.inl ⟨v, vm₁, B, X₁.warmed, X', hpost, fun target h => hstep₁ _ fun acts => by rw [doInvoke_state]; exact hsteps.trans h⟩
  · exact Or.inr ⟨q, vm₁, B, X₁.warmed, X', hpost, hstep₁ _ fun acts => by rw [doInvoke_state]; exact hsteps⟩
theorem vx_callSX (X : Stand p l e R s m args below meth c T locs cells slots) (hexec : p.tables.exec = Jvm.exec) {own : String} {index : Nat} {y : MethodName} {bytes : ByteArray} {maxL : Nat} {ret : Option FieldType} {hh : List (Nat × Nat × Nat × Nat)}
    (hown : s.vm.findClass own = some m.cls) (hlink : (Cond.methodLink own index y).before args s = true) (hstat : (Cond.static y).before args s = true) (hinit : (Cond.initialized y.cls).before args s = true)
    (hcode : (Cond.codeWith y bytes maxL ret hh).before args s = true) (hy : y.cls ≠ "java/lang/invoke/MethodHandle" ∧ y.cls ≠ "java/lang/invoke/VarHandle")
    {W9 : Nat} {Pre : Pt → Array Value → Prop} {Post : Pt → Array Value → Option Value → Pt → Prop} {PostX : Pt → Array Value → Addr → Pt → Prop} (hK : vx_Back l R p e below s args y 3 W9 Pre Post PostX)
    {g : JFrame} (hg : g.method = m) (hsize : g.locals.size = c.maxLocals) {argsL rest : List Value} (hlen : ∀ sig, parseMethodDescriptor y.desc = some sig → argsL.length = sig.parameters.length)
    (hstack : g.stack = argsL.reverse ++ rest) (hW : 2 * g.monitorRoom + (rest.map fun v => v.category).sum ≤ W9) (hdg : decode c.code g.pc = .ok (.invokestatic index, 3))
    (hpre : ∀ vm₁, s.WarmedH vm₁ → Pre ⟨T.setVm vm₁, locs, cells, slots⟩ argsL.toArray) :
    (∃ (v : Option Value) (vm₁ : Vm) (B : Pt), s.WarmedH vm₁ ∧ Stand p l e R s m args below meth c B.U B.locs B.cells B.slots ∧ Post ⟨T.setVm vm₁, locs, cells, slots⟩ argsL.toArray v B ∧
      ∀ target, Steps p.tables e below (B.U.setTop { g with pc := g.pc + 3, stack := v.toList ++ rest }) target → Steps p.tables e below (T.setTop g) target) ∨
    (∃ (q : Addr) (vm₁ : Vm) (B : Pt), s.WarmedH vm₁ ∧ Stand p l e R s m args below meth c B.U B.locs B.cells B.slots ∧ PostX ⟨T.setVm vm₁, locs, cells, slots⟩ argsL.toArray q B ∧
      Steps p.tables e below (T.setTop g) ((B.U.setTop { g with stack := rest }).pushFrame (.throwing q))) := by
  obtain ⟨mk, methM, cM, hnamed, hmethM, -, -, -, -, -, -, hsigM⟩ := Cond.codeWith_spec hcode
  have hstatic : methM.isStatic = true := Cond.static_spec hnamed hmethM hstat
  obtain ⟨kP, hkP, -⟩ := className_of_methodNamed hnamed
  have hinitP : kP.init = .initialized := Cond.initialized_spec (findClass_of_methodNamed hnamed) hkP hinit
  obtain ⟨vm₁, X₁, hstep₁⟩ := X.invokestatic hexec hown hlink hnamed hmethM hstatic hkP hinitP hy (g := g) hg (argsL := argsL) (rest := rest) (hlen _ hsigM) hstack hdg
  rcases hK m meth c ⟨T.setVm vm₁, locs, cells, slots⟩ { g with stack := rest } (.invokestatic index) mk argsL.toArray X₁ hg hsize hdg hW (X₁.named hnamed) (hpre vm₁ X₁.warmed) with ⟨v, B, X', hpost, hsteps⟩ | ⟨q, B, X', hpost, hsteps⟩
  · exact Or.inl ⟨v, vm₁, B, X₁.warmed, X', hpost, fun target h => hstep₁ _ fun acts => by rw [doInvoke_state]; exact hsteps.trans h⟩
  · exact Or.inr ⟨q, vm₁, B, X₁.warmed, X', hpost, hstep₁ _ fun acts => by rw [doInvoke_state]; exact hsteps⟩
theorem vx_callVW (X : Stand p l e R s m args below meth c T locs cells slots) (hexec : p.tables.exec = Jvm.exec) {own C : String} {index : Nat} {y : MethodName} {bytes : ByteArray} {maxL : Nat} {ret : Option FieldType} {hh : List (Nat × Nat × Nat × Nat)}
    (hown : s.vm.findClass own = some m.cls) (hlink : (Cond.methodLink own index y).before args s = true) (hinst : (Cond.instanceMethod y).before args s = true) (hsel : (Cond.selects C y y).before args s = true)
    (hcode : (Cond.codeWith y bytes maxL ret hh).before args s = true) (hy : y.cls ≠ "java/lang/invoke/MethodHandle" ∧ y.cls ≠ "java/lang/invoke/VarHandle")
    {W9 : Nat} {Pre : Pt → Array Value → Prop} {Post : Pt → Array Value → Option Value → Pt → Prop} (hK : Back l R p e below s args y 3 W9 Pre Post)
    {b : Addr} {cellB : Cell} (hcell : T.heap[b]? = some cellB) (hobj : cellB.vm.isStatics = false) (hcls : s.vm.findClass C = some cellB.cls)
    {g : JFrame} (hg : g.method = m) (hsize : g.locals.size = c.maxLocals) {argsL rest : List Value} (hlen : ∀ sig, parseMethodDescriptor y.desc = some sig → argsL.length = sig.parameters.length)
    (hstack : g.stack = argsL.reverse ++ .ref b :: rest) (hW : 2 * g.monitorRoom + (rest.map fun v => v.category).sum ≤ W9) (hdg : decode c.code g.pc = .ok (.invokevirtual index, 3))
    (hpre : ∀ vm₁, s.WarmedH vm₁ → Pre ⟨T.setVm vm₁, locs, cells, slots⟩ (Value.ref b :: argsL).toArray) :
    ∃ (v : Option Value) (vm₁ : Vm) (B : Pt), s.WarmedH vm₁ ∧ Stand p l e R s m args below meth c B.U B.locs B.cells B.slots ∧ Post ⟨T.setVm vm₁, locs, cells, slots⟩ (Value.ref b :: argsL).toArray v B ∧
      ∀ target, Steps p.tables e below (B.U.setTop { g with pc := g.pc + 3, stack := v.toList ++ rest }) target → Steps p.tables e below (T.setTop g) target := by
  obtain ⟨mk, methM, hnamed, hmethM, hstM, habM⟩ := Cond.instanceMethod_spec hinst
  obtain ⟨m8, methM', cM, hn8, hmethM', -, -, -, -, -, -, hsigM⟩ := Cond.codeWith_spec hcode
  cases Option.some.inj (hn8.symm.trans hnamed)
  cases hmethM.symm.trans hmethM'
  obtain ⟨c2, r2, m2, q1, q2, q3, q4, kP, hkP, hkPi⟩ := Cond.selects_spec hsel
  cases hcls.symm.trans q1
  cases (State.methodFound?_of_named hnamed hy).symm.trans q2
  cases hnamed.symm.trans q3
  have hselP : selectMethod e.platform s.vm cellB.cls mk = .method mk := by rw [Launch.admits_selectMethod X.admits]; exact q4
  obtain ⟨vm₁, X₁, hstep₁⟩ := X.invokevirtual hexec hown hlink hnamed hmethM hstM hkP hkPi hy (a := b) (cell := cellB) hcell
    (fun z h => by rw [h] at hobj; cases hobj) hselP hmethM habM hkP hkPi (g := g) hg (argsL := argsL) (rest := rest) (hlen _ hsigM) hstack hdg
  obtain ⟨v, B, X', hpost, hsteps⟩ := hK m meth c ⟨T.setVm vm₁, locs, cells, slots⟩ { g with stack := rest } (.invokevirtual index) mk (Value.ref b :: argsL).toArray X₁ hg hsize hdg hW (X₁.named hnamed) (hpre vm₁ X₁.warmed)
  exact ⟨v, vm₁, B, X₁.warmed, X', hpost, fun target h => hstep₁ _ fun acts => by rw [doInvoke_state]; exact hsteps.trans h⟩
abbrev vx_CVW (R : Room) (s : State) (args : Array Value) (own C : String) (index : Nat) (y : MethodName) (bytes : ByteArray) (maxL : Nat) (ret : Option FieldType) (hh : List (Nat × Nat × Nat × Nat)) (ws : List Cond) (rm : Room) (mc ms n : Nat) : Prop :=
  (rm.cells = mc ∧ rm.slots = ms ∧ rm.frames + 1 ≤ R.frames ∧ 8 + (maxL + 11) + rm.locals ≤ R.locals ∧ (∀ w ∈ ws, ∀ (a' : Array Value) (U : State), s.WarmedH U.vm → w.before a' U = true) ∧ Cond.codeWith y bytes maxL ret hh ∈ ws) ∧
  (Cond.codeWith y bytes maxL ret hh).before args s = true ∧ (Cond.initialized y.cls).before args s = true ∧ (y.cls ≠ "java/lang/invoke/MethodHandle" ∧ y.cls ≠ "java/lang/invoke/VarHandle") ∧
  (∀ sig, parseMethodDescriptor y.desc = some sig → n = sig.parameters.length) ∧ (Cond.methodLink own index y).before args s = true ∧ (Cond.instanceMethod y).before args s = true ∧ (Cond.selects C y y).before args s = true
theorem vx_cwVW {own C : String} {index maxL mc ms : Nat} {y : MethodName} {bytes : ByteArray} {ret : Option FieldType} {hh : List (Nat × Nat × Nat × Nat)} {Ts ws ws' : List Cond} {rm : Room} (n : Nat) (ht : ∀ w ∈ Ts, w.before args s = true) (hT : GoodIn Ts (wsV own index C y ws)) (hw : ws = Cond.codeWith y bytes maxL ret hh :: ws') (hrc : rm.cells = mc) (hrs : rm.slots = ms)
    (hd : y.cls = C ∧ y.cls ≠ "java/lang/invoke/MethodHandle" ∧ y.cls ≠ "java/lang/invoke/VarHandle" ∧ (parseMethodDescriptor y.desc).map (fun d => d.parameters.length) = some n) (hR : rm.frames + 1 ≤ R.frames ∧ 8 + (maxL + 11) + rm.locals ≤ R.locals) :
    vx_CVW R s args own C index y bytes maxL ret hh ws rm mc ms n := by
  obtain ⟨hC, hd⟩ := hd
  subst hC
  have ok : ∀ w ∈ wsV own index y.cls y ws, w.before args s = true := fun w h => ht w (hT w h).1
  have hG : GoodIn Ts ws := fun w h => hT w (by unfold wsV; exact List.mem_append_right _ h)
  have hc : Cond.codeWith y bytes maxL ret hh ∈ ws := by rw [hw]; exact List.mem_cons_self
  refine ⟨⟨hrc, hrs, hR.1, hR.2, pay_in ht hG, hc⟩, ht _ (hG _ hc).1, ok _ (by simp [wsV]), ⟨hd.1, hd.2.1⟩, fun sig h => ?_, ok _ (by simp [wsV]), ok _ (by simp [wsV]), ok _ (by simp [wsV])⟩
  have h2 := hd.2.2
  rw [h] at h2
  exact (Option.some.inj h2).symm
theorem vx_runVW {y : MethodName} {bytes cc : ByteArray} {maxL nL mc ms n index : Nat} {ret : Option FieldType} {hh : List (Nat × Nat × Nat × Nat)} {ws : List Cond} {rm : Room} {Pc : Array Value → State → Prop} {Qc : Array Value → State → Outcome → State → Prop} {free : Addr → Prop} {Ts : List Cond} {own C : String} {b : Addr} {As rest : List Value} {g : JFrame}
    (S : CallFix p m c cc nL s args Ts own) (hM : Met l y ws rm Pc Qc mc ms free) (cw : vx_CVW R s args own C index y bytes maxL ret hh ws rm mc ms n) (hp : PreV s H C b Pc As)
    (hg : g.method = m) (hn : As.length = n) (hsize : g.locals.size = nL) (hstack : g.stack = As.reverse ++ .ref b :: rest) (hW : 2 * g.monitorRoom + (rest.map fun v => v.category).sum ≤ 8) (hdg : decode cc g.pc = .ok (.invokevirtual index, 3)) (hf : cells + mc ≤ R.cells ∧ slots + ms ≤ R.slots) :
    va_Run p l e R s m args below meth c H locs cells slots mc ms g rest (Qc (Value.ref b :: As).toArray) free := by
  obtain ⟨⟨hrc, hrs, hfr, hlo, hws, hcw⟩, hcode, hini, hy, hlen, hl, hin, hse⟩ := cw
  have hK : Back l R p e below s args y 3 8 (PreOf R mc ms Pc) (PostOf Qc mc ms free) := va_backW (hh := hh) (bytes := bytes) (maxL := maxL) (ret := ret) hM hp.1 hrc hrs hfr hlo hws hcw (fun a' U hW => word_at hW (Or.inl (by first | rfl | simp [Cond.onTables, Cond.keeps, Cond.steady])) hini)
  obtain ⟨hx, hb, hml, ho, -⟩ := S
  obtain ⟨-, ⟨cellB, hcB, hoB, hclB⟩, hPc⟩ := hp
  intro T hT X
  obtain ⟨v, vm₁, ⟨U', l2, c2, s2⟩, hW₁, X', ⟨g', mk, t, L, e1, e2, hq, h1, hL, h2, h3⟩, st⟩ := vx_callVW X hx (C := C) (hh := hh) (bytes := bytes) (maxL := maxL) (ret := ret) ho hl hin hse hcode hy hK (by rw [hT]; exact hcB) hoB hclB hg (hsize.trans hml.symm) (argsL := As) (rest := rest) (fun sig h => hn.trans (hlen sig h)) hstack hW (by rw [hb]; exact hdg)
    (fun vm₁ hW₁ => ⟨hf.1, hf.2, hPc (T.setVm vm₁) hT hW₁⟩)
  dsimp only [Pt.U, Pt.locs, Pt.cells, Pt.slots] at X' e1 e2 h1 h2 h3 st
  subst h1; subst h2; subst h3
  exact ⟨v, (T.setVm vm₁).calling g' mk (Value.ref b :: As).toArray, t, U', L, hT, X', hL, e1, e2, hq, st⟩
section
variable {y : MethodName} {bytes cc : ByteArray} {maxL nL mc ms n index : Nat} {ret : Option FieldType} {ws : List Cond} {rm : Room} {Pc : Array Value → State → Prop} {Qc : Array Value → State → Outcome → State → Prop} {XC : String → State → State → Prop} {free : Addr → Prop} {Ts : List Cond} {own C : String} {b : Addr} {As rest : List Value} {g : JFrame}
theorem vx_runVX {hh : List (Nat × Nat × Nat × Nat)} (S : CallFix p m c cc nL s args Ts own) (hM : vx_Met l y ws rm Pc Qc XC mc ms free) (cw : vx_CVW R s args own C index y bytes maxL ret hh ws rm mc ms n) (hp : PreV s H C b Pc As)
    (hg : g.method = m) (hn : As.length = n) (hsize : g.locals.size = nL) (hstack : g.stack = As.reverse ++ .ref b :: rest) (hW : 2 * g.monitorRoom + (rest.map fun v => v.category).sum ≤ 8) (hdg : decode cc g.pc = .ok (.invokevirtual index, 3)) (hf : cells + mc ≤ R.cells ∧ slots + ms ≤ R.slots) :
    vx_Run p l e R s m args below meth c H locs cells slots mc ms g rest (Qc (Value.ref b :: As).toArray) XC free := by
  obtain ⟨⟨hrc, hrs, hfr, hlo, hws, hcw⟩, hcode, hini, hy, hlen, hl, hin, hse⟩ := cw
  have hK : vx_Back l R p e below s args y 3 8 (PreOf R mc ms Pc) (PostOf Qc mc ms free) (vx_Post XC mc ms free) := vx_backW (hh := hh) (bytes := bytes) (maxL := maxL) (ret := ret) hM hp.1 hrc hrs hfr hlo hws hcw (fun a' U hW => word_at hW (Or.inl (by first | rfl | simp [Cond.onTables, Cond.keeps, Cond.steady])) hini)
  obtain ⟨hx, hb, hml, ho, -⟩ := S
  obtain ⟨-, ⟨cellB, hcB, hoB, hclB⟩, hPc⟩ := hp
  intro T hT X
  rcases vx_callVX X hx (C := C) (hh := hh) (bytes := bytes) (maxL := maxL) (ret := ret) ho hl hin hse hcode hy hK (by rw [hT]; exact hcB) hoB hclB hg (hsize.trans hml.symm) (argsL := As) (rest := rest) (fun sig h => hn.trans (hlen sig h)) hstack hW (by rw [hb]; exact hdg)
    (fun vm₁ hW₁ => ⟨hf.1, hf.2, hPc (T.setVm vm₁) hT hW₁⟩) with ⟨v, vm₁, ⟨U', l2, c2, s2⟩, hW₁, X', ⟨g', mk, t, L, e1, e2, hq, h1, hL, h2, h3⟩, st⟩ | ⟨q, vm₁, ⟨U', l2, c2, s2⟩, hW₁, X', ⟨g', mk, t, L, E, ce, e1, e2, hq, hce, hcv, hcl, h1, hL, h2, h3⟩, st⟩
  · dsimp only [Pt.U, Pt.locs, Pt.cells, Pt.slots] at X' e1 e2 h1 h2 h3 st
    subst h1; subst h2; subst h3
    exact Or.inl ⟨v, (T.setVm vm₁).calling g' mk (Value.ref b :: As).toArray, t, U', L, hT, X', hL, e1, e2, hq, st⟩
  · dsimp only [Pt.U, Pt.locs, Pt.cells, Pt.slots] at X' e1 e2 h1 h2 h3 st hcl
    subst h1; subst h2; subst h3
    exact Or.inr ⟨q, (T.setVm vm₁).calling g' mk (Value.ref b :: As).toArray, t, U', L, E, ce, hT, X', hL, e1, e2, hq, hce, hcv, vx_cls hW₁ hcl, st⟩
theorem vx_runSX {hh : List (Nat × Nat × Nat × Nat)} (S : CallFix p m c cc nL s args Ts own) (hM : vx_Met l y ws rm Pc Qc XC mc ms free) (cw : vx_CSW R s args own index y bytes maxL ret hh ws rm mc ms n) (hp : PreS s H Pc As)
    (hg : g.method = m) (hn : As.length = n) (hsize : g.locals.size = nL) (hstack : g.stack = As.reverse ++ rest) (hW : 2 * g.monitorRoom + (rest.map fun v => v.category).sum ≤ 8) (hdg : decode cc g.pc = .ok (.invokestatic index, 3)) (hf : cells + mc ≤ R.cells ∧ slots + ms ≤ R.slots) :
    vx_Run p l e R s m args below meth c H locs cells slots mc ms g rest (Qc As.toArray) XC free := by
  obtain ⟨⟨hrc, hrs, hfr, hlo, hws, hcw⟩, hcode, hini, hy, hlen, hl, hstt⟩ := cw
  have hK : vx_Back l R p e below s args y 3 8 (PreOf R mc ms Pc) (PostOf Qc mc ms free) (vx_Post XC mc ms free) := vx_backW (hh := hh) (bytes := bytes) (maxL := maxL) (ret := ret) hM hp.1 hrc hrs hfr hlo hws hcw (fun a' U hW => word_at hW (Or.inl (by first | rfl | simp [Cond.onTables, Cond.keeps, Cond.steady])) hini)
  obtain ⟨hx, hb, hml, ho, -⟩ := S
  intro T hT X
  rcases vx_callSX X hx (hh := hh) (bytes := bytes) (maxL := maxL) (ret := ret) ho hl hstt hini hcode hy hK hg (hsize.trans hml.symm) (argsL := As) (rest := rest) (fun sig h => hn.trans (hlen sig h)) hstack hW (by rw [hb]; exact hdg)
    (fun vm₁ hW₁ => ⟨hf.1, hf.2, hp.2 (T.setVm vm₁) hT hW₁⟩) with ⟨v, vm₁, ⟨U', l2, c2, s2⟩, hW₁, X', ⟨g', mk, t, L, e1, e2, hq, h1, hL, h2, h3⟩, st⟩ | ⟨q, vm₁, ⟨U', l2, c2, s2⟩, hW₁, X', ⟨g', mk, t, L, E, ce, e1, e2, hq, hce, hcv, hcl, h1, hL, h2, h3⟩, st⟩
  · dsimp only [Pt.U, Pt.locs, Pt.cells, Pt.slots] at X' e1 e2 h1 h2 h3 st
    subst h1; subst h2; subst h3
    exact Or.inl ⟨v, (T.setVm vm₁).calling g' mk As.toArray, t, U', L, hT, X', hL, e1, e2, hq, st⟩
  · dsimp only [Pt.U, Pt.locs, Pt.cells, Pt.slots] at X' e1 e2 h1 h2 h3 st hcl
    subst h1; subst h2; subst h3
    exact Or.inr ⟨q, (T.setVm vm₁).calling g' mk As.toArray, t, U', L, E, ce, hT, X', hL, e1, e2, hq, hce, hcv, vx_cls hW₁ hcl, st⟩
end
end VXH
theorem vx_ofWH {l : Launch} {y : MethodName} {ws ws' : List Cond} {rm : Room} {Pc : Array Value → State → Prop} {Qc : Array Value → State → Outcome → State → Prop} {XC : String → State → State → Prop} {mc ms : Nat} {free : Addr → Prop} {cc : ByteArray} {maxL : Nat} {ret : Option FieldType} {hh : List (Nat × Nat × Nat × Nat)}
    (hy : plainName y.cls = true) (hw : ws = Cond.codeWith y cc maxL ret hh :: ws')
    (body : ∀ p e s m args below meth c s₁, BodyLoose p l y (headSpec ws rm) cc maxL ret e s m args below meth c s₁ → c.maxLocals = maxL → Pc args s →
      W p l e (headSpec ws rm).room s m args below meth c s.heap [] 0 0 (vx_MQ below Qc XC args s mc ms free) (entryFrame m args maxL)) : vx_Met l y ws rm Pc Qc XC mc ms free := by
  refine MetFree.of_bodyS (code := cc) (maxLocals := maxL) (ret := ret) hy ?_ ?_
  · intro args s m h hn
    obtain ⟨m9, meth, c, hn9, h1, h2, h3, h4, -, h5, h6, -⟩ := Cond.codeWith_spec (atoms_spec (ws := ws) h _ (by rw [hw]; exact List.mem_cons_self))
    cases hn.symm.trans hn9
    exact ⟨meth, c, h1, h2, h3, h4, h5, h6⟩
  · intro p e s m args below meth c s₁ B hml hP _
    have hh0 : s₁.heap = s.heap := by rw [B.state]; rfl
    obtain ⟨t, a1, o, b1, b2, b3⟩ := body p e s m args below meth c s₁ B hml hP s₁ hh0 (Stand.of_body B)
    exact ⟨t, o, a1, b1, b2, b3⟩
/-! ===== END ===== -/
end
section
/-! ===== BEGIN printed: names, fields, word lists, decode rows ===== -/
def RX0 : String := "ColourTide$Tide"
def TX0 : u_T := fun k => match k with
  | 0 => ("ColourTide$Tide", "board", "I", false)
  | 1 => ("ColourTide$Tide", "stubborn", "I", false)
  | 2 => ("ColourTide$Tide", "need", "I", false)
  | 3 => ("ColourTide$Tide", "sets", "[I", true)
  | 4 => ("ColourTide$Tide", "crowds", "[I", true)
  | _ => ("ColourTide$Tide", "gains", "[I", true)
def tyX0 : Nat → FieldType := fun k => match k with
  | 0 => .int
  | 1 => .int
  | 2 => .int
  | 3 => .array .int
  | 4 => .array .int
  | _ => .array .int
abbrev wsX00 : List Cond := u_ws RX0 TX0 6
theorem nmX0 : ∀ a, a < 6 → ∀ b, b < 6 → a ≠ b → (TX0 a).2.1 ≠ (TX0 b).2.1 := by decide +kernel
theorem tyX0_ok : ∀ k, k < 6 → parseFieldDescriptor (TX0 k).2.2.1 = some (tyX0 k) := by decide +kernel
abbrev cX0_init : ByteArray := prog_2_method_1_code
def yX0_init : MethodName := ⟨RX0, "<init>", "()V"⟩
abbrev cX0_clear : ByteArray := prog_2_method_2_code
def yX0_clear : MethodName := ⟨RX0, "clear", "(II)V"⟩
abbrev cX0_copyFrom : ByteArray := prog_2_method_3_code
def yX0_copyFrom : MethodName := ⟨RX0, "copyFrom", "(LColourTide$Tide;)V"⟩
abbrev cX0_cellsWith : ByteArray := prog_2_method_4_code
def yX0_cellsWith : MethodName := ⟨RX0, "cellsWith", "(I)I"⟩
abbrev cX0_count : ByteArray := prog_2_method_5_code
def yX0_count : MethodName := ⟨RX0, "count", "(I)I"⟩
abbrev cX0_isAll : ByteArray := prog_2_method_6_code
def yX0_isAll : MethodName := ⟨RX0, "isAll", "(I)Z"⟩
abbrev cX0_colourOf : ByteArray := prog_2_method_7_code
def yX0_colourOf : MethodName := ⟨RX0, "colourOf", "(I)I"⟩
abbrev cX0_dye : ByteArray := prog_2_method_8_code
def yX0_dye : MethodName := ⟨RX0, "dye", "(II)V"⟩
abbrev cX0_surge : ByteArray := prog_2_method_9_code
def yX0_surge : MethodName := ⟨RX0, "surge", "(I)I"⟩
abbrev cX0_foresee : ByteArray := prog_2_method_10_code
def yX0_foresee : MethodName := ⟨RX0, "foresee", "()I"⟩
abbrev cX0_foreseenColourOf : ByteArray := prog_2_method_11_code
def yX0_foreseenColourOf : MethodName := ⟨RX0, "foreseenColourOf", "(I)I"⟩
abbrev cX0_sizeOfRegion : ByteArray := prog_2_method_12_code
def yX0_sizeOfRegion : MethodName := ⟨RX0, "sizeOfRegion", "(I)I"⟩
abbrev cX0_countRegions : ByteArray := prog_2_method_13_code
def yX0_countRegions : MethodName := ⟨RX0, "countRegions", "(I)I"⟩
abbrev cX0_sizeOfGreatestRegion : ByteArray := prog_2_method_14_code
def yX0_sizeOfGreatestRegion : MethodName := ⟨RX0, "sizeOfGreatestRegion", "(I)I"⟩
abbrev cX0_countBorders : ByteArray := prog_2_method_15_code
def yX0_countBorders : MethodName := ⟨RX0, "countBorders", "()I"⟩
abbrev cX0_addGains : ByteArray := prog_2_method_16_code
def yX0_addGains : MethodName := ⟨RX0, "addGains", "(I)V"⟩
abbrev cX0_takeGains : ByteArray := prog_2_method_17_code
def yX0_takeGains : MethodName := ⟨RX0, "takeGains", "(I)V"⟩
abbrev cX0_withNeighbours : ByteArray := prog_2_method_18_code
def yX0_withNeighbours : MethodName := ⟨RX0, "withNeighbours", "(II)I"⟩
abbrev cX0_regionFrom : ByteArray := prog_2_method_19_code
def yX0_regionFrom : MethodName := ⟨RX0, "regionFrom", "(II)I"⟩
abbrev cX0_countPairs : ByteArray := prog_2_method_20_code
def yX0_countPairs : MethodName := ⟨RX0, "countPairs", "(I)I"⟩
abbrev cX0_firstColourWith : ByteArray := prog_2_method_21_code
def yX0_firstColourWith : MethodName := ⟨RX0, "firstColourWith", "(I[I)I"⟩
def RX1 : String := "ColourTide"
def TX1 : u_T := fun k => match k with
  | 0 => ("ColourTide", "map", "LColourTide$Tide;", true)
  | 1 => ("ColourTide", "trial", "LColourTide$Tide;", true)
  | 2 => ("ColourTide", "width", "I", false)
  | 3 => ("ColourTide", "height", "I", false)
  | _ => ("ColourTide", "waves", "I", false)
def tyX1 : Nat → FieldType := fun k => match k with
  | 0 => .object "ColourTide$Tide"
  | 1 => .object "ColourTide$Tide"
  | 2 => .int
  | 3 => .int
  | _ => .int
abbrev wsX10 : List Cond := u_ws RX1 TX1 5
theorem nmX1 : ∀ a, a < 5 → ∀ b, b < 5 → a ≠ b → (TX1 a).2.1 ≠ (TX1 b).2.1 := by decide +kernel
theorem tyX1_ok : ∀ k, k < 5 → parseFieldDescriptor (TX1 k).2.2.1 = some (tyX1 k) := by decide +kernel
abbrev cX1_init : ByteArray := prog_1_method_1_code
def yX1_init : MethodName := ⟨RX1, "<init>", "()V"⟩
abbrev cX1_newMap : ByteArray := prog_1_method_2_code
def yX1_newMap : MethodName := ⟨RX1, "newMap", "(II)I"⟩
abbrev cX1_paint : ByteArray := prog_1_method_3_code
def yX1_paint : MethodName := ⟨RX1, "paint", "(III)I"⟩
abbrev cX1_turnStubborn : ByteArray := prog_1_method_4_code
def yX1_turnStubborn : MethodName := ⟨RX1, "turnStubborn", "(II)Z"⟩
abbrev cX1_setNeed : ByteArray := prog_1_method_5_code
def yX1_setNeed : MethodName := ⟨RX1, "setNeed", "(I)I"⟩
abbrev cX1_pass : ByteArray := prog_1_method_6_code
def yX1_pass : MethodName := ⟨RX1, "pass", "(I)I"⟩
abbrev cX1_colourAt : ByteArray := prog_1_method_7_code
def yX1_colourAt : MethodName := ⟨RX1, "colourAt", "(II)I"⟩
abbrev cX1_isStubborn : ByteArray := prog_1_method_8_code
def yX1_isStubborn : MethodName := ⟨RX1, "isStubborn", "(II)Z"⟩
abbrev cX1_neighboursWith : ByteArray := prog_1_method_9_code
def yX1_neighboursWith : MethodName := ⟨RX1, "neighboursWith", "(III)I"⟩
abbrev cX1_nextColour : ByteArray := prog_1_method_10_code
def yX1_nextColour : MethodName := ⟨RX1, "nextColour", "(II)I"⟩
abbrev cX1_regionSize : ByteArray := prog_1_method_11_code
def yX1_regionSize : MethodName := ⟨RX1, "regionSize", "(II)I"⟩
abbrev cX1_width : ByteArray := prog_1_method_12_code
def yX1_width : MethodName := ⟨RX1, "width", "()I"⟩
abbrev cX1_height : ByteArray := prog_1_method_13_code
def yX1_height : MethodName := ⟨RX1, "height", "()I"⟩
abbrev cX1_need : ByteArray := prog_1_method_14_code
def yX1_need : MethodName := ⟨RX1, "need", "()I"⟩
abbrev cX1_waves : ByteArray := prog_1_method_15_code
def yX1_waves : MethodName := ⟨RX1, "waves", "()I"⟩
abbrev cX1_stubbornCells : ByteArray := prog_1_method_16_code
def yX1_stubbornCells : MethodName := ⟨RX1, "stubbornCells", "()I"⟩
abbrev cX1_cellsOf : ByteArray := prog_1_method_17_code
def yX1_cellsOf : MethodName := ⟨RX1, "cellsOf", "(I)I"⟩
abbrev cX1_regionsOf : ByteArray := prog_1_method_18_code
def yX1_regionsOf : MethodName := ⟨RX1, "regionsOf", "(I)I"⟩
abbrev cX1_greatestRegion : ByteArray := prog_1_method_19_code
def yX1_greatestRegion : MethodName := ⟨RX1, "greatestRegion", "(I)I"⟩
abbrev cX1_borders : ByteArray := prog_1_method_20_code
def yX1_borders : MethodName := ⟨RX1, "borders", "()I"⟩
abbrev cX1_leader : ByteArray := prog_1_method_21_code
def yX1_leader : MethodName := ⟨RX1, "leader", "()I"⟩
abbrev cX1_isStill : ByteArray := prog_1_method_22_code
def yX1_isStill : MethodName := ⟨RX1, "isStill", "()Z"⟩
abbrev cX1_winner : ByteArray := prog_1_method_23_code
def yX1_winner : MethodName := ⟨RX1, "winner", "()I"⟩
abbrev cX1_wavesUntilStill : ByteArray := prog_1_method_24_code
def yX1_wavesUntilStill : MethodName := ⟨RX1, "wavesUntilStill", "()I"⟩
abbrev cX1_cellsAfter : ByteArray := prog_1_method_25_code
def yX1_cellsAfter : MethodName := ⟨RX1, "cellsAfter", "(II)I"⟩
abbrev cX1_wins : ByteArray := prog_1_method_26_code
def yX1_wins : MethodName := ⟨RX1, "wins", "(I)Z"⟩
abbrev cX1_fewestSeeds : ByteArray := prog_1_method_27_code
def yX1_fewestSeeds : MethodName := ⟨RX1, "fewestSeeds", "(I)I"⟩
abbrev cX1_bestCell : ByteArray := prog_1_method_28_code
def yX1_bestCell : MethodName := ⟨RX1, "bestCell", "(II)I"⟩
abbrev cX1_share : ByteArray := prog_1_method_29_code
def yX1_share : MethodName := ⟨RX1, "share", "(I)D"⟩
abbrev cX1_digest : ByteArray := prog_1_method_30_code
def yX1_digest : MethodName := ⟨RX1, "digest", "()J"⟩
abbrev cX1_digestOfMap : ByteArray := prog_1_method_31_code
def yX1_digestOfMap : MethodName := ⟨RX1, "digestOfMap", "()J"⟩
abbrev cX1_mixCell : ByteArray := prog_1_method_32_code
def yX1_mixCell : MethodName := ⟨RX1, "mixCell", "(JI)J"⟩
abbrev cX1_mix : ByteArray := prog_1_method_33_code
def yX1_mix : MethodName := ⟨RX1, "mix", "(JI)J"⟩
abbrev cX1_winsWithOneSeed : ByteArray := prog_1_method_34_code
def yX1_winsWithOneSeed : MethodName := ⟨RX1, "winsWithOneSeed", "(I)Z"⟩
abbrev cX1_winsWithTwoSeeds : ByteArray := prog_1_method_35_code
def yX1_winsWithTwoSeeds : MethodName := ⟨RX1, "winsWithTwoSeeds", "(I)Z"⟩
abbrev cX1_winsWith : ByteArray := prog_1_method_36_code
def yX1_winsWith : MethodName := ⟨RX1, "winsWith", "(II)Z"⟩
abbrev cX1_countAfter : ByteArray := prog_1_method_37_code
def yX1_countAfter : MethodName := ⟨RX1, "countAfter", "(III)I"⟩
abbrev cX1_isOnMap : ByteArray := prog_1_method_38_code
def yX1_isOnMap : MethodName := ⟨RX1, "isOnMap", "(II)Z"⟩
abbrev cX1_isSide : ByteArray := prog_1_method_39_code
def yX1_isSide : MethodName := ⟨RX1, "isSide", "(I)Z"⟩
abbrev cX1_isColour : ByteArray := prog_1_method_40_code
def yX1_isColour : MethodName := ⟨RX1, "isColour", "(I)Z"⟩
abbrev cX1_isColourOrBare : ByteArray := prog_1_method_41_code
def yX1_isColourOrBare : MethodName := ⟨RX1, "isColourOrBare", "(I)Z"⟩
abbrev cX1_cell : ByteArray := prog_1_method_42_code
def yX1_cell : MethodName := ⟨RX1, "cell", "(II)I"⟩
abbrev cX1_nextTo : ByteArray := prog_1_method_43_code
def yX1_nextTo : MethodName := ⟨RX1, "nextTo", "(I)I"⟩
def RX2 : String := "ColourTideModel"
def TX2 : u_T := fun k => match k with
  | 0 => ("ColourTideModel", "thrown", "I", false)
  | 1 => ("ColourTideModel", "w", "I", false)
  | 2 => ("ColourTideModel", "h", "I", false)
  | 3 => ("ColourTideModel", "need", "I", false)
  | 4 => ("ColourTideModel", "waves", "I", false)
  | 5 => ("ColourTideModel", "colours", "[I", true)
  | 6 => ("ColourTideModel", "next", "[I", true)
  | 7 => ("ColourTideModel", "stubborn", "[Z", true)
  | 8 => ("ColourTideModel", "beside", "[I", true)
  | 9 => ("ColourTideModel", "kept", "[I", true)
  | 10 => ("ColourTideModel", "regions", "[I", true)
  | 11 => ("ColourTideModel", "sizes", "[I", true)
  | 12 => ("ColourTideModel", "line", "[I", true)
  | _ => ("ColourTideModel", "many", "I", false)
def tyX2 : Nat → FieldType := fun k => match k with
  | 0 => .int
  | 1 => .int
  | 2 => .int
  | 3 => .int
  | 4 => .int
  | 5 => .array .int
  | 6 => .array .int
  | 7 => .array .boolean
  | 8 => .array .int
  | 9 => .array .int
  | 10 => .array .int
  | 11 => .array .int
  | 12 => .array .int
  | _ => .int
abbrev wsX20 : List Cond := u_ws RX2 TX2 14
theorem nmX2 : ∀ a, a < 14 → ∀ b, b < 14 → a ≠ b → (TX2 a).2.1 ≠ (TX2 b).2.1 := by decide +kernel
theorem tyX2_ok : ∀ k, k < 14 → parseFieldDescriptor (TX2 k).2.2.1 = some (tyX2 k) := by decide +kernel
abbrev cX2_init : ByteArray := prog_4_method_1_code
def yX2_init : MethodName := ⟨RX2, "<init>", "()V"⟩
abbrev cX2_thrown : ByteArray := prog_4_method_2_code
def yX2_thrown : MethodName := ⟨RX2, "thrown", "()I"⟩
abbrev cX2_fail : ByteArray := prog_4_method_3_code
def yX2_fail : MethodName := ⟨RX2, "fail", "(I)I"⟩
abbrev cX2_isIn : ByteArray := prog_4_method_4_code
def yX2_isIn : MethodName := ⟨RX2, "isIn", "(III)Z"⟩
abbrev cX2_cells : ByteArray := prog_4_method_5_code
def yX2_cells : MethodName := ⟨RX2, "cells", "()I"⟩
abbrev cX2_isCell : ByteArray := prog_4_method_6_code
def yX2_isCell : MethodName := ⟨RX2, "isCell", "(II)Z"⟩
abbrev cX2_isColour : ByteArray := prog_4_method_7_code
def yX2_isColour : MethodName := ⟨RX2, "isColour", "(I)Z"⟩
abbrev cX2_isAny : ByteArray := prog_4_method_8_code
def yX2_isAny : MethodName := ⟨RX2, "isAny", "(I)Z"⟩
abbrev cX2_take : ByteArray := prog_4_method_9_code
def yX2_take : MethodName := ⟨RX2, "take", "(II)V"⟩
abbrev cX2_keep : ByteArray := prog_4_method_10_code
def yX2_keep : MethodName := ⟨RX2, "keep", "()V"⟩
abbrev cX2_bringBack : ByteArray := prog_4_method_11_code
def yX2_bringBack : MethodName := ⟨RX2, "bringBack", "()V"⟩
abbrev cX2_beside : ByteArray := prog_4_method_12_code
def yX2_beside : MethodName := ⟨RX2, "beside", "(II)I"⟩
abbrev cX2_nextOf : ByteArray := prog_4_method_13_code
def yX2_nextOf : MethodName := ⟨RX2, "nextOf", "(I)I"⟩
abbrev cX2_wave : ByteArray := prog_4_method_14_code
def yX2_wave : MethodName := ⟨RX2, "wave", "()I"⟩
abbrev cX2_cellsWith : ByteArray := prog_4_method_15_code
def yX2_cellsWith : MethodName := ⟨RX2, "cellsWith", "(I)I"⟩
abbrev cX2_newMap : ByteArray := prog_4_method_16_code
def yX2_newMap : MethodName := ⟨RX2, "newMap", "(II)I"⟩
abbrev cX2_paint : ByteArray := prog_4_method_17_code
def yX2_paint : MethodName := ⟨RX2, "paint", "(III)I"⟩
abbrev cX2_turnStubborn : ByteArray := prog_4_method_18_code
def yX2_turnStubborn : MethodName := ⟨RX2, "turnStubborn", "(II)Z"⟩
abbrev cX2_setNeed : ByteArray := prog_4_method_19_code
def yX2_setNeed : MethodName := ⟨RX2, "setNeed", "(I)I"⟩
abbrev cX2_pass : ByteArray := prog_4_method_20_code
def yX2_pass : MethodName := ⟨RX2, "pass", "(I)I"⟩
abbrev cX2_colourAt : ByteArray := prog_4_method_21_code
def yX2_colourAt : MethodName := ⟨RX2, "colourAt", "(II)I"⟩
abbrev cX2_isStubborn : ByteArray := prog_4_method_22_code
def yX2_isStubborn : MethodName := ⟨RX2, "isStubborn", "(II)Z"⟩
abbrev cX2_neighboursWith : ByteArray := prog_4_method_23_code
def yX2_neighboursWith : MethodName := ⟨RX2, "neighboursWith", "(III)I"⟩
abbrev cX2_nextColour : ByteArray := prog_4_method_24_code
def yX2_nextColour : MethodName := ⟨RX2, "nextColour", "(II)I"⟩
abbrev cX2_hang : ByteArray := prog_4_method_25_code
def yX2_hang : MethodName := ⟨RX2, "hang", "()V"⟩
abbrev cX2_spread : ByteArray := prog_4_method_26_code
def yX2_spread : MethodName := ⟨RX2, "spread", "(I)V"⟩
abbrev cX2_sizeOf : ByteArray := prog_4_method_27_code
def yX2_sizeOf : MethodName := ⟨RX2, "sizeOf", "(I)I"⟩
abbrev cX2_regionSize : ByteArray := prog_4_method_28_code
def yX2_regionSize : MethodName := ⟨RX2, "regionSize", "(II)I"⟩
abbrev cX2_width : ByteArray := prog_4_method_29_code
def yX2_width : MethodName := ⟨RX2, "width", "()I"⟩
abbrev cX2_height : ByteArray := prog_4_method_30_code
def yX2_height : MethodName := ⟨RX2, "height", "()I"⟩
abbrev cX2_need : ByteArray := prog_4_method_31_code
def yX2_need : MethodName := ⟨RX2, "need", "()I"⟩
abbrev cX2_waves : ByteArray := prog_4_method_32_code
def yX2_waves : MethodName := ⟨RX2, "waves", "()I"⟩
abbrev cX2_stubbornOnes : ByteArray := prog_4_method_33_code
def yX2_stubbornOnes : MethodName := ⟨RX2, "stubbornOnes", "()I"⟩
abbrev cX2_stubbornCells : ByteArray := prog_4_method_34_code
def yX2_stubbornCells : MethodName := ⟨RX2, "stubbornCells", "()I"⟩
abbrev cX2_cellsOf : ByteArray := prog_4_method_35_code
def yX2_cellsOf : MethodName := ⟨RX2, "cellsOf", "(I)I"⟩
abbrev cX2_regions : ByteArray := prog_4_method_36_code
def yX2_regions : MethodName := ⟨RX2, "regions", "(IZ)I"⟩
abbrev cX2_regionsOf : ByteArray := prog_4_method_37_code
def yX2_regionsOf : MethodName := ⟨RX2, "regionsOf", "(I)I"⟩
abbrev cX2_greatestRegion : ByteArray := prog_4_method_38_code
def yX2_greatestRegion : MethodName := ⟨RX2, "greatestRegion", "(I)I"⟩
abbrev cX2_between : ByteArray := prog_4_method_39_code
def yX2_between : MethodName := ⟨RX2, "between", "()I"⟩
abbrev cX2_borders : ByteArray := prog_4_method_40_code
def yX2_borders : MethodName := ⟨RX2, "borders", "()I"⟩
abbrev cX2_first : ByteArray := prog_4_method_41_code
def yX2_first : MethodName := ⟨RX2, "first", "()I"⟩
abbrev cX2_leader : ByteArray := prog_4_method_42_code
def yX2_leader : MethodName := ⟨RX2, "leader", "()I"⟩
abbrev cX2_still : ByteArray := prog_4_method_43_code
def yX2_still : MethodName := ⟨RX2, "still", "()Z"⟩
abbrev cX2_isStill : ByteArray := prog_4_method_44_code
def yX2_isStill : MethodName := ⟨RX2, "isStill", "()Z"⟩
abbrev cX2_all : ByteArray := prog_4_method_45_code
def yX2_all : MethodName := ⟨RX2, "all", "()I"⟩
abbrev cX2_winner : ByteArray := prog_4_method_46_code
def yX2_winner : MethodName := ⟨RX2, "winner", "()I"⟩
abbrev cX2_wavesUntilStill : ByteArray := prog_4_method_47_code
def yX2_wavesUntilStill : MethodName := ⟨RX2, "wavesUntilStill", "()I"⟩
abbrev cX2_after : ByteArray := prog_4_method_48_code
def yX2_after : MethodName := ⟨RX2, "after", "(II)I"⟩
abbrev cX2_cellsAfter : ByteArray := prog_4_method_49_code
def yX2_cellsAfter : MethodName := ⟨RX2, "cellsAfter", "(II)I"⟩
abbrev cX2_winsNow : ByteArray := prog_4_method_50_code
def yX2_winsNow : MethodName := ⟨RX2, "winsNow", "(I)Z"⟩
abbrev cX2_winsWith : ByteArray := prog_4_method_51_code
def yX2_winsWith : MethodName := ⟨RX2, "winsWith", "(III)Z"⟩
abbrev cX2_wins : ByteArray := prog_4_method_52_code
def yX2_wins : MethodName := ⟨RX2, "wins", "(I)Z"⟩
abbrev cX2_fewestSeeds : ByteArray := prog_4_method_53_code
def yX2_fewestSeeds : MethodName := ⟨RX2, "fewestSeeds", "(I)I"⟩
abbrev cX2_bestCell : ByteArray := prog_4_method_54_code
def yX2_bestCell : MethodName := ⟨RX2, "bestCell", "(II)I"⟩
abbrev cX2_share : ByteArray := prog_4_method_55_code
def yX2_share : MethodName := ⟨RX2, "share", "(I)D"⟩
abbrev cX2_digest : ByteArray := prog_4_method_56_code
def yX2_digest : MethodName := ⟨RX2, "digest", "()J"⟩
def RJ6 : String := "java/lang/Integer"
def TJ6 : u_T := fun k => match k with
  | _ => ("", "", "", false)
def tyJ6 : Nat → FieldType := fun k => match k with
  | _ => .int
abbrev wsJ60 : List Cond := u_ws RJ6 TJ6 0
theorem nmJ6 : ∀ a, a < 0 → ∀ b, b < 0 → a ≠ b → (TJ6 a).2.1 ≠ (TJ6 b).2.1 := by decide +kernel
theorem tyJ6_ok : ∀ k, k < 0 → parseFieldDescriptor (TJ6 k).2.2.1 = some (tyJ6 k) := by decide +kernel
abbrev cJ6_bitCount_0f7a4 : ByteArray := prog_8_method_49_code
def yJ6_bitCount_0f7a4 : MethodName := ⟨RJ6, "bitCount", "(I)I"⟩
def RJ9 : String := "java/lang/Math"
def TJ9 : u_T := fun k => match k with
  | _ => ("", "", "", false)
def tyJ9 : Nat → FieldType := fun k => match k with
  | _ => .int
abbrev wsJ90 : List Cond := u_ws RJ9 TJ9 0
theorem nmJ9 : ∀ a, a < 0 → ∀ b, b < 0 → a ≠ b → (TJ9 a).2.1 ≠ (TJ9 b).2.1 := by decide +kernel
theorem tyJ9_ok : ∀ k, k < 0 → parseFieldDescriptor (TJ9 k).2.2.1 = some (tyJ9 k) := by decide +kernel
abbrev cJ9_max_7cf53 : ByteArray := prog_9_method_65_code
def yJ9_max_7cf53 : MethodName := ⟨RJ9, "max", "(II)I"⟩
def RJ0 : String := "java/lang/String"
def TJ0 : u_T := fun k => match k with
  | _ => ("", "", "", false)
def tyJ0 : Nat → FieldType := fun k => match k with
  | _ => .int
abbrev wsJ00 : List Cond := u_ws RJ0 TJ0 0
theorem nmJ0 : ∀ a, a < 0 → ∀ b, b < 0 → a ≠ b → (TJ0 a).2.1 ≠ (TJ0 b).2.1 := by decide +kernel
theorem tyJ0_ok : ∀ k, k < 0 → parseFieldDescriptor (TJ0 k).2.2.1 = some (tyJ0 k) := by decide +kernel
def RJ10 : String := "java/lang/System"
def TJ10 : u_T := fun k => match k with
  | _ => ("", "", "", false)
def tyJ10 : Nat → FieldType := fun k => match k with
  | _ => .int
abbrev wsJ100 : List Cond := u_ws RJ10 TJ10 0
theorem nmJ10 : ∀ a, a < 0 → ∀ b, b < 0 → a ≠ b → (TJ10 a).2.1 ≠ (TJ10 b).2.1 := by decide +kernel
theorem tyJ10_ok : ∀ k, k < 0 → parseFieldDescriptor (TJ10 k).2.2.1 = some (tyJ10 k) := by decide +kernel
def RL : String := "ColourTideLaw"
abbrev cL_newMap : ByteArray := method_3_code
def yL_newMap : MethodName := ⟨RL, "newMap", "(LColourTide;II[J)I"⟩
abbrev cL_paint : ByteArray := method_4_code
def yL_paint : MethodName := ⟨RL, "paint", "(LColourTide;III[J)I"⟩
abbrev cL_turnStubborn : ByteArray := method_5_code
def yL_turnStubborn : MethodName := ⟨RL, "turnStubborn", "(LColourTide;II[J)I"⟩
abbrev cL_setNeed : ByteArray := method_6_code
def yL_setNeed : MethodName := ⟨RL, "setNeed", "(LColourTide;I[J)I"⟩
abbrev cL_pass : ByteArray := method_7_code
def yL_pass : MethodName := ⟨RL, "pass", "(LColourTide;I[J)I"⟩
abbrev cL_colourAt : ByteArray := method_8_code
def yL_colourAt : MethodName := ⟨RL, "colourAt", "(LColourTide;II[J)I"⟩
abbrev cL_isStubborn : ByteArray := method_9_code
def yL_isStubborn : MethodName := ⟨RL, "isStubborn", "(LColourTide;II[J)I"⟩
abbrev cL_neighboursWith : ByteArray := method_10_code
def yL_neighboursWith : MethodName := ⟨RL, "neighboursWith", "(LColourTide;III[J)I"⟩
abbrev cL_nextColour : ByteArray := method_11_code
def yL_nextColour : MethodName := ⟨RL, "nextColour", "(LColourTide;II[J)I"⟩
abbrev cL_regionSize : ByteArray := method_12_code
def yL_regionSize : MethodName := ⟨RL, "regionSize", "(LColourTide;II[J)I"⟩
abbrev cL_cellsOf : ByteArray := method_13_code
def yL_cellsOf : MethodName := ⟨RL, "cellsOf", "(LColourTide;I[J)I"⟩
abbrev cL_regionsOf : ByteArray := method_14_code
def yL_regionsOf : MethodName := ⟨RL, "regionsOf", "(LColourTide;I[J)I"⟩
abbrev cL_greatestRegion : ByteArray := method_15_code
def yL_greatestRegion : MethodName := ⟨RL, "greatestRegion", "(LColourTide;I[J)I"⟩
abbrev cL_cellsAfter : ByteArray := method_16_code
def yL_cellsAfter : MethodName := ⟨RL, "cellsAfter", "(LColourTide;II[J)I"⟩
abbrev cL_wins : ByteArray := method_17_code
def yL_wins : MethodName := ⟨RL, "wins", "(LColourTide;I[J)I"⟩
abbrev cL_fewestSeeds : ByteArray := method_18_code
def yL_fewestSeeds : MethodName := ⟨RL, "fewestSeeds", "(LColourTide;I[J)I"⟩
abbrev cL_bestCell : ByteArray := method_19_code
def yL_bestCell : MethodName := ⟨RL, "bestCell", "(LColourTide;II[J)I"⟩
abbrev cL_share : ByteArray := method_20_code
def yL_share : MethodName := ⟨RL, "share", "(LColourTide;I[D)I"⟩
abbrev cL_law : ByteArray := code
def yL_law : MethodName := ⟨RL, "law", "([I)Z"⟩
def wsX0_init : List Cond := .code yX0_init cX0_init 1 none :: ([.methodLink RX0 3 objectInit, .instanceMethod objectInit, .code objectInit ⟨#[0xb1]⟩ 1 none, .fieldLink RX0 9 "ColourTide$Tide" "need" "I", .arrayClass .int, .fieldLink RX0 15 "ColourTide$Tide" "sets" "[I", .fieldLink RX0 19 "ColourTide$Tide" "crowds" "[I", .fieldLink RX0 22 "ColourTide$Tide" "gains" "[I"] ++ wsX00)
def wsX1_cell : List Cond := .code yX1_cell cX1_cell 2 (some .int) :: ([])
def wsX0_clear : List Cond := .code yX0_clear cX0_clear 5 none :: ([.fieldLink RX0 25 "ColourTide$Tide" "board" "I", .fieldLink RX0 32 "ColourTide$Tide" "stubborn" "I", .fieldLink RX0 15 "ColourTide$Tide" "sets" "[I", .static yX1_cell, .initialized RX1, .code yX1_cell cX1_cell 2 (some .int)] ++ wsX00)
def wsX0_copyFrom : List Cond := .code yX0_copyFrom cX0_copyFrom 3 none :: ([.fieldLink RX0 25 "ColourTide$Tide" "board" "I", .fieldLink RX0 32 "ColourTide$Tide" "stubborn" "I", .fieldLink RX0 9 "ColourTide$Tide" "need" "I", .fieldLink RX0 15 "ColourTide$Tide" "sets" "[I"] ++ wsX00)
def wsX0_cellsWith : List Cond := .code yX0_cellsWith cX0_cellsWith 2 (some .int) :: ([.fieldLink RX0 15 "ColourTide$Tide" "sets" "[I"] ++ wsX00)
def wsJ6_bitCount_0f7a4 : List Cond := .code yJ6_bitCount_0f7a4 cJ6_bitCount_0f7a4 1 (some .int) :: ([.constant RJ6 265 (1431655765), .constant RJ6 266 (858993459), .constant RJ6 267 (252645135)])
def wsX0_count : List Cond := .code yX0_count cX0_count 2 (some .int) :: ([.methodLink RX0 35 yX0_cellsWith, .instanceMethod yX0_cellsWith, .selects RX0 yX0_cellsWith yX0_cellsWith, .initialized RX0, .code yX0_cellsWith cX0_cellsWith 2 (some .int), .fieldLink RX0 15 "ColourTide$Tide" "sets" "[I", .methodLink RX0 39 yJ6_bitCount_0f7a4, .static yJ6_bitCount_0f7a4, .initialized RJ6, .code yJ6_bitCount_0f7a4 cJ6_bitCount_0f7a4 1 (some .int), .constant RJ6 265 (1431655765), .constant RJ6 266 (858993459), .constant RJ6 267 (252645135)] ++ wsX00)
def wsX0_isAll : List Cond := .code yX0_isAll cX0_isAll 2 (some .boolean) :: ([.fieldLink RX0 25 "ColourTide$Tide" "board" "I", .methodLink RX0 35 yX0_cellsWith, .instanceMethod yX0_cellsWith, .selects RX0 yX0_cellsWith yX0_cellsWith, .initialized RX0, .code yX0_cellsWith cX0_cellsWith 2 (some .int), .fieldLink RX0 15 "ColourTide$Tide" "sets" "[I"] ++ wsX00)
def wsX0_firstColourWith : List Cond := .code yX0_firstColourWith cX0_firstColourWith 3 (some .int) :: ([])
def wsX0_colourOf : List Cond := .code yX0_colourOf cX0_colourOf 2 (some .int) :: ([.fieldLink RX0 15 "ColourTide$Tide" "sets" "[I", .methodLink RX0 44 yX0_firstColourWith, .static yX0_firstColourWith, .initialized RX0, .code yX0_firstColourWith cX0_firstColourWith 3 (some .int)] ++ wsX00)
def wsX0_dye : List Cond := .code yX0_dye cX0_dye 4 none :: ([.fieldLink RX0 15 "ColourTide$Tide" "sets" "[I"] ++ wsX00)
def wsX0_withNeighbours : List Cond := .code yX0_withNeighbours cX0_withNeighbours 6 (some .int) :: ([])
def wsX0_addGains : List Cond := .code yX0_addGains cX0_addGains 5 none :: ([.fieldLink RX0 19 "ColourTide$Tide" "crowds" "[I", .fieldLink RX0 15 "ColourTide$Tide" "sets" "[I", .fieldLink RX0 22 "ColourTide$Tide" "gains" "[I", .fieldLink RX0 25 "ColourTide$Tide" "board" "I", .fieldLink RX0 32 "ColourTide$Tide" "stubborn" "I", .methodLink RX0 73 yX0_withNeighbours, .static yX0_withNeighbours, .initialized RX0, .code yX0_withNeighbours cX0_withNeighbours 6 (some .int)] ++ wsX00)
def wsX0_foresee : List Cond := .code yX0_foresee cX0_foresee 3 (some .int) :: ([.fieldLink RX0 22 "ColourTide$Tide" "gains" "[I", .fieldLink RX0 9 "ColourTide$Tide" "need" "I", .fieldLink RX0 15 "ColourTide$Tide" "sets" "[I", .methodLink RX0 56 yX0_addGains, .instanceMethod yX0_addGains, .selects RX0 yX0_addGains yX0_addGains, .initialized RX0, .code yX0_addGains cX0_addGains 5 none, .fieldLink RX0 19 "ColourTide$Tide" "crowds" "[I", .fieldLink RX0 25 "ColourTide$Tide" "board" "I", .fieldLink RX0 32 "ColourTide$Tide" "stubborn" "I", .methodLink RX0 73 yX0_withNeighbours, .static yX0_withNeighbours, .code yX0_withNeighbours cX0_withNeighbours 6 (some .int)] ++ wsX00)
def wsX0_takeGains : List Cond := .code yX0_takeGains cX0_takeGains 3 none :: ([.fieldLink RX0 15 "ColourTide$Tide" "sets" "[I", .fieldLink RX0 22 "ColourTide$Tide" "gains" "[I"] ++ wsX00)
def wsX0_surge : List Cond := .code yX0_surge cX0_surge 4 (some .int) :: ([.methodLink RX0 48 yX0_foresee, .instanceMethod yX0_foresee, .selects RX0 yX0_foresee yX0_foresee, .initialized RX0, .code yX0_foresee cX0_foresee 3 (some .int), .fieldLink RX0 22 "ColourTide$Tide" "gains" "[I", .fieldLink RX0 9 "ColourTide$Tide" "need" "I", .fieldLink RX0 15 "ColourTide$Tide" "sets" "[I", .methodLink RX0 56 yX0_addGains, .instanceMethod yX0_addGains, .selects RX0 yX0_addGains yX0_addGains, .code yX0_addGains cX0_addGains 5 none, .fieldLink RX0 19 "ColourTide$Tide" "crowds" "[I", .fieldLink RX0 25 "ColourTide$Tide" "board" "I", .fieldLink RX0 32 "ColourTide$Tide" "stubborn" "I", .methodLink RX0 73 yX0_withNeighbours, .static yX0_withNeighbours, .code yX0_withNeighbours cX0_withNeighbours 6 (some .int), .methodLink RX0 52 yX0_takeGains, .instanceMethod yX0_takeGains, .selects RX0 yX0_takeGains yX0_takeGains, .code yX0_takeGains cX0_takeGains 3 none] ++ wsX00)
def wsX0_foreseenColourOf : List Cond := .code yX0_foreseenColourOf cX0_foreseenColourOf 3 (some .int) :: ([.fieldLink RX0 22 "ColourTide$Tide" "gains" "[I", .methodLink RX0 44 yX0_firstColourWith, .static yX0_firstColourWith, .initialized RX0, .code yX0_firstColourWith cX0_firstColourWith 3 (some .int), .methodLink RX0 59 yX0_colourOf, .instanceMethod yX0_colourOf, .selects RX0 yX0_colourOf yX0_colourOf, .code yX0_colourOf cX0_colourOf 2 (some .int), .fieldLink RX0 15 "ColourTide$Tide" "sets" "[I"] ++ wsX00)
def wsX1_nextTo : List Cond := .code yX1_nextTo cX1_nextTo 1 (some .int) :: ([])
def wsX0_regionFrom : List Cond := .code yX0_regionFrom cX0_regionFrom 5 (some .int) :: ([.static yX1_nextTo, .initialized RX1, .code yX1_nextTo cX1_nextTo 1 (some .int)])
def wsX0_sizeOfRegion_r1 : List Cond := [Cond.methodLink RX0 59 yX0_colourOf, Cond.instanceMethod yX0_colourOf, Cond.selects RX0 yX0_colourOf yX0_colourOf, Cond.initialized RX0, Cond.code yX0_colourOf cX0_colourOf 2 (some .int), Cond.fieldLink RX0 15 "ColourTide$Tide" "sets" "[I", Cond.methodLink RX0 44 yX0_firstColourWith, Cond.static yX0_firstColourWith, Cond.code yX0_firstColourWith cX0_firstColourWith 3 (some .int), Cond.methodLink RX0 35 yX0_cellsWith, Cond.instanceMethod yX0_cellsWith, Cond.selects RX0 yX0_cellsWith yX0_cellsWith, Cond.code yX0_cellsWith cX0_cellsWith 2 (some .int), Cond.methodLink RX0 62 yX0_regionFrom, Cond.static yX0_regionFrom, Cond.code yX0_regionFrom cX0_regionFrom 5 (some .int), Cond.static yX1_nextTo, Cond.initialized RX1, Cond.code yX1_nextTo cX1_nextTo 1 (some .int), Cond.methodLink RX0 39 yJ6_bitCount_0f7a4, Cond.static yJ6_bitCount_0f7a4, Cond.initialized RJ6, Cond.code yJ6_bitCount_0f7a4 cJ6_bitCount_0f7a4 1 (some .int), Cond.constant RJ6 265 (1431655765)]
def wsX0_sizeOfRegion_r2 : List Cond := [Cond.constant RJ6 266 (858993459), Cond.constant RJ6 267 (252645135)]
def wsX0_sizeOfRegion : List Cond := .code yX0_sizeOfRegion cX0_sizeOfRegion 3 (some .int) :: ((wsX0_sizeOfRegion_r1 ++ wsX0_sizeOfRegion_r2) ++ wsX00)
def wsX0_countRegions : List Cond := .code yX0_countRegions cX0_countRegions 5 (some .int) :: ([.methodLink RX0 35 yX0_cellsWith, .instanceMethod yX0_cellsWith, .selects RX0 yX0_cellsWith yX0_cellsWith, .initialized RX0, .code yX0_cellsWith cX0_cellsWith 2 (some .int), .fieldLink RX0 15 "ColourTide$Tide" "sets" "[I", .methodLink RX0 62 yX0_regionFrom, .static yX0_regionFrom, .code yX0_regionFrom cX0_regionFrom 5 (some .int), .static yX1_nextTo, .initialized RX1, .code yX1_nextTo cX1_nextTo 1 (some .int)] ++ wsX00)
def wsX0_sizeOfGreatestRegion : List Cond := .code yX0_sizeOfGreatestRegion cX0_sizeOfGreatestRegion 6 (some .int) :: ([.methodLink RX0 65 Lib.Math.max.name, .static Lib.Math.max.name, .initialized "java/lang/Math", .code Lib.Math.max.name Lib.Math.max.code 2 (some .int), .methodLink RX0 35 yX0_cellsWith, .instanceMethod yX0_cellsWith, .selects RX0 yX0_cellsWith yX0_cellsWith, .initialized RX0, .code yX0_cellsWith cX0_cellsWith 2 (some .int), .fieldLink RX0 15 "ColourTide$Tide" "sets" "[I", .methodLink RX0 62 yX0_regionFrom, .static yX0_regionFrom, .code yX0_regionFrom cX0_regionFrom 5 (some .int), .static yX1_nextTo, .initialized RX1, .code yX1_nextTo cX1_nextTo 1 (some .int), .methodLink RX0 39 yJ6_bitCount_0f7a4, .static yJ6_bitCount_0f7a4, .initialized RJ6, .code yJ6_bitCount_0f7a4 cJ6_bitCount_0f7a4 1 (some .int), .constant RJ6 265 (1431655765), .constant RJ6 266 (858993459), .constant RJ6 267 (252645135)] ++ wsX00)
def wsX0_countPairs : List Cond := .code yX0_countPairs cX0_countPairs 1 (some .int) :: ([.methodLink RX0 39 yJ6_bitCount_0f7a4, .static yJ6_bitCount_0f7a4, .initialized RJ6, .code yJ6_bitCount_0f7a4 cJ6_bitCount_0f7a4 1 (some .int), .constant RJ6 265 (1431655765), .constant RJ6 266 (858993459), .constant RJ6 267 (252645135)])
def wsX0_countBorders : List Cond := .code yX0_countBorders cX0_countBorders 3 (some .int) :: ([.fieldLink RX0 25 "ColourTide$Tide" "board" "I", .fieldLink RX0 15 "ColourTide$Tide" "sets" "[I", .methodLink RX0 70 yX0_countPairs, .static yX0_countPairs, .initialized RX0, .code yX0_countPairs cX0_countPairs 1 (some .int), .methodLink RX0 39 yJ6_bitCount_0f7a4, .static yJ6_bitCount_0f7a4, .initialized RJ6, .code yJ6_bitCount_0f7a4 cJ6_bitCount_0f7a4 1 (some .int), .constant RJ6 265 (1431655765), .constant RJ6 266 (858993459), .constant RJ6 267 (252645135)] ++ wsX00)
def wsX1_init_r1 : List Cond := [Cond.methodLink RX1 3 objectInit, Cond.instanceMethod objectInit, Cond.code objectInit ⟨#[0xb1]⟩ 1 none, Cond.classLink RX1 9 RX0, Cond.instantiable RX0 6, Cond.initialized RX0, Cond.fieldLink RX1 12 "ColourTide" "map" "LColourTide$Tide;", Cond.fieldLink RX1 16 "ColourTide" "trial" "LColourTide$Tide;", Cond.fieldLink RX1 19 "ColourTide" "width" "I", Cond.fieldLink RX1 23 "ColourTide" "height" "I", Cond.fieldLink RX1 26 "ColourTide" "waves" "I", Cond.methodLink RX1 11 yX0_init, Cond.instanceMethod yX0_init, Cond.code yX0_init cX0_init 1 none, Cond.methodLink RX0 3 objectInit, Cond.fieldLink RX0 9 "ColourTide$Tide" "need" "I", Cond.arrayClass .int, Cond.fieldLink RX0 15 "ColourTide$Tide" "sets" "[I", Cond.fieldLink RX0 19 "ColourTide$Tide" "crowds" "[I", Cond.fieldLink RX0 22 "ColourTide$Tide" "gains" "[I", Cond.methodLink RX1 29 yX0_clear, Cond.instanceMethod yX0_clear, Cond.selects RX0 yX0_clear yX0_clear, Cond.code yX0_clear cX0_clear 5 none]
def wsX1_init_r2 : List Cond := [Cond.fieldLink RX0 25 "ColourTide$Tide" "board" "I", Cond.fieldLink RX0 32 "ColourTide$Tide" "stubborn" "I", Cond.static yX1_cell, Cond.initialized RX1, Cond.code yX1_cell cX1_cell 2 (some .int)]
def wsX1_init : List Cond := .code yX1_init cX1_init 1 none :: ((wsX1_init_r1 ++ wsX1_init_r2) ++ wsX00 ++ wsX10)
def wsX1_isSide : List Cond := .code yX1_isSide cX1_isSide 1 (some .boolean) :: ([])
def wsX1_newMap : List Cond := .code yX1_newMap cX1_newMap 3 (some .int) :: ([.classLink RX1 37 "java/lang/IllegalArgumentException", .initialized "java/lang/IllegalArgumentException", .fieldLink RX1 19 "ColourTide" "width" "I", .fieldLink RX1 23 "ColourTide" "height" "I", .fieldLink RX1 26 "ColourTide" "waves" "I", .fieldLink RX1 12 "ColourTide" "map" "LColourTide$Tide;", .methodLink RX1 33 yX1_isSide, .static yX1_isSide, .initialized RX1, .code yX1_isSide cX1_isSide 1 (some .boolean), .methodLink RX1 29 yX0_clear, .instanceMethod yX0_clear, .selects RX0 yX0_clear yX0_clear, .initialized RX0, .code yX0_clear cX0_clear 5 none, .fieldLink RX0 25 "ColourTide$Tide" "board" "I", .fieldLink RX0 32 "ColourTide$Tide" "stubborn" "I", .fieldLink RX0 15 "ColourTide$Tide" "sets" "[I", .static yX1_cell, .code yX1_cell cX1_cell 2 (some .int)] ++ wsX10 ++ wsX00 ++ (vx_atS RX1 41 "java/lang/IllegalArgumentException" ["java/lang/RuntimeException", "java/lang/Exception"]).filter goodWord)
def wsX1_isOnMap : List Cond := .code yX1_isOnMap cX1_isOnMap 3 (some .boolean) :: ([.fieldLink RX1 19 "ColourTide" "width" "I", .fieldLink RX1 23 "ColourTide" "height" "I"] ++ wsX10)
def wsX1_isColour : List Cond := .code yX1_isColour cX1_isColour 1 (some .boolean) :: ([])
def wsX1_isColourOrBare : List Cond := .code yX1_isColourOrBare cX1_isColourOrBare 1 (some .boolean) :: ([.methodLink RX1 108 yX1_isColour, .static yX1_isColour, .initialized RX1, .code yX1_isColour cX1_isColour 1 (some .boolean)])
def wsX1_paint_r1 : List Cond := [Cond.classLink RX1 51 "java/lang/IndexOutOfBoundsException", Cond.initialized "java/lang/IndexOutOfBoundsException", Cond.fieldLink RX1 12 "ColourTide" "map" "LColourTide$Tide;", Cond.methodLink RX1 44 yX1_isOnMap, Cond.instanceMethod yX1_isOnMap, Cond.selects RX1 yX1_isOnMap yX1_isOnMap, Cond.initialized RX1, Cond.code yX1_isOnMap cX1_isOnMap 3 (some .boolean), Cond.fieldLink RX1 19 "ColourTide" "width" "I", Cond.fieldLink RX1 23 "ColourTide" "height" "I", Cond.methodLink RX1 48 yX1_isColourOrBare, Cond.static yX1_isColourOrBare, Cond.code yX1_isColourOrBare cX1_isColourOrBare 1 (some .boolean), Cond.methodLink RX1 108 yX1_isColour, Cond.static yX1_isColour, Cond.code yX1_isColour cX1_isColour 1 (some .boolean), Cond.methodLink RX1 56 yX1_cell, Cond.static yX1_cell, Cond.code yX1_cell cX1_cell 2 (some .int), Cond.methodLink RX1 60 yX0_colourOf, Cond.instanceMethod yX0_colourOf, Cond.selects RX0 yX0_colourOf yX0_colourOf, Cond.initialized RX0, Cond.code yX0_colourOf cX0_colourOf 2 (some .int)]
def wsX1_paint_r2 : List Cond := [Cond.fieldLink RX0 15 "ColourTide$Tide" "sets" "[I", Cond.methodLink RX0 44 yX0_firstColourWith, Cond.static yX0_firstColourWith, Cond.code yX0_firstColourWith cX0_firstColourWith 3 (some .int), Cond.methodLink RX1 64 yX0_dye, Cond.instanceMethod yX0_dye, Cond.selects RX0 yX0_dye yX0_dye, Cond.code yX0_dye cX0_dye 4 none]
def wsX1_paint : List Cond := .code yX1_paint cX1_paint 5 (some .int) :: ((wsX1_paint_r1 ++ wsX1_paint_r2) ++ wsX10 ++ wsX00 ++ (vx_atS RX1 55 "java/lang/IndexOutOfBoundsException" ["java/lang/RuntimeException", "java/lang/Exception"]).filter goodWord)
def wsX1_turnStubborn : List Cond := .code yX1_turnStubborn cX1_turnStubborn 3 (some .boolean) :: ([.classLink RX1 51 "java/lang/IndexOutOfBoundsException", .initialized "java/lang/IndexOutOfBoundsException", .fieldLink RX1 12 "ColourTide" "map" "LColourTide$Tide;", .fieldLink RX1 69 "ColourTide$Tide" "stubborn" "I", .methodLink RX1 44 yX1_isOnMap, .instanceMethod yX1_isOnMap, .selects RX1 yX1_isOnMap yX1_isOnMap, .initialized RX1, .code yX1_isOnMap cX1_isOnMap 3 (some .boolean), .fieldLink RX1 19 "ColourTide" "width" "I", .fieldLink RX1 23 "ColourTide" "height" "I", .methodLink RX1 56 yX1_cell, .static yX1_cell, .code yX1_cell cX1_cell 2 (some .int)] ++ wsX10 ++ wsX00 ++ (vx_atS RX1 55 "java/lang/IndexOutOfBoundsException" ["java/lang/RuntimeException", "java/lang/Exception"]).filter goodWord)
def wsX1_setNeed : List Cond := .code yX1_setNeed cX1_setNeed 3 (some .int) :: ([.classLink RX1 37 "java/lang/IllegalArgumentException", .initialized "java/lang/IllegalArgumentException", .fieldLink RX1 12 "ColourTide" "map" "LColourTide$Tide;", .fieldLink RX1 74 "ColourTide$Tide" "need" "I"] ++ wsX10 ++ wsX00 ++ (vx_atS RX1 41 "java/lang/IllegalArgumentException" ["java/lang/RuntimeException", "java/lang/Exception"]).filter goodWord)
def wsX1_pass_r1 : List Cond := [Cond.classLink RX1 37 "java/lang/IllegalArgumentException", Cond.initialized "java/lang/IllegalArgumentException", Cond.fieldLink RX1 26 "ColourTide" "waves" "I", Cond.fieldLink RX1 12 "ColourTide" "map" "LColourTide$Tide;", Cond.methodLink RX1 79 yX0_surge, Cond.instanceMethod yX0_surge, Cond.selects RX0 yX0_surge yX0_surge, Cond.initialized RX0, Cond.code yX0_surge cX0_surge 4 (some .int), Cond.methodLink RX0 48 yX0_foresee, Cond.instanceMethod yX0_foresee, Cond.selects RX0 yX0_foresee yX0_foresee, Cond.code yX0_foresee cX0_foresee 3 (some .int), Cond.fieldLink RX0 22 "ColourTide$Tide" "gains" "[I", Cond.fieldLink RX0 9 "ColourTide$Tide" "need" "I", Cond.fieldLink RX0 15 "ColourTide$Tide" "sets" "[I", Cond.methodLink RX0 56 yX0_addGains, Cond.instanceMethod yX0_addGains, Cond.selects RX0 yX0_addGains yX0_addGains, Cond.code yX0_addGains cX0_addGains 5 none, Cond.fieldLink RX0 19 "ColourTide$Tide" "crowds" "[I", Cond.fieldLink RX0 25 "ColourTide$Tide" "board" "I", Cond.fieldLink RX0 32 "ColourTide$Tide" "stubborn" "I", Cond.methodLink RX0 73 yX0_withNeighbours]
def wsX1_pass_r2 : List Cond := [Cond.static yX0_withNeighbours, Cond.code yX0_withNeighbours cX0_withNeighbours 6 (some .int), Cond.methodLink RX0 52 yX0_takeGains, Cond.instanceMethod yX0_takeGains, Cond.selects RX0 yX0_takeGains yX0_takeGains, Cond.code yX0_takeGains cX0_takeGains 3 none, Cond.methodLink RX1 82 yJ6_bitCount_0f7a4, Cond.static yJ6_bitCount_0f7a4, Cond.initialized RJ6, Cond.code yJ6_bitCount_0f7a4 cJ6_bitCount_0f7a4 1 (some .int), Cond.constant RJ6 265 (1431655765), Cond.constant RJ6 266 (858993459), Cond.constant RJ6 267 (252645135)]
def wsX1_pass : List Cond := .code yX1_pass cX1_pass 2 (some .int) :: ((wsX1_pass_r1 ++ wsX1_pass_r2) ++ wsX10 ++ wsX00 ++ (vx_atS RX1 41 "java/lang/IllegalArgumentException" ["java/lang/RuntimeException", "java/lang/Exception"]).filter goodWord)
def wsX1_colourAt : List Cond := .code yX1_colourAt cX1_colourAt 3 (some .int) :: ([.classLink RX1 51 "java/lang/IndexOutOfBoundsException", .initialized "java/lang/IndexOutOfBoundsException", .fieldLink RX1 12 "ColourTide" "map" "LColourTide$Tide;", .methodLink RX1 44 yX1_isOnMap, .instanceMethod yX1_isOnMap, .selects RX1 yX1_isOnMap yX1_isOnMap, .initialized RX1, .code yX1_isOnMap cX1_isOnMap 3 (some .boolean), .fieldLink RX1 19 "ColourTide" "width" "I", .fieldLink RX1 23 "ColourTide" "height" "I", .methodLink RX1 56 yX1_cell, .static yX1_cell, .code yX1_cell cX1_cell 2 (some .int), .methodLink RX1 60 yX0_colourOf, .instanceMethod yX0_colourOf, .selects RX0 yX0_colourOf yX0_colourOf, .initialized RX0, .code yX0_colourOf cX0_colourOf 2 (some .int), .fieldLink RX0 15 "ColourTide$Tide" "sets" "[I", .methodLink RX0 44 yX0_firstColourWith, .static yX0_firstColourWith, .code yX0_firstColourWith cX0_firstColourWith 3 (some .int)] ++ wsX10 ++ wsX00 ++ (vx_atS RX1 55 "java/lang/IndexOutOfBoundsException" ["java/lang/RuntimeException", "java/lang/Exception"]).filter goodWord)
def wsX1_isStubborn : List Cond := .code yX1_isStubborn cX1_isStubborn 3 (some .boolean) :: ([.classLink RX1 51 "java/lang/IndexOutOfBoundsException", .initialized "java/lang/IndexOutOfBoundsException", .fieldLink RX1 12 "ColourTide" "map" "LColourTide$Tide;", .fieldLink RX1 69 "ColourTide$Tide" "stubborn" "I", .methodLink RX1 44 yX1_isOnMap, .instanceMethod yX1_isOnMap, .selects RX1 yX1_isOnMap yX1_isOnMap, .initialized RX1, .code yX1_isOnMap cX1_isOnMap 3 (some .boolean), .fieldLink RX1 19 "ColourTide" "width" "I", .fieldLink RX1 23 "ColourTide" "height" "I", .methodLink RX1 56 yX1_cell, .static yX1_cell, .code yX1_cell cX1_cell 2 (some .int)] ++ wsX10 ++ wsX00 ++ (vx_atS RX1 55 "java/lang/IndexOutOfBoundsException" ["java/lang/RuntimeException", "java/lang/Exception"]).filter goodWord)
def wsX1_neighboursWith_r1 : List Cond := [Cond.classLink RX1 51 "java/lang/IndexOutOfBoundsException", Cond.initialized "java/lang/IndexOutOfBoundsException", Cond.fieldLink RX1 12 "ColourTide" "map" "LColourTide$Tide;", Cond.methodLink RX1 44 yX1_isOnMap, Cond.instanceMethod yX1_isOnMap, Cond.selects RX1 yX1_isOnMap yX1_isOnMap, Cond.initialized RX1, Cond.code yX1_isOnMap cX1_isOnMap 3 (some .boolean), Cond.fieldLink RX1 19 "ColourTide" "width" "I", Cond.fieldLink RX1 23 "ColourTide" "height" "I", Cond.methodLink RX1 48 yX1_isColourOrBare, Cond.static yX1_isColourOrBare, Cond.code yX1_isColourOrBare cX1_isColourOrBare 1 (some .boolean), Cond.methodLink RX1 108 yX1_isColour, Cond.static yX1_isColour, Cond.code yX1_isColour cX1_isColour 1 (some .boolean), Cond.methodLink RX1 56 yX1_cell, Cond.static yX1_cell, Cond.code yX1_cell cX1_cell 2 (some .int), Cond.methodLink RX1 87 yX1_nextTo, Cond.static yX1_nextTo, Cond.code yX1_nextTo cX1_nextTo 1 (some .int), Cond.methodLink RX1 90 yX0_cellsWith, Cond.instanceMethod yX0_cellsWith]
def wsX1_neighboursWith_r2 : List Cond := [Cond.selects RX0 yX0_cellsWith yX0_cellsWith, Cond.initialized RX0, Cond.code yX0_cellsWith cX0_cellsWith 2 (some .int), Cond.fieldLink RX0 15 "ColourTide$Tide" "sets" "[I", Cond.methodLink RX1 82 yJ6_bitCount_0f7a4, Cond.static yJ6_bitCount_0f7a4, Cond.initialized RJ6, Cond.code yJ6_bitCount_0f7a4 cJ6_bitCount_0f7a4 1 (some .int), Cond.constant RJ6 265 (1431655765), Cond.constant RJ6 266 (858993459), Cond.constant RJ6 267 (252645135)]
def wsX1_neighboursWith : List Cond := .code yX1_neighboursWith cX1_neighboursWith 4 (some .int) :: ((wsX1_neighboursWith_r1 ++ wsX1_neighboursWith_r2) ++ wsX10 ++ wsX00 ++ (vx_atS RX1 55 "java/lang/IndexOutOfBoundsException" ["java/lang/RuntimeException", "java/lang/Exception"]).filter goodWord)
def wsX1_nextColour_r1 : List Cond := [Cond.classLink RX1 51 "java/lang/IndexOutOfBoundsException", Cond.initialized "java/lang/IndexOutOfBoundsException", Cond.fieldLink RX1 12 "ColourTide" "map" "LColourTide$Tide;", Cond.methodLink RX1 44 yX1_isOnMap, Cond.instanceMethod yX1_isOnMap, Cond.selects RX1 yX1_isOnMap yX1_isOnMap, Cond.initialized RX1, Cond.code yX1_isOnMap cX1_isOnMap 3 (some .boolean), Cond.fieldLink RX1 19 "ColourTide" "width" "I", Cond.fieldLink RX1 23 "ColourTide" "height" "I", Cond.methodLink RX1 93 yX0_foresee, Cond.instanceMethod yX0_foresee, Cond.selects RX0 yX0_foresee yX0_foresee, Cond.initialized RX0, Cond.code yX0_foresee cX0_foresee 3 (some .int), Cond.fieldLink RX0 22 "ColourTide$Tide" "gains" "[I", Cond.fieldLink RX0 9 "ColourTide$Tide" "need" "I", Cond.fieldLink RX0 15 "ColourTide$Tide" "sets" "[I", Cond.methodLink RX0 56 yX0_addGains, Cond.instanceMethod yX0_addGains, Cond.selects RX0 yX0_addGains yX0_addGains, Cond.code yX0_addGains cX0_addGains 5 none, Cond.fieldLink RX0 19 "ColourTide$Tide" "crowds" "[I", Cond.fieldLink RX0 25 "ColourTide$Tide" "board" "I"]
def wsX1_nextColour_r2 : List Cond := [Cond.fieldLink RX0 32 "ColourTide$Tide" "stubborn" "I", Cond.methodLink RX0 73 yX0_withNeighbours, Cond.static yX0_withNeighbours, Cond.code yX0_withNeighbours cX0_withNeighbours 6 (some .int), Cond.methodLink RX1 56 yX1_cell, Cond.static yX1_cell, Cond.code yX1_cell cX1_cell 2 (some .int), Cond.methodLink RX1 97 yX0_foreseenColourOf, Cond.instanceMethod yX0_foreseenColourOf, Cond.selects RX0 yX0_foreseenColourOf yX0_foreseenColourOf, Cond.code yX0_foreseenColourOf cX0_foreseenColourOf 3 (some .int), Cond.methodLink RX0 44 yX0_firstColourWith, Cond.static yX0_firstColourWith, Cond.code yX0_firstColourWith cX0_firstColourWith 3 (some .int), Cond.methodLink RX0 59 yX0_colourOf, Cond.instanceMethod yX0_colourOf, Cond.selects RX0 yX0_colourOf yX0_colourOf, Cond.code yX0_colourOf cX0_colourOf 2 (some .int)]
def wsX1_nextColour : List Cond := .code yX1_nextColour cX1_nextColour 3 (some .int) :: ((wsX1_nextColour_r1 ++ wsX1_nextColour_r2) ++ wsX10 ++ wsX00 ++ (vx_atS RX1 55 "java/lang/IndexOutOfBoundsException" ["java/lang/RuntimeException", "java/lang/Exception"]).filter goodWord)
def wsX1_regionSize_r1 : List Cond := [Cond.classLink RX1 51 "java/lang/IndexOutOfBoundsException", Cond.initialized "java/lang/IndexOutOfBoundsException", Cond.fieldLink RX1 12 "ColourTide" "map" "LColourTide$Tide;", Cond.methodLink RX1 44 yX1_isOnMap, Cond.instanceMethod yX1_isOnMap, Cond.selects RX1 yX1_isOnMap yX1_isOnMap, Cond.initialized RX1, Cond.code yX1_isOnMap cX1_isOnMap 3 (some .boolean), Cond.fieldLink RX1 19 "ColourTide" "width" "I", Cond.fieldLink RX1 23 "ColourTide" "height" "I", Cond.methodLink RX1 56 yX1_cell, Cond.static yX1_cell, Cond.code yX1_cell cX1_cell 2 (some .int), Cond.methodLink RX1 100 yX0_sizeOfRegion, Cond.instanceMethod yX0_sizeOfRegion, Cond.selects RX0 yX0_sizeOfRegion yX0_sizeOfRegion, Cond.initialized RX0, Cond.code yX0_sizeOfRegion cX0_sizeOfRegion 3 (some .int), Cond.methodLink RX0 59 yX0_colourOf, Cond.instanceMethod yX0_colourOf, Cond.selects RX0 yX0_colourOf yX0_colourOf, Cond.code yX0_colourOf cX0_colourOf 2 (some .int), Cond.fieldLink RX0 15 "ColourTide$Tide" "sets" "[I", Cond.methodLink RX0 44 yX0_firstColourWith]
def wsX1_regionSize_r2 : List Cond := [Cond.static yX0_firstColourWith, Cond.code yX0_firstColourWith cX0_firstColourWith 3 (some .int), Cond.methodLink RX0 35 yX0_cellsWith, Cond.instanceMethod yX0_cellsWith, Cond.selects RX0 yX0_cellsWith yX0_cellsWith, Cond.code yX0_cellsWith cX0_cellsWith 2 (some .int), Cond.methodLink RX0 62 yX0_regionFrom, Cond.static yX0_regionFrom, Cond.code yX0_regionFrom cX0_regionFrom 5 (some .int), Cond.static yX1_nextTo, Cond.code yX1_nextTo cX1_nextTo 1 (some .int), Cond.methodLink RX0 39 yJ6_bitCount_0f7a4, Cond.static yJ6_bitCount_0f7a4, Cond.initialized RJ6, Cond.code yJ6_bitCount_0f7a4 cJ6_bitCount_0f7a4 1 (some .int), Cond.constant RJ6 265 (1431655765), Cond.constant RJ6 266 (858993459), Cond.constant RJ6 267 (252645135)]
def wsX1_regionSize : List Cond := .code yX1_regionSize cX1_regionSize 3 (some .int) :: ((wsX1_regionSize_r1 ++ wsX1_regionSize_r2) ++ wsX10 ++ wsX00 ++ (vx_atS RX1 55 "java/lang/IndexOutOfBoundsException" ["java/lang/RuntimeException", "java/lang/Exception"]).filter goodWord)
def wsX1_width : List Cond := .code yX1_width cX1_width 1 (some .int) :: ([.fieldLink RX1 19 "ColourTide" "width" "I"] ++ wsX10)
def wsX1_height : List Cond := .code yX1_height cX1_height 1 (some .int) :: ([.fieldLink RX1 23 "ColourTide" "height" "I"] ++ wsX10)
def wsX1_need : List Cond := .code yX1_need cX1_need 1 (some .int) :: ([.fieldLink RX1 12 "ColourTide" "map" "LColourTide$Tide;", .fieldLink RX1 74 "ColourTide$Tide" "need" "I"] ++ wsX10 ++ wsX00)
def wsX1_waves : List Cond := .code yX1_waves cX1_waves 1 (some .int) :: ([.fieldLink RX1 26 "ColourTide" "waves" "I"] ++ wsX10)
def wsX1_stubbornCells : List Cond := .code yX1_stubbornCells cX1_stubbornCells 1 (some .int) :: ([.fieldLink RX1 12 "ColourTide" "map" "LColourTide$Tide;", .fieldLink RX1 69 "ColourTide$Tide" "stubborn" "I", .methodLink RX1 82 yJ6_bitCount_0f7a4, .static yJ6_bitCount_0f7a4, .initialized RJ6, .code yJ6_bitCount_0f7a4 cJ6_bitCount_0f7a4 1 (some .int), .constant RJ6 265 (1431655765), .constant RJ6 266 (858993459), .constant RJ6 267 (252645135)] ++ wsX10 ++ wsX00)
def wsX1_cellsOf_r1 : List Cond := [Cond.classLink RX1 51 "java/lang/IndexOutOfBoundsException", Cond.initialized "java/lang/IndexOutOfBoundsException", Cond.fieldLink RX1 12 "ColourTide" "map" "LColourTide$Tide;", Cond.methodLink RX1 48 yX1_isColourOrBare, Cond.static yX1_isColourOrBare, Cond.initialized RX1, Cond.code yX1_isColourOrBare cX1_isColourOrBare 1 (some .boolean), Cond.methodLink RX1 108 yX1_isColour, Cond.static yX1_isColour, Cond.code yX1_isColour cX1_isColour 1 (some .boolean), Cond.methodLink RX1 105 yX0_count, Cond.instanceMethod yX0_count, Cond.selects RX0 yX0_count yX0_count, Cond.initialized RX0, Cond.code yX0_count cX0_count 2 (some .int), Cond.methodLink RX0 35 yX0_cellsWith, Cond.instanceMethod yX0_cellsWith, Cond.selects RX0 yX0_cellsWith yX0_cellsWith, Cond.code yX0_cellsWith cX0_cellsWith 2 (some .int), Cond.fieldLink RX0 15 "ColourTide$Tide" "sets" "[I", Cond.methodLink RX0 39 yJ6_bitCount_0f7a4, Cond.static yJ6_bitCount_0f7a4, Cond.initialized RJ6, Cond.code yJ6_bitCount_0f7a4 cJ6_bitCount_0f7a4 1 (some .int)]
def wsX1_cellsOf_r2 : List Cond := [Cond.constant RJ6 265 (1431655765), Cond.constant RJ6 266 (858993459), Cond.constant RJ6 267 (252645135)]
def wsX1_cellsOf : List Cond := .code yX1_cellsOf cX1_cellsOf 2 (some .int) :: ((wsX1_cellsOf_r1 ++ wsX1_cellsOf_r2) ++ wsX10 ++ wsX00 ++ (vx_atS RX1 55 "java/lang/IndexOutOfBoundsException" ["java/lang/RuntimeException", "java/lang/Exception"]).filter goodWord)
def wsX1_regionsOf : List Cond := .code yX1_regionsOf cX1_regionsOf 2 (some .int) :: ([.classLink RX1 51 "java/lang/IndexOutOfBoundsException", .initialized "java/lang/IndexOutOfBoundsException", .fieldLink RX1 12 "ColourTide" "map" "LColourTide$Tide;", .methodLink RX1 108 yX1_isColour, .static yX1_isColour, .initialized RX1, .code yX1_isColour cX1_isColour 1 (some .boolean), .methodLink RX1 111 yX0_countRegions, .instanceMethod yX0_countRegions, .selects RX0 yX0_countRegions yX0_countRegions, .initialized RX0, .code yX0_countRegions cX0_countRegions 5 (some .int), .methodLink RX0 35 yX0_cellsWith, .instanceMethod yX0_cellsWith, .selects RX0 yX0_cellsWith yX0_cellsWith, .code yX0_cellsWith cX0_cellsWith 2 (some .int), .fieldLink RX0 15 "ColourTide$Tide" "sets" "[I", .methodLink RX0 62 yX0_regionFrom, .static yX0_regionFrom, .code yX0_regionFrom cX0_regionFrom 5 (some .int), .static yX1_nextTo, .code yX1_nextTo cX1_nextTo 1 (some .int)] ++ wsX10 ++ wsX00 ++ (vx_atS RX1 55 "java/lang/IndexOutOfBoundsException" ["java/lang/RuntimeException", "java/lang/Exception"]).filter goodWord)
def wsX1_greatestRegion_r1 : List Cond := [Cond.classLink RX1 51 "java/lang/IndexOutOfBoundsException", Cond.initialized "java/lang/IndexOutOfBoundsException", Cond.fieldLink RX1 12 "ColourTide" "map" "LColourTide$Tide;", Cond.methodLink RX1 108 yX1_isColour, Cond.static yX1_isColour, Cond.initialized RX1, Cond.code yX1_isColour cX1_isColour 1 (some .boolean), Cond.methodLink RX1 114 yX0_sizeOfGreatestRegion, Cond.instanceMethod yX0_sizeOfGreatestRegion, Cond.selects RX0 yX0_sizeOfGreatestRegion yX0_sizeOfGreatestRegion, Cond.initialized RX0, Cond.code yX0_sizeOfGreatestRegion cX0_sizeOfGreatestRegion 6 (some .int), Cond.methodLink RX0 65 Lib.Math.max.name, Cond.static Lib.Math.max.name, Cond.initialized "java/lang/Math", Cond.code Lib.Math.max.name Lib.Math.max.code 2 (some .int), Cond.methodLink RX0 35 yX0_cellsWith, Cond.instanceMethod yX0_cellsWith, Cond.selects RX0 yX0_cellsWith yX0_cellsWith, Cond.code yX0_cellsWith cX0_cellsWith 2 (some .int), Cond.fieldLink RX0 15 "ColourTide$Tide" "sets" "[I", Cond.methodLink RX0 62 yX0_regionFrom, Cond.static yX0_regionFrom, Cond.code yX0_regionFrom cX0_regionFrom 5 (some .int)]
def wsX1_greatestRegion_r2 : List Cond := [Cond.static yX1_nextTo, Cond.code yX1_nextTo cX1_nextTo 1 (some .int), Cond.methodLink RX0 39 yJ6_bitCount_0f7a4, Cond.static yJ6_bitCount_0f7a4, Cond.initialized RJ6, Cond.code yJ6_bitCount_0f7a4 cJ6_bitCount_0f7a4 1 (some .int), Cond.constant RJ6 265 (1431655765), Cond.constant RJ6 266 (858993459), Cond.constant RJ6 267 (252645135)]
def wsX1_greatestRegion : List Cond := .code yX1_greatestRegion cX1_greatestRegion 2 (some .int) :: ((wsX1_greatestRegion_r1 ++ wsX1_greatestRegion_r2) ++ wsX10 ++ wsX00 ++ (vx_atS RX1 55 "java/lang/IndexOutOfBoundsException" ["java/lang/RuntimeException", "java/lang/Exception"]).filter goodWord)
def wsX1_borders : List Cond := .code yX1_borders cX1_borders 1 (some .int) :: ([.fieldLink RX1 12 "ColourTide" "map" "LColourTide$Tide;", .methodLink RX1 117 yX0_countBorders, .instanceMethod yX0_countBorders, .selects RX0 yX0_countBorders yX0_countBorders, .initialized RX0, .code yX0_countBorders cX0_countBorders 3 (some .int), .fieldLink RX0 25 "ColourTide$Tide" "board" "I", .fieldLink RX0 15 "ColourTide$Tide" "sets" "[I", .methodLink RX0 70 yX0_countPairs, .static yX0_countPairs, .code yX0_countPairs cX0_countPairs 1 (some .int), .methodLink RX0 39 yJ6_bitCount_0f7a4, .static yJ6_bitCount_0f7a4, .initialized RJ6, .code yJ6_bitCount_0f7a4 cJ6_bitCount_0f7a4 1 (some .int), .constant RJ6 265 (1431655765), .constant RJ6 266 (858993459), .constant RJ6 267 (252645135)] ++ wsX10 ++ wsX00)
def wsX1_leader : List Cond := .code yX1_leader cX1_leader 5 (some .int) :: ([.fieldLink RX1 12 "ColourTide" "map" "LColourTide$Tide;", .methodLink RX1 105 yX0_count, .instanceMethod yX0_count, .selects RX0 yX0_count yX0_count, .initialized RX0, .code yX0_count cX0_count 2 (some .int), .methodLink RX0 35 yX0_cellsWith, .instanceMethod yX0_cellsWith, .selects RX0 yX0_cellsWith yX0_cellsWith, .code yX0_cellsWith cX0_cellsWith 2 (some .int), .fieldLink RX0 15 "ColourTide$Tide" "sets" "[I", .methodLink RX0 39 yJ6_bitCount_0f7a4, .static yJ6_bitCount_0f7a4, .initialized RJ6, .code yJ6_bitCount_0f7a4 cJ6_bitCount_0f7a4 1 (some .int), .constant RJ6 265 (1431655765), .constant RJ6 266 (858993459), .constant RJ6 267 (252645135)] ++ wsX10 ++ wsX00)
def wsX1_isStill : List Cond := .code yX1_isStill cX1_isStill 1 (some .boolean) :: ([.fieldLink RX1 12 "ColourTide" "map" "LColourTide$Tide;", .methodLink RX1 93 yX0_foresee, .instanceMethod yX0_foresee, .selects RX0 yX0_foresee yX0_foresee, .initialized RX0, .code yX0_foresee cX0_foresee 3 (some .int), .fieldLink RX0 22 "ColourTide$Tide" "gains" "[I", .fieldLink RX0 9 "ColourTide$Tide" "need" "I", .fieldLink RX0 15 "ColourTide$Tide" "sets" "[I", .methodLink RX0 56 yX0_addGains, .instanceMethod yX0_addGains, .selects RX0 yX0_addGains yX0_addGains, .code yX0_addGains cX0_addGains 5 none, .fieldLink RX0 19 "ColourTide$Tide" "crowds" "[I", .fieldLink RX0 25 "ColourTide$Tide" "board" "I", .fieldLink RX0 32 "ColourTide$Tide" "stubborn" "I", .methodLink RX0 73 yX0_withNeighbours, .static yX0_withNeighbours, .code yX0_withNeighbours cX0_withNeighbours 6 (some .int)] ++ wsX10 ++ wsX00)
def wsX1_winner : List Cond := .code yX1_winner cX1_winner 2 (some .int) :: ([.fieldLink RX1 12 "ColourTide" "map" "LColourTide$Tide;", .methodLink RX1 120 yX0_isAll, .instanceMethod yX0_isAll, .selects RX0 yX0_isAll yX0_isAll, .initialized RX0, .code yX0_isAll cX0_isAll 2 (some .boolean), .fieldLink RX0 25 "ColourTide$Tide" "board" "I", .methodLink RX0 35 yX0_cellsWith, .instanceMethod yX0_cellsWith, .selects RX0 yX0_cellsWith yX0_cellsWith, .code yX0_cellsWith cX0_cellsWith 2 (some .int), .fieldLink RX0 15 "ColourTide$Tide" "sets" "[I"] ++ wsX10 ++ wsX00)
def wsX1_wavesUntilStill_r1 : List Cond := [Cond.fieldLink RX1 16 "ColourTide" "trial" "LColourTide$Tide;", Cond.fieldLink RX1 12 "ColourTide" "map" "LColourTide$Tide;", Cond.methodLink RX1 123 yX0_copyFrom, Cond.instanceMethod yX0_copyFrom, Cond.selects RX0 yX0_copyFrom yX0_copyFrom, Cond.initialized RX0, Cond.code yX0_copyFrom cX0_copyFrom 3 none, Cond.fieldLink RX0 25 "ColourTide$Tide" "board" "I", Cond.fieldLink RX0 32 "ColourTide$Tide" "stubborn" "I", Cond.fieldLink RX0 9 "ColourTide$Tide" "need" "I", Cond.fieldLink RX0 15 "ColourTide$Tide" "sets" "[I", Cond.methodLink RX1 79 yX0_surge, Cond.instanceMethod yX0_surge, Cond.selects RX0 yX0_surge yX0_surge, Cond.code yX0_surge cX0_surge 4 (some .int), Cond.methodLink RX0 48 yX0_foresee, Cond.instanceMethod yX0_foresee, Cond.selects RX0 yX0_foresee yX0_foresee, Cond.code yX0_foresee cX0_foresee 3 (some .int), Cond.fieldLink RX0 22 "ColourTide$Tide" "gains" "[I", Cond.methodLink RX0 56 yX0_addGains, Cond.instanceMethod yX0_addGains, Cond.selects RX0 yX0_addGains yX0_addGains, Cond.code yX0_addGains cX0_addGains 5 none]
def wsX1_wavesUntilStill_r2 : List Cond := [Cond.fieldLink RX0 19 "ColourTide$Tide" "crowds" "[I", Cond.methodLink RX0 73 yX0_withNeighbours, Cond.static yX0_withNeighbours, Cond.code yX0_withNeighbours cX0_withNeighbours 6 (some .int), Cond.methodLink RX0 52 yX0_takeGains, Cond.instanceMethod yX0_takeGains, Cond.selects RX0 yX0_takeGains yX0_takeGains, Cond.code yX0_takeGains cX0_takeGains 3 none]
def wsX1_wavesUntilStill : List Cond := .code yX1_wavesUntilStill cX1_wavesUntilStill 2 (some .int) :: ((wsX1_wavesUntilStill_r1 ++ wsX1_wavesUntilStill_r2) ++ wsX10 ++ wsX00)
def wsX1_countAfter_r1 : List Cond := [Cond.fieldLink RX1 16 "ColourTide" "trial" "LColourTide$Tide;", Cond.fieldLink RX1 12 "ColourTide" "map" "LColourTide$Tide;", Cond.methodLink RX1 123 yX0_copyFrom, Cond.instanceMethod yX0_copyFrom, Cond.selects RX0 yX0_copyFrom yX0_copyFrom, Cond.initialized RX0, Cond.code yX0_copyFrom cX0_copyFrom 3 none, Cond.fieldLink RX0 25 "ColourTide$Tide" "board" "I", Cond.fieldLink RX0 32 "ColourTide$Tide" "stubborn" "I", Cond.fieldLink RX0 9 "ColourTide$Tide" "need" "I", Cond.fieldLink RX0 15 "ColourTide$Tide" "sets" "[I", Cond.methodLink RX1 64 yX0_dye, Cond.instanceMethod yX0_dye, Cond.selects RX0 yX0_dye yX0_dye, Cond.code yX0_dye cX0_dye 4 none, Cond.methodLink RX1 79 yX0_surge, Cond.instanceMethod yX0_surge, Cond.selects RX0 yX0_surge yX0_surge, Cond.code yX0_surge cX0_surge 4 (some .int), Cond.methodLink RX0 48 yX0_foresee, Cond.instanceMethod yX0_foresee, Cond.selects RX0 yX0_foresee yX0_foresee, Cond.code yX0_foresee cX0_foresee 3 (some .int), Cond.fieldLink RX0 22 "ColourTide$Tide" "gains" "[I"]
def wsX1_countAfter_r2 : List Cond := [Cond.methodLink RX0 56 yX0_addGains, Cond.instanceMethod yX0_addGains, Cond.selects RX0 yX0_addGains yX0_addGains, Cond.code yX0_addGains cX0_addGains 5 none, Cond.fieldLink RX0 19 "ColourTide$Tide" "crowds" "[I", Cond.methodLink RX0 73 yX0_withNeighbours, Cond.static yX0_withNeighbours, Cond.code yX0_withNeighbours cX0_withNeighbours 6 (some .int), Cond.methodLink RX0 52 yX0_takeGains, Cond.instanceMethod yX0_takeGains, Cond.selects RX0 yX0_takeGains yX0_takeGains, Cond.code yX0_takeGains cX0_takeGains 3 none, Cond.methodLink RX1 105 yX0_count, Cond.instanceMethod yX0_count, Cond.selects RX0 yX0_count yX0_count, Cond.code yX0_count cX0_count 2 (some .int), Cond.methodLink RX0 35 yX0_cellsWith, Cond.instanceMethod yX0_cellsWith, Cond.selects RX0 yX0_cellsWith yX0_cellsWith, Cond.code yX0_cellsWith cX0_cellsWith 2 (some .int), Cond.methodLink RX0 39 yJ6_bitCount_0f7a4, Cond.static yJ6_bitCount_0f7a4, Cond.initialized RJ6, Cond.code yJ6_bitCount_0f7a4 cJ6_bitCount_0f7a4 1 (some .int)]
def wsX1_countAfter_r3 : List Cond := [Cond.constant RJ6 265 (1431655765), Cond.constant RJ6 266 (858993459), Cond.constant RJ6 267 (252645135)]
def wsX1_countAfter : List Cond := .code yX1_countAfter cX1_countAfter 4 (some .int) :: ((wsX1_countAfter_r1 ++ (wsX1_countAfter_r2 ++ wsX1_countAfter_r3)) ++ wsX10 ++ wsX00)
def wsX1_cellsAfter_r1 : List Cond := [Cond.classLink RX1 37 "java/lang/IllegalArgumentException", Cond.initialized "java/lang/IllegalArgumentException", Cond.classLink RX1 51 "java/lang/IndexOutOfBoundsException", Cond.initialized "java/lang/IndexOutOfBoundsException", Cond.methodLink RX1 48 yX1_isColourOrBare, Cond.static yX1_isColourOrBare, Cond.initialized RX1, Cond.code yX1_isColourOrBare cX1_isColourOrBare 1 (some .boolean), Cond.methodLink RX1 108 yX1_isColour, Cond.static yX1_isColour, Cond.code yX1_isColour cX1_isColour 1 (some .boolean), Cond.methodLink RX1 127 yX1_countAfter, Cond.instanceMethod yX1_countAfter, Cond.selects RX1 yX1_countAfter yX1_countAfter, Cond.code yX1_countAfter cX1_countAfter 4 (some .int), Cond.fieldLink RX1 16 "ColourTide" "trial" "LColourTide$Tide;", Cond.fieldLink RX1 12 "ColourTide" "map" "LColourTide$Tide;", Cond.methodLink RX1 123 yX0_copyFrom, Cond.instanceMethod yX0_copyFrom, Cond.selects RX0 yX0_copyFrom yX0_copyFrom, Cond.initialized RX0, Cond.code yX0_copyFrom cX0_copyFrom 3 none, Cond.fieldLink RX0 25 "ColourTide$Tide" "board" "I", Cond.fieldLink RX0 32 "ColourTide$Tide" "stubborn" "I"]
def wsX1_cellsAfter_r2 : List Cond := [Cond.fieldLink RX0 9 "ColourTide$Tide" "need" "I", Cond.fieldLink RX0 15 "ColourTide$Tide" "sets" "[I", Cond.methodLink RX1 64 yX0_dye, Cond.instanceMethod yX0_dye, Cond.selects RX0 yX0_dye yX0_dye, Cond.code yX0_dye cX0_dye 4 none, Cond.methodLink RX1 79 yX0_surge, Cond.instanceMethod yX0_surge, Cond.selects RX0 yX0_surge yX0_surge, Cond.code yX0_surge cX0_surge 4 (some .int), Cond.methodLink RX0 48 yX0_foresee, Cond.instanceMethod yX0_foresee, Cond.selects RX0 yX0_foresee yX0_foresee, Cond.code yX0_foresee cX0_foresee 3 (some .int), Cond.fieldLink RX0 22 "ColourTide$Tide" "gains" "[I", Cond.methodLink RX0 56 yX0_addGains, Cond.instanceMethod yX0_addGains, Cond.selects RX0 yX0_addGains yX0_addGains, Cond.code yX0_addGains cX0_addGains 5 none, Cond.fieldLink RX0 19 "ColourTide$Tide" "crowds" "[I", Cond.methodLink RX0 73 yX0_withNeighbours, Cond.static yX0_withNeighbours, Cond.code yX0_withNeighbours cX0_withNeighbours 6 (some .int), Cond.methodLink RX0 52 yX0_takeGains]
def wsX1_cellsAfter_r3 : List Cond := [Cond.instanceMethod yX0_takeGains, Cond.selects RX0 yX0_takeGains yX0_takeGains, Cond.code yX0_takeGains cX0_takeGains 3 none, Cond.methodLink RX1 105 yX0_count, Cond.instanceMethod yX0_count, Cond.selects RX0 yX0_count yX0_count, Cond.code yX0_count cX0_count 2 (some .int), Cond.methodLink RX0 35 yX0_cellsWith, Cond.instanceMethod yX0_cellsWith, Cond.selects RX0 yX0_cellsWith yX0_cellsWith, Cond.code yX0_cellsWith cX0_cellsWith 2 (some .int), Cond.methodLink RX0 39 yJ6_bitCount_0f7a4, Cond.static yJ6_bitCount_0f7a4, Cond.initialized RJ6, Cond.code yJ6_bitCount_0f7a4 cJ6_bitCount_0f7a4 1 (some .int), Cond.constant RJ6 265 (1431655765), Cond.constant RJ6 266 (858993459), Cond.constant RJ6 267 (252645135)]
def wsX1_cellsAfter : List Cond := .code yX1_cellsAfter cX1_cellsAfter 3 (some .int) :: ((wsX1_cellsAfter_r1 ++ (wsX1_cellsAfter_r2 ++ wsX1_cellsAfter_r3)) ++ wsX10 ++ wsX00 ++ (vx_atS RX1 41 "java/lang/IllegalArgumentException" ["java/lang/RuntimeException", "java/lang/Exception"]).filter goodWord ++ (vx_atS RX1 55 "java/lang/IndexOutOfBoundsException" ["java/lang/RuntimeException", "java/lang/Exception"]).filter goodWord)
def wsX1_winsWith_r1 : List Cond := [Cond.fieldLink RX1 16 "ColourTide" "trial" "LColourTide$Tide;", Cond.fieldLink RX1 12 "ColourTide" "map" "LColourTide$Tide;", Cond.methodLink RX1 123 yX0_copyFrom, Cond.instanceMethod yX0_copyFrom, Cond.selects RX0 yX0_copyFrom yX0_copyFrom, Cond.initialized RX0, Cond.code yX0_copyFrom cX0_copyFrom 3 none, Cond.fieldLink RX0 25 "ColourTide$Tide" "board" "I", Cond.fieldLink RX0 32 "ColourTide$Tide" "stubborn" "I", Cond.fieldLink RX0 9 "ColourTide$Tide" "need" "I", Cond.fieldLink RX0 15 "ColourTide$Tide" "sets" "[I", Cond.methodLink RX1 64 yX0_dye, Cond.instanceMethod yX0_dye, Cond.selects RX0 yX0_dye yX0_dye, Cond.code yX0_dye cX0_dye 4 none, Cond.methodLink RX1 79 yX0_surge, Cond.instanceMethod yX0_surge, Cond.selects RX0 yX0_surge yX0_surge, Cond.code yX0_surge cX0_surge 4 (some .int), Cond.methodLink RX0 48 yX0_foresee, Cond.instanceMethod yX0_foresee, Cond.selects RX0 yX0_foresee yX0_foresee, Cond.code yX0_foresee cX0_foresee 3 (some .int), Cond.fieldLink RX0 22 "ColourTide$Tide" "gains" "[I"]
def wsX1_winsWith_r2 : List Cond := [Cond.methodLink RX0 56 yX0_addGains, Cond.instanceMethod yX0_addGains, Cond.selects RX0 yX0_addGains yX0_addGains, Cond.code yX0_addGains cX0_addGains 5 none, Cond.fieldLink RX0 19 "ColourTide$Tide" "crowds" "[I", Cond.methodLink RX0 73 yX0_withNeighbours, Cond.static yX0_withNeighbours, Cond.code yX0_withNeighbours cX0_withNeighbours 6 (some .int), Cond.methodLink RX0 52 yX0_takeGains, Cond.instanceMethod yX0_takeGains, Cond.selects RX0 yX0_takeGains yX0_takeGains, Cond.code yX0_takeGains cX0_takeGains 3 none, Cond.methodLink RX1 120 yX0_isAll, Cond.instanceMethod yX0_isAll, Cond.selects RX0 yX0_isAll yX0_isAll, Cond.code yX0_isAll cX0_isAll 2 (some .boolean), Cond.methodLink RX0 35 yX0_cellsWith, Cond.instanceMethod yX0_cellsWith, Cond.selects RX0 yX0_cellsWith yX0_cellsWith, Cond.code yX0_cellsWith cX0_cellsWith 2 (some .int)]
def wsX1_winsWith : List Cond := .code yX1_winsWith cX1_winsWith 3 (some .boolean) :: ((wsX1_winsWith_r1 ++ wsX1_winsWith_r2) ++ wsX10 ++ wsX00)
def wsX1_wins_r1 : List Cond := [Cond.classLink RX1 51 "java/lang/IndexOutOfBoundsException", Cond.initialized "java/lang/IndexOutOfBoundsException", Cond.methodLink RX1 108 yX1_isColour, Cond.static yX1_isColour, Cond.initialized RX1, Cond.code yX1_isColour cX1_isColour 1 (some .boolean), Cond.methodLink RX1 131 yX1_winsWith, Cond.instanceMethod yX1_winsWith, Cond.selects RX1 yX1_winsWith yX1_winsWith, Cond.code yX1_winsWith cX1_winsWith 3 (some .boolean), Cond.fieldLink RX1 16 "ColourTide" "trial" "LColourTide$Tide;", Cond.fieldLink RX1 12 "ColourTide" "map" "LColourTide$Tide;", Cond.methodLink RX1 123 yX0_copyFrom, Cond.instanceMethod yX0_copyFrom, Cond.selects RX0 yX0_copyFrom yX0_copyFrom, Cond.initialized RX0, Cond.code yX0_copyFrom cX0_copyFrom 3 none, Cond.fieldLink RX0 25 "ColourTide$Tide" "board" "I", Cond.fieldLink RX0 32 "ColourTide$Tide" "stubborn" "I", Cond.fieldLink RX0 9 "ColourTide$Tide" "need" "I", Cond.fieldLink RX0 15 "ColourTide$Tide" "sets" "[I", Cond.methodLink RX1 64 yX0_dye, Cond.instanceMethod yX0_dye, Cond.selects RX0 yX0_dye yX0_dye]
def wsX1_wins_r2 : List Cond := [Cond.code yX0_dye cX0_dye 4 none, Cond.methodLink RX1 79 yX0_surge, Cond.instanceMethod yX0_surge, Cond.selects RX0 yX0_surge yX0_surge, Cond.code yX0_surge cX0_surge 4 (some .int), Cond.methodLink RX0 48 yX0_foresee, Cond.instanceMethod yX0_foresee, Cond.selects RX0 yX0_foresee yX0_foresee, Cond.code yX0_foresee cX0_foresee 3 (some .int), Cond.fieldLink RX0 22 "ColourTide$Tide" "gains" "[I", Cond.methodLink RX0 56 yX0_addGains, Cond.instanceMethod yX0_addGains, Cond.selects RX0 yX0_addGains yX0_addGains, Cond.code yX0_addGains cX0_addGains 5 none, Cond.fieldLink RX0 19 "ColourTide$Tide" "crowds" "[I", Cond.methodLink RX0 73 yX0_withNeighbours, Cond.static yX0_withNeighbours, Cond.code yX0_withNeighbours cX0_withNeighbours 6 (some .int), Cond.methodLink RX0 52 yX0_takeGains, Cond.instanceMethod yX0_takeGains, Cond.selects RX0 yX0_takeGains yX0_takeGains, Cond.code yX0_takeGains cX0_takeGains 3 none, Cond.methodLink RX1 120 yX0_isAll, Cond.instanceMethod yX0_isAll]
def wsX1_wins_r3 : List Cond := [Cond.selects RX0 yX0_isAll yX0_isAll, Cond.code yX0_isAll cX0_isAll 2 (some .boolean), Cond.methodLink RX0 35 yX0_cellsWith, Cond.instanceMethod yX0_cellsWith, Cond.selects RX0 yX0_cellsWith yX0_cellsWith, Cond.code yX0_cellsWith cX0_cellsWith 2 (some .int)]
def wsX1_wins : List Cond := .code yX1_wins cX1_wins 2 (some .boolean) :: ((wsX1_wins_r1 ++ (wsX1_wins_r2 ++ wsX1_wins_r3)) ++ wsX10 ++ wsX00 ++ (vx_atS RX1 55 "java/lang/IndexOutOfBoundsException" ["java/lang/RuntimeException", "java/lang/Exception"]).filter goodWord)
def wsX1_winsWithOneSeed_r1 : List Cond := [Cond.fieldLink RX1 12 "ColourTide" "map" "LColourTide$Tide;", Cond.fieldLink RX1 173 "ColourTide$Tide" "board" "I", Cond.methodLink RX1 131 yX1_winsWith, Cond.instanceMethod yX1_winsWith, Cond.selects RX1 yX1_winsWith yX1_winsWith, Cond.initialized RX1, Cond.code yX1_winsWith cX1_winsWith 3 (some .boolean), Cond.fieldLink RX1 16 "ColourTide" "trial" "LColourTide$Tide;", Cond.methodLink RX1 123 yX0_copyFrom, Cond.instanceMethod yX0_copyFrom, Cond.selects RX0 yX0_copyFrom yX0_copyFrom, Cond.initialized RX0, Cond.code yX0_copyFrom cX0_copyFrom 3 none, Cond.fieldLink RX0 25 "ColourTide$Tide" "board" "I", Cond.fieldLink RX0 32 "ColourTide$Tide" "stubborn" "I", Cond.fieldLink RX0 9 "ColourTide$Tide" "need" "I", Cond.fieldLink RX0 15 "ColourTide$Tide" "sets" "[I", Cond.methodLink RX1 64 yX0_dye, Cond.instanceMethod yX0_dye, Cond.selects RX0 yX0_dye yX0_dye, Cond.code yX0_dye cX0_dye 4 none, Cond.methodLink RX1 79 yX0_surge, Cond.instanceMethod yX0_surge, Cond.selects RX0 yX0_surge yX0_surge]
def wsX1_winsWithOneSeed_r2 : List Cond := [Cond.code yX0_surge cX0_surge 4 (some .int), Cond.methodLink RX0 48 yX0_foresee, Cond.instanceMethod yX0_foresee, Cond.selects RX0 yX0_foresee yX0_foresee, Cond.code yX0_foresee cX0_foresee 3 (some .int), Cond.fieldLink RX0 22 "ColourTide$Tide" "gains" "[I", Cond.methodLink RX0 56 yX0_addGains, Cond.instanceMethod yX0_addGains, Cond.selects RX0 yX0_addGains yX0_addGains, Cond.code yX0_addGains cX0_addGains 5 none, Cond.fieldLink RX0 19 "ColourTide$Tide" "crowds" "[I", Cond.methodLink RX0 73 yX0_withNeighbours, Cond.static yX0_withNeighbours, Cond.code yX0_withNeighbours cX0_withNeighbours 6 (some .int), Cond.methodLink RX0 52 yX0_takeGains, Cond.instanceMethod yX0_takeGains, Cond.selects RX0 yX0_takeGains yX0_takeGains, Cond.code yX0_takeGains cX0_takeGains 3 none, Cond.methodLink RX1 120 yX0_isAll, Cond.instanceMethod yX0_isAll, Cond.selects RX0 yX0_isAll yX0_isAll, Cond.code yX0_isAll cX0_isAll 2 (some .boolean), Cond.methodLink RX0 35 yX0_cellsWith, Cond.instanceMethod yX0_cellsWith]
def wsX1_winsWithOneSeed_r3 : List Cond := [Cond.selects RX0 yX0_cellsWith yX0_cellsWith, Cond.code yX0_cellsWith cX0_cellsWith 2 (some .int)]
def wsX1_winsWithOneSeed : List Cond := .code yX1_winsWithOneSeed cX1_winsWithOneSeed 4 (some .boolean) :: ((wsX1_winsWithOneSeed_r1 ++ (wsX1_winsWithOneSeed_r2 ++ wsX1_winsWithOneSeed_r3)) ++ wsX10 ++ wsX00)
def wsX1_winsWithTwoSeeds_r1 : List Cond := [Cond.fieldLink RX1 12 "ColourTide" "map" "LColourTide$Tide;", Cond.fieldLink RX1 173 "ColourTide$Tide" "board" "I", Cond.methodLink RX1 131 yX1_winsWith, Cond.instanceMethod yX1_winsWith, Cond.selects RX1 yX1_winsWith yX1_winsWith, Cond.initialized RX1, Cond.code yX1_winsWith cX1_winsWith 3 (some .boolean), Cond.fieldLink RX1 16 "ColourTide" "trial" "LColourTide$Tide;", Cond.methodLink RX1 123 yX0_copyFrom, Cond.instanceMethod yX0_copyFrom, Cond.selects RX0 yX0_copyFrom yX0_copyFrom, Cond.initialized RX0, Cond.code yX0_copyFrom cX0_copyFrom 3 none, Cond.fieldLink RX0 25 "ColourTide$Tide" "board" "I", Cond.fieldLink RX0 32 "ColourTide$Tide" "stubborn" "I", Cond.fieldLink RX0 9 "ColourTide$Tide" "need" "I", Cond.fieldLink RX0 15 "ColourTide$Tide" "sets" "[I", Cond.methodLink RX1 64 yX0_dye, Cond.instanceMethod yX0_dye, Cond.selects RX0 yX0_dye yX0_dye, Cond.code yX0_dye cX0_dye 4 none, Cond.methodLink RX1 79 yX0_surge, Cond.instanceMethod yX0_surge, Cond.selects RX0 yX0_surge yX0_surge]
def wsX1_winsWithTwoSeeds_r2 : List Cond := [Cond.code yX0_surge cX0_surge 4 (some .int), Cond.methodLink RX0 48 yX0_foresee, Cond.instanceMethod yX0_foresee, Cond.selects RX0 yX0_foresee yX0_foresee, Cond.code yX0_foresee cX0_foresee 3 (some .int), Cond.fieldLink RX0 22 "ColourTide$Tide" "gains" "[I", Cond.methodLink RX0 56 yX0_addGains, Cond.instanceMethod yX0_addGains, Cond.selects RX0 yX0_addGains yX0_addGains, Cond.code yX0_addGains cX0_addGains 5 none, Cond.fieldLink RX0 19 "ColourTide$Tide" "crowds" "[I", Cond.methodLink RX0 73 yX0_withNeighbours, Cond.static yX0_withNeighbours, Cond.code yX0_withNeighbours cX0_withNeighbours 6 (some .int), Cond.methodLink RX0 52 yX0_takeGains, Cond.instanceMethod yX0_takeGains, Cond.selects RX0 yX0_takeGains yX0_takeGains, Cond.code yX0_takeGains cX0_takeGains 3 none, Cond.methodLink RX1 120 yX0_isAll, Cond.instanceMethod yX0_isAll, Cond.selects RX0 yX0_isAll yX0_isAll, Cond.code yX0_isAll cX0_isAll 2 (some .boolean), Cond.methodLink RX0 35 yX0_cellsWith, Cond.instanceMethod yX0_cellsWith]
def wsX1_winsWithTwoSeeds_r3 : List Cond := [Cond.selects RX0 yX0_cellsWith yX0_cellsWith, Cond.code yX0_cellsWith cX0_cellsWith 2 (some .int)]
def wsX1_winsWithTwoSeeds : List Cond := .code yX1_winsWithTwoSeeds cX1_winsWithTwoSeeds 5 (some .boolean) :: ((wsX1_winsWithTwoSeeds_r1 ++ (wsX1_winsWithTwoSeeds_r2 ++ wsX1_winsWithTwoSeeds_r3)) ++ wsX10 ++ wsX00)
def wsX1_fewestSeeds_r1 : List Cond := [Cond.classLink RX1 51 "java/lang/IndexOutOfBoundsException", Cond.initialized "java/lang/IndexOutOfBoundsException", Cond.methodLink RX1 108 yX1_isColour, Cond.static yX1_isColour, Cond.initialized RX1, Cond.code yX1_isColour cX1_isColour 1 (some .boolean), Cond.methodLink RX1 131 yX1_winsWith, Cond.instanceMethod yX1_winsWith, Cond.selects RX1 yX1_winsWith yX1_winsWith, Cond.code yX1_winsWith cX1_winsWith 3 (some .boolean), Cond.fieldLink RX1 16 "ColourTide" "trial" "LColourTide$Tide;", Cond.fieldLink RX1 12 "ColourTide" "map" "LColourTide$Tide;", Cond.methodLink RX1 123 yX0_copyFrom, Cond.instanceMethod yX0_copyFrom, Cond.selects RX0 yX0_copyFrom yX0_copyFrom, Cond.initialized RX0, Cond.code yX0_copyFrom cX0_copyFrom 3 none, Cond.fieldLink RX0 25 "ColourTide$Tide" "board" "I", Cond.fieldLink RX0 32 "ColourTide$Tide" "stubborn" "I", Cond.fieldLink RX0 9 "ColourTide$Tide" "need" "I", Cond.fieldLink RX0 15 "ColourTide$Tide" "sets" "[I", Cond.methodLink RX1 64 yX0_dye, Cond.instanceMethod yX0_dye, Cond.selects RX0 yX0_dye yX0_dye]
def wsX1_fewestSeeds_r2 : List Cond := [Cond.code yX0_dye cX0_dye 4 none, Cond.methodLink RX1 79 yX0_surge, Cond.instanceMethod yX0_surge, Cond.selects RX0 yX0_surge yX0_surge, Cond.code yX0_surge cX0_surge 4 (some .int), Cond.methodLink RX0 48 yX0_foresee, Cond.instanceMethod yX0_foresee, Cond.selects RX0 yX0_foresee yX0_foresee, Cond.code yX0_foresee cX0_foresee 3 (some .int), Cond.fieldLink RX0 22 "ColourTide$Tide" "gains" "[I", Cond.methodLink RX0 56 yX0_addGains, Cond.instanceMethod yX0_addGains, Cond.selects RX0 yX0_addGains yX0_addGains, Cond.code yX0_addGains cX0_addGains 5 none, Cond.fieldLink RX0 19 "ColourTide$Tide" "crowds" "[I", Cond.methodLink RX0 73 yX0_withNeighbours, Cond.static yX0_withNeighbours, Cond.code yX0_withNeighbours cX0_withNeighbours 6 (some .int), Cond.methodLink RX0 52 yX0_takeGains, Cond.instanceMethod yX0_takeGains, Cond.selects RX0 yX0_takeGains yX0_takeGains, Cond.code yX0_takeGains cX0_takeGains 3 none, Cond.methodLink RX1 120 yX0_isAll, Cond.instanceMethod yX0_isAll]
def wsX1_fewestSeeds_r3 : List Cond := [Cond.selects RX0 yX0_isAll yX0_isAll, Cond.code yX0_isAll cX0_isAll 2 (some .boolean), Cond.methodLink RX0 35 yX0_cellsWith, Cond.instanceMethod yX0_cellsWith, Cond.selects RX0 yX0_cellsWith yX0_cellsWith, Cond.code yX0_cellsWith cX0_cellsWith 2 (some .int), Cond.methodLink RX1 134 yX1_winsWithOneSeed, Cond.instanceMethod yX1_winsWithOneSeed, Cond.selects RX1 yX1_winsWithOneSeed yX1_winsWithOneSeed, Cond.code yX1_winsWithOneSeed cX1_winsWithOneSeed 4 (some .boolean), Cond.fieldLink RX1 173 "ColourTide$Tide" "board" "I", Cond.methodLink RX1 137 yX1_winsWithTwoSeeds, Cond.instanceMethod yX1_winsWithTwoSeeds, Cond.selects RX1 yX1_winsWithTwoSeeds yX1_winsWithTwoSeeds, Cond.code yX1_winsWithTwoSeeds cX1_winsWithTwoSeeds 5 (some .boolean)]
def wsX1_fewestSeeds : List Cond := .code yX1_fewestSeeds cX1_fewestSeeds 2 (some .int) :: ((wsX1_fewestSeeds_r1 ++ (wsX1_fewestSeeds_r2 ++ wsX1_fewestSeeds_r3)) ++ wsX10 ++ wsX00 ++ (vx_atS RX1 55 "java/lang/IndexOutOfBoundsException" ["java/lang/RuntimeException", "java/lang/Exception"]).filter goodWord)
def wsX1_bestCell_r1 : List Cond := [Cond.classLink RX1 51 "java/lang/IndexOutOfBoundsException", Cond.initialized "java/lang/IndexOutOfBoundsException", Cond.classLink RX1 37 "java/lang/IllegalArgumentException", Cond.initialized "java/lang/IllegalArgumentException", Cond.fieldLink RX1 23 "ColourTide" "height" "I", Cond.fieldLink RX1 19 "ColourTide" "width" "I", Cond.methodLink RX1 108 yX1_isColour, Cond.static yX1_isColour, Cond.initialized RX1, Cond.code yX1_isColour cX1_isColour 1 (some .boolean), Cond.methodLink RX1 56 yX1_cell, Cond.static yX1_cell, Cond.code yX1_cell cX1_cell 2 (some .int), Cond.methodLink RX1 127 yX1_countAfter, Cond.instanceMethod yX1_countAfter, Cond.selects RX1 yX1_countAfter yX1_countAfter, Cond.code yX1_countAfter cX1_countAfter 4 (some .int), Cond.fieldLink RX1 16 "ColourTide" "trial" "LColourTide$Tide;", Cond.fieldLink RX1 12 "ColourTide" "map" "LColourTide$Tide;", Cond.methodLink RX1 123 yX0_copyFrom, Cond.instanceMethod yX0_copyFrom, Cond.selects RX0 yX0_copyFrom yX0_copyFrom, Cond.initialized RX0, Cond.code yX0_copyFrom cX0_copyFrom 3 none]
def wsX1_bestCell_r2 : List Cond := [Cond.fieldLink RX0 25 "ColourTide$Tide" "board" "I", Cond.fieldLink RX0 32 "ColourTide$Tide" "stubborn" "I", Cond.fieldLink RX0 9 "ColourTide$Tide" "need" "I", Cond.fieldLink RX0 15 "ColourTide$Tide" "sets" "[I", Cond.methodLink RX1 64 yX0_dye, Cond.instanceMethod yX0_dye, Cond.selects RX0 yX0_dye yX0_dye, Cond.code yX0_dye cX0_dye 4 none, Cond.methodLink RX1 79 yX0_surge, Cond.instanceMethod yX0_surge, Cond.selects RX0 yX0_surge yX0_surge, Cond.code yX0_surge cX0_surge 4 (some .int), Cond.methodLink RX0 48 yX0_foresee, Cond.instanceMethod yX0_foresee, Cond.selects RX0 yX0_foresee yX0_foresee, Cond.code yX0_foresee cX0_foresee 3 (some .int), Cond.fieldLink RX0 22 "ColourTide$Tide" "gains" "[I", Cond.methodLink RX0 56 yX0_addGains, Cond.instanceMethod yX0_addGains, Cond.selects RX0 yX0_addGains yX0_addGains, Cond.code yX0_addGains cX0_addGains 5 none, Cond.fieldLink RX0 19 "ColourTide$Tide" "crowds" "[I", Cond.methodLink RX0 73 yX0_withNeighbours, Cond.static yX0_withNeighbours]
def wsX1_bestCell_r3 : List Cond := [Cond.code yX0_withNeighbours cX0_withNeighbours 6 (some .int), Cond.methodLink RX0 52 yX0_takeGains, Cond.instanceMethod yX0_takeGains, Cond.selects RX0 yX0_takeGains yX0_takeGains, Cond.code yX0_takeGains cX0_takeGains 3 none, Cond.methodLink RX1 105 yX0_count, Cond.instanceMethod yX0_count, Cond.selects RX0 yX0_count yX0_count, Cond.code yX0_count cX0_count 2 (some .int), Cond.methodLink RX0 35 yX0_cellsWith, Cond.instanceMethod yX0_cellsWith, Cond.selects RX0 yX0_cellsWith yX0_cellsWith, Cond.code yX0_cellsWith cX0_cellsWith 2 (some .int), Cond.methodLink RX0 39 yJ6_bitCount_0f7a4, Cond.static yJ6_bitCount_0f7a4, Cond.initialized RJ6, Cond.code yJ6_bitCount_0f7a4 cJ6_bitCount_0f7a4 1 (some .int), Cond.constant RJ6 265 (1431655765), Cond.constant RJ6 266 (858993459), Cond.constant RJ6 267 (252645135)]
def wsX1_bestCell : List Cond := .code yX1_bestCell cX1_bestCell 8 (some .int) :: ((wsX1_bestCell_r1 ++ (wsX1_bestCell_r2 ++ wsX1_bestCell_r3)) ++ wsX10 ++ wsX00 ++ (vx_atS RX1 55 "java/lang/IndexOutOfBoundsException" ["java/lang/RuntimeException", "java/lang/Exception"]).filter goodWord ++ (vx_atS RX1 41 "java/lang/IllegalArgumentException" ["java/lang/RuntimeException", "java/lang/Exception"]).filter goodWord)
def wsX1_share_r1 : List Cond := [Cond.classLink RX1 51 "java/lang/IndexOutOfBoundsException", Cond.initialized "java/lang/IndexOutOfBoundsException", Cond.fieldLink RX1 19 "ColourTide" "width" "I", Cond.fieldLink RX1 23 "ColourTide" "height" "I", Cond.fieldLink RX1 12 "ColourTide" "map" "LColourTide$Tide;", Cond.methodLink RX1 48 yX1_isColourOrBare, Cond.static yX1_isColourOrBare, Cond.initialized RX1, Cond.code yX1_isColourOrBare cX1_isColourOrBare 1 (some .boolean), Cond.methodLink RX1 108 yX1_isColour, Cond.static yX1_isColour, Cond.code yX1_isColour cX1_isColour 1 (some .boolean), Cond.methodLink RX1 105 yX0_count, Cond.instanceMethod yX0_count, Cond.selects RX0 yX0_count yX0_count, Cond.initialized RX0, Cond.code yX0_count cX0_count 2 (some .int), Cond.methodLink RX0 35 yX0_cellsWith, Cond.instanceMethod yX0_cellsWith, Cond.selects RX0 yX0_cellsWith yX0_cellsWith, Cond.code yX0_cellsWith cX0_cellsWith 2 (some .int), Cond.fieldLink RX0 15 "ColourTide$Tide" "sets" "[I", Cond.methodLink RX0 39 yJ6_bitCount_0f7a4, Cond.static yJ6_bitCount_0f7a4]
def wsX1_share_r2 : List Cond := [Cond.initialized RJ6, Cond.code yJ6_bitCount_0f7a4 cJ6_bitCount_0f7a4 1 (some .int), Cond.constant RJ6 265 (1431655765), Cond.constant RJ6 266 (858993459), Cond.constant RJ6 267 (252645135)]
def wsX1_share : List Cond := .code yX1_share cX1_share 3 (some .double) :: ((wsX1_share_r1 ++ wsX1_share_r2) ++ wsX10 ++ wsX00 ++ (vx_atS RX1 55 "java/lang/IndexOutOfBoundsException" ["java/lang/RuntimeException", "java/lang/Exception"]).filter goodWord)
def wsX1_mix : List Cond := .code yX1_mix cX1_mix 3 (some .long) :: ([.constantLong RX1 171 (31)])
def wsX1_digestOfMap_r1 : List Cond := [Cond.constantLong RX1 153 (1871), Cond.fieldLink RX1 19 "ColourTide" "width" "I", Cond.fieldLink RX1 23 "ColourTide" "height" "I", Cond.fieldLink RX1 12 "ColourTide" "map" "LColourTide$Tide;", Cond.fieldLink RX1 74 "ColourTide$Tide" "need" "I", Cond.fieldLink RX1 26 "ColourTide" "waves" "I", Cond.methodLink RX1 146 yX1_mix, Cond.static yX1_mix, Cond.initialized RX1, Cond.code yX1_mix cX1_mix 3 (some .long), Cond.constantLong RX1 171 (31), Cond.methodLink RX1 155 yX1_stubbornCells, Cond.instanceMethod yX1_stubbornCells, Cond.selects RX1 yX1_stubbornCells yX1_stubbornCells, Cond.code yX1_stubbornCells cX1_stubbornCells 1 (some .int), Cond.fieldLink RX1 69 "ColourTide$Tide" "stubborn" "I", Cond.methodLink RX1 82 yJ6_bitCount_0f7a4, Cond.static yJ6_bitCount_0f7a4, Cond.initialized RJ6, Cond.code yJ6_bitCount_0f7a4 cJ6_bitCount_0f7a4 1 (some .int), Cond.constant RJ6 265 (1431655765), Cond.constant RJ6 266 (858993459), Cond.constant RJ6 267 (252645135), Cond.methodLink RX1 158 yX1_borders]
def wsX1_digestOfMap_r2 : List Cond := [Cond.instanceMethod yX1_borders, Cond.selects RX1 yX1_borders yX1_borders, Cond.code yX1_borders cX1_borders 1 (some .int), Cond.methodLink RX1 117 yX0_countBorders, Cond.instanceMethod yX0_countBorders, Cond.selects RX0 yX0_countBorders yX0_countBorders, Cond.initialized RX0, Cond.code yX0_countBorders cX0_countBorders 3 (some .int), Cond.fieldLink RX0 25 "ColourTide$Tide" "board" "I", Cond.fieldLink RX0 15 "ColourTide$Tide" "sets" "[I", Cond.methodLink RX0 70 yX0_countPairs, Cond.static yX0_countPairs, Cond.code yX0_countPairs cX0_countPairs 1 (some .int), Cond.methodLink RX0 39 yJ6_bitCount_0f7a4, Cond.methodLink RX1 161 yX1_leader, Cond.instanceMethod yX1_leader, Cond.selects RX1 yX1_leader yX1_leader, Cond.code yX1_leader cX1_leader 5 (some .int), Cond.methodLink RX1 105 yX0_count, Cond.instanceMethod yX0_count, Cond.selects RX0 yX0_count yX0_count, Cond.code yX0_count cX0_count 2 (some .int), Cond.methodLink RX0 35 yX0_cellsWith, Cond.instanceMethod yX0_cellsWith]
def wsX1_digestOfMap_r3 : List Cond := [Cond.selects RX0 yX0_cellsWith yX0_cellsWith, Cond.code yX0_cellsWith cX0_cellsWith 2 (some .int), Cond.methodLink RX1 164 yX1_isStill, Cond.instanceMethod yX1_isStill, Cond.selects RX1 yX1_isStill yX1_isStill, Cond.code yX1_isStill cX1_isStill 1 (some .boolean), Cond.methodLink RX1 93 yX0_foresee, Cond.instanceMethod yX0_foresee, Cond.selects RX0 yX0_foresee yX0_foresee, Cond.code yX0_foresee cX0_foresee 3 (some .int), Cond.fieldLink RX0 22 "ColourTide$Tide" "gains" "[I", Cond.fieldLink RX0 9 "ColourTide$Tide" "need" "I", Cond.methodLink RX0 56 yX0_addGains, Cond.instanceMethod yX0_addGains, Cond.selects RX0 yX0_addGains yX0_addGains, Cond.code yX0_addGains cX0_addGains 5 none, Cond.fieldLink RX0 19 "ColourTide$Tide" "crowds" "[I", Cond.fieldLink RX0 32 "ColourTide$Tide" "stubborn" "I", Cond.methodLink RX0 73 yX0_withNeighbours, Cond.static yX0_withNeighbours, Cond.code yX0_withNeighbours cX0_withNeighbours 6 (some .int), Cond.methodLink RX1 168 yX1_winner, Cond.instanceMethod yX1_winner, Cond.selects RX1 yX1_winner yX1_winner]
def wsX1_digestOfMap_r4 : List Cond := [Cond.code yX1_winner cX1_winner 2 (some .int), Cond.methodLink RX1 120 yX0_isAll, Cond.instanceMethod yX0_isAll, Cond.selects RX0 yX0_isAll yX0_isAll, Cond.code yX0_isAll cX0_isAll 2 (some .boolean)]
def wsX1_digestOfMap : List Cond := .code yX1_digestOfMap cX1_digestOfMap 3 (some .long) :: ((wsX1_digestOfMap_r1 ++ (wsX1_digestOfMap_r2 ++ (wsX1_digestOfMap_r3 ++ wsX1_digestOfMap_r4))) ++ wsX10 ++ wsX00)
def wsX1_mixCell_r1 : List Cond := [Cond.fieldLink RX1 12 "ColourTide" "map" "LColourTide$Tide;", Cond.fieldLink RX1 69 "ColourTide$Tide" "stubborn" "I", Cond.methodLink RX1 60 yX0_colourOf, Cond.instanceMethod yX0_colourOf, Cond.selects RX0 yX0_colourOf yX0_colourOf, Cond.initialized RX0, Cond.code yX0_colourOf cX0_colourOf 2 (some .int), Cond.fieldLink RX0 15 "ColourTide$Tide" "sets" "[I", Cond.methodLink RX0 44 yX0_firstColourWith, Cond.static yX0_firstColourWith, Cond.code yX0_firstColourWith cX0_firstColourWith 3 (some .int), Cond.methodLink RX1 146 yX1_mix, Cond.static yX1_mix, Cond.initialized RX1, Cond.code yX1_mix cX1_mix 3 (some .long), Cond.constantLong RX1 171 (31), Cond.methodLink RX1 97 yX0_foreseenColourOf, Cond.instanceMethod yX0_foreseenColourOf, Cond.selects RX0 yX0_foreseenColourOf yX0_foreseenColourOf, Cond.code yX0_foreseenColourOf cX0_foreseenColourOf 3 (some .int), Cond.fieldLink RX0 22 "ColourTide$Tide" "gains" "[I", Cond.methodLink RX0 59 yX0_colourOf, Cond.methodLink RX1 100 yX0_sizeOfRegion, Cond.instanceMethod yX0_sizeOfRegion]
def wsX1_mixCell_r2 : List Cond := [Cond.selects RX0 yX0_sizeOfRegion yX0_sizeOfRegion, Cond.code yX0_sizeOfRegion cX0_sizeOfRegion 3 (some .int), Cond.methodLink RX0 35 yX0_cellsWith, Cond.instanceMethod yX0_cellsWith, Cond.selects RX0 yX0_cellsWith yX0_cellsWith, Cond.code yX0_cellsWith cX0_cellsWith 2 (some .int), Cond.methodLink RX0 62 yX0_regionFrom, Cond.static yX0_regionFrom, Cond.code yX0_regionFrom cX0_regionFrom 5 (some .int), Cond.static yX1_nextTo, Cond.code yX1_nextTo cX1_nextTo 1 (some .int), Cond.methodLink RX0 39 yJ6_bitCount_0f7a4, Cond.static yJ6_bitCount_0f7a4, Cond.initialized RJ6, Cond.code yJ6_bitCount_0f7a4 cJ6_bitCount_0f7a4 1 (some .int), Cond.constant RJ6 265 (1431655765), Cond.constant RJ6 266 (858993459), Cond.constant RJ6 267 (252645135)]
def wsX1_mixCell : List Cond := .code yX1_mixCell cX1_mixCell 6 (some .long) :: ((wsX1_mixCell_r1 ++ wsX1_mixCell_r2) ++ wsX10 ++ wsX00)
def wsX1_digest_r1 : List Cond := [Cond.fieldLink RX1 12 "ColourTide" "map" "LColourTide$Tide;", Cond.fieldLink RX1 23 "ColourTide" "height" "I", Cond.fieldLink RX1 19 "ColourTide" "width" "I", Cond.methodLink RX1 142 yX1_digestOfMap, Cond.instanceMethod yX1_digestOfMap, Cond.selects RX1 yX1_digestOfMap yX1_digestOfMap, Cond.initialized RX1, Cond.code yX1_digestOfMap cX1_digestOfMap 3 (some .long), Cond.constantLong RX1 153 (1871), Cond.fieldLink RX1 74 "ColourTide$Tide" "need" "I", Cond.fieldLink RX1 26 "ColourTide" "waves" "I", Cond.methodLink RX1 146 yX1_mix, Cond.static yX1_mix, Cond.code yX1_mix cX1_mix 3 (some .long), Cond.constantLong RX1 171 (31), Cond.methodLink RX1 155 yX1_stubbornCells, Cond.instanceMethod yX1_stubbornCells, Cond.selects RX1 yX1_stubbornCells yX1_stubbornCells, Cond.code yX1_stubbornCells cX1_stubbornCells 1 (some .int), Cond.fieldLink RX1 69 "ColourTide$Tide" "stubborn" "I", Cond.methodLink RX1 82 yJ6_bitCount_0f7a4, Cond.static yJ6_bitCount_0f7a4, Cond.initialized RJ6, Cond.code yJ6_bitCount_0f7a4 cJ6_bitCount_0f7a4 1 (some .int)]
def wsX1_digest_r2 : List Cond := [Cond.constant RJ6 265 (1431655765), Cond.constant RJ6 266 (858993459), Cond.constant RJ6 267 (252645135), Cond.methodLink RX1 158 yX1_borders, Cond.instanceMethod yX1_borders, Cond.selects RX1 yX1_borders yX1_borders, Cond.code yX1_borders cX1_borders 1 (some .int), Cond.methodLink RX1 117 yX0_countBorders, Cond.instanceMethod yX0_countBorders, Cond.selects RX0 yX0_countBorders yX0_countBorders, Cond.initialized RX0, Cond.code yX0_countBorders cX0_countBorders 3 (some .int), Cond.fieldLink RX0 25 "ColourTide$Tide" "board" "I", Cond.fieldLink RX0 15 "ColourTide$Tide" "sets" "[I", Cond.methodLink RX0 70 yX0_countPairs, Cond.static yX0_countPairs, Cond.code yX0_countPairs cX0_countPairs 1 (some .int), Cond.methodLink RX0 39 yJ6_bitCount_0f7a4, Cond.methodLink RX1 161 yX1_leader, Cond.instanceMethod yX1_leader, Cond.selects RX1 yX1_leader yX1_leader, Cond.code yX1_leader cX1_leader 5 (some .int), Cond.methodLink RX1 105 yX0_count, Cond.instanceMethod yX0_count]
def wsX1_digest_r3 : List Cond := [Cond.selects RX0 yX0_count yX0_count, Cond.code yX0_count cX0_count 2 (some .int), Cond.methodLink RX0 35 yX0_cellsWith, Cond.instanceMethod yX0_cellsWith, Cond.selects RX0 yX0_cellsWith yX0_cellsWith, Cond.code yX0_cellsWith cX0_cellsWith 2 (some .int), Cond.methodLink RX1 164 yX1_isStill, Cond.instanceMethod yX1_isStill, Cond.selects RX1 yX1_isStill yX1_isStill, Cond.code yX1_isStill cX1_isStill 1 (some .boolean), Cond.methodLink RX1 93 yX0_foresee, Cond.instanceMethod yX0_foresee, Cond.selects RX0 yX0_foresee yX0_foresee, Cond.code yX0_foresee cX0_foresee 3 (some .int), Cond.fieldLink RX0 22 "ColourTide$Tide" "gains" "[I", Cond.fieldLink RX0 9 "ColourTide$Tide" "need" "I", Cond.methodLink RX0 56 yX0_addGains, Cond.instanceMethod yX0_addGains, Cond.selects RX0 yX0_addGains yX0_addGains, Cond.code yX0_addGains cX0_addGains 5 none, Cond.fieldLink RX0 19 "ColourTide$Tide" "crowds" "[I", Cond.fieldLink RX0 32 "ColourTide$Tide" "stubborn" "I", Cond.methodLink RX0 73 yX0_withNeighbours, Cond.static yX0_withNeighbours]
def wsX1_digest_r4 : List Cond := [Cond.code yX0_withNeighbours cX0_withNeighbours 6 (some .int), Cond.methodLink RX1 168 yX1_winner, Cond.instanceMethod yX1_winner, Cond.selects RX1 yX1_winner yX1_winner, Cond.code yX1_winner cX1_winner 2 (some .int), Cond.methodLink RX1 120 yX0_isAll, Cond.instanceMethod yX0_isAll, Cond.selects RX0 yX0_isAll yX0_isAll, Cond.code yX0_isAll cX0_isAll 2 (some .boolean), Cond.methodLink RX1 111 yX0_countRegions, Cond.instanceMethod yX0_countRegions, Cond.selects RX0 yX0_countRegions yX0_countRegions, Cond.code yX0_countRegions cX0_countRegions 5 (some .int), Cond.methodLink RX0 62 yX0_regionFrom, Cond.static yX0_regionFrom, Cond.code yX0_regionFrom cX0_regionFrom 5 (some .int), Cond.static yX1_nextTo, Cond.code yX1_nextTo cX1_nextTo 1 (some .int), Cond.methodLink RX1 114 yX0_sizeOfGreatestRegion, Cond.instanceMethod yX0_sizeOfGreatestRegion, Cond.selects RX0 yX0_sizeOfGreatestRegion yX0_sizeOfGreatestRegion, Cond.code yX0_sizeOfGreatestRegion cX0_sizeOfGreatestRegion 6 (some .int), Cond.methodLink RX0 65 Lib.Math.max.name, Cond.static Lib.Math.max.name]
def wsX1_digest_r5 : List Cond := [Cond.initialized "java/lang/Math", Cond.code Lib.Math.max.name Lib.Math.max.code 2 (some .int), Cond.methodLink RX1 56 yX1_cell, Cond.static yX1_cell, Cond.code yX1_cell cX1_cell 2 (some .int), Cond.methodLink RX1 150 yX1_mixCell, Cond.instanceMethod yX1_mixCell, Cond.selects RX1 yX1_mixCell yX1_mixCell, Cond.code yX1_mixCell cX1_mixCell 6 (some .long), Cond.methodLink RX1 60 yX0_colourOf, Cond.instanceMethod yX0_colourOf, Cond.selects RX0 yX0_colourOf yX0_colourOf, Cond.code yX0_colourOf cX0_colourOf 2 (some .int), Cond.methodLink RX0 44 yX0_firstColourWith, Cond.static yX0_firstColourWith, Cond.code yX0_firstColourWith cX0_firstColourWith 3 (some .int), Cond.methodLink RX1 97 yX0_foreseenColourOf, Cond.instanceMethod yX0_foreseenColourOf, Cond.selects RX0 yX0_foreseenColourOf yX0_foreseenColourOf, Cond.code yX0_foreseenColourOf cX0_foreseenColourOf 3 (some .int), Cond.methodLink RX0 59 yX0_colourOf, Cond.methodLink RX1 100 yX0_sizeOfRegion, Cond.instanceMethod yX0_sizeOfRegion, Cond.selects RX0 yX0_sizeOfRegion yX0_sizeOfRegion]
def wsX1_digest_r6 : List Cond := [Cond.code yX0_sizeOfRegion cX0_sizeOfRegion 3 (some .int)]
def wsX1_digest : List Cond := .code yX1_digest cX1_digest 5 (some .long) :: ((wsX1_digest_r1 ++ (wsX1_digest_r2 ++ (wsX1_digest_r3 ++ (wsX1_digest_r4 ++ (wsX1_digest_r5 ++ wsX1_digest_r6))))) ++ wsX10 ++ wsX00)
def wsX2_take : List Cond := .code yX2_take cX2_take 6 none :: ([.fieldLink RX2 46 "ColourTideModel" "w" "I", .fieldLink RX2 49 "ColourTideModel" "h" "I", .fieldLink RX2 56 "ColourTideModel" "waves" "I", .fieldLink RX2 13 "ColourTideModel" "colours" "[I", .fieldLink RX2 20 "ColourTideModel" "stubborn" "[Z", .fieldLink RX2 24 "ColourTideModel" "beside" "[I"] ++ wsX20)
def wsX2_init : List Cond := .code yX2_init cX2_init 1 none :: ([.methodLink RX2 1 objectInit, .instanceMethod objectInit, .code objectInit ⟨#[0xb1]⟩ 1 none, .fieldLink RX2 7 "ColourTideModel" "need" "I", .arrayClass .int, .fieldLink RX2 13 "ColourTideModel" "colours" "[I", .fieldLink RX2 17 "ColourTideModel" "next" "[I", .arrayClass .boolean, .fieldLink RX2 20 "ColourTideModel" "stubborn" "[Z", .fieldLink RX2 24 "ColourTideModel" "beside" "[I", .fieldLink RX2 27 "ColourTideModel" "kept" "[I", .fieldLink RX2 30 "ColourTideModel" "regions" "[I", .fieldLink RX2 33 "ColourTideModel" "sizes" "[I", .fieldLink RX2 36 "ColourTideModel" "line" "[I", .methodLink RX2 39 yX2_take, .instanceMethod yX2_take, .selects RX2 yX2_take yX2_take, .initialized RX2, .code yX2_take cX2_take 6 none, .fieldLink RX2 46 "ColourTideModel" "w" "I", .fieldLink RX2 49 "ColourTideModel" "h" "I", .fieldLink RX2 56 "ColourTideModel" "waves" "I"] ++ wsX20)
def wsX2_thrown : List Cond := .code yX2_thrown cX2_thrown 1 (some .int) :: ([.fieldLink RX2 43 "ColourTideModel" "thrown" "I"] ++ wsX20)
def wsX2_fail : List Cond := .code yX2_fail cX2_fail 2 (some .int) :: ([.fieldLink RX2 43 "ColourTideModel" "thrown" "I"] ++ wsX20)
def wsX2_isIn : List Cond := .code yX2_isIn cX2_isIn 3 (some .boolean) :: ([])
def wsX2_cells : List Cond := .code yX2_cells cX2_cells 1 (some .int) :: ([.fieldLink RX2 46 "ColourTideModel" "w" "I", .fieldLink RX2 49 "ColourTideModel" "h" "I"] ++ wsX20)
def wsX2_isCell : List Cond := .code yX2_isCell cX2_isCell 3 (some .boolean) :: ([.fieldLink RX2 46 "ColourTideModel" "w" "I", .fieldLink RX2 49 "ColourTideModel" "h" "I", .methodLink RX2 52 yX2_isIn, .static yX2_isIn, .initialized RX2, .code yX2_isIn cX2_isIn 3 (some .boolean)] ++ wsX20)
def wsX2_isColour : List Cond := .code yX2_isColour cX2_isColour 1 (some .boolean) :: ([.methodLink RX2 52 yX2_isIn, .static yX2_isIn, .initialized RX2, .code yX2_isIn cX2_isIn 3 (some .boolean)])
def wsX2_isAny : List Cond := .code yX2_isAny cX2_isAny 1 (some .boolean) :: ([.methodLink RX2 52 yX2_isIn, .static yX2_isIn, .initialized RX2, .code yX2_isIn cX2_isIn 3 (some .boolean)])
def wsX2_keep : List Cond := .code yX2_keep cX2_keep 1 none :: ([.fieldLink RX2 13 "ColourTideModel" "colours" "[I", .fieldLink RX2 27 "ColourTideModel" "kept" "[I", .methodLink RX2 59 arraycopyName, .native arraycopyName, .static arraycopyName, .initialized "java/lang/System"] ++ wsX20)
def wsX2_bringBack : List Cond := .code yX2_bringBack cX2_bringBack 1 none :: ([.fieldLink RX2 27 "ColourTideModel" "kept" "[I", .fieldLink RX2 13 "ColourTideModel" "colours" "[I", .methodLink RX2 59 arraycopyName, .native arraycopyName, .static arraycopyName, .initialized "java/lang/System"] ++ wsX20)
def wsX2_beside : List Cond := .code yX2_beside cX2_beside 5 (some .int) :: ([.fieldLink RX2 24 "ColourTideModel" "beside" "[I", .fieldLink RX2 13 "ColourTideModel" "colours" "[I"] ++ wsX20)
def wsX2_nextOf : List Cond := .code yX2_nextOf cX2_nextOf 7 (some .int) :: ([.fieldLink RX2 20 "ColourTideModel" "stubborn" "[Z", .fieldLink RX2 13 "ColourTideModel" "colours" "[I", .fieldLink RX2 7 "ColourTideModel" "need" "I", .methodLink RX2 65 yX2_beside, .instanceMethod yX2_beside, .selects RX2 yX2_beside yX2_beside, .initialized RX2, .code yX2_beside cX2_beside 5 (some .int), .fieldLink RX2 24 "ColourTideModel" "beside" "[I"] ++ wsX20)
def wsX2_wave : List Cond := .code yX2_wave cX2_wave 3 (some .int) :: ([.fieldLink RX2 17 "ColourTideModel" "next" "[I", .fieldLink RX2 13 "ColourTideModel" "colours" "[I", .methodLink RX2 59 arraycopyName, .native arraycopyName, .static arraycopyName, .initialized "java/lang/System", .methodLink RX2 68 yX2_cells, .instanceMethod yX2_cells, .selects RX2 yX2_cells yX2_cells, .initialized RX2, .code yX2_cells cX2_cells 1 (some .int), .fieldLink RX2 46 "ColourTideModel" "w" "I", .fieldLink RX2 49 "ColourTideModel" "h" "I", .methodLink RX2 72 yX2_nextOf, .instanceMethod yX2_nextOf, .selects RX2 yX2_nextOf yX2_nextOf, .code yX2_nextOf cX2_nextOf 7 (some .int), .fieldLink RX2 20 "ColourTideModel" "stubborn" "[Z", .fieldLink RX2 7 "ColourTideModel" "need" "I", .methodLink RX2 65 yX2_beside, .instanceMethod yX2_beside, .selects RX2 yX2_beside yX2_beside, .code yX2_beside cX2_beside 5 (some .int), .fieldLink RX2 24 "ColourTideModel" "beside" "[I"] ++ wsX20)
def wsX2_cellsWith : List Cond := .code yX2_cellsWith cX2_cellsWith 4 (some .int) :: ([.fieldLink RX2 13 "ColourTideModel" "colours" "[I", .methodLink RX2 68 yX2_cells, .instanceMethod yX2_cells, .selects RX2 yX2_cells yX2_cells, .initialized RX2, .code yX2_cells cX2_cells 1 (some .int), .fieldLink RX2 46 "ColourTideModel" "w" "I", .fieldLink RX2 49 "ColourTideModel" "h" "I"] ++ wsX20)
def wsX2_newMap : List Cond := .code yX2_newMap cX2_newMap 3 (some .int) :: ([.fieldLink RX2 43 "ColourTideModel" "thrown" "I", .methodLink RX2 52 yX2_isIn, .static yX2_isIn, .initialized RX2, .code yX2_isIn cX2_isIn 3 (some .boolean), .methodLink RX2 76 yX2_fail, .instanceMethod yX2_fail, .selects RX2 yX2_fail yX2_fail, .code yX2_fail cX2_fail 2 (some .int), .methodLink RX2 39 yX2_take, .instanceMethod yX2_take, .selects RX2 yX2_take yX2_take, .code yX2_take cX2_take 6 none, .fieldLink RX2 46 "ColourTideModel" "w" "I", .fieldLink RX2 49 "ColourTideModel" "h" "I", .fieldLink RX2 56 "ColourTideModel" "waves" "I", .fieldLink RX2 13 "ColourTideModel" "colours" "[I", .fieldLink RX2 20 "ColourTideModel" "stubborn" "[Z", .fieldLink RX2 24 "ColourTideModel" "beside" "[I", .methodLink RX2 68 yX2_cells, .instanceMethod yX2_cells, .selects RX2 yX2_cells yX2_cells, .code yX2_cells cX2_cells 1 (some .int)] ++ wsX20)
def wsX2_paint : List Cond := .code yX2_paint cX2_paint 5 (some .int) :: ([.fieldLink RX2 43 "ColourTideModel" "thrown" "I", .fieldLink RX2 13 "ColourTideModel" "colours" "[I", .fieldLink RX2 46 "ColourTideModel" "w" "I", .methodLink RX2 79 yX2_isCell, .instanceMethod yX2_isCell, .selects RX2 yX2_isCell yX2_isCell, .initialized RX2, .code yX2_isCell cX2_isCell 3 (some .boolean), .fieldLink RX2 49 "ColourTideModel" "h" "I", .methodLink RX2 52 yX2_isIn, .static yX2_isIn, .code yX2_isIn cX2_isIn 3 (some .boolean), .methodLink RX2 83 yX2_isAny, .static yX2_isAny, .code yX2_isAny cX2_isAny 1 (some .boolean), .methodLink RX2 76 yX2_fail, .instanceMethod yX2_fail, .selects RX2 yX2_fail yX2_fail, .code yX2_fail cX2_fail 2 (some .int)] ++ wsX20)
def wsX2_turnStubborn : List Cond := .code yX2_turnStubborn cX2_turnStubborn 3 (some .boolean) :: ([.fieldLink RX2 43 "ColourTideModel" "thrown" "I", .fieldLink RX2 20 "ColourTideModel" "stubborn" "[Z", .fieldLink RX2 46 "ColourTideModel" "w" "I", .methodLink RX2 79 yX2_isCell, .instanceMethod yX2_isCell, .selects RX2 yX2_isCell yX2_isCell, .initialized RX2, .code yX2_isCell cX2_isCell 3 (some .boolean), .fieldLink RX2 49 "ColourTideModel" "h" "I", .methodLink RX2 52 yX2_isIn, .static yX2_isIn, .code yX2_isIn cX2_isIn 3 (some .boolean)] ++ wsX20)
def wsX2_setNeed : List Cond := .code yX2_setNeed cX2_setNeed 3 (some .int) :: ([.fieldLink RX2 43 "ColourTideModel" "thrown" "I", .fieldLink RX2 7 "ColourTideModel" "need" "I", .methodLink RX2 52 yX2_isIn, .static yX2_isIn, .initialized RX2, .code yX2_isIn cX2_isIn 3 (some .boolean), .methodLink RX2 76 yX2_fail, .instanceMethod yX2_fail, .selects RX2 yX2_fail yX2_fail, .code yX2_fail cX2_fail 2 (some .int)] ++ wsX20)
def wsX2_pass_r1 : List Cond := [Cond.fieldLink RX2 43 "ColourTideModel" "thrown" "I", Cond.fieldLink RX2 56 "ColourTideModel" "waves" "I", Cond.methodLink RX2 52 yX2_isIn, Cond.static yX2_isIn, Cond.initialized RX2, Cond.code yX2_isIn cX2_isIn 3 (some .boolean), Cond.methodLink RX2 76 yX2_fail, Cond.instanceMethod yX2_fail, Cond.selects RX2 yX2_fail yX2_fail, Cond.code yX2_fail cX2_fail 2 (some .int), Cond.methodLink RX2 87 yX2_wave, Cond.instanceMethod yX2_wave, Cond.selects RX2 yX2_wave yX2_wave, Cond.code yX2_wave cX2_wave 3 (some .int), Cond.fieldLink RX2 17 "ColourTideModel" "next" "[I", Cond.fieldLink RX2 13 "ColourTideModel" "colours" "[I", Cond.methodLink RX2 59 arraycopyName, Cond.native arraycopyName, Cond.static arraycopyName, Cond.initialized "java/lang/System", Cond.methodLink RX2 68 yX2_cells, Cond.instanceMethod yX2_cells, Cond.selects RX2 yX2_cells yX2_cells, Cond.code yX2_cells cX2_cells 1 (some .int)]
def wsX2_pass_r2 : List Cond := [Cond.fieldLink RX2 46 "ColourTideModel" "w" "I", Cond.fieldLink RX2 49 "ColourTideModel" "h" "I", Cond.methodLink RX2 72 yX2_nextOf, Cond.instanceMethod yX2_nextOf, Cond.selects RX2 yX2_nextOf yX2_nextOf, Cond.code yX2_nextOf cX2_nextOf 7 (some .int), Cond.fieldLink RX2 20 "ColourTideModel" "stubborn" "[Z", Cond.fieldLink RX2 7 "ColourTideModel" "need" "I", Cond.methodLink RX2 65 yX2_beside, Cond.instanceMethod yX2_beside, Cond.selects RX2 yX2_beside yX2_beside, Cond.code yX2_beside cX2_beside 5 (some .int), Cond.fieldLink RX2 24 "ColourTideModel" "beside" "[I"]
def wsX2_pass : List Cond := .code yX2_pass cX2_pass 4 (some .int) :: ((wsX2_pass_r1 ++ wsX2_pass_r2) ++ wsX20)
def wsX2_colourAt : List Cond := .code yX2_colourAt cX2_colourAt 3 (some .int) :: ([.fieldLink RX2 43 "ColourTideModel" "thrown" "I", .fieldLink RX2 13 "ColourTideModel" "colours" "[I", .fieldLink RX2 46 "ColourTideModel" "w" "I", .methodLink RX2 79 yX2_isCell, .instanceMethod yX2_isCell, .selects RX2 yX2_isCell yX2_isCell, .initialized RX2, .code yX2_isCell cX2_isCell 3 (some .boolean), .fieldLink RX2 49 "ColourTideModel" "h" "I", .methodLink RX2 52 yX2_isIn, .static yX2_isIn, .code yX2_isIn cX2_isIn 3 (some .boolean), .methodLink RX2 76 yX2_fail, .instanceMethod yX2_fail, .selects RX2 yX2_fail yX2_fail, .code yX2_fail cX2_fail 2 (some .int)] ++ wsX20)
def wsX2_isStubborn : List Cond := .code yX2_isStubborn cX2_isStubborn 3 (some .boolean) :: ([.fieldLink RX2 43 "ColourTideModel" "thrown" "I", .fieldLink RX2 20 "ColourTideModel" "stubborn" "[Z", .fieldLink RX2 46 "ColourTideModel" "w" "I", .methodLink RX2 79 yX2_isCell, .instanceMethod yX2_isCell, .selects RX2 yX2_isCell yX2_isCell, .initialized RX2, .code yX2_isCell cX2_isCell 3 (some .boolean), .fieldLink RX2 49 "ColourTideModel" "h" "I", .methodLink RX2 52 yX2_isIn, .static yX2_isIn, .code yX2_isIn cX2_isIn 3 (some .boolean)] ++ wsX20)
def wsX2_neighboursWith : List Cond := .code yX2_neighboursWith cX2_neighboursWith 4 (some .int) :: ([.fieldLink RX2 43 "ColourTideModel" "thrown" "I", .fieldLink RX2 46 "ColourTideModel" "w" "I", .methodLink RX2 79 yX2_isCell, .instanceMethod yX2_isCell, .selects RX2 yX2_isCell yX2_isCell, .initialized RX2, .code yX2_isCell cX2_isCell 3 (some .boolean), .fieldLink RX2 49 "ColourTideModel" "h" "I", .methodLink RX2 52 yX2_isIn, .static yX2_isIn, .code yX2_isIn cX2_isIn 3 (some .boolean), .methodLink RX2 83 yX2_isAny, .static yX2_isAny, .code yX2_isAny cX2_isAny 1 (some .boolean), .methodLink RX2 65 yX2_beside, .instanceMethod yX2_beside, .selects RX2 yX2_beside yX2_beside, .code yX2_beside cX2_beside 5 (some .int), .fieldLink RX2 24 "ColourTideModel" "beside" "[I", .fieldLink RX2 13 "ColourTideModel" "colours" "[I", .methodLink RX2 76 yX2_fail, .instanceMethod yX2_fail, .selects RX2 yX2_fail yX2_fail, .code yX2_fail cX2_fail 2 (some .int)] ++ wsX20)
def wsX2_nextColour_r1 : List Cond := [Cond.fieldLink RX2 43 "ColourTideModel" "thrown" "I", Cond.fieldLink RX2 46 "ColourTideModel" "w" "I", Cond.methodLink RX2 79 yX2_isCell, Cond.instanceMethod yX2_isCell, Cond.selects RX2 yX2_isCell yX2_isCell, Cond.initialized RX2, Cond.code yX2_isCell cX2_isCell 3 (some .boolean), Cond.fieldLink RX2 49 "ColourTideModel" "h" "I", Cond.methodLink RX2 52 yX2_isIn, Cond.static yX2_isIn, Cond.code yX2_isIn cX2_isIn 3 (some .boolean), Cond.methodLink RX2 72 yX2_nextOf, Cond.instanceMethod yX2_nextOf, Cond.selects RX2 yX2_nextOf yX2_nextOf, Cond.code yX2_nextOf cX2_nextOf 7 (some .int), Cond.fieldLink RX2 20 "ColourTideModel" "stubborn" "[Z", Cond.fieldLink RX2 13 "ColourTideModel" "colours" "[I", Cond.fieldLink RX2 7 "ColourTideModel" "need" "I", Cond.methodLink RX2 65 yX2_beside, Cond.instanceMethod yX2_beside, Cond.selects RX2 yX2_beside yX2_beside, Cond.code yX2_beside cX2_beside 5 (some .int), Cond.fieldLink RX2 24 "ColourTideModel" "beside" "[I", Cond.methodLink RX2 76 yX2_fail]
def wsX2_nextColour_r2 : List Cond := [Cond.instanceMethod yX2_fail, Cond.selects RX2 yX2_fail yX2_fail, Cond.code yX2_fail cX2_fail 2 (some .int)]
def wsX2_nextColour : List Cond := .code yX2_nextColour cX2_nextColour 3 (some .int) :: ((wsX2_nextColour_r1 ++ wsX2_nextColour_r2) ++ wsX20)
def wsX2_spread : List Cond := .code yX2_spread cX2_spread 6 none :: ([.fieldLink RX2 90 "ColourTideModel" "many" "I", .fieldLink RX2 30 "ColourTideModel" "regions" "[I", .fieldLink RX2 36 "ColourTideModel" "line" "[I", .fieldLink RX2 24 "ColourTideModel" "beside" "[I", .fieldLink RX2 13 "ColourTideModel" "colours" "[I", .fieldLink RX2 33 "ColourTideModel" "sizes" "[I"] ++ wsX20)
def wsX2_hang : List Cond := .code yX2_hang cX2_hang 2 none :: ([.fieldLink RX2 90 "ColourTideModel" "many" "I", .fieldLink RX2 30 "ColourTideModel" "regions" "[I", .fieldLink RX2 13 "ColourTideModel" "colours" "[I", .methodLink RX2 68 yX2_cells, .instanceMethod yX2_cells, .selects RX2 yX2_cells yX2_cells, .initialized RX2, .code yX2_cells cX2_cells 1 (some .int), .fieldLink RX2 46 "ColourTideModel" "w" "I", .fieldLink RX2 49 "ColourTideModel" "h" "I", .methodLink RX2 93 yX2_spread, .instanceMethod yX2_spread, .selects RX2 yX2_spread yX2_spread, .code yX2_spread cX2_spread 6 none, .fieldLink RX2 36 "ColourTideModel" "line" "[I", .fieldLink RX2 24 "ColourTideModel" "beside" "[I", .fieldLink RX2 33 "ColourTideModel" "sizes" "[I"] ++ wsX20)
def wsX2_sizeOf : List Cond := .code yX2_sizeOf cX2_sizeOf 2 (some .int) :: ([.fieldLink RX2 13 "ColourTideModel" "colours" "[I", .fieldLink RX2 33 "ColourTideModel" "sizes" "[I", .fieldLink RX2 30 "ColourTideModel" "regions" "[I"] ++ wsX20)
def wsX2_regionSize_r1 : List Cond := [Cond.fieldLink RX2 43 "ColourTideModel" "thrown" "I", Cond.fieldLink RX2 46 "ColourTideModel" "w" "I", Cond.methodLink RX2 79 yX2_isCell, Cond.instanceMethod yX2_isCell, Cond.selects RX2 yX2_isCell yX2_isCell, Cond.initialized RX2, Cond.code yX2_isCell cX2_isCell 3 (some .boolean), Cond.fieldLink RX2 49 "ColourTideModel" "h" "I", Cond.methodLink RX2 52 yX2_isIn, Cond.static yX2_isIn, Cond.code yX2_isIn cX2_isIn 3 (some .boolean), Cond.methodLink RX2 76 yX2_fail, Cond.instanceMethod yX2_fail, Cond.selects RX2 yX2_fail yX2_fail, Cond.code yX2_fail cX2_fail 2 (some .int), Cond.methodLink RX2 97 yX2_hang, Cond.instanceMethod yX2_hang, Cond.selects RX2 yX2_hang yX2_hang, Cond.code yX2_hang cX2_hang 2 none, Cond.fieldLink RX2 90 "ColourTideModel" "many" "I", Cond.fieldLink RX2 30 "ColourTideModel" "regions" "[I", Cond.fieldLink RX2 13 "ColourTideModel" "colours" "[I", Cond.methodLink RX2 68 yX2_cells, Cond.instanceMethod yX2_cells]
def wsX2_regionSize_r2 : List Cond := [Cond.selects RX2 yX2_cells yX2_cells, Cond.code yX2_cells cX2_cells 1 (some .int), Cond.methodLink RX2 93 yX2_spread, Cond.instanceMethod yX2_spread, Cond.selects RX2 yX2_spread yX2_spread, Cond.code yX2_spread cX2_spread 6 none, Cond.fieldLink RX2 36 "ColourTideModel" "line" "[I", Cond.fieldLink RX2 24 "ColourTideModel" "beside" "[I", Cond.fieldLink RX2 33 "ColourTideModel" "sizes" "[I", Cond.methodLink RX2 100 yX2_sizeOf, Cond.instanceMethod yX2_sizeOf, Cond.selects RX2 yX2_sizeOf yX2_sizeOf, Cond.code yX2_sizeOf cX2_sizeOf 2 (some .int)]
def wsX2_regionSize : List Cond := .code yX2_regionSize cX2_regionSize 3 (some .int) :: ((wsX2_regionSize_r1 ++ wsX2_regionSize_r2) ++ wsX20)
def wsX2_width : List Cond := .code yX2_width cX2_width 1 (some .int) :: ([.fieldLink RX2 43 "ColourTideModel" "thrown" "I", .fieldLink RX2 46 "ColourTideModel" "w" "I"] ++ wsX20)
def wsX2_height : List Cond := .code yX2_height cX2_height 1 (some .int) :: ([.fieldLink RX2 43 "ColourTideModel" "thrown" "I", .fieldLink RX2 49 "ColourTideModel" "h" "I"] ++ wsX20)
def wsX2_need : List Cond := .code yX2_need cX2_need 1 (some .int) :: ([.fieldLink RX2 43 "ColourTideModel" "thrown" "I", .fieldLink RX2 7 "ColourTideModel" "need" "I"] ++ wsX20)
def wsX2_waves : List Cond := .code yX2_waves cX2_waves 1 (some .int) :: ([.fieldLink RX2 43 "ColourTideModel" "thrown" "I", .fieldLink RX2 56 "ColourTideModel" "waves" "I"] ++ wsX20)
def wsX2_stubbornOnes : List Cond := .code yX2_stubbornOnes cX2_stubbornOnes 3 (some .int) :: ([.fieldLink RX2 20 "ColourTideModel" "stubborn" "[Z", .methodLink RX2 68 yX2_cells, .instanceMethod yX2_cells, .selects RX2 yX2_cells yX2_cells, .initialized RX2, .code yX2_cells cX2_cells 1 (some .int), .fieldLink RX2 46 "ColourTideModel" "w" "I", .fieldLink RX2 49 "ColourTideModel" "h" "I"] ++ wsX20)
def wsX2_stubbornCells : List Cond := .code yX2_stubbornCells cX2_stubbornCells 1 (some .int) :: ([.fieldLink RX2 43 "ColourTideModel" "thrown" "I", .methodLink RX2 103 yX2_stubbornOnes, .instanceMethod yX2_stubbornOnes, .selects RX2 yX2_stubbornOnes yX2_stubbornOnes, .initialized RX2, .code yX2_stubbornOnes cX2_stubbornOnes 3 (some .int), .fieldLink RX2 20 "ColourTideModel" "stubborn" "[Z", .methodLink RX2 68 yX2_cells, .instanceMethod yX2_cells, .selects RX2 yX2_cells yX2_cells, .code yX2_cells cX2_cells 1 (some .int), .fieldLink RX2 46 "ColourTideModel" "w" "I", .fieldLink RX2 49 "ColourTideModel" "h" "I"] ++ wsX20)
def wsX2_cellsOf : List Cond := .code yX2_cellsOf cX2_cellsOf 2 (some .int) :: ([.fieldLink RX2 43 "ColourTideModel" "thrown" "I", .methodLink RX2 83 yX2_isAny, .static yX2_isAny, .initialized RX2, .code yX2_isAny cX2_isAny 1 (some .boolean), .methodLink RX2 52 yX2_isIn, .static yX2_isIn, .code yX2_isIn cX2_isIn 3 (some .boolean), .methodLink RX2 106 yX2_cellsWith, .instanceMethod yX2_cellsWith, .selects RX2 yX2_cellsWith yX2_cellsWith, .code yX2_cellsWith cX2_cellsWith 4 (some .int), .fieldLink RX2 13 "ColourTideModel" "colours" "[I", .methodLink RX2 68 yX2_cells, .instanceMethod yX2_cells, .selects RX2 yX2_cells yX2_cells, .code yX2_cells cX2_cells 1 (some .int), .fieldLink RX2 46 "ColourTideModel" "w" "I", .fieldLink RX2 49 "ColourTideModel" "h" "I", .methodLink RX2 76 yX2_fail, .instanceMethod yX2_fail, .selects RX2 yX2_fail yX2_fail, .code yX2_fail cX2_fail 2 (some .int)] ++ wsX20)
def wsX2_regions : List Cond := .code yX2_regions cX2_regions 7 (some .int) :: ([.fieldLink RX2 13 "ColourTideModel" "colours" "[I", .methodLink RX2 109 Lib.Math.max.name, .static Lib.Math.max.name, .initialized "java/lang/Math", .code Lib.Math.max.name Lib.Math.max.code 2 (some .int), .fieldLink RX2 30 "ColourTideModel" "regions" "[I", .methodLink RX2 68 yX2_cells, .instanceMethod yX2_cells, .selects RX2 yX2_cells yX2_cells, .initialized RX2, .code yX2_cells cX2_cells 1 (some .int), .fieldLink RX2 46 "ColourTideModel" "w" "I", .fieldLink RX2 49 "ColourTideModel" "h" "I", .methodLink RX2 100 yX2_sizeOf, .instanceMethod yX2_sizeOf, .selects RX2 yX2_sizeOf yX2_sizeOf, .code yX2_sizeOf cX2_sizeOf 2 (some .int), .fieldLink RX2 33 "ColourTideModel" "sizes" "[I"] ++ wsX20)
def wsX2_regionsOf_r1 : List Cond := [Cond.fieldLink RX2 43 "ColourTideModel" "thrown" "I", Cond.methodLink RX2 114 yX2_isColour, Cond.static yX2_isColour, Cond.initialized RX2, Cond.code yX2_isColour cX2_isColour 1 (some .boolean), Cond.methodLink RX2 52 yX2_isIn, Cond.static yX2_isIn, Cond.code yX2_isIn cX2_isIn 3 (some .boolean), Cond.methodLink RX2 76 yX2_fail, Cond.instanceMethod yX2_fail, Cond.selects RX2 yX2_fail yX2_fail, Cond.code yX2_fail cX2_fail 2 (some .int), Cond.methodLink RX2 97 yX2_hang, Cond.instanceMethod yX2_hang, Cond.selects RX2 yX2_hang yX2_hang, Cond.code yX2_hang cX2_hang 2 none, Cond.fieldLink RX2 90 "ColourTideModel" "many" "I", Cond.fieldLink RX2 30 "ColourTideModel" "regions" "[I", Cond.fieldLink RX2 13 "ColourTideModel" "colours" "[I", Cond.methodLink RX2 68 yX2_cells, Cond.instanceMethod yX2_cells, Cond.selects RX2 yX2_cells yX2_cells, Cond.code yX2_cells cX2_cells 1 (some .int), Cond.fieldLink RX2 46 "ColourTideModel" "w" "I"]
def wsX2_regionsOf_r2 : List Cond := [Cond.fieldLink RX2 49 "ColourTideModel" "h" "I", Cond.methodLink RX2 93 yX2_spread, Cond.instanceMethod yX2_spread, Cond.selects RX2 yX2_spread yX2_spread, Cond.code yX2_spread cX2_spread 6 none, Cond.fieldLink RX2 36 "ColourTideModel" "line" "[I", Cond.fieldLink RX2 24 "ColourTideModel" "beside" "[I", Cond.fieldLink RX2 33 "ColourTideModel" "sizes" "[I", Cond.methodLink RX2 117 yX2_regions, Cond.instanceMethod yX2_regions, Cond.selects RX2 yX2_regions yX2_regions, Cond.code yX2_regions cX2_regions 7 (some .int), Cond.methodLink RX2 109 Lib.Math.max.name, Cond.static Lib.Math.max.name, Cond.initialized "java/lang/Math", Cond.code Lib.Math.max.name Lib.Math.max.code 2 (some .int), Cond.methodLink RX2 100 yX2_sizeOf, Cond.instanceMethod yX2_sizeOf, Cond.selects RX2 yX2_sizeOf yX2_sizeOf, Cond.code yX2_sizeOf cX2_sizeOf 2 (some .int)]
def wsX2_regionsOf : List Cond := .code yX2_regionsOf cX2_regionsOf 2 (some .int) :: ((wsX2_regionsOf_r1 ++ wsX2_regionsOf_r2) ++ wsX20)
def wsX2_greatestRegion_r1 : List Cond := [Cond.fieldLink RX2 43 "ColourTideModel" "thrown" "I", Cond.methodLink RX2 114 yX2_isColour, Cond.static yX2_isColour, Cond.initialized RX2, Cond.code yX2_isColour cX2_isColour 1 (some .boolean), Cond.methodLink RX2 52 yX2_isIn, Cond.static yX2_isIn, Cond.code yX2_isIn cX2_isIn 3 (some .boolean), Cond.methodLink RX2 76 yX2_fail, Cond.instanceMethod yX2_fail, Cond.selects RX2 yX2_fail yX2_fail, Cond.code yX2_fail cX2_fail 2 (some .int), Cond.methodLink RX2 97 yX2_hang, Cond.instanceMethod yX2_hang, Cond.selects RX2 yX2_hang yX2_hang, Cond.code yX2_hang cX2_hang 2 none, Cond.fieldLink RX2 90 "ColourTideModel" "many" "I", Cond.fieldLink RX2 30 "ColourTideModel" "regions" "[I", Cond.fieldLink RX2 13 "ColourTideModel" "colours" "[I", Cond.methodLink RX2 68 yX2_cells, Cond.instanceMethod yX2_cells, Cond.selects RX2 yX2_cells yX2_cells, Cond.code yX2_cells cX2_cells 1 (some .int), Cond.fieldLink RX2 46 "ColourTideModel" "w" "I"]
def wsX2_greatestRegion_r2 : List Cond := [Cond.fieldLink RX2 49 "ColourTideModel" "h" "I", Cond.methodLink RX2 93 yX2_spread, Cond.instanceMethod yX2_spread, Cond.selects RX2 yX2_spread yX2_spread, Cond.code yX2_spread cX2_spread 6 none, Cond.fieldLink RX2 36 "ColourTideModel" "line" "[I", Cond.fieldLink RX2 24 "ColourTideModel" "beside" "[I", Cond.fieldLink RX2 33 "ColourTideModel" "sizes" "[I", Cond.methodLink RX2 117 yX2_regions, Cond.instanceMethod yX2_regions, Cond.selects RX2 yX2_regions yX2_regions, Cond.code yX2_regions cX2_regions 7 (some .int), Cond.methodLink RX2 109 Lib.Math.max.name, Cond.static Lib.Math.max.name, Cond.initialized "java/lang/Math", Cond.code Lib.Math.max.name Lib.Math.max.code 2 (some .int), Cond.methodLink RX2 100 yX2_sizeOf, Cond.instanceMethod yX2_sizeOf, Cond.selects RX2 yX2_sizeOf yX2_sizeOf, Cond.code yX2_sizeOf cX2_sizeOf 2 (some .int)]
def wsX2_greatestRegion : List Cond := .code yX2_greatestRegion cX2_greatestRegion 2 (some .int) :: ((wsX2_greatestRegion_r1 ++ wsX2_greatestRegion_r2) ++ wsX20)
def wsX2_between : List Cond := .code yX2_between cX2_between 5 (some .int) :: ([.fieldLink RX2 24 "ColourTideModel" "beside" "[I", .fieldLink RX2 13 "ColourTideModel" "colours" "[I", .methodLink RX2 68 yX2_cells, .instanceMethod yX2_cells, .selects RX2 yX2_cells yX2_cells, .initialized RX2, .code yX2_cells cX2_cells 1 (some .int), .fieldLink RX2 46 "ColourTideModel" "w" "I", .fieldLink RX2 49 "ColourTideModel" "h" "I"] ++ wsX20)
def wsX2_borders : List Cond := .code yX2_borders cX2_borders 1 (some .int) :: ([.fieldLink RX2 43 "ColourTideModel" "thrown" "I", .methodLink RX2 120 yX2_between, .instanceMethod yX2_between, .selects RX2 yX2_between yX2_between, .initialized RX2, .code yX2_between cX2_between 5 (some .int), .fieldLink RX2 24 "ColourTideModel" "beside" "[I", .fieldLink RX2 13 "ColourTideModel" "colours" "[I", .methodLink RX2 68 yX2_cells, .instanceMethod yX2_cells, .selects RX2 yX2_cells yX2_cells, .code yX2_cells cX2_cells 1 (some .int), .fieldLink RX2 46 "ColourTideModel" "w" "I", .fieldLink RX2 49 "ColourTideModel" "h" "I"] ++ wsX20)
def wsX2_first : List Cond := .code yX2_first cX2_first 5 (some .int) :: ([.methodLink RX2 106 yX2_cellsWith, .instanceMethod yX2_cellsWith, .selects RX2 yX2_cellsWith yX2_cellsWith, .initialized RX2, .code yX2_cellsWith cX2_cellsWith 4 (some .int), .fieldLink RX2 13 "ColourTideModel" "colours" "[I", .methodLink RX2 68 yX2_cells, .instanceMethod yX2_cells, .selects RX2 yX2_cells yX2_cells, .code yX2_cells cX2_cells 1 (some .int), .fieldLink RX2 46 "ColourTideModel" "w" "I", .fieldLink RX2 49 "ColourTideModel" "h" "I"] ++ wsX20)
def wsX2_leader : List Cond := .code yX2_leader cX2_leader 1 (some .int) :: ([.fieldLink RX2 43 "ColourTideModel" "thrown" "I", .methodLink RX2 123 yX2_first, .instanceMethod yX2_first, .selects RX2 yX2_first yX2_first, .initialized RX2, .code yX2_first cX2_first 5 (some .int), .methodLink RX2 106 yX2_cellsWith, .instanceMethod yX2_cellsWith, .selects RX2 yX2_cellsWith yX2_cellsWith, .code yX2_cellsWith cX2_cellsWith 4 (some .int), .fieldLink RX2 13 "ColourTideModel" "colours" "[I", .methodLink RX2 68 yX2_cells, .instanceMethod yX2_cells, .selects RX2 yX2_cells yX2_cells, .code yX2_cells cX2_cells 1 (some .int), .fieldLink RX2 46 "ColourTideModel" "w" "I", .fieldLink RX2 49 "ColourTideModel" "h" "I"] ++ wsX20)
def wsX2_still : List Cond := .code yX2_still cX2_still 2 (some .boolean) :: ([.fieldLink RX2 13 "ColourTideModel" "colours" "[I", .methodLink RX2 68 yX2_cells, .instanceMethod yX2_cells, .selects RX2 yX2_cells yX2_cells, .initialized RX2, .code yX2_cells cX2_cells 1 (some .int), .fieldLink RX2 46 "ColourTideModel" "w" "I", .fieldLink RX2 49 "ColourTideModel" "h" "I", .methodLink RX2 72 yX2_nextOf, .instanceMethod yX2_nextOf, .selects RX2 yX2_nextOf yX2_nextOf, .code yX2_nextOf cX2_nextOf 7 (some .int), .fieldLink RX2 20 "ColourTideModel" "stubborn" "[Z", .fieldLink RX2 7 "ColourTideModel" "need" "I", .methodLink RX2 65 yX2_beside, .instanceMethod yX2_beside, .selects RX2 yX2_beside yX2_beside, .code yX2_beside cX2_beside 5 (some .int), .fieldLink RX2 24 "ColourTideModel" "beside" "[I"] ++ wsX20)
def wsX2_isStill : List Cond := .code yX2_isStill cX2_isStill 1 (some .boolean) :: ([.fieldLink RX2 43 "ColourTideModel" "thrown" "I", .methodLink RX2 126 yX2_still, .instanceMethod yX2_still, .selects RX2 yX2_still yX2_still, .initialized RX2, .code yX2_still cX2_still 2 (some .boolean), .fieldLink RX2 13 "ColourTideModel" "colours" "[I", .methodLink RX2 68 yX2_cells, .instanceMethod yX2_cells, .selects RX2 yX2_cells yX2_cells, .code yX2_cells cX2_cells 1 (some .int), .fieldLink RX2 46 "ColourTideModel" "w" "I", .fieldLink RX2 49 "ColourTideModel" "h" "I", .methodLink RX2 72 yX2_nextOf, .instanceMethod yX2_nextOf, .selects RX2 yX2_nextOf yX2_nextOf, .code yX2_nextOf cX2_nextOf 7 (some .int), .fieldLink RX2 20 "ColourTideModel" "stubborn" "[Z", .fieldLink RX2 7 "ColourTideModel" "need" "I", .methodLink RX2 65 yX2_beside, .instanceMethod yX2_beside, .selects RX2 yX2_beside yX2_beside, .code yX2_beside cX2_beside 5 (some .int), .fieldLink RX2 24 "ColourTideModel" "beside" "[I"] ++ wsX20)
def wsX2_all : List Cond := .code yX2_all cX2_all 1 (some .int) :: ([.fieldLink RX2 13 "ColourTideModel" "colours" "[I", .methodLink RX2 106 yX2_cellsWith, .instanceMethod yX2_cellsWith, .selects RX2 yX2_cellsWith yX2_cellsWith, .initialized RX2, .code yX2_cellsWith cX2_cellsWith 4 (some .int), .methodLink RX2 68 yX2_cells, .instanceMethod yX2_cells, .selects RX2 yX2_cells yX2_cells, .code yX2_cells cX2_cells 1 (some .int), .fieldLink RX2 46 "ColourTideModel" "w" "I", .fieldLink RX2 49 "ColourTideModel" "h" "I"] ++ wsX20)
def wsX2_winner : List Cond := .code yX2_winner cX2_winner 1 (some .int) :: ([.fieldLink RX2 43 "ColourTideModel" "thrown" "I", .methodLink RX2 130 yX2_all, .instanceMethod yX2_all, .selects RX2 yX2_all yX2_all, .initialized RX2, .code yX2_all cX2_all 1 (some .int), .fieldLink RX2 13 "ColourTideModel" "colours" "[I", .methodLink RX2 106 yX2_cellsWith, .instanceMethod yX2_cellsWith, .selects RX2 yX2_cellsWith yX2_cellsWith, .code yX2_cellsWith cX2_cellsWith 4 (some .int), .methodLink RX2 68 yX2_cells, .instanceMethod yX2_cells, .selects RX2 yX2_cells yX2_cells, .code yX2_cells cX2_cells 1 (some .int), .fieldLink RX2 46 "ColourTideModel" "w" "I", .fieldLink RX2 49 "ColourTideModel" "h" "I"] ++ wsX20)
def wsX2_wavesUntilStill_r1 : List Cond := [Cond.fieldLink RX2 43 "ColourTideModel" "thrown" "I", Cond.methodLink RX2 133 yX2_keep, Cond.instanceMethod yX2_keep, Cond.selects RX2 yX2_keep yX2_keep, Cond.initialized RX2, Cond.code yX2_keep cX2_keep 1 none, Cond.fieldLink RX2 13 "ColourTideModel" "colours" "[I", Cond.fieldLink RX2 27 "ColourTideModel" "kept" "[I", Cond.methodLink RX2 59 arraycopyName, Cond.native arraycopyName, Cond.static arraycopyName, Cond.initialized "java/lang/System", Cond.methodLink RX2 87 yX2_wave, Cond.instanceMethod yX2_wave, Cond.selects RX2 yX2_wave yX2_wave, Cond.code yX2_wave cX2_wave 3 (some .int), Cond.fieldLink RX2 17 "ColourTideModel" "next" "[I", Cond.methodLink RX2 68 yX2_cells, Cond.instanceMethod yX2_cells, Cond.selects RX2 yX2_cells yX2_cells, Cond.code yX2_cells cX2_cells 1 (some .int), Cond.fieldLink RX2 46 "ColourTideModel" "w" "I", Cond.fieldLink RX2 49 "ColourTideModel" "h" "I", Cond.methodLink RX2 72 yX2_nextOf]
def wsX2_wavesUntilStill_r2 : List Cond := [Cond.instanceMethod yX2_nextOf, Cond.selects RX2 yX2_nextOf yX2_nextOf, Cond.code yX2_nextOf cX2_nextOf 7 (some .int), Cond.fieldLink RX2 20 "ColourTideModel" "stubborn" "[Z", Cond.fieldLink RX2 7 "ColourTideModel" "need" "I", Cond.methodLink RX2 65 yX2_beside, Cond.instanceMethod yX2_beside, Cond.selects RX2 yX2_beside yX2_beside, Cond.code yX2_beside cX2_beside 5 (some .int), Cond.fieldLink RX2 24 "ColourTideModel" "beside" "[I", Cond.methodLink RX2 136 yX2_bringBack, Cond.instanceMethod yX2_bringBack, Cond.selects RX2 yX2_bringBack yX2_bringBack, Cond.code yX2_bringBack cX2_bringBack 1 none]
def wsX2_wavesUntilStill : List Cond := .code yX2_wavesUntilStill cX2_wavesUntilStill 2 (some .int) :: ((wsX2_wavesUntilStill_r1 ++ wsX2_wavesUntilStill_r2) ++ wsX20)
def wsX2_after_r1 : List Cond := [Cond.methodLink RX2 87 yX2_wave, Cond.instanceMethod yX2_wave, Cond.selects RX2 yX2_wave yX2_wave, Cond.initialized RX2, Cond.code yX2_wave cX2_wave 3 (some .int), Cond.fieldLink RX2 17 "ColourTideModel" "next" "[I", Cond.fieldLink RX2 13 "ColourTideModel" "colours" "[I", Cond.methodLink RX2 59 arraycopyName, Cond.native arraycopyName, Cond.static arraycopyName, Cond.initialized "java/lang/System", Cond.methodLink RX2 68 yX2_cells, Cond.instanceMethod yX2_cells, Cond.selects RX2 yX2_cells yX2_cells, Cond.code yX2_cells cX2_cells 1 (some .int), Cond.fieldLink RX2 46 "ColourTideModel" "w" "I", Cond.fieldLink RX2 49 "ColourTideModel" "h" "I", Cond.methodLink RX2 72 yX2_nextOf, Cond.instanceMethod yX2_nextOf, Cond.selects RX2 yX2_nextOf yX2_nextOf, Cond.code yX2_nextOf cX2_nextOf 7 (some .int), Cond.fieldLink RX2 20 "ColourTideModel" "stubborn" "[Z", Cond.fieldLink RX2 7 "ColourTideModel" "need" "I", Cond.methodLink RX2 65 yX2_beside]
def wsX2_after_r2 : List Cond := [Cond.instanceMethod yX2_beside, Cond.selects RX2 yX2_beside yX2_beside, Cond.code yX2_beside cX2_beside 5 (some .int), Cond.fieldLink RX2 24 "ColourTideModel" "beside" "[I", Cond.methodLink RX2 106 yX2_cellsWith, Cond.instanceMethod yX2_cellsWith, Cond.selects RX2 yX2_cellsWith yX2_cellsWith, Cond.code yX2_cellsWith cX2_cellsWith 4 (some .int), Cond.methodLink RX2 136 yX2_bringBack, Cond.instanceMethod yX2_bringBack, Cond.selects RX2 yX2_bringBack yX2_bringBack, Cond.code yX2_bringBack cX2_bringBack 1 none, Cond.fieldLink RX2 27 "ColourTideModel" "kept" "[I"]
def wsX2_after : List Cond := .code yX2_after cX2_after 4 (some .int) :: ((wsX2_after_r1 ++ wsX2_after_r2) ++ wsX20)
def wsX2_cellsAfter_r1 : List Cond := [Cond.fieldLink RX2 43 "ColourTideModel" "thrown" "I", Cond.methodLink RX2 52 yX2_isIn, Cond.static yX2_isIn, Cond.initialized RX2, Cond.code yX2_isIn cX2_isIn 3 (some .boolean), Cond.methodLink RX2 76 yX2_fail, Cond.instanceMethod yX2_fail, Cond.selects RX2 yX2_fail yX2_fail, Cond.code yX2_fail cX2_fail 2 (some .int), Cond.methodLink RX2 83 yX2_isAny, Cond.static yX2_isAny, Cond.code yX2_isAny cX2_isAny 1 (some .boolean), Cond.methodLink RX2 133 yX2_keep, Cond.instanceMethod yX2_keep, Cond.selects RX2 yX2_keep yX2_keep, Cond.code yX2_keep cX2_keep 1 none, Cond.fieldLink RX2 13 "ColourTideModel" "colours" "[I", Cond.fieldLink RX2 27 "ColourTideModel" "kept" "[I", Cond.methodLink RX2 59 arraycopyName, Cond.native arraycopyName, Cond.static arraycopyName, Cond.initialized "java/lang/System", Cond.methodLink RX2 139 yX2_after, Cond.instanceMethod yX2_after]
def wsX2_cellsAfter_r2 : List Cond := [Cond.selects RX2 yX2_after yX2_after, Cond.code yX2_after cX2_after 4 (some .int), Cond.methodLink RX2 87 yX2_wave, Cond.instanceMethod yX2_wave, Cond.selects RX2 yX2_wave yX2_wave, Cond.code yX2_wave cX2_wave 3 (some .int), Cond.fieldLink RX2 17 "ColourTideModel" "next" "[I", Cond.methodLink RX2 68 yX2_cells, Cond.instanceMethod yX2_cells, Cond.selects RX2 yX2_cells yX2_cells, Cond.code yX2_cells cX2_cells 1 (some .int), Cond.fieldLink RX2 46 "ColourTideModel" "w" "I", Cond.fieldLink RX2 49 "ColourTideModel" "h" "I", Cond.methodLink RX2 72 yX2_nextOf, Cond.instanceMethod yX2_nextOf, Cond.selects RX2 yX2_nextOf yX2_nextOf, Cond.code yX2_nextOf cX2_nextOf 7 (some .int), Cond.fieldLink RX2 20 "ColourTideModel" "stubborn" "[Z", Cond.fieldLink RX2 7 "ColourTideModel" "need" "I", Cond.methodLink RX2 65 yX2_beside, Cond.instanceMethod yX2_beside, Cond.selects RX2 yX2_beside yX2_beside, Cond.code yX2_beside cX2_beside 5 (some .int), Cond.fieldLink RX2 24 "ColourTideModel" "beside" "[I"]
def wsX2_cellsAfter_r3 : List Cond := [Cond.methodLink RX2 106 yX2_cellsWith, Cond.instanceMethod yX2_cellsWith, Cond.selects RX2 yX2_cellsWith yX2_cellsWith, Cond.code yX2_cellsWith cX2_cellsWith 4 (some .int), Cond.methodLink RX2 136 yX2_bringBack, Cond.instanceMethod yX2_bringBack, Cond.selects RX2 yX2_bringBack yX2_bringBack, Cond.code yX2_bringBack cX2_bringBack 1 none]
def wsX2_cellsAfter : List Cond := .code yX2_cellsAfter cX2_cellsAfter 3 (some .int) :: ((wsX2_cellsAfter_r1 ++ (wsX2_cellsAfter_r2 ++ wsX2_cellsAfter_r3)) ++ wsX20)
def wsX2_winsNow_r1 : List Cond := [Cond.methodLink RX2 130 yX2_all, Cond.instanceMethod yX2_all, Cond.selects RX2 yX2_all yX2_all, Cond.initialized RX2, Cond.code yX2_all cX2_all 1 (some .int), Cond.fieldLink RX2 13 "ColourTideModel" "colours" "[I", Cond.methodLink RX2 106 yX2_cellsWith, Cond.instanceMethod yX2_cellsWith, Cond.selects RX2 yX2_cellsWith yX2_cellsWith, Cond.code yX2_cellsWith cX2_cellsWith 4 (some .int), Cond.methodLink RX2 68 yX2_cells, Cond.instanceMethod yX2_cells, Cond.selects RX2 yX2_cells yX2_cells, Cond.code yX2_cells cX2_cells 1 (some .int), Cond.fieldLink RX2 46 "ColourTideModel" "w" "I", Cond.fieldLink RX2 49 "ColourTideModel" "h" "I", Cond.methodLink RX2 87 yX2_wave, Cond.instanceMethod yX2_wave, Cond.selects RX2 yX2_wave yX2_wave, Cond.code yX2_wave cX2_wave 3 (some .int), Cond.fieldLink RX2 17 "ColourTideModel" "next" "[I", Cond.methodLink RX2 59 arraycopyName, Cond.native arraycopyName, Cond.static arraycopyName]
def wsX2_winsNow_r2 : List Cond := [Cond.initialized "java/lang/System", Cond.methodLink RX2 72 yX2_nextOf, Cond.instanceMethod yX2_nextOf, Cond.selects RX2 yX2_nextOf yX2_nextOf, Cond.code yX2_nextOf cX2_nextOf 7 (some .int), Cond.fieldLink RX2 20 "ColourTideModel" "stubborn" "[Z", Cond.fieldLink RX2 7 "ColourTideModel" "need" "I", Cond.methodLink RX2 65 yX2_beside, Cond.instanceMethod yX2_beside, Cond.selects RX2 yX2_beside yX2_beside, Cond.code yX2_beside cX2_beside 5 (some .int), Cond.fieldLink RX2 24 "ColourTideModel" "beside" "[I"]
def wsX2_winsNow : List Cond := .code yX2_winsNow cX2_winsNow 3 (some .boolean) :: ((wsX2_winsNow_r1 ++ wsX2_winsNow_r2) ++ wsX20)
def wsX2_winsWith_r1 : List Cond := [Cond.fieldLink RX2 13 "ColourTideModel" "colours" "[I", Cond.methodLink RX2 142 yX2_winsNow, Cond.instanceMethod yX2_winsNow, Cond.selects RX2 yX2_winsNow yX2_winsNow, Cond.initialized RX2, Cond.code yX2_winsNow cX2_winsNow 3 (some .boolean), Cond.methodLink RX2 130 yX2_all, Cond.instanceMethod yX2_all, Cond.selects RX2 yX2_all yX2_all, Cond.code yX2_all cX2_all 1 (some .int), Cond.methodLink RX2 106 yX2_cellsWith, Cond.instanceMethod yX2_cellsWith, Cond.selects RX2 yX2_cellsWith yX2_cellsWith, Cond.code yX2_cellsWith cX2_cellsWith 4 (some .int), Cond.methodLink RX2 68 yX2_cells, Cond.instanceMethod yX2_cells, Cond.selects RX2 yX2_cells yX2_cells, Cond.code yX2_cells cX2_cells 1 (some .int), Cond.fieldLink RX2 46 "ColourTideModel" "w" "I", Cond.fieldLink RX2 49 "ColourTideModel" "h" "I", Cond.methodLink RX2 87 yX2_wave, Cond.instanceMethod yX2_wave, Cond.selects RX2 yX2_wave yX2_wave, Cond.code yX2_wave cX2_wave 3 (some .int)]
def wsX2_winsWith_r2 : List Cond := [Cond.fieldLink RX2 17 "ColourTideModel" "next" "[I", Cond.methodLink RX2 59 arraycopyName, Cond.native arraycopyName, Cond.static arraycopyName, Cond.initialized "java/lang/System", Cond.methodLink RX2 72 yX2_nextOf, Cond.instanceMethod yX2_nextOf, Cond.selects RX2 yX2_nextOf yX2_nextOf, Cond.code yX2_nextOf cX2_nextOf 7 (some .int), Cond.fieldLink RX2 20 "ColourTideModel" "stubborn" "[Z", Cond.fieldLink RX2 7 "ColourTideModel" "need" "I", Cond.methodLink RX2 65 yX2_beside, Cond.instanceMethod yX2_beside, Cond.selects RX2 yX2_beside yX2_beside, Cond.code yX2_beside cX2_beside 5 (some .int), Cond.fieldLink RX2 24 "ColourTideModel" "beside" "[I", Cond.methodLink RX2 136 yX2_bringBack, Cond.instanceMethod yX2_bringBack, Cond.selects RX2 yX2_bringBack yX2_bringBack, Cond.code yX2_bringBack cX2_bringBack 1 none, Cond.fieldLink RX2 27 "ColourTideModel" "kept" "[I"]
def wsX2_winsWith : List Cond := .code yX2_winsWith cX2_winsWith 5 (some .boolean) :: ((wsX2_winsWith_r1 ++ wsX2_winsWith_r2) ++ wsX20)
def wsX2_wins_r1 : List Cond := [Cond.fieldLink RX2 43 "ColourTideModel" "thrown" "I", Cond.methodLink RX2 114 yX2_isColour, Cond.static yX2_isColour, Cond.initialized RX2, Cond.code yX2_isColour cX2_isColour 1 (some .boolean), Cond.methodLink RX2 52 yX2_isIn, Cond.static yX2_isIn, Cond.code yX2_isIn cX2_isIn 3 (some .boolean), Cond.methodLink RX2 133 yX2_keep, Cond.instanceMethod yX2_keep, Cond.selects RX2 yX2_keep yX2_keep, Cond.code yX2_keep cX2_keep 1 none, Cond.fieldLink RX2 13 "ColourTideModel" "colours" "[I", Cond.fieldLink RX2 27 "ColourTideModel" "kept" "[I", Cond.methodLink RX2 59 arraycopyName, Cond.native arraycopyName, Cond.static arraycopyName, Cond.initialized "java/lang/System", Cond.methodLink RX2 145 yX2_winsWith, Cond.instanceMethod yX2_winsWith, Cond.selects RX2 yX2_winsWith yX2_winsWith, Cond.code yX2_winsWith cX2_winsWith 5 (some .boolean), Cond.methodLink RX2 142 yX2_winsNow, Cond.instanceMethod yX2_winsNow]
def wsX2_wins_r2 : List Cond := [Cond.selects RX2 yX2_winsNow yX2_winsNow, Cond.code yX2_winsNow cX2_winsNow 3 (some .boolean), Cond.methodLink RX2 130 yX2_all, Cond.instanceMethod yX2_all, Cond.selects RX2 yX2_all yX2_all, Cond.code yX2_all cX2_all 1 (some .int), Cond.methodLink RX2 106 yX2_cellsWith, Cond.instanceMethod yX2_cellsWith, Cond.selects RX2 yX2_cellsWith yX2_cellsWith, Cond.code yX2_cellsWith cX2_cellsWith 4 (some .int), Cond.methodLink RX2 68 yX2_cells, Cond.instanceMethod yX2_cells, Cond.selects RX2 yX2_cells yX2_cells, Cond.code yX2_cells cX2_cells 1 (some .int), Cond.fieldLink RX2 46 "ColourTideModel" "w" "I", Cond.fieldLink RX2 49 "ColourTideModel" "h" "I", Cond.methodLink RX2 87 yX2_wave, Cond.instanceMethod yX2_wave, Cond.selects RX2 yX2_wave yX2_wave, Cond.code yX2_wave cX2_wave 3 (some .int), Cond.fieldLink RX2 17 "ColourTideModel" "next" "[I", Cond.methodLink RX2 72 yX2_nextOf, Cond.instanceMethod yX2_nextOf, Cond.selects RX2 yX2_nextOf yX2_nextOf]
def wsX2_wins_r3 : List Cond := [Cond.code yX2_nextOf cX2_nextOf 7 (some .int), Cond.fieldLink RX2 20 "ColourTideModel" "stubborn" "[Z", Cond.fieldLink RX2 7 "ColourTideModel" "need" "I", Cond.methodLink RX2 65 yX2_beside, Cond.instanceMethod yX2_beside, Cond.selects RX2 yX2_beside yX2_beside, Cond.code yX2_beside cX2_beside 5 (some .int), Cond.fieldLink RX2 24 "ColourTideModel" "beside" "[I", Cond.methodLink RX2 136 yX2_bringBack, Cond.instanceMethod yX2_bringBack, Cond.selects RX2 yX2_bringBack yX2_bringBack, Cond.code yX2_bringBack cX2_bringBack 1 none]
def wsX2_wins : List Cond := .code yX2_wins cX2_wins 2 (some .boolean) :: ((wsX2_wins_r1 ++ (wsX2_wins_r2 ++ wsX2_wins_r3)) ++ wsX20)
def wsX2_fewestSeeds_r1 : List Cond := [Cond.fieldLink RX2 43 "ColourTideModel" "thrown" "I", Cond.methodLink RX2 114 yX2_isColour, Cond.static yX2_isColour, Cond.initialized RX2, Cond.code yX2_isColour cX2_isColour 1 (some .boolean), Cond.methodLink RX2 52 yX2_isIn, Cond.static yX2_isIn, Cond.code yX2_isIn cX2_isIn 3 (some .boolean), Cond.methodLink RX2 76 yX2_fail, Cond.instanceMethod yX2_fail, Cond.selects RX2 yX2_fail yX2_fail, Cond.code yX2_fail cX2_fail 2 (some .int), Cond.methodLink RX2 133 yX2_keep, Cond.instanceMethod yX2_keep, Cond.selects RX2 yX2_keep yX2_keep, Cond.code yX2_keep cX2_keep 1 none, Cond.fieldLink RX2 13 "ColourTideModel" "colours" "[I", Cond.fieldLink RX2 27 "ColourTideModel" "kept" "[I", Cond.methodLink RX2 59 arraycopyName, Cond.native arraycopyName, Cond.static arraycopyName, Cond.initialized "java/lang/System", Cond.methodLink RX2 145 yX2_winsWith, Cond.instanceMethod yX2_winsWith]
def wsX2_fewestSeeds_r2 : List Cond := [Cond.selects RX2 yX2_winsWith yX2_winsWith, Cond.code yX2_winsWith cX2_winsWith 5 (some .boolean), Cond.methodLink RX2 142 yX2_winsNow, Cond.instanceMethod yX2_winsNow, Cond.selects RX2 yX2_winsNow yX2_winsNow, Cond.code yX2_winsNow cX2_winsNow 3 (some .boolean), Cond.methodLink RX2 130 yX2_all, Cond.instanceMethod yX2_all, Cond.selects RX2 yX2_all yX2_all, Cond.code yX2_all cX2_all 1 (some .int), Cond.methodLink RX2 106 yX2_cellsWith, Cond.instanceMethod yX2_cellsWith, Cond.selects RX2 yX2_cellsWith yX2_cellsWith, Cond.code yX2_cellsWith cX2_cellsWith 4 (some .int), Cond.methodLink RX2 68 yX2_cells, Cond.instanceMethod yX2_cells, Cond.selects RX2 yX2_cells yX2_cells, Cond.code yX2_cells cX2_cells 1 (some .int), Cond.fieldLink RX2 46 "ColourTideModel" "w" "I", Cond.fieldLink RX2 49 "ColourTideModel" "h" "I", Cond.methodLink RX2 87 yX2_wave, Cond.instanceMethod yX2_wave, Cond.selects RX2 yX2_wave yX2_wave, Cond.code yX2_wave cX2_wave 3 (some .int)]
def wsX2_fewestSeeds_r3 : List Cond := [Cond.fieldLink RX2 17 "ColourTideModel" "next" "[I", Cond.methodLink RX2 72 yX2_nextOf, Cond.instanceMethod yX2_nextOf, Cond.selects RX2 yX2_nextOf yX2_nextOf, Cond.code yX2_nextOf cX2_nextOf 7 (some .int), Cond.fieldLink RX2 20 "ColourTideModel" "stubborn" "[Z", Cond.fieldLink RX2 7 "ColourTideModel" "need" "I", Cond.methodLink RX2 65 yX2_beside, Cond.instanceMethod yX2_beside, Cond.selects RX2 yX2_beside yX2_beside, Cond.code yX2_beside cX2_beside 5 (some .int), Cond.fieldLink RX2 24 "ColourTideModel" "beside" "[I", Cond.methodLink RX2 136 yX2_bringBack, Cond.instanceMethod yX2_bringBack, Cond.selects RX2 yX2_bringBack yX2_bringBack, Cond.code yX2_bringBack cX2_bringBack 1 none]
def wsX2_fewestSeeds : List Cond := .code yX2_fewestSeeds cX2_fewestSeeds 4 (some .int) :: ((wsX2_fewestSeeds_r1 ++ (wsX2_fewestSeeds_r2 ++ wsX2_fewestSeeds_r3)) ++ wsX20)
def wsX2_bestCell_r1 : List Cond := [Cond.fieldLink RX2 43 "ColourTideModel" "thrown" "I", Cond.fieldLink RX2 13 "ColourTideModel" "colours" "[I", Cond.methodLink RX2 114 yX2_isColour, Cond.static yX2_isColour, Cond.initialized RX2, Cond.code yX2_isColour cX2_isColour 1 (some .boolean), Cond.methodLink RX2 52 yX2_isIn, Cond.static yX2_isIn, Cond.code yX2_isIn cX2_isIn 3 (some .boolean), Cond.methodLink RX2 76 yX2_fail, Cond.instanceMethod yX2_fail, Cond.selects RX2 yX2_fail yX2_fail, Cond.code yX2_fail cX2_fail 2 (some .int), Cond.methodLink RX2 133 yX2_keep, Cond.instanceMethod yX2_keep, Cond.selects RX2 yX2_keep yX2_keep, Cond.code yX2_keep cX2_keep 1 none, Cond.fieldLink RX2 27 "ColourTideModel" "kept" "[I", Cond.methodLink RX2 59 arraycopyName, Cond.native arraycopyName, Cond.static arraycopyName, Cond.initialized "java/lang/System", Cond.methodLink RX2 68 yX2_cells, Cond.instanceMethod yX2_cells]
def wsX2_bestCell_r2 : List Cond := [Cond.selects RX2 yX2_cells yX2_cells, Cond.code yX2_cells cX2_cells 1 (some .int), Cond.fieldLink RX2 46 "ColourTideModel" "w" "I", Cond.fieldLink RX2 49 "ColourTideModel" "h" "I", Cond.methodLink RX2 139 yX2_after, Cond.instanceMethod yX2_after, Cond.selects RX2 yX2_after yX2_after, Cond.code yX2_after cX2_after 4 (some .int), Cond.methodLink RX2 87 yX2_wave, Cond.instanceMethod yX2_wave, Cond.selects RX2 yX2_wave yX2_wave, Cond.code yX2_wave cX2_wave 3 (some .int), Cond.fieldLink RX2 17 "ColourTideModel" "next" "[I", Cond.methodLink RX2 72 yX2_nextOf, Cond.instanceMethod yX2_nextOf, Cond.selects RX2 yX2_nextOf yX2_nextOf, Cond.code yX2_nextOf cX2_nextOf 7 (some .int), Cond.fieldLink RX2 20 "ColourTideModel" "stubborn" "[Z", Cond.fieldLink RX2 7 "ColourTideModel" "need" "I", Cond.methodLink RX2 65 yX2_beside, Cond.instanceMethod yX2_beside, Cond.selects RX2 yX2_beside yX2_beside, Cond.code yX2_beside cX2_beside 5 (some .int), Cond.fieldLink RX2 24 "ColourTideModel" "beside" "[I"]
def wsX2_bestCell_r3 : List Cond := [Cond.methodLink RX2 106 yX2_cellsWith, Cond.instanceMethod yX2_cellsWith, Cond.selects RX2 yX2_cellsWith yX2_cellsWith, Cond.code yX2_cellsWith cX2_cellsWith 4 (some .int), Cond.methodLink RX2 136 yX2_bringBack, Cond.instanceMethod yX2_bringBack, Cond.selects RX2 yX2_bringBack yX2_bringBack, Cond.code yX2_bringBack cX2_bringBack 1 none]
def wsX2_bestCell : List Cond := .code yX2_bestCell cX2_bestCell 7 (some .int) :: ((wsX2_bestCell_r1 ++ (wsX2_bestCell_r2 ++ wsX2_bestCell_r3)) ++ wsX20)
def wsX2_share : List Cond := .code yX2_share cX2_share 2 (some .double) :: ([.fieldLink RX2 43 "ColourTideModel" "thrown" "I", .methodLink RX2 83 yX2_isAny, .static yX2_isAny, .initialized RX2, .code yX2_isAny cX2_isAny 1 (some .boolean), .methodLink RX2 52 yX2_isIn, .static yX2_isIn, .code yX2_isIn cX2_isIn 3 (some .boolean), .methodLink RX2 106 yX2_cellsWith, .instanceMethod yX2_cellsWith, .selects RX2 yX2_cellsWith yX2_cellsWith, .code yX2_cellsWith cX2_cellsWith 4 (some .int), .fieldLink RX2 13 "ColourTideModel" "colours" "[I", .methodLink RX2 68 yX2_cells, .instanceMethod yX2_cells, .selects RX2 yX2_cells yX2_cells, .code yX2_cells cX2_cells 1 (some .int), .fieldLink RX2 46 "ColourTideModel" "w" "I", .fieldLink RX2 49 "ColourTideModel" "h" "I"] ++ wsX20)
def wsX2_digest_r1 : List Cond := [Cond.fieldLink RX2 43 "ColourTideModel" "thrown" "I", Cond.arrayClass .int, Cond.fieldLink RX2 46 "ColourTideModel" "w" "I", Cond.fieldLink RX2 49 "ColourTideModel" "h" "I", Cond.fieldLink RX2 7 "ColourTideModel" "need" "I", Cond.fieldLink RX2 56 "ColourTideModel" "waves" "I", Cond.constantLong RX2 148 (1871), Cond.constantLong RX2 150 (31), Cond.fieldLink RX2 13 "ColourTideModel" "colours" "[I", Cond.fieldLink RX2 20 "ColourTideModel" "stubborn" "[Z", Cond.methodLink RX2 97 yX2_hang, Cond.instanceMethod yX2_hang, Cond.selects RX2 yX2_hang yX2_hang, Cond.initialized RX2, Cond.code yX2_hang cX2_hang 2 none, Cond.fieldLink RX2 90 "ColourTideModel" "many" "I", Cond.fieldLink RX2 30 "ColourTideModel" "regions" "[I", Cond.methodLink RX2 68 yX2_cells, Cond.instanceMethod yX2_cells, Cond.selects RX2 yX2_cells yX2_cells, Cond.code yX2_cells cX2_cells 1 (some .int), Cond.methodLink RX2 93 yX2_spread, Cond.instanceMethod yX2_spread, Cond.selects RX2 yX2_spread yX2_spread]
def wsX2_digest_r2 : List Cond := [Cond.code yX2_spread cX2_spread 6 none, Cond.fieldLink RX2 36 "ColourTideModel" "line" "[I", Cond.fieldLink RX2 24 "ColourTideModel" "beside" "[I", Cond.fieldLink RX2 33 "ColourTideModel" "sizes" "[I", Cond.methodLink RX2 103 yX2_stubbornOnes, Cond.instanceMethod yX2_stubbornOnes, Cond.selects RX2 yX2_stubbornOnes yX2_stubbornOnes, Cond.code yX2_stubbornOnes cX2_stubbornOnes 3 (some .int), Cond.methodLink RX2 120 yX2_between, Cond.instanceMethod yX2_between, Cond.selects RX2 yX2_between yX2_between, Cond.code yX2_between cX2_between 5 (some .int), Cond.methodLink RX2 123 yX2_first, Cond.instanceMethod yX2_first, Cond.selects RX2 yX2_first yX2_first, Cond.code yX2_first cX2_first 5 (some .int), Cond.methodLink RX2 106 yX2_cellsWith, Cond.instanceMethod yX2_cellsWith, Cond.selects RX2 yX2_cellsWith yX2_cellsWith, Cond.code yX2_cellsWith cX2_cellsWith 4 (some .int), Cond.methodLink RX2 126 yX2_still, Cond.instanceMethod yX2_still, Cond.selects RX2 yX2_still yX2_still, Cond.code yX2_still cX2_still 2 (some .boolean)]
def wsX2_digest_r3 : List Cond := [Cond.methodLink RX2 72 yX2_nextOf, Cond.instanceMethod yX2_nextOf, Cond.selects RX2 yX2_nextOf yX2_nextOf, Cond.code yX2_nextOf cX2_nextOf 7 (some .int), Cond.methodLink RX2 65 yX2_beside, Cond.instanceMethod yX2_beside, Cond.selects RX2 yX2_beside yX2_beside, Cond.code yX2_beside cX2_beside 5 (some .int), Cond.methodLink RX2 130 yX2_all, Cond.instanceMethod yX2_all, Cond.selects RX2 yX2_all yX2_all, Cond.code yX2_all cX2_all 1 (some .int), Cond.methodLink RX2 117 yX2_regions, Cond.instanceMethod yX2_regions, Cond.selects RX2 yX2_regions yX2_regions, Cond.code yX2_regions cX2_regions 7 (some .int), Cond.methodLink RX2 109 Lib.Math.max.name, Cond.static Lib.Math.max.name, Cond.initialized "java/lang/Math", Cond.code Lib.Math.max.name Lib.Math.max.code 2 (some .int), Cond.methodLink RX2 100 yX2_sizeOf, Cond.instanceMethod yX2_sizeOf, Cond.selects RX2 yX2_sizeOf yX2_sizeOf, Cond.code yX2_sizeOf cX2_sizeOf 2 (some .int)]
def wsX2_digest : List Cond := .code yX2_digest cX2_digest 8 (some .long) :: ((wsX2_digest_r1 ++ (wsX2_digest_r2 ++ wsX2_digest_r3)) ++ wsX20)
def wsJ9_max_7cf53 : List Cond := .code yJ9_max_7cf53 cJ9_max_7cf53 2 (some .int) :: ([])
def wsL_newMap_r1 : List Cond := [Cond.classLink RL 13 "java/lang/IllegalArgumentException", Cond.methodLink RL 7 yX1_newMap, Cond.instanceMethod yX1_newMap, Cond.selects RX1 yX1_newMap yX1_newMap, Cond.initialized RX1, Cond.code yX1_newMap cX1_newMap 3 (some .int), Cond.classLink RX1 37 "java/lang/IllegalArgumentException", Cond.initialized "java/lang/IllegalArgumentException", Cond.fieldLink RX1 19 "ColourTide" "width" "I", Cond.fieldLink RX1 23 "ColourTide" "height" "I", Cond.fieldLink RX1 26 "ColourTide" "waves" "I", Cond.fieldLink RX1 12 "ColourTide" "map" "LColourTide$Tide;", Cond.methodLink RX1 33 yX1_isSide, Cond.static yX1_isSide, Cond.code yX1_isSide cX1_isSide 1 (some .boolean), Cond.methodLink RX1 29 yX0_clear, Cond.instanceMethod yX0_clear, Cond.selects RX0 yX0_clear yX0_clear, Cond.initialized RX0, Cond.code yX0_clear cX0_clear 5 none, Cond.fieldLink RX0 25 "ColourTide$Tide" "board" "I", Cond.fieldLink RX0 32 "ColourTide$Tide" "stubborn" "I", Cond.fieldLink RX0 15 "ColourTide$Tide" "sets" "[I", Cond.static yX1_cell]
def wsL_newMap_r2 : List Cond := [Cond.code yX1_cell cX1_cell 2 (some .int)]
def wsL_newMap : List Cond := .codeWith yL_newMap cL_newMap 5 (some .int) [(0, 10, 13, 13)] :: ((wsL_newMap_r1 ++ wsL_newMap_r2) ++ wsX10 ++ wsX00 ++ (vx_atS RX1 41 "java/lang/IllegalArgumentException" ["java/lang/RuntimeException", "java/lang/Exception"]).filter goodWord)
def wsL_paint_r1 : List Cond := [Cond.classLink RL 19 "java/lang/IndexOutOfBoundsException", Cond.methodLink RL 15 yX1_paint, Cond.instanceMethod yX1_paint, Cond.selects RX1 yX1_paint yX1_paint, Cond.initialized RX1, Cond.code yX1_paint cX1_paint 5 (some .int), Cond.classLink RX1 51 "java/lang/IndexOutOfBoundsException", Cond.initialized "java/lang/IndexOutOfBoundsException", Cond.fieldLink RX1 12 "ColourTide" "map" "LColourTide$Tide;", Cond.methodLink RX1 44 yX1_isOnMap, Cond.instanceMethod yX1_isOnMap, Cond.selects RX1 yX1_isOnMap yX1_isOnMap, Cond.code yX1_isOnMap cX1_isOnMap 3 (some .boolean), Cond.fieldLink RX1 19 "ColourTide" "width" "I", Cond.fieldLink RX1 23 "ColourTide" "height" "I", Cond.methodLink RX1 48 yX1_isColourOrBare, Cond.static yX1_isColourOrBare, Cond.code yX1_isColourOrBare cX1_isColourOrBare 1 (some .boolean), Cond.methodLink RX1 108 yX1_isColour, Cond.static yX1_isColour, Cond.code yX1_isColour cX1_isColour 1 (some .boolean), Cond.methodLink RX1 56 yX1_cell, Cond.static yX1_cell, Cond.code yX1_cell cX1_cell 2 (some .int)]
def wsL_paint_r2 : List Cond := [Cond.methodLink RX1 60 yX0_colourOf, Cond.instanceMethod yX0_colourOf, Cond.selects RX0 yX0_colourOf yX0_colourOf, Cond.initialized RX0, Cond.code yX0_colourOf cX0_colourOf 2 (some .int), Cond.fieldLink RX0 15 "ColourTide$Tide" "sets" "[I", Cond.methodLink RX0 44 yX0_firstColourWith, Cond.static yX0_firstColourWith, Cond.code yX0_firstColourWith cX0_firstColourWith 3 (some .int), Cond.methodLink RX1 64 yX0_dye, Cond.instanceMethod yX0_dye, Cond.selects RX0 yX0_dye yX0_dye, Cond.code yX0_dye cX0_dye 4 none]
def wsL_paint : List Cond := .codeWith yL_paint cL_paint 6 (some .int) [(0, 12, 15, 19)] :: ((wsL_paint_r1 ++ wsL_paint_r2) ++ wsX10 ++ wsX00 ++ (vx_atS RX1 55 "java/lang/IndexOutOfBoundsException" ["java/lang/RuntimeException", "java/lang/Exception"]).filter goodWord)
def wsL_turnStubborn : List Cond := .codeWith yL_turnStubborn cL_turnStubborn 5 (some .int) [(0, 17, 20, 19)] :: ([.classLink RL 19 "java/lang/IndexOutOfBoundsException", .methodLink RL 21 yX1_turnStubborn, .instanceMethod yX1_turnStubborn, .selects RX1 yX1_turnStubborn yX1_turnStubborn, .initialized RX1, .code yX1_turnStubborn cX1_turnStubborn 3 (some .boolean), .classLink RX1 51 "java/lang/IndexOutOfBoundsException", .initialized "java/lang/IndexOutOfBoundsException", .fieldLink RX1 12 "ColourTide" "map" "LColourTide$Tide;", .fieldLink RX1 69 "ColourTide$Tide" "stubborn" "I", .methodLink RX1 44 yX1_isOnMap, .instanceMethod yX1_isOnMap, .selects RX1 yX1_isOnMap yX1_isOnMap, .code yX1_isOnMap cX1_isOnMap 3 (some .boolean), .fieldLink RX1 19 "ColourTide" "width" "I", .fieldLink RX1 23 "ColourTide" "height" "I", .methodLink RX1 56 yX1_cell, .static yX1_cell, .code yX1_cell cX1_cell 2 (some .int)] ++ wsX10 ++ wsX00 ++ (vx_atS RX1 55 "java/lang/IndexOutOfBoundsException" ["java/lang/RuntimeException", "java/lang/Exception"]).filter goodWord)
def wsL_setNeed : List Cond := .codeWith yL_setNeed cL_setNeed 4 (some .int) [(0, 9, 12, 13)] :: ([.classLink RL 13 "java/lang/IllegalArgumentException", .methodLink RL 25 yX1_setNeed, .instanceMethod yX1_setNeed, .selects RX1 yX1_setNeed yX1_setNeed, .initialized RX1, .code yX1_setNeed cX1_setNeed 3 (some .int), .classLink RX1 37 "java/lang/IllegalArgumentException", .initialized "java/lang/IllegalArgumentException", .fieldLink RX1 12 "ColourTide" "map" "LColourTide$Tide;", .fieldLink RX1 74 "ColourTide$Tide" "need" "I"] ++ wsX10 ++ wsX00 ++ (vx_atS RX1 41 "java/lang/IllegalArgumentException" ["java/lang/RuntimeException", "java/lang/Exception"]).filter goodWord)
def wsL_pass_r1 : List Cond := [Cond.classLink RL 13 "java/lang/IllegalArgumentException", Cond.methodLink RL 29 yX1_pass, Cond.instanceMethod yX1_pass, Cond.selects RX1 yX1_pass yX1_pass, Cond.initialized RX1, Cond.code yX1_pass cX1_pass 2 (some .int), Cond.classLink RX1 37 "java/lang/IllegalArgumentException", Cond.initialized "java/lang/IllegalArgumentException", Cond.fieldLink RX1 26 "ColourTide" "waves" "I", Cond.fieldLink RX1 12 "ColourTide" "map" "LColourTide$Tide;", Cond.methodLink RX1 79 yX0_surge, Cond.instanceMethod yX0_surge, Cond.selects RX0 yX0_surge yX0_surge, Cond.initialized RX0, Cond.code yX0_surge cX0_surge 4 (some .int), Cond.methodLink RX0 48 yX0_foresee, Cond.instanceMethod yX0_foresee, Cond.selects RX0 yX0_foresee yX0_foresee, Cond.code yX0_foresee cX0_foresee 3 (some .int), Cond.fieldLink RX0 22 "ColourTide$Tide" "gains" "[I", Cond.fieldLink RX0 9 "ColourTide$Tide" "need" "I", Cond.fieldLink RX0 15 "ColourTide$Tide" "sets" "[I", Cond.methodLink RX0 56 yX0_addGains, Cond.instanceMethod yX0_addGains]
def wsL_pass_r2 : List Cond := [Cond.selects RX0 yX0_addGains yX0_addGains, Cond.code yX0_addGains cX0_addGains 5 none, Cond.fieldLink RX0 19 "ColourTide$Tide" "crowds" "[I", Cond.fieldLink RX0 25 "ColourTide$Tide" "board" "I", Cond.fieldLink RX0 32 "ColourTide$Tide" "stubborn" "I", Cond.methodLink RX0 73 yX0_withNeighbours, Cond.static yX0_withNeighbours, Cond.code yX0_withNeighbours cX0_withNeighbours 6 (some .int), Cond.methodLink RX0 52 yX0_takeGains, Cond.instanceMethod yX0_takeGains, Cond.selects RX0 yX0_takeGains yX0_takeGains, Cond.code yX0_takeGains cX0_takeGains 3 none, Cond.methodLink RX1 82 yJ6_bitCount_0f7a4, Cond.static yJ6_bitCount_0f7a4, Cond.initialized RJ6, Cond.code yJ6_bitCount_0f7a4 cJ6_bitCount_0f7a4 1 (some .int), Cond.constant RJ6 265 (1431655765), Cond.constant RJ6 266 (858993459), Cond.constant RJ6 267 (252645135)]
def wsL_pass : List Cond := .codeWith yL_pass cL_pass 4 (some .int) [(0, 9, 12, 13)] :: ((wsL_pass_r1 ++ wsL_pass_r2) ++ wsX10 ++ wsX00 ++ (vx_atS RX1 41 "java/lang/IllegalArgumentException" ["java/lang/RuntimeException", "java/lang/Exception"]).filter goodWord)
def wsL_colourAt_r1 : List Cond := [Cond.classLink RL 19 "java/lang/IndexOutOfBoundsException", Cond.methodLink RL 32 yX1_colourAt, Cond.instanceMethod yX1_colourAt, Cond.selects RX1 yX1_colourAt yX1_colourAt, Cond.initialized RX1, Cond.code yX1_colourAt cX1_colourAt 3 (some .int), Cond.classLink RX1 51 "java/lang/IndexOutOfBoundsException", Cond.initialized "java/lang/IndexOutOfBoundsException", Cond.fieldLink RX1 12 "ColourTide" "map" "LColourTide$Tide;", Cond.methodLink RX1 44 yX1_isOnMap, Cond.instanceMethod yX1_isOnMap, Cond.selects RX1 yX1_isOnMap yX1_isOnMap, Cond.code yX1_isOnMap cX1_isOnMap 3 (some .boolean), Cond.fieldLink RX1 19 "ColourTide" "width" "I", Cond.fieldLink RX1 23 "ColourTide" "height" "I", Cond.methodLink RX1 56 yX1_cell, Cond.static yX1_cell, Cond.code yX1_cell cX1_cell 2 (some .int), Cond.methodLink RX1 60 yX0_colourOf, Cond.instanceMethod yX0_colourOf, Cond.selects RX0 yX0_colourOf yX0_colourOf, Cond.initialized RX0, Cond.code yX0_colourOf cX0_colourOf 2 (some .int), Cond.fieldLink RX0 15 "ColourTide$Tide" "sets" "[I"]
def wsL_colourAt_r2 : List Cond := [Cond.methodLink RX0 44 yX0_firstColourWith, Cond.static yX0_firstColourWith, Cond.code yX0_firstColourWith cX0_firstColourWith 3 (some .int)]
def wsL_colourAt : List Cond := .codeWith yL_colourAt cL_colourAt 5 (some .int) [(0, 10, 13, 19)] :: ((wsL_colourAt_r1 ++ wsL_colourAt_r2) ++ wsX10 ++ wsX00 ++ (vx_atS RX1 55 "java/lang/IndexOutOfBoundsException" ["java/lang/RuntimeException", "java/lang/Exception"]).filter goodWord)
def wsL_isStubborn : List Cond := .codeWith yL_isStubborn cL_isStubborn 5 (some .int) [(0, 17, 20, 19)] :: ([.classLink RL 19 "java/lang/IndexOutOfBoundsException", .methodLink RL 35 yX1_isStubborn, .instanceMethod yX1_isStubborn, .selects RX1 yX1_isStubborn yX1_isStubborn, .initialized RX1, .code yX1_isStubborn cX1_isStubborn 3 (some .boolean), .classLink RX1 51 "java/lang/IndexOutOfBoundsException", .initialized "java/lang/IndexOutOfBoundsException", .fieldLink RX1 12 "ColourTide" "map" "LColourTide$Tide;", .fieldLink RX1 69 "ColourTide$Tide" "stubborn" "I", .methodLink RX1 44 yX1_isOnMap, .instanceMethod yX1_isOnMap, .selects RX1 yX1_isOnMap yX1_isOnMap, .code yX1_isOnMap cX1_isOnMap 3 (some .boolean), .fieldLink RX1 19 "ColourTide" "width" "I", .fieldLink RX1 23 "ColourTide" "height" "I", .methodLink RX1 56 yX1_cell, .static yX1_cell, .code yX1_cell cX1_cell 2 (some .int)] ++ wsX10 ++ wsX00 ++ (vx_atS RX1 55 "java/lang/IndexOutOfBoundsException" ["java/lang/RuntimeException", "java/lang/Exception"]).filter goodWord)
def wsL_neighboursWith_r1 : List Cond := [Cond.classLink RL 19 "java/lang/IndexOutOfBoundsException", Cond.methodLink RL 38 yX1_neighboursWith, Cond.instanceMethod yX1_neighboursWith, Cond.selects RX1 yX1_neighboursWith yX1_neighboursWith, Cond.initialized RX1, Cond.code yX1_neighboursWith cX1_neighboursWith 4 (some .int), Cond.classLink RX1 51 "java/lang/IndexOutOfBoundsException", Cond.initialized "java/lang/IndexOutOfBoundsException", Cond.fieldLink RX1 12 "ColourTide" "map" "LColourTide$Tide;", Cond.methodLink RX1 44 yX1_isOnMap, Cond.instanceMethod yX1_isOnMap, Cond.selects RX1 yX1_isOnMap yX1_isOnMap, Cond.code yX1_isOnMap cX1_isOnMap 3 (some .boolean), Cond.fieldLink RX1 19 "ColourTide" "width" "I", Cond.fieldLink RX1 23 "ColourTide" "height" "I", Cond.methodLink RX1 48 yX1_isColourOrBare, Cond.static yX1_isColourOrBare, Cond.code yX1_isColourOrBare cX1_isColourOrBare 1 (some .boolean), Cond.methodLink RX1 108 yX1_isColour, Cond.static yX1_isColour, Cond.code yX1_isColour cX1_isColour 1 (some .boolean), Cond.methodLink RX1 56 yX1_cell, Cond.static yX1_cell, Cond.code yX1_cell cX1_cell 2 (some .int)]
def wsL_neighboursWith_r2 : List Cond := [Cond.methodLink RX1 87 yX1_nextTo, Cond.static yX1_nextTo, Cond.code yX1_nextTo cX1_nextTo 1 (some .int), Cond.methodLink RX1 90 yX0_cellsWith, Cond.instanceMethod yX0_cellsWith, Cond.selects RX0 yX0_cellsWith yX0_cellsWith, Cond.initialized RX0, Cond.code yX0_cellsWith cX0_cellsWith 2 (some .int), Cond.fieldLink RX0 15 "ColourTide$Tide" "sets" "[I", Cond.methodLink RX1 82 yJ6_bitCount_0f7a4, Cond.static yJ6_bitCount_0f7a4, Cond.initialized RJ6, Cond.code yJ6_bitCount_0f7a4 cJ6_bitCount_0f7a4 1 (some .int), Cond.constant RJ6 265 (1431655765), Cond.constant RJ6 266 (858993459), Cond.constant RJ6 267 (252645135)]
def wsL_neighboursWith : List Cond := .codeWith yL_neighboursWith cL_neighboursWith 6 (some .int) [(0, 12, 15, 19)] :: ((wsL_neighboursWith_r1 ++ wsL_neighboursWith_r2) ++ wsX10 ++ wsX00 ++ (vx_atS RX1 55 "java/lang/IndexOutOfBoundsException" ["java/lang/RuntimeException", "java/lang/Exception"]).filter goodWord)
def wsL_nextColour_r1 : List Cond := [Cond.classLink RL 19 "java/lang/IndexOutOfBoundsException", Cond.methodLink RL 41 yX1_nextColour, Cond.instanceMethod yX1_nextColour, Cond.selects RX1 yX1_nextColour yX1_nextColour, Cond.initialized RX1, Cond.code yX1_nextColour cX1_nextColour 3 (some .int), Cond.classLink RX1 51 "java/lang/IndexOutOfBoundsException", Cond.initialized "java/lang/IndexOutOfBoundsException", Cond.fieldLink RX1 12 "ColourTide" "map" "LColourTide$Tide;", Cond.methodLink RX1 44 yX1_isOnMap, Cond.instanceMethod yX1_isOnMap, Cond.selects RX1 yX1_isOnMap yX1_isOnMap, Cond.code yX1_isOnMap cX1_isOnMap 3 (some .boolean), Cond.fieldLink RX1 19 "ColourTide" "width" "I", Cond.fieldLink RX1 23 "ColourTide" "height" "I", Cond.methodLink RX1 93 yX0_foresee, Cond.instanceMethod yX0_foresee, Cond.selects RX0 yX0_foresee yX0_foresee, Cond.initialized RX0, Cond.code yX0_foresee cX0_foresee 3 (some .int), Cond.fieldLink RX0 22 "ColourTide$Tide" "gains" "[I", Cond.fieldLink RX0 9 "ColourTide$Tide" "need" "I", Cond.fieldLink RX0 15 "ColourTide$Tide" "sets" "[I", Cond.methodLink RX0 56 yX0_addGains]
def wsL_nextColour_r2 : List Cond := [Cond.instanceMethod yX0_addGains, Cond.selects RX0 yX0_addGains yX0_addGains, Cond.code yX0_addGains cX0_addGains 5 none, Cond.fieldLink RX0 19 "ColourTide$Tide" "crowds" "[I", Cond.fieldLink RX0 25 "ColourTide$Tide" "board" "I", Cond.fieldLink RX0 32 "ColourTide$Tide" "stubborn" "I", Cond.methodLink RX0 73 yX0_withNeighbours, Cond.static yX0_withNeighbours, Cond.code yX0_withNeighbours cX0_withNeighbours 6 (some .int), Cond.methodLink RX1 56 yX1_cell, Cond.static yX1_cell, Cond.code yX1_cell cX1_cell 2 (some .int), Cond.methodLink RX1 97 yX0_foreseenColourOf, Cond.instanceMethod yX0_foreseenColourOf, Cond.selects RX0 yX0_foreseenColourOf yX0_foreseenColourOf, Cond.code yX0_foreseenColourOf cX0_foreseenColourOf 3 (some .int), Cond.methodLink RX0 44 yX0_firstColourWith, Cond.static yX0_firstColourWith, Cond.code yX0_firstColourWith cX0_firstColourWith 3 (some .int), Cond.methodLink RX0 59 yX0_colourOf, Cond.instanceMethod yX0_colourOf, Cond.selects RX0 yX0_colourOf yX0_colourOf, Cond.code yX0_colourOf cX0_colourOf 2 (some .int)]
def wsL_nextColour : List Cond := .codeWith yL_nextColour cL_nextColour 5 (some .int) [(0, 10, 13, 19)] :: ((wsL_nextColour_r1 ++ wsL_nextColour_r2) ++ wsX10 ++ wsX00 ++ (vx_atS RX1 55 "java/lang/IndexOutOfBoundsException" ["java/lang/RuntimeException", "java/lang/Exception"]).filter goodWord)
def wsL_regionSize_r1 : List Cond := [Cond.classLink RL 19 "java/lang/IndexOutOfBoundsException", Cond.methodLink RL 44 yX1_regionSize, Cond.instanceMethod yX1_regionSize, Cond.selects RX1 yX1_regionSize yX1_regionSize, Cond.initialized RX1, Cond.code yX1_regionSize cX1_regionSize 3 (some .int), Cond.classLink RX1 51 "java/lang/IndexOutOfBoundsException", Cond.initialized "java/lang/IndexOutOfBoundsException", Cond.fieldLink RX1 12 "ColourTide" "map" "LColourTide$Tide;", Cond.methodLink RX1 44 yX1_isOnMap, Cond.instanceMethod yX1_isOnMap, Cond.selects RX1 yX1_isOnMap yX1_isOnMap, Cond.code yX1_isOnMap cX1_isOnMap 3 (some .boolean), Cond.fieldLink RX1 19 "ColourTide" "width" "I", Cond.fieldLink RX1 23 "ColourTide" "height" "I", Cond.methodLink RX1 56 yX1_cell, Cond.static yX1_cell, Cond.code yX1_cell cX1_cell 2 (some .int), Cond.methodLink RX1 100 yX0_sizeOfRegion, Cond.instanceMethod yX0_sizeOfRegion, Cond.selects RX0 yX0_sizeOfRegion yX0_sizeOfRegion, Cond.initialized RX0, Cond.code yX0_sizeOfRegion cX0_sizeOfRegion 3 (some .int), Cond.methodLink RX0 59 yX0_colourOf]
def wsL_regionSize_r2 : List Cond := [Cond.instanceMethod yX0_colourOf, Cond.selects RX0 yX0_colourOf yX0_colourOf, Cond.code yX0_colourOf cX0_colourOf 2 (some .int), Cond.fieldLink RX0 15 "ColourTide$Tide" "sets" "[I", Cond.methodLink RX0 44 yX0_firstColourWith, Cond.static yX0_firstColourWith, Cond.code yX0_firstColourWith cX0_firstColourWith 3 (some .int), Cond.methodLink RX0 35 yX0_cellsWith, Cond.instanceMethod yX0_cellsWith, Cond.selects RX0 yX0_cellsWith yX0_cellsWith, Cond.code yX0_cellsWith cX0_cellsWith 2 (some .int), Cond.methodLink RX0 62 yX0_regionFrom, Cond.static yX0_regionFrom, Cond.code yX0_regionFrom cX0_regionFrom 5 (some .int), Cond.static yX1_nextTo, Cond.code yX1_nextTo cX1_nextTo 1 (some .int), Cond.methodLink RX0 39 yJ6_bitCount_0f7a4, Cond.static yJ6_bitCount_0f7a4, Cond.initialized RJ6, Cond.code yJ6_bitCount_0f7a4 cJ6_bitCount_0f7a4 1 (some .int), Cond.constant RJ6 265 (1431655765), Cond.constant RJ6 266 (858993459), Cond.constant RJ6 267 (252645135)]
def wsL_regionSize : List Cond := .codeWith yL_regionSize cL_regionSize 5 (some .int) [(0, 10, 13, 19)] :: ((wsL_regionSize_r1 ++ wsL_regionSize_r2) ++ wsX10 ++ wsX00 ++ (vx_atS RX1 55 "java/lang/IndexOutOfBoundsException" ["java/lang/RuntimeException", "java/lang/Exception"]).filter goodWord)
def wsL_cellsOf_r1 : List Cond := [Cond.classLink RL 19 "java/lang/IndexOutOfBoundsException", Cond.methodLink RL 47 yX1_cellsOf, Cond.instanceMethod yX1_cellsOf, Cond.selects RX1 yX1_cellsOf yX1_cellsOf, Cond.initialized RX1, Cond.code yX1_cellsOf cX1_cellsOf 2 (some .int), Cond.classLink RX1 51 "java/lang/IndexOutOfBoundsException", Cond.initialized "java/lang/IndexOutOfBoundsException", Cond.fieldLink RX1 12 "ColourTide" "map" "LColourTide$Tide;", Cond.methodLink RX1 48 yX1_isColourOrBare, Cond.static yX1_isColourOrBare, Cond.code yX1_isColourOrBare cX1_isColourOrBare 1 (some .boolean), Cond.methodLink RX1 108 yX1_isColour, Cond.static yX1_isColour, Cond.code yX1_isColour cX1_isColour 1 (some .boolean), Cond.methodLink RX1 105 yX0_count, Cond.instanceMethod yX0_count, Cond.selects RX0 yX0_count yX0_count, Cond.initialized RX0, Cond.code yX0_count cX0_count 2 (some .int), Cond.methodLink RX0 35 yX0_cellsWith, Cond.instanceMethod yX0_cellsWith, Cond.selects RX0 yX0_cellsWith yX0_cellsWith, Cond.code yX0_cellsWith cX0_cellsWith 2 (some .int)]
def wsL_cellsOf_r2 : List Cond := [Cond.fieldLink RX0 15 "ColourTide$Tide" "sets" "[I", Cond.methodLink RX0 39 yJ6_bitCount_0f7a4, Cond.static yJ6_bitCount_0f7a4, Cond.initialized RJ6, Cond.code yJ6_bitCount_0f7a4 cJ6_bitCount_0f7a4 1 (some .int), Cond.constant RJ6 265 (1431655765), Cond.constant RJ6 266 (858993459), Cond.constant RJ6 267 (252645135)]
def wsL_cellsOf : List Cond := .codeWith yL_cellsOf cL_cellsOf 4 (some .int) [(0, 9, 12, 19)] :: ((wsL_cellsOf_r1 ++ wsL_cellsOf_r2) ++ wsX10 ++ wsX00 ++ (vx_atS RX1 55 "java/lang/IndexOutOfBoundsException" ["java/lang/RuntimeException", "java/lang/Exception"]).filter goodWord)
def wsL_regionsOf_r1 : List Cond := [Cond.classLink RL 19 "java/lang/IndexOutOfBoundsException", Cond.methodLink RL 50 yX1_regionsOf, Cond.instanceMethod yX1_regionsOf, Cond.selects RX1 yX1_regionsOf yX1_regionsOf, Cond.initialized RX1, Cond.code yX1_regionsOf cX1_regionsOf 2 (some .int), Cond.classLink RX1 51 "java/lang/IndexOutOfBoundsException", Cond.initialized "java/lang/IndexOutOfBoundsException", Cond.fieldLink RX1 12 "ColourTide" "map" "LColourTide$Tide;", Cond.methodLink RX1 108 yX1_isColour, Cond.static yX1_isColour, Cond.code yX1_isColour cX1_isColour 1 (some .boolean), Cond.methodLink RX1 111 yX0_countRegions, Cond.instanceMethod yX0_countRegions, Cond.selects RX0 yX0_countRegions yX0_countRegions, Cond.initialized RX0, Cond.code yX0_countRegions cX0_countRegions 5 (some .int), Cond.methodLink RX0 35 yX0_cellsWith, Cond.instanceMethod yX0_cellsWith, Cond.selects RX0 yX0_cellsWith yX0_cellsWith, Cond.code yX0_cellsWith cX0_cellsWith 2 (some .int), Cond.fieldLink RX0 15 "ColourTide$Tide" "sets" "[I", Cond.methodLink RX0 62 yX0_regionFrom, Cond.static yX0_regionFrom]
def wsL_regionsOf_r2 : List Cond := [Cond.code yX0_regionFrom cX0_regionFrom 5 (some .int), Cond.static yX1_nextTo, Cond.code yX1_nextTo cX1_nextTo 1 (some .int)]
def wsL_regionsOf : List Cond := .codeWith yL_regionsOf cL_regionsOf 4 (some .int) [(0, 9, 12, 19)] :: ((wsL_regionsOf_r1 ++ wsL_regionsOf_r2) ++ wsX10 ++ wsX00 ++ (vx_atS RX1 55 "java/lang/IndexOutOfBoundsException" ["java/lang/RuntimeException", "java/lang/Exception"]).filter goodWord)
def wsL_greatestRegion_r1 : List Cond := [Cond.classLink RL 19 "java/lang/IndexOutOfBoundsException", Cond.methodLink RL 53 yX1_greatestRegion, Cond.instanceMethod yX1_greatestRegion, Cond.selects RX1 yX1_greatestRegion yX1_greatestRegion, Cond.initialized RX1, Cond.code yX1_greatestRegion cX1_greatestRegion 2 (some .int), Cond.classLink RX1 51 "java/lang/IndexOutOfBoundsException", Cond.initialized "java/lang/IndexOutOfBoundsException", Cond.fieldLink RX1 12 "ColourTide" "map" "LColourTide$Tide;", Cond.methodLink RX1 108 yX1_isColour, Cond.static yX1_isColour, Cond.code yX1_isColour cX1_isColour 1 (some .boolean), Cond.methodLink RX1 114 yX0_sizeOfGreatestRegion, Cond.instanceMethod yX0_sizeOfGreatestRegion, Cond.selects RX0 yX0_sizeOfGreatestRegion yX0_sizeOfGreatestRegion, Cond.initialized RX0, Cond.code yX0_sizeOfGreatestRegion cX0_sizeOfGreatestRegion 6 (some .int), Cond.methodLink RX0 65 Lib.Math.max.name, Cond.static Lib.Math.max.name, Cond.initialized "java/lang/Math", Cond.code Lib.Math.max.name Lib.Math.max.code 2 (some .int), Cond.methodLink RX0 35 yX0_cellsWith, Cond.instanceMethod yX0_cellsWith, Cond.selects RX0 yX0_cellsWith yX0_cellsWith]
def wsL_greatestRegion_r2 : List Cond := [Cond.code yX0_cellsWith cX0_cellsWith 2 (some .int), Cond.fieldLink RX0 15 "ColourTide$Tide" "sets" "[I", Cond.methodLink RX0 62 yX0_regionFrom, Cond.static yX0_regionFrom, Cond.code yX0_regionFrom cX0_regionFrom 5 (some .int), Cond.static yX1_nextTo, Cond.code yX1_nextTo cX1_nextTo 1 (some .int), Cond.methodLink RX0 39 yJ6_bitCount_0f7a4, Cond.static yJ6_bitCount_0f7a4, Cond.initialized RJ6, Cond.code yJ6_bitCount_0f7a4 cJ6_bitCount_0f7a4 1 (some .int), Cond.constant RJ6 265 (1431655765), Cond.constant RJ6 266 (858993459), Cond.constant RJ6 267 (252645135)]
def wsL_greatestRegion : List Cond := .codeWith yL_greatestRegion cL_greatestRegion 4 (some .int) [(0, 9, 12, 19)] :: ((wsL_greatestRegion_r1 ++ wsL_greatestRegion_r2) ++ wsX10 ++ wsX00 ++ (vx_atS RX1 55 "java/lang/IndexOutOfBoundsException" ["java/lang/RuntimeException", "java/lang/Exception"]).filter goodWord)
def wsL_cellsAfter_r1 : List Cond := [Cond.classLink RL 13 "java/lang/IllegalArgumentException", Cond.classLink RL 19 "java/lang/IndexOutOfBoundsException", Cond.methodLink RL 56 yX1_cellsAfter, Cond.instanceMethod yX1_cellsAfter, Cond.selects RX1 yX1_cellsAfter yX1_cellsAfter, Cond.initialized RX1, Cond.code yX1_cellsAfter cX1_cellsAfter 3 (some .int), Cond.classLink RX1 37 "java/lang/IllegalArgumentException", Cond.initialized "java/lang/IllegalArgumentException", Cond.classLink RX1 51 "java/lang/IndexOutOfBoundsException", Cond.initialized "java/lang/IndexOutOfBoundsException", Cond.methodLink RX1 48 yX1_isColourOrBare, Cond.static yX1_isColourOrBare, Cond.code yX1_isColourOrBare cX1_isColourOrBare 1 (some .boolean), Cond.methodLink RX1 108 yX1_isColour, Cond.static yX1_isColour, Cond.code yX1_isColour cX1_isColour 1 (some .boolean), Cond.methodLink RX1 127 yX1_countAfter, Cond.instanceMethod yX1_countAfter, Cond.selects RX1 yX1_countAfter yX1_countAfter, Cond.code yX1_countAfter cX1_countAfter 4 (some .int), Cond.fieldLink RX1 16 "ColourTide" "trial" "LColourTide$Tide;", Cond.fieldLink RX1 12 "ColourTide" "map" "LColourTide$Tide;", Cond.methodLink RX1 123 yX0_copyFrom]
def wsL_cellsAfter_r2 : List Cond := [Cond.instanceMethod yX0_copyFrom, Cond.selects RX0 yX0_copyFrom yX0_copyFrom, Cond.initialized RX0, Cond.code yX0_copyFrom cX0_copyFrom 3 none, Cond.fieldLink RX0 25 "ColourTide$Tide" "board" "I", Cond.fieldLink RX0 32 "ColourTide$Tide" "stubborn" "I", Cond.fieldLink RX0 9 "ColourTide$Tide" "need" "I", Cond.fieldLink RX0 15 "ColourTide$Tide" "sets" "[I", Cond.methodLink RX1 64 yX0_dye, Cond.instanceMethod yX0_dye, Cond.selects RX0 yX0_dye yX0_dye, Cond.code yX0_dye cX0_dye 4 none, Cond.methodLink RX1 79 yX0_surge, Cond.instanceMethod yX0_surge, Cond.selects RX0 yX0_surge yX0_surge, Cond.code yX0_surge cX0_surge 4 (some .int), Cond.methodLink RX0 48 yX0_foresee, Cond.instanceMethod yX0_foresee, Cond.selects RX0 yX0_foresee yX0_foresee, Cond.code yX0_foresee cX0_foresee 3 (some .int), Cond.fieldLink RX0 22 "ColourTide$Tide" "gains" "[I", Cond.methodLink RX0 56 yX0_addGains, Cond.instanceMethod yX0_addGains, Cond.selects RX0 yX0_addGains yX0_addGains]
def wsL_cellsAfter_r3 : List Cond := [Cond.code yX0_addGains cX0_addGains 5 none, Cond.fieldLink RX0 19 "ColourTide$Tide" "crowds" "[I", Cond.methodLink RX0 73 yX0_withNeighbours, Cond.static yX0_withNeighbours, Cond.code yX0_withNeighbours cX0_withNeighbours 6 (some .int), Cond.methodLink RX0 52 yX0_takeGains, Cond.instanceMethod yX0_takeGains, Cond.selects RX0 yX0_takeGains yX0_takeGains, Cond.code yX0_takeGains cX0_takeGains 3 none, Cond.methodLink RX1 105 yX0_count, Cond.instanceMethod yX0_count, Cond.selects RX0 yX0_count yX0_count, Cond.code yX0_count cX0_count 2 (some .int), Cond.methodLink RX0 35 yX0_cellsWith, Cond.instanceMethod yX0_cellsWith, Cond.selects RX0 yX0_cellsWith yX0_cellsWith, Cond.code yX0_cellsWith cX0_cellsWith 2 (some .int), Cond.methodLink RX0 39 yJ6_bitCount_0f7a4, Cond.static yJ6_bitCount_0f7a4, Cond.initialized RJ6, Cond.code yJ6_bitCount_0f7a4 cJ6_bitCount_0f7a4 1 (some .int), Cond.constant RJ6 265 (1431655765), Cond.constant RJ6 266 (858993459), Cond.constant RJ6 267 (252645135)]
def wsL_cellsAfter : List Cond := .codeWith yL_cellsAfter cL_cellsAfter 5 (some .int) [(0, 10, 13, 13), (0, 10, 17, 19)] :: ((wsL_cellsAfter_r1 ++ (wsL_cellsAfter_r2 ++ wsL_cellsAfter_r3)) ++ wsX10 ++ wsX00 ++ (vx_atS RX1 41 "java/lang/IllegalArgumentException" ["java/lang/RuntimeException", "java/lang/Exception"]).filter goodWord ++ (vx_atS RX1 55 "java/lang/IndexOutOfBoundsException" ["java/lang/RuntimeException", "java/lang/Exception"]).filter goodWord)
def wsL_wins_r1 : List Cond := [Cond.classLink RL 19 "java/lang/IndexOutOfBoundsException", Cond.methodLink RL 59 yX1_wins, Cond.instanceMethod yX1_wins, Cond.selects RX1 yX1_wins yX1_wins, Cond.initialized RX1, Cond.code yX1_wins cX1_wins 2 (some .boolean), Cond.classLink RX1 51 "java/lang/IndexOutOfBoundsException", Cond.initialized "java/lang/IndexOutOfBoundsException", Cond.methodLink RX1 108 yX1_isColour, Cond.static yX1_isColour, Cond.code yX1_isColour cX1_isColour 1 (some .boolean), Cond.methodLink RX1 131 yX1_winsWith, Cond.instanceMethod yX1_winsWith, Cond.selects RX1 yX1_winsWith yX1_winsWith, Cond.code yX1_winsWith cX1_winsWith 3 (some .boolean), Cond.fieldLink RX1 16 "ColourTide" "trial" "LColourTide$Tide;", Cond.fieldLink RX1 12 "ColourTide" "map" "LColourTide$Tide;", Cond.methodLink RX1 123 yX0_copyFrom, Cond.instanceMethod yX0_copyFrom, Cond.selects RX0 yX0_copyFrom yX0_copyFrom, Cond.initialized RX0, Cond.code yX0_copyFrom cX0_copyFrom 3 none, Cond.fieldLink RX0 25 "ColourTide$Tide" "board" "I", Cond.fieldLink RX0 32 "ColourTide$Tide" "stubborn" "I"]
def wsL_wins_r2 : List Cond := [Cond.fieldLink RX0 9 "ColourTide$Tide" "need" "I", Cond.fieldLink RX0 15 "ColourTide$Tide" "sets" "[I", Cond.methodLink RX1 64 yX0_dye, Cond.instanceMethod yX0_dye, Cond.selects RX0 yX0_dye yX0_dye, Cond.code yX0_dye cX0_dye 4 none, Cond.methodLink RX1 79 yX0_surge, Cond.instanceMethod yX0_surge, Cond.selects RX0 yX0_surge yX0_surge, Cond.code yX0_surge cX0_surge 4 (some .int), Cond.methodLink RX0 48 yX0_foresee, Cond.instanceMethod yX0_foresee, Cond.selects RX0 yX0_foresee yX0_foresee, Cond.code yX0_foresee cX0_foresee 3 (some .int), Cond.fieldLink RX0 22 "ColourTide$Tide" "gains" "[I", Cond.methodLink RX0 56 yX0_addGains, Cond.instanceMethod yX0_addGains, Cond.selects RX0 yX0_addGains yX0_addGains, Cond.code yX0_addGains cX0_addGains 5 none, Cond.fieldLink RX0 19 "ColourTide$Tide" "crowds" "[I", Cond.methodLink RX0 73 yX0_withNeighbours, Cond.static yX0_withNeighbours, Cond.code yX0_withNeighbours cX0_withNeighbours 6 (some .int), Cond.methodLink RX0 52 yX0_takeGains]
def wsL_wins_r3 : List Cond := [Cond.instanceMethod yX0_takeGains, Cond.selects RX0 yX0_takeGains yX0_takeGains, Cond.code yX0_takeGains cX0_takeGains 3 none, Cond.methodLink RX1 120 yX0_isAll, Cond.instanceMethod yX0_isAll, Cond.selects RX0 yX0_isAll yX0_isAll, Cond.code yX0_isAll cX0_isAll 2 (some .boolean), Cond.methodLink RX0 35 yX0_cellsWith, Cond.instanceMethod yX0_cellsWith, Cond.selects RX0 yX0_cellsWith yX0_cellsWith, Cond.code yX0_cellsWith cX0_cellsWith 2 (some .int)]
def wsL_wins : List Cond := .codeWith yL_wins cL_wins 4 (some .int) [(0, 16, 19, 19)] :: ((wsL_wins_r1 ++ (wsL_wins_r2 ++ wsL_wins_r3)) ++ wsX10 ++ wsX00 ++ (vx_atS RX1 55 "java/lang/IndexOutOfBoundsException" ["java/lang/RuntimeException", "java/lang/Exception"]).filter goodWord)
def wsL_fewestSeeds_r1 : List Cond := [Cond.classLink RL 19 "java/lang/IndexOutOfBoundsException", Cond.methodLink RL 63 yX1_fewestSeeds, Cond.instanceMethod yX1_fewestSeeds, Cond.selects RX1 yX1_fewestSeeds yX1_fewestSeeds, Cond.initialized RX1, Cond.code yX1_fewestSeeds cX1_fewestSeeds 2 (some .int), Cond.classLink RX1 51 "java/lang/IndexOutOfBoundsException", Cond.initialized "java/lang/IndexOutOfBoundsException", Cond.methodLink RX1 108 yX1_isColour, Cond.static yX1_isColour, Cond.code yX1_isColour cX1_isColour 1 (some .boolean), Cond.methodLink RX1 131 yX1_winsWith, Cond.instanceMethod yX1_winsWith, Cond.selects RX1 yX1_winsWith yX1_winsWith, Cond.code yX1_winsWith cX1_winsWith 3 (some .boolean), Cond.fieldLink RX1 16 "ColourTide" "trial" "LColourTide$Tide;", Cond.fieldLink RX1 12 "ColourTide" "map" "LColourTide$Tide;", Cond.methodLink RX1 123 yX0_copyFrom, Cond.instanceMethod yX0_copyFrom, Cond.selects RX0 yX0_copyFrom yX0_copyFrom, Cond.initialized RX0, Cond.code yX0_copyFrom cX0_copyFrom 3 none, Cond.fieldLink RX0 25 "ColourTide$Tide" "board" "I", Cond.fieldLink RX0 32 "ColourTide$Tide" "stubborn" "I"]
def wsL_fewestSeeds_r2 : List Cond := [Cond.fieldLink RX0 9 "ColourTide$Tide" "need" "I", Cond.fieldLink RX0 15 "ColourTide$Tide" "sets" "[I", Cond.methodLink RX1 64 yX0_dye, Cond.instanceMethod yX0_dye, Cond.selects RX0 yX0_dye yX0_dye, Cond.code yX0_dye cX0_dye 4 none, Cond.methodLink RX1 79 yX0_surge, Cond.instanceMethod yX0_surge, Cond.selects RX0 yX0_surge yX0_surge, Cond.code yX0_surge cX0_surge 4 (some .int), Cond.methodLink RX0 48 yX0_foresee, Cond.instanceMethod yX0_foresee, Cond.selects RX0 yX0_foresee yX0_foresee, Cond.code yX0_foresee cX0_foresee 3 (some .int), Cond.fieldLink RX0 22 "ColourTide$Tide" "gains" "[I", Cond.methodLink RX0 56 yX0_addGains, Cond.instanceMethod yX0_addGains, Cond.selects RX0 yX0_addGains yX0_addGains, Cond.code yX0_addGains cX0_addGains 5 none, Cond.fieldLink RX0 19 "ColourTide$Tide" "crowds" "[I", Cond.methodLink RX0 73 yX0_withNeighbours, Cond.static yX0_withNeighbours, Cond.code yX0_withNeighbours cX0_withNeighbours 6 (some .int), Cond.methodLink RX0 52 yX0_takeGains]
def wsL_fewestSeeds_r3 : List Cond := [Cond.instanceMethod yX0_takeGains, Cond.selects RX0 yX0_takeGains yX0_takeGains, Cond.code yX0_takeGains cX0_takeGains 3 none, Cond.methodLink RX1 120 yX0_isAll, Cond.instanceMethod yX0_isAll, Cond.selects RX0 yX0_isAll yX0_isAll, Cond.code yX0_isAll cX0_isAll 2 (some .boolean), Cond.methodLink RX0 35 yX0_cellsWith, Cond.instanceMethod yX0_cellsWith, Cond.selects RX0 yX0_cellsWith yX0_cellsWith, Cond.code yX0_cellsWith cX0_cellsWith 2 (some .int), Cond.methodLink RX1 134 yX1_winsWithOneSeed, Cond.instanceMethod yX1_winsWithOneSeed, Cond.selects RX1 yX1_winsWithOneSeed yX1_winsWithOneSeed, Cond.code yX1_winsWithOneSeed cX1_winsWithOneSeed 4 (some .boolean), Cond.fieldLink RX1 173 "ColourTide$Tide" "board" "I", Cond.methodLink RX1 137 yX1_winsWithTwoSeeds, Cond.instanceMethod yX1_winsWithTwoSeeds, Cond.selects RX1 yX1_winsWithTwoSeeds yX1_winsWithTwoSeeds, Cond.code yX1_winsWithTwoSeeds cX1_winsWithTwoSeeds 5 (some .boolean)]
def wsL_fewestSeeds : List Cond := .codeWith yL_fewestSeeds cL_fewestSeeds 4 (some .int) [(0, 9, 12, 19)] :: ((wsL_fewestSeeds_r1 ++ (wsL_fewestSeeds_r2 ++ wsL_fewestSeeds_r3)) ++ wsX10 ++ wsX00 ++ (vx_atS RX1 55 "java/lang/IndexOutOfBoundsException" ["java/lang/RuntimeException", "java/lang/Exception"]).filter goodWord)
def wsL_bestCell_r1 : List Cond := [Cond.classLink RL 19 "java/lang/IndexOutOfBoundsException", Cond.classLink RL 13 "java/lang/IllegalArgumentException", Cond.methodLink RL 66 yX1_bestCell, Cond.instanceMethod yX1_bestCell, Cond.selects RX1 yX1_bestCell yX1_bestCell, Cond.initialized RX1, Cond.code yX1_bestCell cX1_bestCell 8 (some .int), Cond.classLink RX1 51 "java/lang/IndexOutOfBoundsException", Cond.initialized "java/lang/IndexOutOfBoundsException", Cond.classLink RX1 37 "java/lang/IllegalArgumentException", Cond.initialized "java/lang/IllegalArgumentException", Cond.fieldLink RX1 23 "ColourTide" "height" "I", Cond.fieldLink RX1 19 "ColourTide" "width" "I", Cond.methodLink RX1 108 yX1_isColour, Cond.static yX1_isColour, Cond.code yX1_isColour cX1_isColour 1 (some .boolean), Cond.methodLink RX1 56 yX1_cell, Cond.static yX1_cell, Cond.code yX1_cell cX1_cell 2 (some .int), Cond.methodLink RX1 127 yX1_countAfter, Cond.instanceMethod yX1_countAfter, Cond.selects RX1 yX1_countAfter yX1_countAfter, Cond.code yX1_countAfter cX1_countAfter 4 (some .int), Cond.fieldLink RX1 16 "ColourTide" "trial" "LColourTide$Tide;"]
def wsL_bestCell_r2 : List Cond := [Cond.fieldLink RX1 12 "ColourTide" "map" "LColourTide$Tide;", Cond.methodLink RX1 123 yX0_copyFrom, Cond.instanceMethod yX0_copyFrom, Cond.selects RX0 yX0_copyFrom yX0_copyFrom, Cond.initialized RX0, Cond.code yX0_copyFrom cX0_copyFrom 3 none, Cond.fieldLink RX0 25 "ColourTide$Tide" "board" "I", Cond.fieldLink RX0 32 "ColourTide$Tide" "stubborn" "I", Cond.fieldLink RX0 9 "ColourTide$Tide" "need" "I", Cond.fieldLink RX0 15 "ColourTide$Tide" "sets" "[I", Cond.methodLink RX1 64 yX0_dye, Cond.instanceMethod yX0_dye, Cond.selects RX0 yX0_dye yX0_dye, Cond.code yX0_dye cX0_dye 4 none, Cond.methodLink RX1 79 yX0_surge, Cond.instanceMethod yX0_surge, Cond.selects RX0 yX0_surge yX0_surge, Cond.code yX0_surge cX0_surge 4 (some .int), Cond.methodLink RX0 48 yX0_foresee, Cond.instanceMethod yX0_foresee, Cond.selects RX0 yX0_foresee yX0_foresee, Cond.code yX0_foresee cX0_foresee 3 (some .int), Cond.fieldLink RX0 22 "ColourTide$Tide" "gains" "[I", Cond.methodLink RX0 56 yX0_addGains]
def wsL_bestCell_r3 : List Cond := [Cond.instanceMethod yX0_addGains, Cond.selects RX0 yX0_addGains yX0_addGains, Cond.code yX0_addGains cX0_addGains 5 none, Cond.fieldLink RX0 19 "ColourTide$Tide" "crowds" "[I", Cond.methodLink RX0 73 yX0_withNeighbours, Cond.static yX0_withNeighbours, Cond.code yX0_withNeighbours cX0_withNeighbours 6 (some .int), Cond.methodLink RX0 52 yX0_takeGains, Cond.instanceMethod yX0_takeGains, Cond.selects RX0 yX0_takeGains yX0_takeGains, Cond.code yX0_takeGains cX0_takeGains 3 none, Cond.methodLink RX1 105 yX0_count, Cond.instanceMethod yX0_count, Cond.selects RX0 yX0_count yX0_count, Cond.code yX0_count cX0_count 2 (some .int), Cond.methodLink RX0 35 yX0_cellsWith, Cond.instanceMethod yX0_cellsWith, Cond.selects RX0 yX0_cellsWith yX0_cellsWith, Cond.code yX0_cellsWith cX0_cellsWith 2 (some .int), Cond.methodLink RX0 39 yJ6_bitCount_0f7a4, Cond.static yJ6_bitCount_0f7a4, Cond.initialized RJ6, Cond.code yJ6_bitCount_0f7a4 cJ6_bitCount_0f7a4 1 (some .int), Cond.constant RJ6 265 (1431655765)]
def wsL_bestCell_r4 : List Cond := [Cond.constant RJ6 266 (858993459), Cond.constant RJ6 267 (252645135)]
def wsL_bestCell : List Cond := .codeWith yL_bestCell cL_bestCell 5 (some .int) [(0, 10, 13, 19), (0, 10, 17, 13)] :: ((wsL_bestCell_r1 ++ (wsL_bestCell_r2 ++ (wsL_bestCell_r3 ++ wsL_bestCell_r4))) ++ wsX10 ++ wsX00 ++ (vx_atS RX1 55 "java/lang/IndexOutOfBoundsException" ["java/lang/RuntimeException", "java/lang/Exception"]).filter goodWord ++ (vx_atS RX1 41 "java/lang/IllegalArgumentException" ["java/lang/RuntimeException", "java/lang/Exception"]).filter goodWord)
def wsL_share_r1 : List Cond := [Cond.classLink RL 19 "java/lang/IndexOutOfBoundsException", Cond.methodLink RL 69 yX1_share, Cond.instanceMethod yX1_share, Cond.selects RX1 yX1_share yX1_share, Cond.initialized RX1, Cond.code yX1_share cX1_share 3 (some .double), Cond.classLink RX1 51 "java/lang/IndexOutOfBoundsException", Cond.initialized "java/lang/IndexOutOfBoundsException", Cond.fieldLink RX1 19 "ColourTide" "width" "I", Cond.fieldLink RX1 23 "ColourTide" "height" "I", Cond.fieldLink RX1 12 "ColourTide" "map" "LColourTide$Tide;", Cond.methodLink RX1 48 yX1_isColourOrBare, Cond.static yX1_isColourOrBare, Cond.code yX1_isColourOrBare cX1_isColourOrBare 1 (some .boolean), Cond.methodLink RX1 108 yX1_isColour, Cond.static yX1_isColour, Cond.code yX1_isColour cX1_isColour 1 (some .boolean), Cond.methodLink RX1 105 yX0_count, Cond.instanceMethod yX0_count, Cond.selects RX0 yX0_count yX0_count, Cond.initialized RX0, Cond.code yX0_count cX0_count 2 (some .int), Cond.methodLink RX0 35 yX0_cellsWith, Cond.instanceMethod yX0_cellsWith]
def wsL_share_r2 : List Cond := [Cond.selects RX0 yX0_cellsWith yX0_cellsWith, Cond.code yX0_cellsWith cX0_cellsWith 2 (some .int), Cond.fieldLink RX0 15 "ColourTide$Tide" "sets" "[I", Cond.methodLink RX0 39 yJ6_bitCount_0f7a4, Cond.static yJ6_bitCount_0f7a4, Cond.initialized RJ6, Cond.code yJ6_bitCount_0f7a4 cJ6_bitCount_0f7a4 1 (some .int), Cond.constant RJ6 265 (1431655765), Cond.constant RJ6 266 (858993459), Cond.constant RJ6 267 (252645135)]
def wsL_share : List Cond := .codeWith yL_share cL_share 4 (some .int) [(0, 8, 11, 19)] :: ((wsL_share_r1 ++ wsL_share_r2) ++ wsX10 ++ wsX00 ++ (vx_atS RX1 55 "java/lang/IndexOutOfBoundsException" ["java/lang/RuntimeException", "java/lang/Exception"]).filter goodWord)
def wsL_law0_r1 : List Cond := [Cond.classLink RL 8 RX1, Cond.instantiable RX1 5, Cond.initialized RX1, Cond.classLink RL 74 RX2, Cond.instantiable RX2 14, Cond.initialized RX2, Cond.arrayClass .long, Cond.arrayClass .double, Cond.methodLink RL 73 yX1_init, Cond.instanceMethod yX1_init, Cond.code yX1_init cX1_init 1 none, Cond.methodLink RX1 3 objectInit, Cond.instanceMethod objectInit, Cond.code objectInit ⟨#[0xb1]⟩ 1 none, Cond.classLink RX1 9 RX0, Cond.instantiable RX0 6, Cond.initialized RX0, Cond.fieldLink RX1 12 "ColourTide" "map" "LColourTide$Tide;", Cond.fieldLink RX1 16 "ColourTide" "trial" "LColourTide$Tide;", Cond.fieldLink RX1 19 "ColourTide" "width" "I", Cond.fieldLink RX1 23 "ColourTide" "height" "I", Cond.fieldLink RX1 26 "ColourTide" "waves" "I", Cond.methodLink RX1 11 yX0_init, Cond.instanceMethod yX0_init]
def wsL_law0_r2 : List Cond := [Cond.code yX0_init cX0_init 1 none, Cond.methodLink RX0 3 objectInit, Cond.fieldLink RX0 9 "ColourTide$Tide" "need" "I", Cond.arrayClass .int, Cond.fieldLink RX0 15 "ColourTide$Tide" "sets" "[I", Cond.fieldLink RX0 19 "ColourTide$Tide" "crowds" "[I", Cond.fieldLink RX0 22 "ColourTide$Tide" "gains" "[I", Cond.methodLink RX1 29 yX0_clear, Cond.instanceMethod yX0_clear, Cond.selects RX0 yX0_clear yX0_clear, Cond.code yX0_clear cX0_clear 5 none, Cond.fieldLink RX0 25 "ColourTide$Tide" "board" "I", Cond.fieldLink RX0 32 "ColourTide$Tide" "stubborn" "I", Cond.static yX1_cell, Cond.code yX1_cell cX1_cell 2 (some .int), Cond.methodLink RL 76 yX2_init, Cond.instanceMethod yX2_init, Cond.code yX2_init cX2_init 1 none, Cond.methodLink RX2 1 objectInit, Cond.fieldLink RX2 7 "ColourTideModel" "need" "I", Cond.fieldLink RX2 13 "ColourTideModel" "colours" "[I", Cond.fieldLink RX2 17 "ColourTideModel" "next" "[I", Cond.arrayClass .boolean, Cond.fieldLink RX2 20 "ColourTideModel" "stubborn" "[Z"]
def wsL_law0_r3 : List Cond := [Cond.fieldLink RX2 24 "ColourTideModel" "beside" "[I", Cond.fieldLink RX2 27 "ColourTideModel" "kept" "[I", Cond.fieldLink RX2 30 "ColourTideModel" "regions" "[I", Cond.fieldLink RX2 33 "ColourTideModel" "sizes" "[I", Cond.fieldLink RX2 36 "ColourTideModel" "line" "[I", Cond.methodLink RX2 39 yX2_take, Cond.instanceMethod yX2_take, Cond.selects RX2 yX2_take yX2_take, Cond.code yX2_take cX2_take 6 none, Cond.fieldLink RX2 46 "ColourTideModel" "w" "I", Cond.fieldLink RX2 49 "ColourTideModel" "h" "I", Cond.fieldLink RX2 56 "ColourTideModel" "waves" "I", Cond.methodLink RL 77 yL_newMap, Cond.static yL_newMap, Cond.initialized RL, Cond.codeWith yL_newMap cL_newMap 5 (some .int) [(0, 10, 13, 13)], Cond.classLink RL 13 "java/lang/IllegalArgumentException", Cond.methodLink RL 7 yX1_newMap, Cond.instanceMethod yX1_newMap, Cond.selects RX1 yX1_newMap yX1_newMap, Cond.code yX1_newMap cX1_newMap 3 (some .int), Cond.classLink RX1 37 "java/lang/IllegalArgumentException", Cond.initialized "java/lang/IllegalArgumentException", Cond.methodLink RX1 33 yX1_isSide]
def wsL_law0_r4 : List Cond := [Cond.static yX1_isSide, Cond.code yX1_isSide cX1_isSide 1 (some .boolean), Cond.methodLink RL 82 yX2_newMap, Cond.instanceMethod yX2_newMap, Cond.selects RX2 yX2_newMap yX2_newMap, Cond.code yX2_newMap cX2_newMap 3 (some .int), Cond.fieldLink RX2 43 "ColourTideModel" "thrown" "I", Cond.methodLink RX2 52 yX2_isIn, Cond.static yX2_isIn, Cond.code yX2_isIn cX2_isIn 3 (some .boolean), Cond.methodLink RX2 76 yX2_fail, Cond.instanceMethod yX2_fail, Cond.selects RX2 yX2_fail yX2_fail, Cond.code yX2_fail cX2_fail 2 (some .int), Cond.methodLink RX2 68 yX2_cells, Cond.instanceMethod yX2_cells, Cond.selects RX2 yX2_cells yX2_cells, Cond.code yX2_cells cX2_cells 1 (some .int), Cond.methodLink RL 83 yX2_thrown, Cond.instanceMethod yX2_thrown, Cond.selects RX2 yX2_thrown yX2_thrown, Cond.code yX2_thrown cX2_thrown 1 (some .int), Cond.methodLink RL 87 yL_paint, Cond.static yL_paint]
def wsL_law0_r5 : List Cond := [Cond.codeWith yL_paint cL_paint 6 (some .int) [(0, 12, 15, 19)], Cond.classLink RL 19 "java/lang/IndexOutOfBoundsException", Cond.methodLink RL 15 yX1_paint, Cond.instanceMethod yX1_paint, Cond.selects RX1 yX1_paint yX1_paint, Cond.code yX1_paint cX1_paint 5 (some .int), Cond.classLink RX1 51 "java/lang/IndexOutOfBoundsException", Cond.initialized "java/lang/IndexOutOfBoundsException", Cond.methodLink RX1 44 yX1_isOnMap, Cond.instanceMethod yX1_isOnMap, Cond.selects RX1 yX1_isOnMap yX1_isOnMap, Cond.code yX1_isOnMap cX1_isOnMap 3 (some .boolean), Cond.methodLink RX1 48 yX1_isColourOrBare, Cond.static yX1_isColourOrBare, Cond.code yX1_isColourOrBare cX1_isColourOrBare 1 (some .boolean), Cond.methodLink RX1 108 yX1_isColour, Cond.static yX1_isColour, Cond.code yX1_isColour cX1_isColour 1 (some .boolean), Cond.methodLink RX1 56 yX1_cell, Cond.methodLink RX1 60 yX0_colourOf, Cond.instanceMethod yX0_colourOf, Cond.selects RX0 yX0_colourOf yX0_colourOf, Cond.code yX0_colourOf cX0_colourOf 2 (some .int), Cond.methodLink RX0 44 yX0_firstColourWith]
def wsL_law0_r6 : List Cond := [Cond.static yX0_firstColourWith, Cond.code yX0_firstColourWith cX0_firstColourWith 3 (some .int), Cond.methodLink RX1 64 yX0_dye, Cond.instanceMethod yX0_dye, Cond.selects RX0 yX0_dye yX0_dye, Cond.code yX0_dye cX0_dye 4 none, Cond.methodLink RL 90 yX2_paint, Cond.instanceMethod yX2_paint, Cond.selects RX2 yX2_paint yX2_paint, Cond.code yX2_paint cX2_paint 5 (some .int), Cond.methodLink RX2 79 yX2_isCell, Cond.instanceMethod yX2_isCell, Cond.selects RX2 yX2_isCell yX2_isCell, Cond.code yX2_isCell cX2_isCell 3 (some .boolean), Cond.methodLink RX2 83 yX2_isAny, Cond.static yX2_isAny, Cond.code yX2_isAny cX2_isAny 1 (some .boolean), Cond.methodLink RL 91 yL_turnStubborn, Cond.static yL_turnStubborn, Cond.codeWith yL_turnStubborn cL_turnStubborn 5 (some .int) [(0, 17, 20, 19)], Cond.methodLink RL 21 yX1_turnStubborn, Cond.instanceMethod yX1_turnStubborn, Cond.selects RX1 yX1_turnStubborn yX1_turnStubborn, Cond.code yX1_turnStubborn cX1_turnStubborn 3 (some .boolean)]
def wsL_law0_r7 : List Cond := [Cond.fieldLink RX1 69 "ColourTide$Tide" "stubborn" "I", Cond.methodLink RL 93 yX2_turnStubborn, Cond.instanceMethod yX2_turnStubborn, Cond.selects RX2 yX2_turnStubborn yX2_turnStubborn, Cond.code yX2_turnStubborn cX2_turnStubborn 3 (some .boolean), Cond.methodLink RL 94 yL_setNeed, Cond.static yL_setNeed, Cond.codeWith yL_setNeed cL_setNeed 4 (some .int) [(0, 9, 12, 13)], Cond.methodLink RL 25 yX1_setNeed, Cond.instanceMethod yX1_setNeed, Cond.selects RX1 yX1_setNeed yX1_setNeed, Cond.code yX1_setNeed cX1_setNeed 3 (some .int), Cond.fieldLink RX1 74 "ColourTide$Tide" "need" "I", Cond.methodLink RL 97 yX2_setNeed, Cond.instanceMethod yX2_setNeed, Cond.selects RX2 yX2_setNeed yX2_setNeed, Cond.code yX2_setNeed cX2_setNeed 3 (some .int), Cond.methodLink RL 98 yL_pass, Cond.static yL_pass, Cond.codeWith yL_pass cL_pass 4 (some .int) [(0, 9, 12, 13)], Cond.methodLink RL 29 yX1_pass, Cond.instanceMethod yX1_pass, Cond.selects RX1 yX1_pass yX1_pass, Cond.code yX1_pass cX1_pass 2 (some .int)]
def wsL_law0_r8 : List Cond := [Cond.methodLink RX1 79 yX0_surge, Cond.instanceMethod yX0_surge, Cond.selects RX0 yX0_surge yX0_surge, Cond.code yX0_surge cX0_surge 4 (some .int), Cond.methodLink RX0 48 yX0_foresee, Cond.instanceMethod yX0_foresee, Cond.selects RX0 yX0_foresee yX0_foresee, Cond.code yX0_foresee cX0_foresee 3 (some .int), Cond.methodLink RX0 56 yX0_addGains, Cond.instanceMethod yX0_addGains, Cond.selects RX0 yX0_addGains yX0_addGains, Cond.code yX0_addGains cX0_addGains 5 none, Cond.methodLink RX0 73 yX0_withNeighbours, Cond.static yX0_withNeighbours, Cond.code yX0_withNeighbours cX0_withNeighbours 6 (some .int), Cond.methodLink RX0 52 yX0_takeGains, Cond.instanceMethod yX0_takeGains, Cond.selects RX0 yX0_takeGains yX0_takeGains, Cond.code yX0_takeGains cX0_takeGains 3 none, Cond.methodLink RX1 82 yJ6_bitCount_0f7a4, Cond.static yJ6_bitCount_0f7a4, Cond.initialized RJ6, Cond.code yJ6_bitCount_0f7a4 cJ6_bitCount_0f7a4 1 (some .int), Cond.constant RJ6 265 (1431655765)]
def wsL_law0_r9 : List Cond := [Cond.constant RJ6 266 (858993459), Cond.constant RJ6 267 (252645135), Cond.methodLink RL 100 yX2_pass, Cond.instanceMethod yX2_pass, Cond.selects RX2 yX2_pass yX2_pass, Cond.code yX2_pass cX2_pass 4 (some .int), Cond.methodLink RX2 87 yX2_wave, Cond.instanceMethod yX2_wave, Cond.selects RX2 yX2_wave yX2_wave, Cond.code yX2_wave cX2_wave 3 (some .int), Cond.methodLink RX2 59 arraycopyName, Cond.native arraycopyName, Cond.static arraycopyName, Cond.initialized "java/lang/System", Cond.methodLink RX2 72 yX2_nextOf, Cond.instanceMethod yX2_nextOf, Cond.selects RX2 yX2_nextOf yX2_nextOf, Cond.code yX2_nextOf cX2_nextOf 7 (some .int), Cond.methodLink RX2 65 yX2_beside, Cond.instanceMethod yX2_beside, Cond.selects RX2 yX2_beside yX2_beside, Cond.code yX2_beside cX2_beside 5 (some .int), Cond.methodLink RL 101 yL_colourAt, Cond.static yL_colourAt]
def wsL_law0_r10 : List Cond := [Cond.codeWith yL_colourAt cL_colourAt 5 (some .int) [(0, 10, 13, 19)], Cond.methodLink RL 32 yX1_colourAt, Cond.instanceMethod yX1_colourAt, Cond.selects RX1 yX1_colourAt yX1_colourAt, Cond.code yX1_colourAt cX1_colourAt 3 (some .int), Cond.methodLink RL 103 yX2_colourAt, Cond.instanceMethod yX2_colourAt, Cond.selects RX2 yX2_colourAt yX2_colourAt, Cond.code yX2_colourAt cX2_colourAt 3 (some .int), Cond.methodLink RL 104 yL_isStubborn, Cond.static yL_isStubborn, Cond.codeWith yL_isStubborn cL_isStubborn 5 (some .int) [(0, 17, 20, 19)], Cond.methodLink RL 35 yX1_isStubborn, Cond.instanceMethod yX1_isStubborn, Cond.selects RX1 yX1_isStubborn yX1_isStubborn, Cond.code yX1_isStubborn cX1_isStubborn 3 (some .boolean), Cond.methodLink RL 106 yX2_isStubborn, Cond.instanceMethod yX2_isStubborn, Cond.selects RX2 yX2_isStubborn yX2_isStubborn, Cond.code yX2_isStubborn cX2_isStubborn 3 (some .boolean), Cond.methodLink RL 107 yL_neighboursWith, Cond.static yL_neighboursWith, Cond.codeWith yL_neighboursWith cL_neighboursWith 6 (some .int) [(0, 12, 15, 19)], Cond.methodLink RL 38 yX1_neighboursWith]
def wsL_law0_r11 : List Cond := [Cond.instanceMethod yX1_neighboursWith, Cond.selects RX1 yX1_neighboursWith yX1_neighboursWith, Cond.code yX1_neighboursWith cX1_neighboursWith 4 (some .int), Cond.methodLink RX1 87 yX1_nextTo, Cond.static yX1_nextTo, Cond.code yX1_nextTo cX1_nextTo 1 (some .int), Cond.methodLink RX1 90 yX0_cellsWith, Cond.instanceMethod yX0_cellsWith, Cond.selects RX0 yX0_cellsWith yX0_cellsWith, Cond.code yX0_cellsWith cX0_cellsWith 2 (some .int), Cond.methodLink RL 109 yX2_neighboursWith, Cond.instanceMethod yX2_neighboursWith, Cond.selects RX2 yX2_neighboursWith yX2_neighboursWith, Cond.code yX2_neighboursWith cX2_neighboursWith 4 (some .int), Cond.methodLink RL 110 yL_nextColour, Cond.static yL_nextColour, Cond.codeWith yL_nextColour cL_nextColour 5 (some .int) [(0, 10, 13, 19)], Cond.methodLink RL 41 yX1_nextColour, Cond.instanceMethod yX1_nextColour, Cond.selects RX1 yX1_nextColour yX1_nextColour, Cond.code yX1_nextColour cX1_nextColour 3 (some .int), Cond.methodLink RX1 93 yX0_foresee, Cond.methodLink RX1 97 yX0_foreseenColourOf, Cond.instanceMethod yX0_foreseenColourOf]
def wsL_law0_r12 : List Cond := [Cond.selects RX0 yX0_foreseenColourOf yX0_foreseenColourOf, Cond.code yX0_foreseenColourOf cX0_foreseenColourOf 3 (some .int), Cond.methodLink RX0 59 yX0_colourOf, Cond.methodLink RL 112 yX2_nextColour, Cond.instanceMethod yX2_nextColour, Cond.selects RX2 yX2_nextColour yX2_nextColour, Cond.code yX2_nextColour cX2_nextColour 3 (some .int), Cond.methodLink RL 113 yL_regionSize, Cond.static yL_regionSize, Cond.codeWith yL_regionSize cL_regionSize 5 (some .int) [(0, 10, 13, 19)], Cond.methodLink RL 44 yX1_regionSize, Cond.instanceMethod yX1_regionSize, Cond.selects RX1 yX1_regionSize yX1_regionSize, Cond.code yX1_regionSize cX1_regionSize 3 (some .int), Cond.methodLink RX1 100 yX0_sizeOfRegion, Cond.instanceMethod yX0_sizeOfRegion, Cond.selects RX0 yX0_sizeOfRegion yX0_sizeOfRegion, Cond.code yX0_sizeOfRegion cX0_sizeOfRegion 3 (some .int), Cond.methodLink RX0 35 yX0_cellsWith, Cond.methodLink RX0 62 yX0_regionFrom, Cond.static yX0_regionFrom, Cond.code yX0_regionFrom cX0_regionFrom 5 (some .int), Cond.methodLink RX0 39 yJ6_bitCount_0f7a4, Cond.methodLink RL 115 yX2_regionSize]
def wsL_law0_r13 : List Cond := [Cond.instanceMethod yX2_regionSize, Cond.selects RX2 yX2_regionSize yX2_regionSize, Cond.code yX2_regionSize cX2_regionSize 3 (some .int), Cond.methodLink RX2 97 yX2_hang, Cond.instanceMethod yX2_hang, Cond.selects RX2 yX2_hang yX2_hang, Cond.code yX2_hang cX2_hang 2 none, Cond.fieldLink RX2 90 "ColourTideModel" "many" "I", Cond.methodLink RX2 93 yX2_spread, Cond.instanceMethod yX2_spread, Cond.selects RX2 yX2_spread yX2_spread, Cond.code yX2_spread cX2_spread 6 none, Cond.methodLink RX2 100 yX2_sizeOf, Cond.instanceMethod yX2_sizeOf, Cond.selects RX2 yX2_sizeOf yX2_sizeOf, Cond.code yX2_sizeOf cX2_sizeOf 2 (some .int), Cond.methodLink RL 116 yX1_width, Cond.instanceMethod yX1_width, Cond.selects RX1 yX1_width yX1_width, Cond.code yX1_width cX1_width 1 (some .int), Cond.methodLink RL 119 yX2_width, Cond.instanceMethod yX2_width, Cond.selects RX2 yX2_width yX2_width, Cond.code yX2_width cX2_width 1 (some .int)]
def wsL_law0_r14 : List Cond := [Cond.methodLink RL 120 yX1_height, Cond.instanceMethod yX1_height, Cond.selects RX1 yX1_height yX1_height, Cond.code yX1_height cX1_height 1 (some .int), Cond.methodLink RL 123 yX2_height, Cond.instanceMethod yX2_height, Cond.selects RX2 yX2_height yX2_height, Cond.code yX2_height cX2_height 1 (some .int), Cond.methodLink RL 124 yX1_need, Cond.instanceMethod yX1_need, Cond.selects RX1 yX1_need yX1_need, Cond.code yX1_need cX1_need 1 (some .int), Cond.methodLink RL 127 yX2_need, Cond.instanceMethod yX2_need, Cond.selects RX2 yX2_need yX2_need, Cond.code yX2_need cX2_need 1 (some .int), Cond.methodLink RL 128 yX1_waves, Cond.instanceMethod yX1_waves, Cond.selects RX1 yX1_waves yX1_waves, Cond.code yX1_waves cX1_waves 1 (some .int), Cond.methodLink RL 131 yX2_waves, Cond.instanceMethod yX2_waves, Cond.selects RX2 yX2_waves yX2_waves, Cond.code yX2_waves cX2_waves 1 (some .int)]
def wsL_law0_r15 : List Cond := [Cond.methodLink RL 132 yX1_stubbornCells, Cond.instanceMethod yX1_stubbornCells, Cond.selects RX1 yX1_stubbornCells yX1_stubbornCells, Cond.code yX1_stubbornCells cX1_stubbornCells 1 (some .int), Cond.methodLink RL 135 yX2_stubbornCells, Cond.instanceMethod yX2_stubbornCells, Cond.selects RX2 yX2_stubbornCells yX2_stubbornCells, Cond.code yX2_stubbornCells cX2_stubbornCells 1 (some .int), Cond.methodLink RX2 103 yX2_stubbornOnes, Cond.instanceMethod yX2_stubbornOnes, Cond.selects RX2 yX2_stubbornOnes yX2_stubbornOnes, Cond.code yX2_stubbornOnes cX2_stubbornOnes 3 (some .int), Cond.methodLink RL 136 yL_cellsOf, Cond.static yL_cellsOf, Cond.codeWith yL_cellsOf cL_cellsOf 4 (some .int) [(0, 9, 12, 19)], Cond.methodLink RL 47 yX1_cellsOf, Cond.instanceMethod yX1_cellsOf, Cond.selects RX1 yX1_cellsOf yX1_cellsOf, Cond.code yX1_cellsOf cX1_cellsOf 2 (some .int), Cond.methodLink RX1 105 yX0_count, Cond.instanceMethod yX0_count, Cond.selects RX0 yX0_count yX0_count, Cond.code yX0_count cX0_count 2 (some .int), Cond.methodLink RL 138 yX2_cellsOf]
def wsL_law0_r16 : List Cond := [Cond.instanceMethod yX2_cellsOf, Cond.selects RX2 yX2_cellsOf yX2_cellsOf, Cond.code yX2_cellsOf cX2_cellsOf 2 (some .int), Cond.methodLink RX2 106 yX2_cellsWith, Cond.instanceMethod yX2_cellsWith, Cond.selects RX2 yX2_cellsWith yX2_cellsWith, Cond.code yX2_cellsWith cX2_cellsWith 4 (some .int), Cond.methodLink RL 139 yL_regionsOf, Cond.static yL_regionsOf, Cond.codeWith yL_regionsOf cL_regionsOf 4 (some .int) [(0, 9, 12, 19)], Cond.methodLink RL 50 yX1_regionsOf, Cond.instanceMethod yX1_regionsOf, Cond.selects RX1 yX1_regionsOf yX1_regionsOf, Cond.code yX1_regionsOf cX1_regionsOf 2 (some .int), Cond.methodLink RX1 111 yX0_countRegions, Cond.instanceMethod yX0_countRegions, Cond.selects RX0 yX0_countRegions yX0_countRegions, Cond.code yX0_countRegions cX0_countRegions 5 (some .int), Cond.methodLink RL 141 yX2_regionsOf, Cond.instanceMethod yX2_regionsOf, Cond.selects RX2 yX2_regionsOf yX2_regionsOf, Cond.code yX2_regionsOf cX2_regionsOf 2 (some .int), Cond.methodLink RX2 114 yX2_isColour, Cond.static yX2_isColour]
def wsL_law0_r17 : List Cond := [Cond.code yX2_isColour cX2_isColour 1 (some .boolean), Cond.methodLink RX2 117 yX2_regions, Cond.instanceMethod yX2_regions, Cond.selects RX2 yX2_regions yX2_regions, Cond.code yX2_regions cX2_regions 7 (some .int), Cond.methodLink RX2 109 Lib.Math.max.name, Cond.static Lib.Math.max.name, Cond.initialized "java/lang/Math", Cond.code Lib.Math.max.name Lib.Math.max.code 2 (some .int), Cond.methodLink RL 142 yL_greatestRegion, Cond.static yL_greatestRegion, Cond.codeWith yL_greatestRegion cL_greatestRegion 4 (some .int) [(0, 9, 12, 19)], Cond.methodLink RL 53 yX1_greatestRegion, Cond.instanceMethod yX1_greatestRegion, Cond.selects RX1 yX1_greatestRegion yX1_greatestRegion, Cond.code yX1_greatestRegion cX1_greatestRegion 2 (some .int), Cond.methodLink RX1 114 yX0_sizeOfGreatestRegion, Cond.instanceMethod yX0_sizeOfGreatestRegion, Cond.selects RX0 yX0_sizeOfGreatestRegion yX0_sizeOfGreatestRegion, Cond.code yX0_sizeOfGreatestRegion cX0_sizeOfGreatestRegion 6 (some .int), Cond.methodLink RX0 65 Lib.Math.max.name, Cond.methodLink RL 144 yX2_greatestRegion, Cond.instanceMethod yX2_greatestRegion, Cond.selects RX2 yX2_greatestRegion yX2_greatestRegion]
def wsL_law0_r18 : List Cond := [Cond.code yX2_greatestRegion cX2_greatestRegion 2 (some .int), Cond.methodLink RL 145 yX1_borders, Cond.instanceMethod yX1_borders, Cond.selects RX1 yX1_borders yX1_borders, Cond.code yX1_borders cX1_borders 1 (some .int), Cond.methodLink RX1 117 yX0_countBorders, Cond.instanceMethod yX0_countBorders, Cond.selects RX0 yX0_countBorders yX0_countBorders, Cond.code yX0_countBorders cX0_countBorders 3 (some .int), Cond.methodLink RX0 70 yX0_countPairs, Cond.static yX0_countPairs, Cond.code yX0_countPairs cX0_countPairs 1 (some .int), Cond.methodLink RL 148 yX2_borders, Cond.instanceMethod yX2_borders, Cond.selects RX2 yX2_borders yX2_borders, Cond.code yX2_borders cX2_borders 1 (some .int), Cond.methodLink RX2 120 yX2_between, Cond.instanceMethod yX2_between, Cond.selects RX2 yX2_between yX2_between, Cond.code yX2_between cX2_between 5 (some .int), Cond.methodLink RL 149 yX1_leader, Cond.instanceMethod yX1_leader, Cond.selects RX1 yX1_leader yX1_leader, Cond.code yX1_leader cX1_leader 5 (some .int)]
def wsL_law0_r19 : List Cond := [Cond.methodLink RL 152 yX2_leader, Cond.instanceMethod yX2_leader, Cond.selects RX2 yX2_leader yX2_leader, Cond.code yX2_leader cX2_leader 1 (some .int), Cond.methodLink RX2 123 yX2_first, Cond.instanceMethod yX2_first, Cond.selects RX2 yX2_first yX2_first, Cond.code yX2_first cX2_first 5 (some .int), Cond.methodLink RL 153 yX1_isStill, Cond.instanceMethod yX1_isStill, Cond.selects RX1 yX1_isStill yX1_isStill, Cond.code yX1_isStill cX1_isStill 1 (some .boolean), Cond.methodLink RL 157 yX2_isStill, Cond.instanceMethod yX2_isStill, Cond.selects RX2 yX2_isStill yX2_isStill, Cond.code yX2_isStill cX2_isStill 1 (some .boolean), Cond.methodLink RX2 126 yX2_still, Cond.instanceMethod yX2_still, Cond.selects RX2 yX2_still yX2_still, Cond.code yX2_still cX2_still 2 (some .boolean), Cond.methodLink RL 158 yX1_winner, Cond.instanceMethod yX1_winner, Cond.selects RX1 yX1_winner yX1_winner, Cond.code yX1_winner cX1_winner 2 (some .int)]
def wsL_law0_r20 : List Cond := [Cond.methodLink RX1 120 yX0_isAll, Cond.instanceMethod yX0_isAll, Cond.selects RX0 yX0_isAll yX0_isAll, Cond.code yX0_isAll cX0_isAll 2 (some .boolean), Cond.methodLink RL 161 yX2_winner, Cond.instanceMethod yX2_winner, Cond.selects RX2 yX2_winner yX2_winner, Cond.code yX2_winner cX2_winner 1 (some .int), Cond.methodLink RX2 130 yX2_all, Cond.instanceMethod yX2_all, Cond.selects RX2 yX2_all yX2_all, Cond.code yX2_all cX2_all 1 (some .int), Cond.methodLink RL 162 yX1_wavesUntilStill, Cond.instanceMethod yX1_wavesUntilStill, Cond.selects RX1 yX1_wavesUntilStill yX1_wavesUntilStill, Cond.code yX1_wavesUntilStill cX1_wavesUntilStill 2 (some .int), Cond.methodLink RX1 123 yX0_copyFrom, Cond.instanceMethod yX0_copyFrom, Cond.selects RX0 yX0_copyFrom yX0_copyFrom, Cond.code yX0_copyFrom cX0_copyFrom 3 none, Cond.methodLink RL 165 yX2_wavesUntilStill, Cond.instanceMethod yX2_wavesUntilStill, Cond.selects RX2 yX2_wavesUntilStill yX2_wavesUntilStill, Cond.code yX2_wavesUntilStill cX2_wavesUntilStill 2 (some .int)]
def wsL_law0_r21 : List Cond := [Cond.methodLink RX2 133 yX2_keep, Cond.instanceMethod yX2_keep, Cond.selects RX2 yX2_keep yX2_keep, Cond.code yX2_keep cX2_keep 1 none, Cond.methodLink RX2 136 yX2_bringBack, Cond.instanceMethod yX2_bringBack, Cond.selects RX2 yX2_bringBack yX2_bringBack, Cond.code yX2_bringBack cX2_bringBack 1 none, Cond.methodLink RL 166 yL_cellsAfter, Cond.static yL_cellsAfter, Cond.codeWith yL_cellsAfter cL_cellsAfter 5 (some .int) [(0, 10, 13, 13), (0, 10, 17, 19)], Cond.methodLink RL 56 yX1_cellsAfter, Cond.instanceMethod yX1_cellsAfter, Cond.selects RX1 yX1_cellsAfter yX1_cellsAfter, Cond.code yX1_cellsAfter cX1_cellsAfter 3 (some .int), Cond.methodLink RX1 127 yX1_countAfter, Cond.instanceMethod yX1_countAfter, Cond.selects RX1 yX1_countAfter yX1_countAfter, Cond.code yX1_countAfter cX1_countAfter 4 (some .int), Cond.methodLink RL 168 yX2_cellsAfter, Cond.instanceMethod yX2_cellsAfter, Cond.selects RX2 yX2_cellsAfter yX2_cellsAfter, Cond.code yX2_cellsAfter cX2_cellsAfter 3 (some .int), Cond.methodLink RX2 139 yX2_after]
def wsL_law0_r22 : List Cond := [Cond.instanceMethod yX2_after, Cond.selects RX2 yX2_after yX2_after, Cond.code yX2_after cX2_after 4 (some .int), Cond.methodLink RL 169 yL_wins, Cond.static yL_wins, Cond.codeWith yL_wins cL_wins 4 (some .int) [(0, 16, 19, 19)], Cond.methodLink RL 59 yX1_wins, Cond.instanceMethod yX1_wins, Cond.selects RX1 yX1_wins yX1_wins, Cond.code yX1_wins cX1_wins 2 (some .boolean), Cond.methodLink RX1 131 yX1_winsWith, Cond.instanceMethod yX1_winsWith, Cond.selects RX1 yX1_winsWith yX1_winsWith, Cond.code yX1_winsWith cX1_winsWith 3 (some .boolean), Cond.methodLink RL 171 yX2_wins, Cond.instanceMethod yX2_wins, Cond.selects RX2 yX2_wins yX2_wins, Cond.code yX2_wins cX2_wins 2 (some .boolean), Cond.methodLink RX2 145 yX2_winsWith, Cond.instanceMethod yX2_winsWith, Cond.selects RX2 yX2_winsWith yX2_winsWith, Cond.code yX2_winsWith cX2_winsWith 5 (some .boolean), Cond.methodLink RX2 142 yX2_winsNow, Cond.instanceMethod yX2_winsNow]
def wsL_law0_r23 : List Cond := [Cond.selects RX2 yX2_winsNow yX2_winsNow, Cond.code yX2_winsNow cX2_winsNow 3 (some .boolean), Cond.methodLink RL 172 yL_fewestSeeds, Cond.static yL_fewestSeeds, Cond.codeWith yL_fewestSeeds cL_fewestSeeds 4 (some .int) [(0, 9, 12, 19)], Cond.methodLink RL 63 yX1_fewestSeeds, Cond.instanceMethod yX1_fewestSeeds, Cond.selects RX1 yX1_fewestSeeds yX1_fewestSeeds, Cond.code yX1_fewestSeeds cX1_fewestSeeds 2 (some .int), Cond.methodLink RX1 134 yX1_winsWithOneSeed, Cond.instanceMethod yX1_winsWithOneSeed, Cond.selects RX1 yX1_winsWithOneSeed yX1_winsWithOneSeed, Cond.code yX1_winsWithOneSeed cX1_winsWithOneSeed 4 (some .boolean), Cond.fieldLink RX1 173 "ColourTide$Tide" "board" "I", Cond.methodLink RX1 137 yX1_winsWithTwoSeeds, Cond.instanceMethod yX1_winsWithTwoSeeds, Cond.selects RX1 yX1_winsWithTwoSeeds yX1_winsWithTwoSeeds, Cond.code yX1_winsWithTwoSeeds cX1_winsWithTwoSeeds 5 (some .boolean), Cond.methodLink RL 174 yX2_fewestSeeds, Cond.instanceMethod yX2_fewestSeeds, Cond.selects RX2 yX2_fewestSeeds yX2_fewestSeeds, Cond.code yX2_fewestSeeds cX2_fewestSeeds 4 (some .int), Cond.methodLink RL 175 yL_bestCell, Cond.static yL_bestCell]
def wsL_law0_r24 : List Cond := [Cond.codeWith yL_bestCell cL_bestCell 5 (some .int) [(0, 10, 13, 19), (0, 10, 17, 13)], Cond.methodLink RL 66 yX1_bestCell, Cond.instanceMethod yX1_bestCell, Cond.selects RX1 yX1_bestCell yX1_bestCell, Cond.code yX1_bestCell cX1_bestCell 8 (some .int), Cond.methodLink RL 177 yX2_bestCell, Cond.instanceMethod yX2_bestCell, Cond.selects RX2 yX2_bestCell yX2_bestCell, Cond.code yX2_bestCell cX2_bestCell 7 (some .int), Cond.methodLink RL 178 yL_share, Cond.static yL_share, Cond.codeWith yL_share cL_share 4 (some .int) [(0, 8, 11, 19)], Cond.methodLink RL 69 yX1_share, Cond.instanceMethod yX1_share, Cond.selects RX1 yX1_share yX1_share, Cond.code yX1_share cX1_share 3 (some .double), Cond.methodLink RL 181 yX2_share, Cond.instanceMethod yX2_share, Cond.selects RX2 yX2_share yX2_share, Cond.code yX2_share cX2_share 2 (some .double), Cond.methodLink RL 182 yX1_digest, Cond.instanceMethod yX1_digest, Cond.selects RX1 yX1_digest yX1_digest, Cond.code yX1_digest cX1_digest 5 (some .long)]
def wsL_law0_r25 : List Cond := [Cond.methodLink RX1 142 yX1_digestOfMap, Cond.instanceMethod yX1_digestOfMap, Cond.selects RX1 yX1_digestOfMap yX1_digestOfMap, Cond.code yX1_digestOfMap cX1_digestOfMap 3 (some .long), Cond.constantLong RX1 153 (1871), Cond.methodLink RX1 146 yX1_mix, Cond.static yX1_mix, Cond.code yX1_mix cX1_mix 3 (some .long), Cond.constantLong RX1 171 (31), Cond.methodLink RX1 155 yX1_stubbornCells, Cond.methodLink RX1 158 yX1_borders, Cond.methodLink RX1 161 yX1_leader, Cond.methodLink RX1 164 yX1_isStill, Cond.methodLink RX1 168 yX1_winner, Cond.methodLink RX1 150 yX1_mixCell, Cond.instanceMethod yX1_mixCell, Cond.selects RX1 yX1_mixCell yX1_mixCell, Cond.code yX1_mixCell cX1_mixCell 6 (some .long), Cond.methodLink RL 186 yX2_digest, Cond.instanceMethod yX2_digest, Cond.selects RX2 yX2_digest yX2_digest, Cond.code yX2_digest cX2_digest 8 (some .long), Cond.constantLong RX2 148 (1871), Cond.constantLong RX2 150 (31)]
def wsL_law0 : List Cond := (wsL_law0_r1 ++ (wsL_law0_r2 ++ (wsL_law0_r3 ++ (wsL_law0_r4 ++ (wsL_law0_r5 ++ (wsL_law0_r6 ++ (wsL_law0_r7 ++ (wsL_law0_r8 ++ (wsL_law0_r9 ++ (wsL_law0_r10 ++ (wsL_law0_r11 ++ (wsL_law0_r12 ++ (wsL_law0_r13 ++ (wsL_law0_r14 ++ (wsL_law0_r15 ++ (wsL_law0_r16 ++ (wsL_law0_r17 ++ (wsL_law0_r18 ++ (wsL_law0_r19 ++ (wsL_law0_r20 ++ (wsL_law0_r21 ++ (wsL_law0_r22 ++ (wsL_law0_r23 ++ (wsL_law0_r24 ++ wsL_law0_r25)))))))))))))))))))))))) ++ wsX10 ++ wsX20 ++ wsX00 ++ ([] : List Cond)
def wsL_law : List Cond := wsL_law0 ++ (vx_atS RX1 41 "java/lang/IllegalArgumentException" ["java/lang/RuntimeException", "java/lang/Exception"]).filter goodWord ++ (vx_atS RX1 55 "java/lang/IndexOutOfBoundsException" ["java/lang/RuntimeException", "java/lang/Exception"]).filter goodWord
end
section
set_option maxRecDepth 20000 in
theorem wsL_law0_r1_in : ∀ w ∈ wsL_law0_r1, w ∈ lw_tbl := fun w h => (goodIn_r (big := lw_tbl) wsL_law0_r1 [44, 45, 33, 501, 502, 35, 774, 775, 46, 47, 48, 49, 50, 51, 52, 53, 34, 88, 89, 90, 91, 92, 54, 55] (by decide +kernel) (by decide +kernel) w h).1
set_option maxRecDepth 20000 in
theorem wsL_law0_r2_in : ∀ w ∈ wsL_law0_r2, w ∈ lw_tbl := fun w h => (goodIn_r (big := lw_tbl) wsL_law0_r2 [56, 57, 62, 80, 64, 65, 66, 81, 82, 83, 84, 58, 60, 86, 87, 503, 504, 505, 506, 514, 516, 517, 554, 518] (by decide +kernel) (by decide +kernel) w h).1
set_option maxRecDepth 20000 in
theorem wsL_law0_r3_in : ∀ w ∈ wsL_law0_r3, w ∈ lw_tbl := fun w h => (goodIn_r (big := lw_tbl) wsL_law0_r3 [519, 520, 521, 522, 523, 507, 509, 10, 510, 512, 513, 515, 250, 251, 32, 252, 253, 254, 255, 256, 257, 261, 39, 258] (by decide +kernel) (by decide +kernel) w h).1
set_option maxRecDepth 20000 in
theorem wsL_law0_r4_in : ∀ w ∈ wsL_law0_r4, w ∈ lw_tbl := fun w h => (goodIn_r (big := lw_tbl) wsL_law0_r4 [259, 260, 559, 560, 561, 562, 511, 563, 564, 565, 566, 568, 11, 569, 570, 572, 12, 573, 555, 556, 557, 558, 328, 329] (by decide +kernel) (by decide +kernel) w h).1
set_option maxRecDepth 20000 in
theorem wsL_law0_r5_in : ∀ w ∈ wsL_law0_r5, w ∈ lw_tbl := fun w h => (goodIn_r (big := lw_tbl) wsL_law0_r5 [330, 331, 332, 333, 334, 335, 346, 40, 336, 338, 5, 339, 340, 341, 342, 343, 344, 345, 229, 234, 235, 236, 237, 238] (by decide +kernel) (by decide +kernel) w h).1
set_option maxRecDepth 20000 in
theorem wsL_law0_r6_in : ∀ w ∈ wsL_law0_r6, w ∈ lw_tbl := fun w h => (goodIn_r (big := lw_tbl) wsL_law0_r6 [239, 240, 362, 363, 364, 365, 574, 575, 576, 577, 578, 580, 13, 581, 582, 583, 584, 366, 367, 368, 369, 370, 371, 372] (by decide +kernel) (by decide +kernel) w h).1
set_option maxRecDepth 20000 in
theorem wsL_law0_r7_in : ∀ w ∈ wsL_law0_r7, w ∈ lw_tbl := fun w h => (goodIn_r (big := lw_tbl) wsL_law0_r7 [61, 585, 586, 587, 588, 374, 375, 376, 377, 378, 379, 380, 63, 589, 590, 591, 592, 382, 383, 384, 385, 386, 387, 388] (by decide +kernel) (by decide +kernel) w h).1
set_option maxRecDepth 20000 in
theorem wsL_law0_r8_in : ∀ w ∈ wsL_law0_r8, w ∈ lw_tbl := fun w h => (goodIn_r (big := lw_tbl) wsL_law0_r8 [185, 186, 187, 188, 189, 159, 160, 161, 162, 164, 0, 165, 166, 167, 168, 190, 192, 1, 193, 124, 125, 41, 126, 127] (by decide +kernel) (by decide +kernel) w h).1
set_option maxRecDepth 20000 in
theorem wsL_law0_r9_in : ∀ w ∈ wsL_law0_r9, w ∈ lw_tbl := fun w h => (goodIn_r (big := lw_tbl) wsL_law0_r9 [128, 129, 593, 594, 595, 596, 597, 599, 14, 600, 609, 611, 610, 42, 601, 603, 15, 604, 605, 607, 16, 608, 390, 391] (by decide +kernel) (by decide +kernel) w h).1
set_option maxRecDepth 20000 in
theorem wsL_law0_r10_in : ∀ w ∈ wsL_law0_r10, w ∈ lw_tbl := fun w h => (goodIn_r (big := lw_tbl) wsL_law0_r10 [392, 393, 394, 395, 396, 612, 613, 614, 615, 397, 398, 399, 400, 401, 402, 403, 616, 617, 618, 619, 404, 405, 406, 407] (by decide +kernel) (by decide +kernel) w h).1
set_option maxRecDepth 20000 in
theorem wsL_law0_r11_in : ∀ w ∈ wsL_law0_r11, w ∈ lw_tbl := fun w h => (goodIn_r (big := lw_tbl) wsL_law0_r11 [408, 409, 410, 411, 220, 221, 412, 151, 152, 153, 620, 621, 622, 623, 413, 414, 415, 416, 417, 418, 419, 158, 241, 242] (by decide +kernel) (by decide +kernel) w h).1
set_option maxRecDepth 20000 in
theorem wsL_law0_r12_in : ∀ w ∈ wsL_law0_r12, w ∈ lw_tbl := fun w h => (goodIn_r (big := lw_tbl) wsL_law0_r12 [243, 244, 245, 624, 625, 626, 627, 420, 421, 422, 423, 424, 425, 426, 246, 247, 248, 249, 150, 216, 217, 218, 141, 628] (by decide +kernel) (by decide +kernel) w h).1
set_option maxRecDepth 20000 in
theorem wsL_law0_r13_in : ∀ w ∈ wsL_law0_r13, w ∈ lw_tbl := fun w h => (goodIn_r (big := lw_tbl) wsL_law0_r13 [629, 630, 631, 632, 634, 17, 635, 524, 636, 638, 18, 639, 640, 642, 19, 643, 104, 105, 106, 107, 644, 645, 646, 647] (by decide +kernel) (by decide +kernel) w h).1
set_option maxRecDepth 20000 in
theorem wsL_law0_r14_in : ∀ w ∈ wsL_law0_r14, w ∈ lw_tbl := fun w h => (goodIn_r (big := lw_tbl) wsL_law0_r14 [108, 109, 110, 111, 648, 649, 650, 651, 112, 113, 114, 115, 652, 653, 654, 655, 116, 117, 118, 119, 656, 657, 658, 659] (by decide +kernel) (by decide +kernel) w h).1
set_option maxRecDepth 20000 in
theorem wsL_law0_r15_in : ∀ w ∈ wsL_law0_r15, w ∈ lw_tbl := fun w h => (goodIn_r (big := lw_tbl) wsL_law0_r15 [120, 121, 122, 123, 660, 661, 662, 663, 664, 666, 20, 667, 427, 428, 429, 430, 431, 432, 433, 146, 147, 148, 149, 668] (by decide +kernel) (by decide +kernel) w h).1
set_option maxRecDepth 20000 in
theorem wsL_law0_r16_in : ∀ w ∈ wsL_law0_r16, w ∈ lw_tbl := fun w h => (goodIn_r (big := lw_tbl) wsL_law0_r16 [669, 670, 671, 672, 674, 21, 675, 435, 436, 437, 438, 439, 440, 441, 212, 213, 214, 215, 676, 677, 678, 679, 680, 681] (by decide +kernel) (by decide +kernel) w h).1
set_option maxRecDepth 20000 in
theorem wsL_law0_r17_in : ∀ w ∈ wsL_law0_r17, w ∈ lw_tbl := fun w h => (goodIn_r (big := lw_tbl) wsL_law0_r17 [682, 683, 685, 22, 686, 687, 227, 43, 228, 442, 443, 444, 445, 446, 447, 448, 222, 223, 224, 225, 226, 688, 689, 690] (by decide +kernel) (by decide +kernel) w h).1
set_option maxRecDepth 20000 in
theorem wsL_law0_r18_in : ∀ w ∈ wsL_law0_r18, w ∈ lw_tbl := fun w h => (goodIn_r (big := lw_tbl) wsL_law0_r18 [691, 130, 131, 132, 133, 134, 135, 136, 137, 138, 139, 140, 692, 693, 694, 695, 696, 698, 23, 699, 142, 143, 144, 145] (by decide +kernel) (by decide +kernel) w h).1
set_option maxRecDepth 20000 in
theorem wsL_law0_r19_in : ∀ w ∈ wsL_law0_r19, w ∈ lw_tbl := fun w h => (goodIn_r (big := lw_tbl) wsL_law0_r19 [700, 701, 702, 703, 704, 706, 24, 707, 154, 155, 156, 157, 708, 709, 710, 711, 712, 714, 25, 715, 169, 170, 171, 172] (by decide +kernel) (by decide +kernel) w h).1
set_option maxRecDepth 20000 in
theorem wsL_law0_r20_in : ∀ w ∈ wsL_law0_r20, w ∈ lw_tbl := fun w h => (goodIn_r (big := lw_tbl) wsL_law0_r20 [173, 174, 175, 176, 716, 717, 718, 719, 720, 722, 26, 723, 177, 178, 179, 180, 181, 182, 183, 184, 724, 725, 726, 727] (by decide +kernel) (by decide +kernel) w h).1
set_option maxRecDepth 20000 in
theorem wsL_law0_r21_in : ∀ w ∈ wsL_law0_r21, w ∈ lw_tbl := fun w h => (goodIn_r (big := lw_tbl) wsL_law0_r21 [728, 730, 27, 731, 732, 734, 28, 735, 449, 450, 451, 452, 453, 454, 455, 456, 458, 6, 459, 736, 737, 738, 739, 740] (by decide +kernel) (by decide +kernel) w h).1
set_option maxRecDepth 20000 in
theorem wsL_law0_r22_in : ∀ w ∈ wsL_law0_r22, w ∈ lw_tbl := fun w h => (goodIn_r (big := lw_tbl) wsL_law0_r22 [742, 29, 743, 460, 461, 462, 463, 464, 465, 466, 467, 469, 7, 470, 744, 745, 746, 747, 748, 750, 30, 751, 752, 754] (by decide +kernel) (by decide +kernel) w h).1
set_option maxRecDepth 20000 in
theorem wsL_law0_r23_in : ∀ w ∈ wsL_law0_r23, w ∈ lw_tbl := fun w h => (goodIn_r (big := lw_tbl) wsL_law0_r23 [31, 755, 471, 472, 473, 474, 475, 476, 477, 478, 480, 8, 481, 59, 482, 484, 9, 485, 756, 757, 758, 759, 486, 487] (by decide +kernel) (by decide +kernel) w h).1
set_option maxRecDepth 20000 in
theorem wsL_law0_r24_in : ∀ w ∈ wsL_law0_r24, w ∈ lw_tbl := fun w h => (goodIn_r (big := lw_tbl) wsL_law0_r24 [488, 489, 490, 491, 492, 760, 761, 762, 763, 494, 495, 496, 497, 498, 499, 500, 764, 765, 766, 767, 194, 195, 196, 197] (by decide +kernel) (by decide +kernel) w h).1
set_option maxRecDepth 20000 in
theorem wsL_law0_r25_in : ∀ w ∈ wsL_law0_r25, w ∈ lw_tbl := fun w h => (goodIn_r (big := lw_tbl) wsL_law0_r25 [198, 200, 2, 201, 202, 203, 204, 205, 206, 207, 208, 209, 210, 211, 230, 232, 3, 233, 768, 769, 770, 771, 772, 773] (by decide +kernel) (by decide +kernel) w h).1
theorem z_ap {big a b : List Cond} (h1 : ∀ w ∈ a, w ∈ big) (h2 : ∀ w ∈ b, w ∈ big) : ∀ w ∈ a ++ b, w ∈ big := fun w h => (List.mem_append.mp h).elim (h1 w) (h2 w)
set_option maxRecDepth 20000 in
theorem wsX10_in : ∀ w ∈ wsX10, w ∈ lw_tbl := fun w h => (goodIn_r (big := lw_tbl) wsX10 [93, 95, 97, 99, 101] (by decide +kernel) (by decide +kernel) w h).1
set_option maxRecDepth 20000 in
theorem wsX20_in : ∀ w ∈ wsX20, w ∈ lw_tbl := fun w h => (goodIn_r (big := lw_tbl) wsX20 [525, 527, 529, 531, 533, 535, 537, 539, 541, 543, 545, 547, 549, 551] (by decide +kernel) (by decide +kernel) w h).1
set_option maxRecDepth 20000 in
theorem wsX00_in : ∀ w ∈ wsX00, w ∈ lw_tbl := fun w h => (goodIn_r (big := lw_tbl) wsX00 [67, 69, 71, 73, 75, 77] (by decide +kernel) (by decide +kernel) w h).1
theorem wsL_law_in0 : ∀ w ∈ wsL_law0, w ∈ lw_tbl := z_ap (z_ap (z_ap (z_ap (z_ap wsL_law0_r1_in (z_ap wsL_law0_r2_in (z_ap wsL_law0_r3_in (z_ap wsL_law0_r4_in (z_ap wsL_law0_r5_in (z_ap wsL_law0_r6_in (z_ap wsL_law0_r7_in (z_ap wsL_law0_r8_in (z_ap wsL_law0_r9_in (z_ap wsL_law0_r10_in (z_ap wsL_law0_r11_in (z_ap wsL_law0_r12_in (z_ap wsL_law0_r13_in (z_ap wsL_law0_r14_in (z_ap wsL_law0_r15_in (z_ap wsL_law0_r16_in (z_ap wsL_law0_r17_in (z_ap wsL_law0_r18_in (z_ap wsL_law0_r19_in (z_ap wsL_law0_r20_in (z_ap wsL_law0_r21_in (z_ap wsL_law0_r22_in (z_ap wsL_law0_r23_in (z_ap wsL_law0_r24_in (wsL_law0_r25_in))))))))))))))))))))))))) wsX10_in) wsX20_in) wsX00_in) (fun w h => by cases h)
theorem wsL_law_x0 : ∀ w ∈ (vx_atS RX1 41 "java/lang/IllegalArgumentException" ["java/lang/RuntimeException", "java/lang/Exception"]).filter goodWord, w ∈ lw_tbl := by decide +kernel
theorem wsL_law_x1 : ∀ w ∈ (vx_atS RX1 55 "java/lang/IndexOutOfBoundsException" ["java/lang/RuntimeException", "java/lang/Exception"]).filter goodWord, w ∈ lw_tbl := by decide +kernel
theorem wsL_law_in : ∀ w ∈ wsL_law, w ∈ lw_tbl := fun w h => (List.mem_append.mp h).elim (fun h => (List.mem_append.mp h).elim (fun h => wsL_law_in0 w h) (fun h => wsL_law_x0 w h)) (fun h => wsL_law_x1 w h)
theorem inlX0 : ∀ w ∈ wsX00, w ∈ wsL_law := fun _ h => List.mem_append_left _ (List.mem_append_left _ (List.mem_append_left _ (List.mem_append_right _ h)))
theorem inX0 : ∀ w ∈ wsX00, w ∈ lw_tbl := fun w h => wsL_law_in w (inlX0 w h)
theorem inlX1 : ∀ w ∈ wsX10, w ∈ wsL_law := fun _ h => List.mem_append_left _ (List.mem_append_left _ (List.mem_append_left _ (List.mem_append_left _ (List.mem_append_left _ (List.mem_append_right _ h)))))
theorem inX1 : ∀ w ∈ wsX10, w ∈ lw_tbl := fun w h => wsL_law_in w (inlX1 w h)
theorem inlX2 : ∀ w ∈ wsX20, w ∈ wsL_law := fun _ h => List.mem_append_left _ (List.mem_append_left _ (List.mem_append_left _ (List.mem_append_left _ (List.mem_append_right _ h))))
theorem inX2 : ∀ w ∈ wsX20, w ∈ lw_tbl := fun w h => wsL_law_in w (inlX2 w h)
theorem inJ6 : ∀ w ∈ wsJ60, w ∈ lw_tbl := by decide +kernel
theorem inJ9 : ∀ w ∈ wsJ90, w ∈ lw_tbl := by decide +kernel
theorem inJ0 : ∀ w ∈ wsJ00, w ∈ lw_tbl := by decide +kernel
theorem inJ10 : ∀ w ∈ wsJ100, w ∈ lw_tbl := by decide +kernel
end
section
theorem dX0_init_0 : decode cX0_init 0 = .ok (.aload_n 0, 1) := by decide +kernel
theorem dX0_init_1 : decode cX0_init 1 = .ok (.invokespecial 3, 3) := by decide +kernel
theorem dX0_init_4 : decode cX0_init 4 = .ok (.aload_n 0, 1) := by decide +kernel
theorem dX0_init_5 : decode cX0_init 5 = .ok (.iconst 2, 1) := by decide +kernel
theorem dX0_init_6 : decode cX0_init 6 = .ok (.putfield 9, 3) := by decide +kernel
theorem dX0_init_9 : decode cX0_init 9 = .ok (.aload_n 0, 1) := by decide +kernel
theorem dX0_init_10 : decode cX0_init 10 = .ok (.iconst 5, 1) := by decide +kernel
theorem dX0_init_11 : decode cX0_init 11 = .ok (.newarray .int, 2) := by decide +kernel
theorem dX0_init_13 : decode cX0_init 13 = .ok (.putfield 15, 3) := by decide +kernel
theorem dX0_init_16 : decode cX0_init 16 = .ok (.aload_n 0, 1) := by decide +kernel
theorem dX0_init_17 : decode cX0_init 17 = .ok (.iconst 5, 1) := by decide +kernel
theorem dX0_init_18 : decode cX0_init 18 = .ok (.newarray .int, 2) := by decide +kernel
theorem dX0_init_20 : decode cX0_init 20 = .ok (.putfield 19, 3) := by decide +kernel
theorem dX0_init_23 : decode cX0_init 23 = .ok (.aload_n 0, 1) := by decide +kernel
theorem dX0_init_24 : decode cX0_init 24 = .ok (.iconst 5, 1) := by decide +kernel
theorem dX0_init_25 : decode cX0_init 25 = .ok (.newarray .int, 2) := by decide +kernel
theorem dX0_init_27 : decode cX0_init 27 = .ok (.putfield 22, 3) := by decide +kernel
theorem dX0_init_30 : decode cX0_init 30 = .ok (.return_, 1) := by decide +kernel
set_option maxRecDepth 20000 in
theorem ggX0_clear_X1_cell : GoodIn wsX0_clear wsX1_cell := goodIn_r _ [6] (by decide +kernel) (by decide +kernel)
set_option maxRecDepth 20000 in
theorem gX0_clear_X1_cell_n28 : GoodIn wsX0_clear (wsX1_cell) := ggX0_clear_X1_cell
theorem dX0_clear_0 : decode cX0_clear 0 = .ok (.aload_n 0, 1) := by decide +kernel
theorem dX0_clear_1 : decode cX0_clear 1 = .ok (.iconst 0, 1) := by decide +kernel
theorem dX0_clear_2 : decode cX0_clear 2 = .ok (.putfield 25, 3) := by decide +kernel
theorem dX0_clear_5 : decode cX0_clear 5 = .ok (.iconst 0, 1) := by decide +kernel
theorem dX0_clear_6 : decode cX0_clear 6 = .ok (.istore_n 3, 1) := by decide +kernel
theorem dX0_clear_7 : decode cX0_clear 7 = .ok (.iload_n 3, 1) := by decide +kernel
theorem dX0_clear_8 : decode cX0_clear 8 = .ok (.iload_n 2, 1) := by decide +kernel
theorem dX0_clear_9 : decode cX0_clear 9 = .ok (.if_icmp .ge 39, 3) := by decide +kernel
theorem dX0_clear_12 : decode cX0_clear 12 = .ok (.iconst 0, 1) := by decide +kernel
theorem dX0_clear_13 : decode cX0_clear 13 = .ok (.istore 4, 2) := by decide +kernel
theorem dX0_clear_15 : decode cX0_clear 15 = .ok (.iload 4, 2) := by decide +kernel
theorem dX0_clear_17 : decode cX0_clear 17 = .ok (.iload_n 1, 1) := by decide +kernel
theorem dX0_clear_18 : decode cX0_clear 18 = .ok (.if_icmp .ge 24, 3) := by decide +kernel
theorem dX0_clear_21 : decode cX0_clear 21 = .ok (.aload_n 0, 1) := by decide +kernel
theorem dX0_clear_22 : decode cX0_clear 22 = .ok (.dup, 1) := by decide +kernel
theorem dX0_clear_23 : decode cX0_clear 23 = .ok (.getfield 25, 3) := by decide +kernel
theorem dX0_clear_26 : decode cX0_clear 26 = .ok (.iload 4, 2) := by decide +kernel
theorem dX0_clear_28 : decode cX0_clear 28 = .ok (.iload_n 3, 1) := by decide +kernel
theorem dX0_clear_29 : decode cX0_clear 29 = .ok (.invokestatic 28, 3) := by decide +kernel
theorem dX0_clear_32 : decode cX0_clear 32 = .ok (.ior, 1) := by decide +kernel
theorem dX0_clear_33 : decode cX0_clear 33 = .ok (.putfield 25, 3) := by decide +kernel
theorem dX0_clear_36 : decode cX0_clear 36 = .ok (.iinc 4 1, 3) := by decide +kernel
theorem dX0_clear_39 : decode cX0_clear 39 = .ok (.goto (-24), 3) := by decide +kernel
theorem dX0_clear_42 : decode cX0_clear 42 = .ok (.iinc 3 1, 3) := by decide +kernel
theorem dX0_clear_45 : decode cX0_clear 45 = .ok (.goto (-38), 3) := by decide +kernel
theorem dX0_clear_48 : decode cX0_clear 48 = .ok (.aload_n 0, 1) := by decide +kernel
theorem dX0_clear_49 : decode cX0_clear 49 = .ok (.iconst 0, 1) := by decide +kernel
theorem dX0_clear_50 : decode cX0_clear 50 = .ok (.putfield 32, 3) := by decide +kernel
theorem dX0_clear_53 : decode cX0_clear 53 = .ok (.iconst 0, 1) := by decide +kernel
theorem dX0_clear_54 : decode cX0_clear 54 = .ok (.istore_n 3, 1) := by decide +kernel
theorem dX0_clear_55 : decode cX0_clear 55 = .ok (.iload_n 3, 1) := by decide +kernel
theorem dX0_clear_56 : decode cX0_clear 56 = .ok (.iconst 5, 1) := by decide +kernel
theorem dX0_clear_57 : decode cX0_clear 57 = .ok (.if_icmp .ge 27, 3) := by decide +kernel
theorem dX0_clear_60 : decode cX0_clear 60 = .ok (.aload_n 0, 1) := by decide +kernel
theorem dX0_clear_61 : decode cX0_clear 61 = .ok (.getfield 15, 3) := by decide +kernel
theorem dX0_clear_64 : decode cX0_clear 64 = .ok (.iload_n 3, 1) := by decide +kernel
theorem dX0_clear_65 : decode cX0_clear 65 = .ok (.iload_n 3, 1) := by decide +kernel
theorem dX0_clear_66 : decode cX0_clear 66 = .ok (.ifCond .ne 10, 3) := by decide +kernel
theorem dX0_clear_69 : decode cX0_clear 69 = .ok (.aload_n 0, 1) := by decide +kernel
theorem dX0_clear_70 : decode cX0_clear 70 = .ok (.getfield 25, 3) := by decide +kernel
theorem dX0_clear_73 : decode cX0_clear 73 = .ok (.goto 4, 3) := by decide +kernel
theorem dX0_clear_76 : decode cX0_clear 76 = .ok (.iconst 0, 1) := by decide +kernel
theorem dX0_clear_77 : decode cX0_clear 77 = .ok (.iastore, 1) := by decide +kernel
theorem dX0_clear_78 : decode cX0_clear 78 = .ok (.iinc 3 1, 3) := by decide +kernel
theorem dX0_clear_81 : decode cX0_clear 81 = .ok (.goto (-26), 3) := by decide +kernel
theorem dX0_clear_84 : decode cX0_clear 84 = .ok (.return_, 1) := by decide +kernel
theorem dX0_copyFrom_0 : decode cX0_copyFrom 0 = .ok (.aload_n 0, 1) := by decide +kernel
theorem dX0_copyFrom_1 : decode cX0_copyFrom 1 = .ok (.aload_n 1, 1) := by decide +kernel
theorem dX0_copyFrom_2 : decode cX0_copyFrom 2 = .ok (.getfield 25, 3) := by decide +kernel
theorem dX0_copyFrom_5 : decode cX0_copyFrom 5 = .ok (.putfield 25, 3) := by decide +kernel
theorem dX0_copyFrom_8 : decode cX0_copyFrom 8 = .ok (.aload_n 0, 1) := by decide +kernel
theorem dX0_copyFrom_9 : decode cX0_copyFrom 9 = .ok (.aload_n 1, 1) := by decide +kernel
theorem dX0_copyFrom_10 : decode cX0_copyFrom 10 = .ok (.getfield 32, 3) := by decide +kernel
theorem dX0_copyFrom_13 : decode cX0_copyFrom 13 = .ok (.putfield 32, 3) := by decide +kernel
theorem dX0_copyFrom_16 : decode cX0_copyFrom 16 = .ok (.aload_n 0, 1) := by decide +kernel
theorem dX0_copyFrom_17 : decode cX0_copyFrom 17 = .ok (.aload_n 1, 1) := by decide +kernel
theorem dX0_copyFrom_18 : decode cX0_copyFrom 18 = .ok (.getfield 9, 3) := by decide +kernel
theorem dX0_copyFrom_21 : decode cX0_copyFrom 21 = .ok (.putfield 9, 3) := by decide +kernel
theorem dX0_copyFrom_24 : decode cX0_copyFrom 24 = .ok (.iconst 0, 1) := by decide +kernel
theorem dX0_copyFrom_25 : decode cX0_copyFrom 25 = .ok (.istore_n 2, 1) := by decide +kernel
theorem dX0_copyFrom_26 : decode cX0_copyFrom 26 = .ok (.iload_n 2, 1) := by decide +kernel
theorem dX0_copyFrom_27 : decode cX0_copyFrom 27 = .ok (.iconst 5, 1) := by decide +kernel
theorem dX0_copyFrom_28 : decode cX0_copyFrom 28 = .ok (.if_icmp .ge 21, 3) := by decide +kernel
theorem dX0_copyFrom_31 : decode cX0_copyFrom 31 = .ok (.aload_n 0, 1) := by decide +kernel
theorem dX0_copyFrom_32 : decode cX0_copyFrom 32 = .ok (.getfield 15, 3) := by decide +kernel
theorem dX0_copyFrom_35 : decode cX0_copyFrom 35 = .ok (.iload_n 2, 1) := by decide +kernel
theorem dX0_copyFrom_36 : decode cX0_copyFrom 36 = .ok (.aload_n 1, 1) := by decide +kernel
theorem dX0_copyFrom_37 : decode cX0_copyFrom 37 = .ok (.getfield 15, 3) := by decide +kernel
theorem dX0_copyFrom_40 : decode cX0_copyFrom 40 = .ok (.iload_n 2, 1) := by decide +kernel
theorem dX0_copyFrom_41 : decode cX0_copyFrom 41 = .ok (.iaload, 1) := by decide +kernel
theorem dX0_copyFrom_42 : decode cX0_copyFrom 42 = .ok (.iastore, 1) := by decide +kernel
theorem dX0_copyFrom_43 : decode cX0_copyFrom 43 = .ok (.iinc 2 1, 3) := by decide +kernel
theorem dX0_copyFrom_46 : decode cX0_copyFrom 46 = .ok (.goto (-20), 3) := by decide +kernel
theorem dX0_copyFrom_49 : decode cX0_copyFrom 49 = .ok (.return_, 1) := by decide +kernel
theorem dX0_cellsWith_0 : decode cX0_cellsWith 0 = .ok (.iload_n 1, 1) := by decide +kernel
theorem dX0_cellsWith_1 : decode cX0_cellsWith 1 = .ok (.ifCond .lt 17, 3) := by decide +kernel
theorem dX0_cellsWith_4 : decode cX0_cellsWith 4 = .ok (.iload_n 1, 1) := by decide +kernel
theorem dX0_cellsWith_5 : decode cX0_cellsWith 5 = .ok (.iconst 5, 1) := by decide +kernel
theorem dX0_cellsWith_6 : decode cX0_cellsWith 6 = .ok (.if_icmp .ge 12, 3) := by decide +kernel
theorem dX0_cellsWith_9 : decode cX0_cellsWith 9 = .ok (.aload_n 0, 1) := by decide +kernel
theorem dX0_cellsWith_10 : decode cX0_cellsWith 10 = .ok (.getfield 15, 3) := by decide +kernel
theorem dX0_cellsWith_13 : decode cX0_cellsWith 13 = .ok (.iload_n 1, 1) := by decide +kernel
theorem dX0_cellsWith_14 : decode cX0_cellsWith 14 = .ok (.iaload, 1) := by decide +kernel
theorem dX0_cellsWith_15 : decode cX0_cellsWith 15 = .ok (.goto 4, 3) := by decide +kernel
theorem dX0_cellsWith_18 : decode cX0_cellsWith 18 = .ok (.iconst 0, 1) := by decide +kernel
theorem dX0_cellsWith_19 : decode cX0_cellsWith 19 = .ok (.ireturn, 1) := by decide +kernel
set_option maxRecDepth 20000 in
theorem ggX0_count_X0_cellsWith : GoodIn wsX0_count wsX0_cellsWith := goodIn_r _ [5, 6, 14, 15, 16, 17, 18, 19] (by decide +kernel) (by decide +kernel)
set_option maxRecDepth 20000 in
theorem gX0_count_X0_cellsWith : GoodIn wsX0_count (wsV RX0 35 RX0 yX0_cellsWith wsX0_cellsWith) := goodIn_app (goodIn_of _ (by decide +kernel)) ggX0_count_X0_cellsWith
set_option maxRecDepth 20000 in
theorem ggX0_count_J6_bitCount_0f7a4 : GoodIn wsX0_count wsJ6_bitCount_0f7a4 := goodIn_r _ [10, 11, 12, 13] (by decide +kernel) (by decide +kernel)
set_option maxRecDepth 20000 in
theorem gX0_count_J6_bitCount_0f7a4 : GoodIn wsX0_count (va_wsS RX0 39 yJ6_bitCount_0f7a4 wsJ6_bitCount_0f7a4) := goodIn_app (goodIn_of _ (by decide +kernel)) ggX0_count_J6_bitCount_0f7a4
theorem dX0_count_0 : decode cX0_count 0 = .ok (.aload_n 0, 1) := by decide +kernel
theorem dX0_count_1 : decode cX0_count 1 = .ok (.iload_n 1, 1) := by decide +kernel
theorem dX0_count_2 : decode cX0_count 2 = .ok (.invokevirtual 35, 3) := by decide +kernel
theorem dX0_count_5 : decode cX0_count 5 = .ok (.invokestatic 39, 3) := by decide +kernel
theorem dX0_count_8 : decode cX0_count 8 = .ok (.ireturn, 1) := by decide +kernel
set_option maxRecDepth 20000 in
theorem ggX0_isAll_X0_cellsWith : GoodIn wsX0_isAll wsX0_cellsWith := goodIn_r _ [6, 7, 8, 9, 10, 11, 12, 13] (by decide +kernel) (by decide +kernel)
set_option maxRecDepth 20000 in
theorem gX0_isAll_X0_cellsWith : GoodIn wsX0_isAll (wsV RX0 35 RX0 yX0_cellsWith wsX0_cellsWith) := goodIn_app (goodIn_of _ (by decide +kernel)) ggX0_isAll_X0_cellsWith
theorem dX0_isAll_0 : decode cX0_isAll 0 = .ok (.aload_n 0, 1) := by decide +kernel
theorem dX0_isAll_1 : decode cX0_isAll 1 = .ok (.iload_n 1, 1) := by decide +kernel
theorem dX0_isAll_2 : decode cX0_isAll 2 = .ok (.invokevirtual 35, 3) := by decide +kernel
theorem dX0_isAll_5 : decode cX0_isAll 5 = .ok (.aload_n 0, 1) := by decide +kernel
theorem dX0_isAll_6 : decode cX0_isAll 6 = .ok (.getfield 25, 3) := by decide +kernel
theorem dX0_isAll_9 : decode cX0_isAll 9 = .ok (.if_icmp .ne 7, 3) := by decide +kernel
theorem dX0_isAll_12 : decode cX0_isAll 12 = .ok (.iconst 1, 1) := by decide +kernel
theorem dX0_isAll_13 : decode cX0_isAll 13 = .ok (.goto 4, 3) := by decide +kernel
theorem dX0_isAll_16 : decode cX0_isAll 16 = .ok (.iconst 0, 1) := by decide +kernel
theorem dX0_isAll_17 : decode cX0_isAll 17 = .ok (.ireturn, 1) := by decide +kernel
set_option maxRecDepth 20000 in
theorem ggX0_colourOf_X0_firstColourWith : GoodIn wsX0_colourOf wsX0_firstColourWith := goodIn_r _ [5] (by decide +kernel) (by decide +kernel)
set_option maxRecDepth 20000 in
theorem gX0_colourOf_X0_firstColourWith : GoodIn wsX0_colourOf (va_wsS RX0 44 yX0_firstColourWith wsX0_firstColourWith) := goodIn_app (goodIn_of _ (by decide +kernel)) ggX0_colourOf_X0_firstColourWith
theorem dX0_colourOf_0 : decode cX0_colourOf 0 = .ok (.iload_n 1, 1) := by decide +kernel
theorem dX0_colourOf_1 : decode cX0_colourOf 1 = .ok (.aload_n 0, 1) := by decide +kernel
theorem dX0_colourOf_2 : decode cX0_colourOf 2 = .ok (.getfield 15, 3) := by decide +kernel
theorem dX0_colourOf_5 : decode cX0_colourOf 5 = .ok (.invokestatic 44, 3) := by decide +kernel
theorem dX0_colourOf_8 : decode cX0_colourOf 8 = .ok (.ireturn, 1) := by decide +kernel
theorem dX0_dye_0 : decode cX0_dye 0 = .ok (.iconst 0, 1) := by decide +kernel
theorem dX0_dye_1 : decode cX0_dye 1 = .ok (.istore_n 3, 1) := by decide +kernel
theorem dX0_dye_2 : decode cX0_dye 2 = .ok (.iload_n 3, 1) := by decide +kernel
theorem dX0_dye_3 : decode cX0_dye 3 = .ok (.iconst 5, 1) := by decide +kernel
theorem dX0_dye_4 : decode cX0_dye 4 = .ok (.if_icmp .ge 41, 3) := by decide +kernel
theorem dX0_dye_7 : decode cX0_dye 7 = .ok (.aload_n 0, 1) := by decide +kernel
theorem dX0_dye_8 : decode cX0_dye 8 = .ok (.getfield 15, 3) := by decide +kernel
theorem dX0_dye_11 : decode cX0_dye 11 = .ok (.iload_n 3, 1) := by decide +kernel
theorem dX0_dye_12 : decode cX0_dye 12 = .ok (.iload_n 3, 1) := by decide +kernel
theorem dX0_dye_13 : decode cX0_dye 13 = .ok (.iload_n 2, 1) := by decide +kernel
theorem dX0_dye_14 : decode cX0_dye 14 = .ok (.if_icmp .ne 14, 3) := by decide +kernel
theorem dX0_dye_17 : decode cX0_dye 17 = .ok (.aload_n 0, 1) := by decide +kernel
theorem dX0_dye_18 : decode cX0_dye 18 = .ok (.getfield 15, 3) := by decide +kernel
theorem dX0_dye_21 : decode cX0_dye 21 = .ok (.iload_n 3, 1) := by decide +kernel
theorem dX0_dye_22 : decode cX0_dye 22 = .ok (.iaload, 1) := by decide +kernel
theorem dX0_dye_23 : decode cX0_dye 23 = .ok (.iload_n 1, 1) := by decide +kernel
theorem dX0_dye_24 : decode cX0_dye 24 = .ok (.ior, 1) := by decide +kernel
theorem dX0_dye_25 : decode cX0_dye 25 = .ok (.goto 13, 3) := by decide +kernel
theorem dX0_dye_28 : decode cX0_dye 28 = .ok (.aload_n 0, 1) := by decide +kernel
theorem dX0_dye_29 : decode cX0_dye 29 = .ok (.getfield 15, 3) := by decide +kernel
theorem dX0_dye_32 : decode cX0_dye 32 = .ok (.iload_n 3, 1) := by decide +kernel
theorem dX0_dye_33 : decode cX0_dye 33 = .ok (.iaload, 1) := by decide +kernel
theorem dX0_dye_34 : decode cX0_dye 34 = .ok (.iload_n 1, 1) := by decide +kernel
theorem dX0_dye_35 : decode cX0_dye 35 = .ok (.iconst (-1), 1) := by decide +kernel
theorem dX0_dye_36 : decode cX0_dye 36 = .ok (.ixor, 1) := by decide +kernel
theorem dX0_dye_37 : decode cX0_dye 37 = .ok (.iand, 1) := by decide +kernel
theorem dX0_dye_38 : decode cX0_dye 38 = .ok (.iastore, 1) := by decide +kernel
theorem dX0_dye_39 : decode cX0_dye 39 = .ok (.iinc 3 1, 3) := by decide +kernel
theorem dX0_dye_42 : decode cX0_dye 42 = .ok (.goto (-40), 3) := by decide +kernel
theorem dX0_dye_45 : decode cX0_dye 45 = .ok (.return_, 1) := by decide +kernel
set_option maxRecDepth 20000 in
theorem ggX0_surge_X0_foresee : GoodIn wsX0_surge wsX0_foresee := goodIn_r _ [5, 6, 7, 8, 9, 10, 11, 4, 12, 13, 14, 15, 16, 17, 18, 23, 24, 25, 26, 27, 28] (by decide +kernel) (by decide +kernel)
set_option maxRecDepth 20000 in
theorem gX0_surge_X0_foresee : GoodIn wsX0_surge (wsV RX0 48 RX0 yX0_foresee wsX0_foresee) := goodIn_app (goodIn_of _ (by decide +kernel)) ggX0_surge_X0_foresee
set_option maxRecDepth 20000 in
theorem ggX0_surge_X0_takeGains : GoodIn wsX0_surge wsX0_takeGains := goodIn_r _ [22, 8, 6, 23, 24, 25, 26, 27, 28] (by decide +kernel) (by decide +kernel)
set_option maxRecDepth 20000 in
theorem gX0_surge_X0_takeGains : GoodIn wsX0_surge (wsV RX0 52 RX0 yX0_takeGains wsX0_takeGains) := goodIn_app (goodIn_of _ (by decide +kernel)) ggX0_surge_X0_takeGains
theorem dX0_surge_0 : decode cX0_surge 0 = .ok (.iconst 0, 1) := by decide +kernel
theorem dX0_surge_1 : decode cX0_surge 1 = .ok (.istore_n 2, 1) := by decide +kernel
theorem dX0_surge_2 : decode cX0_surge 2 = .ok (.iconst 0, 1) := by decide +kernel
theorem dX0_surge_3 : decode cX0_surge 3 = .ok (.istore_n 3, 1) := by decide +kernel
theorem dX0_surge_4 : decode cX0_surge 4 = .ok (.iload_n 3, 1) := by decide +kernel
theorem dX0_surge_5 : decode cX0_surge 5 = .ok (.iload_n 1, 1) := by decide +kernel
theorem dX0_surge_6 : decode cX0_surge 6 = .ok (.if_icmp .ge 25, 3) := by decide +kernel
theorem dX0_surge_9 : decode cX0_surge 9 = .ok (.aload_n 0, 1) := by decide +kernel
theorem dX0_surge_10 : decode cX0_surge 10 = .ok (.invokevirtual 48, 3) := by decide +kernel
theorem dX0_surge_13 : decode cX0_surge 13 = .ok (.istore_n 2, 1) := by decide +kernel
theorem dX0_surge_14 : decode cX0_surge 14 = .ok (.iload_n 2, 1) := by decide +kernel
theorem dX0_surge_15 : decode cX0_surge 15 = .ok (.ifCond .ne 5, 3) := by decide +kernel
theorem dX0_surge_18 : decode cX0_surge 18 = .ok (.iconst 0, 1) := by decide +kernel
theorem dX0_surge_19 : decode cX0_surge 19 = .ok (.ireturn, 1) := by decide +kernel
theorem dX0_surge_20 : decode cX0_surge 20 = .ok (.aload_n 0, 1) := by decide +kernel
theorem dX0_surge_21 : decode cX0_surge 21 = .ok (.iload_n 2, 1) := by decide +kernel
theorem dX0_surge_22 : decode cX0_surge 22 = .ok (.invokevirtual 52, 3) := by decide +kernel
theorem dX0_surge_25 : decode cX0_surge 25 = .ok (.iinc 3 1, 3) := by decide +kernel
theorem dX0_surge_28 : decode cX0_surge 28 = .ok (.goto (-24), 3) := by decide +kernel
theorem dX0_surge_31 : decode cX0_surge 31 = .ok (.iload_n 2, 1) := by decide +kernel
theorem dX0_surge_32 : decode cX0_surge 32 = .ok (.ireturn, 1) := by decide +kernel
set_option maxRecDepth 20000 in
theorem ggX0_foresee_X0_addGains : GoodIn wsX0_foresee wsX0_addGains := goodIn_r _ [8, 9, 3, 1, 10, 11, 12, 13, 7, 14, 15, 16, 17, 18, 19, 20] (by decide +kernel) (by decide +kernel)
set_option maxRecDepth 20000 in
theorem gX0_foresee_X0_addGains : GoodIn wsX0_foresee (wsV RX0 56 RX0 yX0_addGains wsX0_addGains) := goodIn_app (goodIn_of _ (by decide +kernel)) ggX0_foresee_X0_addGains
theorem dX0_foresee_0 : decode cX0_foresee 0 = .ok (.iconst 0, 1) := by decide +kernel
theorem dX0_foresee_1 : decode cX0_foresee 1 = .ok (.istore_n 1, 1) := by decide +kernel
theorem dX0_foresee_2 : decode cX0_foresee 2 = .ok (.iload_n 1, 1) := by decide +kernel
theorem dX0_foresee_3 : decode cX0_foresee 3 = .ok (.iconst 5, 1) := by decide +kernel
theorem dX0_foresee_4 : decode cX0_foresee 4 = .ok (.if_icmp .ge 16, 3) := by decide +kernel
theorem dX0_foresee_7 : decode cX0_foresee 7 = .ok (.aload_n 0, 1) := by decide +kernel
theorem dX0_foresee_8 : decode cX0_foresee 8 = .ok (.getfield 22, 3) := by decide +kernel
theorem dX0_foresee_11 : decode cX0_foresee 11 = .ok (.iload_n 1, 1) := by decide +kernel
theorem dX0_foresee_12 : decode cX0_foresee 12 = .ok (.iconst 0, 1) := by decide +kernel
theorem dX0_foresee_13 : decode cX0_foresee 13 = .ok (.iastore, 1) := by decide +kernel
theorem dX0_foresee_14 : decode cX0_foresee 14 = .ok (.iinc 1 1, 3) := by decide +kernel
theorem dX0_foresee_17 : decode cX0_foresee 17 = .ok (.goto (-15), 3) := by decide +kernel
theorem dX0_foresee_20 : decode cX0_foresee 20 = .ok (.aload_n 0, 1) := by decide +kernel
theorem dX0_foresee_21 : decode cX0_foresee 21 = .ok (.getfield 9, 3) := by decide +kernel
theorem dX0_foresee_24 : decode cX0_foresee 24 = .ok (.istore_n 1, 1) := by decide +kernel
theorem dX0_foresee_25 : decode cX0_foresee 25 = .ok (.iload_n 1, 1) := by decide +kernel
theorem dX0_foresee_26 : decode cX0_foresee 26 = .ok (.iconst 4, 1) := by decide +kernel
theorem dX0_foresee_27 : decode cX0_foresee 27 = .ok (.if_icmp .gt 14, 3) := by decide +kernel
theorem dX0_foresee_30 : decode cX0_foresee 30 = .ok (.aload_n 0, 1) := by decide +kernel
theorem dX0_foresee_31 : decode cX0_foresee 31 = .ok (.iload_n 1, 1) := by decide +kernel
theorem dX0_foresee_32 : decode cX0_foresee 32 = .ok (.invokevirtual 56, 3) := by decide +kernel
theorem dX0_foresee_35 : decode cX0_foresee 35 = .ok (.iinc 1 1, 3) := by decide +kernel
theorem dX0_foresee_38 : decode cX0_foresee 38 = .ok (.goto (-13), 3) := by decide +kernel
theorem dX0_foresee_41 : decode cX0_foresee 41 = .ok (.iconst 0, 1) := by decide +kernel
theorem dX0_foresee_42 : decode cX0_foresee 42 = .ok (.istore_n 1, 1) := by decide +kernel
theorem dX0_foresee_43 : decode cX0_foresee 43 = .ok (.iconst 1, 1) := by decide +kernel
theorem dX0_foresee_44 : decode cX0_foresee 44 = .ok (.istore_n 2, 1) := by decide +kernel
theorem dX0_foresee_45 : decode cX0_foresee 45 = .ok (.iload_n 2, 1) := by decide +kernel
theorem dX0_foresee_46 : decode cX0_foresee 46 = .ok (.iconst 5, 1) := by decide +kernel
theorem dX0_foresee_47 : decode cX0_foresee 47 = .ok (.if_icmp .ge 27, 3) := by decide +kernel
theorem dX0_foresee_50 : decode cX0_foresee 50 = .ok (.iload_n 1, 1) := by decide +kernel
theorem dX0_foresee_51 : decode cX0_foresee 51 = .ok (.aload_n 0, 1) := by decide +kernel
theorem dX0_foresee_52 : decode cX0_foresee 52 = .ok (.getfield 22, 3) := by decide +kernel
theorem dX0_foresee_55 : decode cX0_foresee 55 = .ok (.iload_n 2, 1) := by decide +kernel
theorem dX0_foresee_56 : decode cX0_foresee 56 = .ok (.iaload, 1) := by decide +kernel
theorem dX0_foresee_57 : decode cX0_foresee 57 = .ok (.aload_n 0, 1) := by decide +kernel
theorem dX0_foresee_58 : decode cX0_foresee 58 = .ok (.getfield 15, 3) := by decide +kernel
theorem dX0_foresee_61 : decode cX0_foresee 61 = .ok (.iload_n 2, 1) := by decide +kernel
theorem dX0_foresee_62 : decode cX0_foresee 62 = .ok (.iaload, 1) := by decide +kernel
theorem dX0_foresee_63 : decode cX0_foresee 63 = .ok (.iconst (-1), 1) := by decide +kernel
theorem dX0_foresee_64 : decode cX0_foresee 64 = .ok (.ixor, 1) := by decide +kernel
theorem dX0_foresee_65 : decode cX0_foresee 65 = .ok (.iand, 1) := by decide +kernel
theorem dX0_foresee_66 : decode cX0_foresee 66 = .ok (.ior, 1) := by decide +kernel
theorem dX0_foresee_67 : decode cX0_foresee 67 = .ok (.istore_n 1, 1) := by decide +kernel
theorem dX0_foresee_68 : decode cX0_foresee 68 = .ok (.iinc 2 1, 3) := by decide +kernel
theorem dX0_foresee_71 : decode cX0_foresee 71 = .ok (.goto (-26), 3) := by decide +kernel
theorem dX0_foresee_74 : decode cX0_foresee 74 = .ok (.iload_n 1, 1) := by decide +kernel
theorem dX0_foresee_75 : decode cX0_foresee 75 = .ok (.ireturn, 1) := by decide +kernel
set_option maxRecDepth 20000 in
theorem ggX0_foreseenColourOf_X0_firstColourWith : GoodIn wsX0_foreseenColourOf wsX0_firstColourWith := goodIn_r _ [5] (by decide +kernel) (by decide +kernel)
set_option maxRecDepth 20000 in
theorem gX0_foreseenColourOf_X0_firstColourWith : GoodIn wsX0_foreseenColourOf (va_wsS RX0 44 yX0_firstColourWith wsX0_firstColourWith) := goodIn_app (goodIn_of _ (by decide +kernel)) ggX0_foreseenColourOf_X0_firstColourWith
set_option maxRecDepth 20000 in
theorem ggX0_foreseenColourOf_X0_colourOf : GoodIn wsX0_foreseenColourOf wsX0_colourOf := goodIn_r _ [9, 10, 2, 3, 4, 5, 11, 12, 13, 14, 15, 16] (by decide +kernel) (by decide +kernel)
set_option maxRecDepth 20000 in
theorem gX0_foreseenColourOf_X0_colourOf : GoodIn wsX0_foreseenColourOf (wsV RX0 59 RX0 yX0_colourOf wsX0_colourOf) := goodIn_app (goodIn_of _ (by decide +kernel)) ggX0_foreseenColourOf_X0_colourOf
theorem dX0_foreseenColourOf_0 : decode cX0_foreseenColourOf 0 = .ok (.iload_n 1, 1) := by decide +kernel
theorem dX0_foreseenColourOf_1 : decode cX0_foreseenColourOf 1 = .ok (.aload_n 0, 1) := by decide +kernel
theorem dX0_foreseenColourOf_2 : decode cX0_foreseenColourOf 2 = .ok (.getfield 22, 3) := by decide +kernel
theorem dX0_foreseenColourOf_5 : decode cX0_foreseenColourOf 5 = .ok (.invokestatic 44, 3) := by decide +kernel
theorem dX0_foreseenColourOf_8 : decode cX0_foreseenColourOf 8 = .ok (.istore_n 2, 1) := by decide +kernel
theorem dX0_foreseenColourOf_9 : decode cX0_foreseenColourOf 9 = .ok (.iload_n 2, 1) := by decide +kernel
theorem dX0_foreseenColourOf_10 : decode cX0_foreseenColourOf 10 = .ok (.ifCond .ne 11, 3) := by decide +kernel
theorem dX0_foreseenColourOf_13 : decode cX0_foreseenColourOf 13 = .ok (.aload_n 0, 1) := by decide +kernel
theorem dX0_foreseenColourOf_14 : decode cX0_foreseenColourOf 14 = .ok (.iload_n 1, 1) := by decide +kernel
theorem dX0_foreseenColourOf_15 : decode cX0_foreseenColourOf 15 = .ok (.invokevirtual 59, 3) := by decide +kernel
theorem dX0_foreseenColourOf_18 : decode cX0_foreseenColourOf 18 = .ok (.goto 4, 3) := by decide +kernel
theorem dX0_foreseenColourOf_21 : decode cX0_foreseenColourOf 21 = .ok (.iload_n 2, 1) := by decide +kernel
theorem dX0_foreseenColourOf_22 : decode cX0_foreseenColourOf 22 = .ok (.ireturn, 1) := by decide +kernel
set_option maxRecDepth 20000 in
theorem ggX0_sizeOfRegion_X0_colourOf : GoodIn wsX0_sizeOfRegion wsX0_colourOf := goodIn_r _ [5, 6, 7, 8, 4, 9, 27, 28, 29, 30, 31, 32] (by decide +kernel) (by decide +kernel)
set_option maxRecDepth 20000 in
theorem gX0_sizeOfRegion_X0_colourOf : GoodIn wsX0_sizeOfRegion (wsV RX0 59 RX0 yX0_colourOf wsX0_colourOf) := goodIn_app (goodIn_of _ (by decide +kernel)) ggX0_sizeOfRegion_X0_colourOf
set_option maxRecDepth 20000 in
theorem ggX0_sizeOfRegion_X0_cellsWith : GoodIn wsX0_sizeOfRegion wsX0_cellsWith := goodIn_r _ [13, 6, 27, 28, 29, 30, 31, 32] (by decide +kernel) (by decide +kernel)
set_option maxRecDepth 20000 in
theorem gX0_sizeOfRegion_X0_cellsWith : GoodIn wsX0_sizeOfRegion (wsV RX0 35 RX0 yX0_cellsWith wsX0_cellsWith) := goodIn_app (goodIn_of _ (by decide +kernel)) ggX0_sizeOfRegion_X0_cellsWith
set_option maxRecDepth 20000 in
theorem ggX0_sizeOfRegion_X0_regionFrom : GoodIn wsX0_sizeOfRegion wsX0_regionFrom := goodIn_r _ [16, 17, 18, 19] (by decide +kernel) (by decide +kernel)
set_option maxRecDepth 20000 in
theorem gX0_sizeOfRegion_X0_regionFrom : GoodIn wsX0_sizeOfRegion (va_wsS RX0 62 yX0_regionFrom wsX0_regionFrom) := goodIn_app (goodIn_of _ (by decide +kernel)) ggX0_sizeOfRegion_X0_regionFrom
set_option maxRecDepth 20000 in
theorem ggX0_sizeOfRegion_J6_bitCount_0f7a4 : GoodIn wsX0_sizeOfRegion wsJ6_bitCount_0f7a4 := goodIn_r _ [23, 24, 25, 26] (by decide +kernel) (by decide +kernel)
set_option maxRecDepth 20000 in
theorem gX0_sizeOfRegion_J6_bitCount_0f7a4 : GoodIn wsX0_sizeOfRegion (va_wsS RX0 39 yJ6_bitCount_0f7a4 wsJ6_bitCount_0f7a4) := goodIn_app (goodIn_of _ (by decide +kernel)) ggX0_sizeOfRegion_J6_bitCount_0f7a4
theorem dX0_sizeOfRegion_0 : decode cX0_sizeOfRegion 0 = .ok (.aload_n 0, 1) := by decide +kernel
theorem dX0_sizeOfRegion_1 : decode cX0_sizeOfRegion 1 = .ok (.iload_n 1, 1) := by decide +kernel
theorem dX0_sizeOfRegion_2 : decode cX0_sizeOfRegion 2 = .ok (.invokevirtual 59, 3) := by decide +kernel
theorem dX0_sizeOfRegion_5 : decode cX0_sizeOfRegion 5 = .ok (.istore_n 2, 1) := by decide +kernel
theorem dX0_sizeOfRegion_6 : decode cX0_sizeOfRegion 6 = .ok (.iload_n 2, 1) := by decide +kernel
theorem dX0_sizeOfRegion_7 : decode cX0_sizeOfRegion 7 = .ok (.ifCond .ne 7, 3) := by decide +kernel
theorem dX0_sizeOfRegion_10 : decode cX0_sizeOfRegion 10 = .ok (.iconst 0, 1) := by decide +kernel
theorem dX0_sizeOfRegion_11 : decode cX0_sizeOfRegion 11 = .ok (.goto 15, 3) := by decide +kernel
theorem dX0_sizeOfRegion_14 : decode cX0_sizeOfRegion 14 = .ok (.iload_n 1, 1) := by decide +kernel
theorem dX0_sizeOfRegion_15 : decode cX0_sizeOfRegion 15 = .ok (.aload_n 0, 1) := by decide +kernel
theorem dX0_sizeOfRegion_16 : decode cX0_sizeOfRegion 16 = .ok (.iload_n 2, 1) := by decide +kernel
theorem dX0_sizeOfRegion_17 : decode cX0_sizeOfRegion 17 = .ok (.invokevirtual 35, 3) := by decide +kernel
theorem dX0_sizeOfRegion_20 : decode cX0_sizeOfRegion 20 = .ok (.invokestatic 62, 3) := by decide +kernel
theorem dX0_sizeOfRegion_23 : decode cX0_sizeOfRegion 23 = .ok (.invokestatic 39, 3) := by decide +kernel
theorem dX0_sizeOfRegion_26 : decode cX0_sizeOfRegion 26 = .ok (.ireturn, 1) := by decide +kernel
set_option maxRecDepth 20000 in
theorem ggX0_countRegions_X0_cellsWith : GoodIn wsX0_countRegions wsX0_cellsWith := goodIn_r _ [5, 6, 13, 14, 15, 16, 17, 18] (by decide +kernel) (by decide +kernel)
set_option maxRecDepth 20000 in
theorem gX0_countRegions_X0_cellsWith : GoodIn wsX0_countRegions (wsV RX0 35 RX0 yX0_cellsWith wsX0_cellsWith) := goodIn_app (goodIn_of _ (by decide +kernel)) ggX0_countRegions_X0_cellsWith
set_option maxRecDepth 20000 in
theorem ggX0_countRegions_X0_regionFrom : GoodIn wsX0_countRegions wsX0_regionFrom := goodIn_r _ [9, 10, 11, 12] (by decide +kernel) (by decide +kernel)
set_option maxRecDepth 20000 in
theorem gX0_countRegions_X0_regionFrom : GoodIn wsX0_countRegions (va_wsS RX0 62 yX0_regionFrom wsX0_regionFrom) := goodIn_app (goodIn_of _ (by decide +kernel)) ggX0_countRegions_X0_regionFrom
theorem dX0_countRegions_0 : decode cX0_countRegions 0 = .ok (.aload_n 0, 1) := by decide +kernel
theorem dX0_countRegions_1 : decode cX0_countRegions 1 = .ok (.iload_n 1, 1) := by decide +kernel
theorem dX0_countRegions_2 : decode cX0_countRegions 2 = .ok (.invokevirtual 35, 3) := by decide +kernel
theorem dX0_countRegions_5 : decode cX0_countRegions 5 = .ok (.istore_n 2, 1) := by decide +kernel
theorem dX0_countRegions_6 : decode cX0_countRegions 6 = .ok (.iconst 0, 1) := by decide +kernel
theorem dX0_countRegions_7 : decode cX0_countRegions 7 = .ok (.istore_n 3, 1) := by decide +kernel
theorem dX0_countRegions_8 : decode cX0_countRegions 8 = .ok (.iconst 0, 1) := by decide +kernel
theorem dX0_countRegions_9 : decode cX0_countRegions 9 = .ok (.istore 4, 2) := by decide +kernel
theorem dX0_countRegions_11 : decode cX0_countRegions 11 = .ok (.iload 4, 2) := by decide +kernel
theorem dX0_countRegions_13 : decode cX0_countRegions 13 = .ok (.bipush 25, 2) := by decide +kernel
theorem dX0_countRegions_15 : decode cX0_countRegions 15 = .ok (.if_icmp .ge 29, 3) := by decide +kernel
theorem dX0_countRegions_18 : decode cX0_countRegions 18 = .ok (.iload_n 2, 1) := by decide +kernel
theorem dX0_countRegions_19 : decode cX0_countRegions 19 = .ok (.ifCond .eq 25, 3) := by decide +kernel
theorem dX0_countRegions_22 : decode cX0_countRegions 22 = .ok (.iload_n 2, 1) := by decide +kernel
theorem dX0_countRegions_23 : decode cX0_countRegions 23 = .ok (.iload_n 2, 1) := by decide +kernel
theorem dX0_countRegions_24 : decode cX0_countRegions 24 = .ok (.iload_n 2, 1) := by decide +kernel
theorem dX0_countRegions_25 : decode cX0_countRegions 25 = .ok (.ineg, 1) := by decide +kernel
theorem dX0_countRegions_26 : decode cX0_countRegions 26 = .ok (.iand, 1) := by decide +kernel
theorem dX0_countRegions_27 : decode cX0_countRegions 27 = .ok (.iload_n 2, 1) := by decide +kernel
theorem dX0_countRegions_28 : decode cX0_countRegions 28 = .ok (.invokestatic 62, 3) := by decide +kernel
theorem dX0_countRegions_31 : decode cX0_countRegions 31 = .ok (.iconst (-1), 1) := by decide +kernel
theorem dX0_countRegions_32 : decode cX0_countRegions 32 = .ok (.ixor, 1) := by decide +kernel
theorem dX0_countRegions_33 : decode cX0_countRegions 33 = .ok (.iand, 1) := by decide +kernel
theorem dX0_countRegions_34 : decode cX0_countRegions 34 = .ok (.istore_n 2, 1) := by decide +kernel
theorem dX0_countRegions_35 : decode cX0_countRegions 35 = .ok (.iinc 3 1, 3) := by decide +kernel
theorem dX0_countRegions_38 : decode cX0_countRegions 38 = .ok (.iinc 4 1, 3) := by decide +kernel
theorem dX0_countRegions_41 : decode cX0_countRegions 41 = .ok (.goto (-30), 3) := by decide +kernel
theorem dX0_countRegions_44 : decode cX0_countRegions 44 = .ok (.iload_n 3, 1) := by decide +kernel
theorem dX0_countRegions_45 : decode cX0_countRegions 45 = .ok (.ireturn, 1) := by decide +kernel
set_option maxRecDepth 20000 in
theorem ggX0_sizeOfGreatestRegion_X0_cellsWith : GoodIn wsX0_sizeOfGreatestRegion wsX0_cellsWith := goodIn_r _ [9, 10, 24, 25, 26, 27, 28, 29] (by decide +kernel) (by decide +kernel)
set_option maxRecDepth 20000 in
theorem gX0_sizeOfGreatestRegion_X0_cellsWith : GoodIn wsX0_sizeOfGreatestRegion (wsV RX0 35 RX0 yX0_cellsWith wsX0_cellsWith) := goodIn_app (goodIn_of _ (by decide +kernel)) ggX0_sizeOfGreatestRegion_X0_cellsWith
set_option maxRecDepth 20000 in
theorem ggX0_sizeOfGreatestRegion_X0_regionFrom : GoodIn wsX0_sizeOfGreatestRegion wsX0_regionFrom := goodIn_r _ [13, 14, 15, 16] (by decide +kernel) (by decide +kernel)
set_option maxRecDepth 20000 in
theorem gX0_sizeOfGreatestRegion_X0_regionFrom : GoodIn wsX0_sizeOfGreatestRegion (va_wsS RX0 62 yX0_regionFrom wsX0_regionFrom) := goodIn_app (goodIn_of _ (by decide +kernel)) ggX0_sizeOfGreatestRegion_X0_regionFrom
set_option maxRecDepth 20000 in
theorem ggX0_sizeOfGreatestRegion_J6_bitCount_0f7a4 : GoodIn wsX0_sizeOfGreatestRegion wsJ6_bitCount_0f7a4 := goodIn_r _ [20, 21, 22, 23] (by decide +kernel) (by decide +kernel)
set_option maxRecDepth 20000 in
theorem gX0_sizeOfGreatestRegion_J6_bitCount_0f7a4 : GoodIn wsX0_sizeOfGreatestRegion (va_wsS RX0 39 yJ6_bitCount_0f7a4 wsJ6_bitCount_0f7a4) := goodIn_app (goodIn_of _ (by decide +kernel)) ggX0_sizeOfGreatestRegion_J6_bitCount_0f7a4
theorem dX0_sizeOfGreatestRegion_0 : decode cX0_sizeOfGreatestRegion 0 = .ok (.aload_n 0, 1) := by decide +kernel
theorem dX0_sizeOfGreatestRegion_1 : decode cX0_sizeOfGreatestRegion 1 = .ok (.iload_n 1, 1) := by decide +kernel
theorem dX0_sizeOfGreatestRegion_2 : decode cX0_sizeOfGreatestRegion 2 = .ok (.invokevirtual 35, 3) := by decide +kernel
theorem dX0_sizeOfGreatestRegion_5 : decode cX0_sizeOfGreatestRegion 5 = .ok (.istore_n 2, 1) := by decide +kernel
theorem dX0_sizeOfGreatestRegion_6 : decode cX0_sizeOfGreatestRegion 6 = .ok (.iconst 0, 1) := by decide +kernel
theorem dX0_sizeOfGreatestRegion_7 : decode cX0_sizeOfGreatestRegion 7 = .ok (.istore_n 3, 1) := by decide +kernel
theorem dX0_sizeOfGreatestRegion_8 : decode cX0_sizeOfGreatestRegion 8 = .ok (.iconst 0, 1) := by decide +kernel
theorem dX0_sizeOfGreatestRegion_9 : decode cX0_sizeOfGreatestRegion 9 = .ok (.istore 4, 2) := by decide +kernel
theorem dX0_sizeOfGreatestRegion_11 : decode cX0_sizeOfGreatestRegion 11 = .ok (.iload 4, 2) := by decide +kernel
theorem dX0_sizeOfGreatestRegion_13 : decode cX0_sizeOfGreatestRegion 13 = .ok (.bipush 25, 2) := by decide +kernel
theorem dX0_sizeOfGreatestRegion_15 : decode cX0_sizeOfGreatestRegion 15 = .ok (.if_icmp .ge 40, 3) := by decide +kernel
theorem dX0_sizeOfGreatestRegion_18 : decode cX0_sizeOfGreatestRegion 18 = .ok (.iload_n 2, 1) := by decide +kernel
theorem dX0_sizeOfGreatestRegion_19 : decode cX0_sizeOfGreatestRegion 19 = .ok (.ifCond .eq 36, 3) := by decide +kernel
theorem dX0_sizeOfGreatestRegion_22 : decode cX0_sizeOfGreatestRegion 22 = .ok (.iload_n 2, 1) := by decide +kernel
theorem dX0_sizeOfGreatestRegion_23 : decode cX0_sizeOfGreatestRegion 23 = .ok (.iload_n 2, 1) := by decide +kernel
theorem dX0_sizeOfGreatestRegion_24 : decode cX0_sizeOfGreatestRegion 24 = .ok (.ineg, 1) := by decide +kernel
theorem dX0_sizeOfGreatestRegion_25 : decode cX0_sizeOfGreatestRegion 25 = .ok (.iand, 1) := by decide +kernel
theorem dX0_sizeOfGreatestRegion_26 : decode cX0_sizeOfGreatestRegion 26 = .ok (.iload_n 2, 1) := by decide +kernel
theorem dX0_sizeOfGreatestRegion_27 : decode cX0_sizeOfGreatestRegion 27 = .ok (.invokestatic 62, 3) := by decide +kernel
theorem dX0_sizeOfGreatestRegion_30 : decode cX0_sizeOfGreatestRegion 30 = .ok (.istore 5, 2) := by decide +kernel
theorem dX0_sizeOfGreatestRegion_32 : decode cX0_sizeOfGreatestRegion 32 = .ok (.iload_n 2, 1) := by decide +kernel
theorem dX0_sizeOfGreatestRegion_33 : decode cX0_sizeOfGreatestRegion 33 = .ok (.iload 5, 2) := by decide +kernel
theorem dX0_sizeOfGreatestRegion_35 : decode cX0_sizeOfGreatestRegion 35 = .ok (.iconst (-1), 1) := by decide +kernel
theorem dX0_sizeOfGreatestRegion_36 : decode cX0_sizeOfGreatestRegion 36 = .ok (.ixor, 1) := by decide +kernel
theorem dX0_sizeOfGreatestRegion_37 : decode cX0_sizeOfGreatestRegion 37 = .ok (.iand, 1) := by decide +kernel
theorem dX0_sizeOfGreatestRegion_38 : decode cX0_sizeOfGreatestRegion 38 = .ok (.istore_n 2, 1) := by decide +kernel
theorem dX0_sizeOfGreatestRegion_39 : decode cX0_sizeOfGreatestRegion 39 = .ok (.iload_n 3, 1) := by decide +kernel
theorem dX0_sizeOfGreatestRegion_40 : decode cX0_sizeOfGreatestRegion 40 = .ok (.iload 5, 2) := by decide +kernel
theorem dX0_sizeOfGreatestRegion_42 : decode cX0_sizeOfGreatestRegion 42 = .ok (.invokestatic 39, 3) := by decide +kernel
theorem dX0_sizeOfGreatestRegion_45 : decode cX0_sizeOfGreatestRegion 45 = .ok (.invokestatic 65, 3) := by decide +kernel
theorem dX0_sizeOfGreatestRegion_48 : decode cX0_sizeOfGreatestRegion 48 = .ok (.istore_n 3, 1) := by decide +kernel
theorem dX0_sizeOfGreatestRegion_49 : decode cX0_sizeOfGreatestRegion 49 = .ok (.iinc 4 1, 3) := by decide +kernel
theorem dX0_sizeOfGreatestRegion_52 : decode cX0_sizeOfGreatestRegion 52 = .ok (.goto (-41), 3) := by decide +kernel
theorem dX0_sizeOfGreatestRegion_55 : decode cX0_sizeOfGreatestRegion 55 = .ok (.iload_n 3, 1) := by decide +kernel
theorem dX0_sizeOfGreatestRegion_56 : decode cX0_sizeOfGreatestRegion 56 = .ok (.ireturn, 1) := by decide +kernel
set_option maxRecDepth 20000 in
theorem ggX0_countBorders_X0_countPairs : GoodIn wsX0_countBorders wsX0_countPairs := goodIn_r _ [6, 7, 8, 9, 10, 11, 12, 13] (by decide +kernel) (by decide +kernel)
set_option maxRecDepth 20000 in
theorem gX0_countBorders_X0_countPairs : GoodIn wsX0_countBorders (va_wsS RX0 70 yX0_countPairs wsX0_countPairs) := goodIn_app (goodIn_of _ (by decide +kernel)) ggX0_countBorders_X0_countPairs
theorem dX0_countBorders_0 : decode cX0_countBorders 0 = .ok (.aload_n 0, 1) := by decide +kernel
theorem dX0_countBorders_1 : decode cX0_countBorders 1 = .ok (.getfield 25, 3) := by decide +kernel
theorem dX0_countBorders_4 : decode cX0_countBorders 4 = .ok (.aload_n 0, 1) := by decide +kernel
theorem dX0_countBorders_5 : decode cX0_countBorders 5 = .ok (.getfield 15, 3) := by decide +kernel
theorem dX0_countBorders_8 : decode cX0_countBorders 8 = .ok (.iconst 0, 1) := by decide +kernel
theorem dX0_countBorders_9 : decode cX0_countBorders 9 = .ok (.iaload, 1) := by decide +kernel
theorem dX0_countBorders_10 : decode cX0_countBorders 10 = .ok (.iconst (-1), 1) := by decide +kernel
theorem dX0_countBorders_11 : decode cX0_countBorders 11 = .ok (.ixor, 1) := by decide +kernel
theorem dX0_countBorders_12 : decode cX0_countBorders 12 = .ok (.iand, 1) := by decide +kernel
theorem dX0_countBorders_13 : decode cX0_countBorders 13 = .ok (.invokestatic 70, 3) := by decide +kernel
theorem dX0_countBorders_16 : decode cX0_countBorders 16 = .ok (.istore_n 1, 1) := by decide +kernel
theorem dX0_countBorders_17 : decode cX0_countBorders 17 = .ok (.iconst 1, 1) := by decide +kernel
theorem dX0_countBorders_18 : decode cX0_countBorders 18 = .ok (.istore_n 2, 1) := by decide +kernel
theorem dX0_countBorders_19 : decode cX0_countBorders 19 = .ok (.iload_n 2, 1) := by decide +kernel
theorem dX0_countBorders_20 : decode cX0_countBorders 20 = .ok (.iconst 5, 1) := by decide +kernel
theorem dX0_countBorders_21 : decode cX0_countBorders 21 = .ok (.if_icmp .ge 21, 3) := by decide +kernel
theorem dX0_countBorders_24 : decode cX0_countBorders 24 = .ok (.iload_n 1, 1) := by decide +kernel
theorem dX0_countBorders_25 : decode cX0_countBorders 25 = .ok (.aload_n 0, 1) := by decide +kernel
theorem dX0_countBorders_26 : decode cX0_countBorders 26 = .ok (.getfield 15, 3) := by decide +kernel
theorem dX0_countBorders_29 : decode cX0_countBorders 29 = .ok (.iload_n 2, 1) := by decide +kernel
theorem dX0_countBorders_30 : decode cX0_countBorders 30 = .ok (.iaload, 1) := by decide +kernel
theorem dX0_countBorders_31 : decode cX0_countBorders 31 = .ok (.invokestatic 70, 3) := by decide +kernel
theorem dX0_countBorders_34 : decode cX0_countBorders 34 = .ok (.isub, 1) := by decide +kernel
theorem dX0_countBorders_35 : decode cX0_countBorders 35 = .ok (.istore_n 1, 1) := by decide +kernel
theorem dX0_countBorders_36 : decode cX0_countBorders 36 = .ok (.iinc 2 1, 3) := by decide +kernel
theorem dX0_countBorders_39 : decode cX0_countBorders 39 = .ok (.goto (-20), 3) := by decide +kernel
theorem dX0_countBorders_42 : decode cX0_countBorders 42 = .ok (.iload_n 1, 1) := by decide +kernel
theorem dX0_countBorders_43 : decode cX0_countBorders 43 = .ok (.ireturn, 1) := by decide +kernel
set_option maxRecDepth 20000 in
theorem ggX0_addGains_X0_withNeighbours : GoodIn wsX0_addGains wsX0_withNeighbours := goodIn_r _ [9] (by decide +kernel) (by decide +kernel)
set_option maxRecDepth 20000 in
theorem gX0_addGains_X0_withNeighbours : GoodIn wsX0_addGains (va_wsS RX0 73 yX0_withNeighbours wsX0_withNeighbours) := goodIn_app (goodIn_of _ (by decide +kernel)) ggX0_addGains_X0_withNeighbours
theorem dX0_addGains_0 : decode cX0_addGains 0 = .ok (.iconst 0, 1) := by decide +kernel
theorem dX0_addGains_1 : decode cX0_addGains 1 = .ok (.istore_n 2, 1) := by decide +kernel
theorem dX0_addGains_2 : decode cX0_addGains 2 = .ok (.iconst 0, 1) := by decide +kernel
theorem dX0_addGains_3 : decode cX0_addGains 3 = .ok (.istore_n 3, 1) := by decide +kernel
theorem dX0_addGains_4 : decode cX0_addGains 4 = .ok (.iconst 1, 1) := by decide +kernel
theorem dX0_addGains_5 : decode cX0_addGains 5 = .ok (.istore 4, 2) := by decide +kernel
theorem dX0_addGains_7 : decode cX0_addGains 7 = .ok (.iload 4, 2) := by decide +kernel
theorem dX0_addGains_9 : decode cX0_addGains 9 = .ok (.iconst 5, 1) := by decide +kernel
theorem dX0_addGains_10 : decode cX0_addGains 10 = .ok (.if_icmp .ge 49, 3) := by decide +kernel
theorem dX0_addGains_13 : decode cX0_addGains 13 = .ok (.aload_n 0, 1) := by decide +kernel
theorem dX0_addGains_14 : decode cX0_addGains 14 = .ok (.getfield 19, 3) := by decide +kernel
theorem dX0_addGains_17 : decode cX0_addGains 17 = .ok (.iload 4, 2) := by decide +kernel
theorem dX0_addGains_19 : decode cX0_addGains 19 = .ok (.aload_n 0, 1) := by decide +kernel
theorem dX0_addGains_20 : decode cX0_addGains 20 = .ok (.getfield 15, 3) := by decide +kernel
theorem dX0_addGains_23 : decode cX0_addGains 23 = .ok (.iload 4, 2) := by decide +kernel
theorem dX0_addGains_25 : decode cX0_addGains 25 = .ok (.iaload, 1) := by decide +kernel
theorem dX0_addGains_26 : decode cX0_addGains 26 = .ok (.iload_n 1, 1) := by decide +kernel
theorem dX0_addGains_27 : decode cX0_addGains 27 = .ok (.invokestatic 73, 3) := by decide +kernel
theorem dX0_addGains_30 : decode cX0_addGains 30 = .ok (.iastore, 1) := by decide +kernel
theorem dX0_addGains_31 : decode cX0_addGains 31 = .ok (.iload_n 3, 1) := by decide +kernel
theorem dX0_addGains_32 : decode cX0_addGains 32 = .ok (.iload_n 2, 1) := by decide +kernel
theorem dX0_addGains_33 : decode cX0_addGains 33 = .ok (.aload_n 0, 1) := by decide +kernel
theorem dX0_addGains_34 : decode cX0_addGains 34 = .ok (.getfield 19, 3) := by decide +kernel
theorem dX0_addGains_37 : decode cX0_addGains 37 = .ok (.iload 4, 2) := by decide +kernel
theorem dX0_addGains_39 : decode cX0_addGains 39 = .ok (.iaload, 1) := by decide +kernel
theorem dX0_addGains_40 : decode cX0_addGains 40 = .ok (.iand, 1) := by decide +kernel
theorem dX0_addGains_41 : decode cX0_addGains 41 = .ok (.ior, 1) := by decide +kernel
theorem dX0_addGains_42 : decode cX0_addGains 42 = .ok (.istore_n 3, 1) := by decide +kernel
theorem dX0_addGains_43 : decode cX0_addGains 43 = .ok (.iload_n 2, 1) := by decide +kernel
theorem dX0_addGains_44 : decode cX0_addGains 44 = .ok (.aload_n 0, 1) := by decide +kernel
theorem dX0_addGains_45 : decode cX0_addGains 45 = .ok (.getfield 19, 3) := by decide +kernel
theorem dX0_addGains_48 : decode cX0_addGains 48 = .ok (.iload 4, 2) := by decide +kernel
theorem dX0_addGains_50 : decode cX0_addGains 50 = .ok (.iaload, 1) := by decide +kernel
theorem dX0_addGains_51 : decode cX0_addGains 51 = .ok (.ior, 1) := by decide +kernel
theorem dX0_addGains_52 : decode cX0_addGains 52 = .ok (.istore_n 2, 1) := by decide +kernel
theorem dX0_addGains_53 : decode cX0_addGains 53 = .ok (.iinc 4 1, 3) := by decide +kernel
theorem dX0_addGains_56 : decode cX0_addGains 56 = .ok (.goto (-49), 3) := by decide +kernel
theorem dX0_addGains_59 : decode cX0_addGains 59 = .ok (.iconst 1, 1) := by decide +kernel
theorem dX0_addGains_60 : decode cX0_addGains 60 = .ok (.istore 4, 2) := by decide +kernel
theorem dX0_addGains_62 : decode cX0_addGains 62 = .ok (.iload 4, 2) := by decide +kernel
theorem dX0_addGains_64 : decode cX0_addGains 64 = .ok (.iconst 5, 1) := by decide +kernel
theorem dX0_addGains_65 : decode cX0_addGains 65 = .ok (.if_icmp .ge 42, 3) := by decide +kernel
theorem dX0_addGains_68 : decode cX0_addGains 68 = .ok (.aload_n 0, 1) := by decide +kernel
theorem dX0_addGains_69 : decode cX0_addGains 69 = .ok (.getfield 22, 3) := by decide +kernel
theorem dX0_addGains_72 : decode cX0_addGains 72 = .ok (.iload 4, 2) := by decide +kernel
theorem dX0_addGains_74 : decode cX0_addGains 74 = .ok (.dup2, 1) := by decide +kernel
theorem dX0_addGains_75 : decode cX0_addGains 75 = .ok (.iaload, 1) := by decide +kernel
theorem dX0_addGains_76 : decode cX0_addGains 76 = .ok (.aload_n 0, 1) := by decide +kernel
theorem dX0_addGains_77 : decode cX0_addGains 77 = .ok (.getfield 19, 3) := by decide +kernel
theorem dX0_addGains_80 : decode cX0_addGains 80 = .ok (.iload 4, 2) := by decide +kernel
theorem dX0_addGains_82 : decode cX0_addGains 82 = .ok (.iaload, 1) := by decide +kernel
theorem dX0_addGains_83 : decode cX0_addGains 83 = .ok (.iload_n 3, 1) := by decide +kernel
theorem dX0_addGains_84 : decode cX0_addGains 84 = .ok (.iconst (-1), 1) := by decide +kernel
theorem dX0_addGains_85 : decode cX0_addGains 85 = .ok (.ixor, 1) := by decide +kernel
theorem dX0_addGains_86 : decode cX0_addGains 86 = .ok (.iand, 1) := by decide +kernel
theorem dX0_addGains_87 : decode cX0_addGains 87 = .ok (.aload_n 0, 1) := by decide +kernel
theorem dX0_addGains_88 : decode cX0_addGains 88 = .ok (.getfield 25, 3) := by decide +kernel
theorem dX0_addGains_91 : decode cX0_addGains 91 = .ok (.iand, 1) := by decide +kernel
theorem dX0_addGains_92 : decode cX0_addGains 92 = .ok (.aload_n 0, 1) := by decide +kernel
theorem dX0_addGains_93 : decode cX0_addGains 93 = .ok (.getfield 32, 3) := by decide +kernel
theorem dX0_addGains_96 : decode cX0_addGains 96 = .ok (.iconst (-1), 1) := by decide +kernel
theorem dX0_addGains_97 : decode cX0_addGains 97 = .ok (.ixor, 1) := by decide +kernel
theorem dX0_addGains_98 : decode cX0_addGains 98 = .ok (.iand, 1) := by decide +kernel
theorem dX0_addGains_99 : decode cX0_addGains 99 = .ok (.ior, 1) := by decide +kernel
theorem dX0_addGains_100 : decode cX0_addGains 100 = .ok (.iastore, 1) := by decide +kernel
theorem dX0_addGains_101 : decode cX0_addGains 101 = .ok (.iinc 4 1, 3) := by decide +kernel
theorem dX0_addGains_104 : decode cX0_addGains 104 = .ok (.goto (-42), 3) := by decide +kernel
theorem dX0_addGains_107 : decode cX0_addGains 107 = .ok (.return_, 1) := by decide +kernel
theorem dX0_takeGains_0 : decode cX0_takeGains 0 = .ok (.iconst 0, 1) := by decide +kernel
theorem dX0_takeGains_1 : decode cX0_takeGains 1 = .ok (.istore_n 2, 1) := by decide +kernel
theorem dX0_takeGains_2 : decode cX0_takeGains 2 = .ok (.iload_n 2, 1) := by decide +kernel
theorem dX0_takeGains_3 : decode cX0_takeGains 3 = .ok (.iconst 5, 1) := by decide +kernel
theorem dX0_takeGains_4 : decode cX0_takeGains 4 = .ok (.if_icmp .ge 34, 3) := by decide +kernel
theorem dX0_takeGains_7 : decode cX0_takeGains 7 = .ok (.aload_n 0, 1) := by decide +kernel
theorem dX0_takeGains_8 : decode cX0_takeGains 8 = .ok (.getfield 15, 3) := by decide +kernel
theorem dX0_takeGains_11 : decode cX0_takeGains 11 = .ok (.iload_n 2, 1) := by decide +kernel
theorem dX0_takeGains_12 : decode cX0_takeGains 12 = .ok (.aload_n 0, 1) := by decide +kernel
theorem dX0_takeGains_13 : decode cX0_takeGains 13 = .ok (.getfield 15, 3) := by decide +kernel
theorem dX0_takeGains_16 : decode cX0_takeGains 16 = .ok (.iload_n 2, 1) := by decide +kernel
theorem dX0_takeGains_17 : decode cX0_takeGains 17 = .ok (.iaload, 1) := by decide +kernel
theorem dX0_takeGains_18 : decode cX0_takeGains 18 = .ok (.iload_n 1, 1) := by decide +kernel
theorem dX0_takeGains_19 : decode cX0_takeGains 19 = .ok (.iconst (-1), 1) := by decide +kernel
theorem dX0_takeGains_20 : decode cX0_takeGains 20 = .ok (.ixor, 1) := by decide +kernel
theorem dX0_takeGains_21 : decode cX0_takeGains 21 = .ok (.iand, 1) := by decide +kernel
theorem dX0_takeGains_22 : decode cX0_takeGains 22 = .ok (.aload_n 0, 1) := by decide +kernel
theorem dX0_takeGains_23 : decode cX0_takeGains 23 = .ok (.getfield 22, 3) := by decide +kernel
theorem dX0_takeGains_26 : decode cX0_takeGains 26 = .ok (.iload_n 2, 1) := by decide +kernel
theorem dX0_takeGains_27 : decode cX0_takeGains 27 = .ok (.iaload, 1) := by decide +kernel
theorem dX0_takeGains_28 : decode cX0_takeGains 28 = .ok (.iload_n 1, 1) := by decide +kernel
theorem dX0_takeGains_29 : decode cX0_takeGains 29 = .ok (.iand, 1) := by decide +kernel
theorem dX0_takeGains_30 : decode cX0_takeGains 30 = .ok (.ior, 1) := by decide +kernel
theorem dX0_takeGains_31 : decode cX0_takeGains 31 = .ok (.iastore, 1) := by decide +kernel
theorem dX0_takeGains_32 : decode cX0_takeGains 32 = .ok (.iinc 2 1, 3) := by decide +kernel
theorem dX0_takeGains_35 : decode cX0_takeGains 35 = .ok (.goto (-33), 3) := by decide +kernel
theorem dX0_takeGains_38 : decode cX0_takeGains 38 = .ok (.return_, 1) := by decide +kernel
theorem dX0_withNeighbours_0 : decode cX0_withNeighbours 0 = .ok (.iload_n 0, 1) := by decide +kernel
theorem dX0_withNeighbours_1 : decode cX0_withNeighbours 1 = .ok (.iconst 1, 1) := by decide +kernel
theorem dX0_withNeighbours_2 : decode cX0_withNeighbours 2 = .ok (.ishl, 1) := by decide +kernel
theorem dX0_withNeighbours_3 : decode cX0_withNeighbours 3 = .ok (.iload_n 0, 1) := by decide +kernel
theorem dX0_withNeighbours_4 : decode cX0_withNeighbours 4 = .ok (.iconst 1, 1) := by decide +kernel
theorem dX0_withNeighbours_5 : decode cX0_withNeighbours 5 = .ok (.iushr, 1) := by decide +kernel
theorem dX0_withNeighbours_6 : decode cX0_withNeighbours 6 = .ok (.ior, 1) := by decide +kernel
theorem dX0_withNeighbours_7 : decode cX0_withNeighbours 7 = .ok (.istore_n 2, 1) := by decide +kernel
theorem dX0_withNeighbours_8 : decode cX0_withNeighbours 8 = .ok (.iload_n 0, 1) := by decide +kernel
theorem dX0_withNeighbours_9 : decode cX0_withNeighbours 9 = .ok (.iconst 1, 1) := by decide +kernel
theorem dX0_withNeighbours_10 : decode cX0_withNeighbours 10 = .ok (.ishl, 1) := by decide +kernel
theorem dX0_withNeighbours_11 : decode cX0_withNeighbours 11 = .ok (.iload_n 0, 1) := by decide +kernel
theorem dX0_withNeighbours_12 : decode cX0_withNeighbours 12 = .ok (.iconst 1, 1) := by decide +kernel
theorem dX0_withNeighbours_13 : decode cX0_withNeighbours 13 = .ok (.iushr, 1) := by decide +kernel
theorem dX0_withNeighbours_14 : decode cX0_withNeighbours 14 = .ok (.iand, 1) := by decide +kernel
theorem dX0_withNeighbours_15 : decode cX0_withNeighbours 15 = .ok (.istore_n 3, 1) := by decide +kernel
theorem dX0_withNeighbours_16 : decode cX0_withNeighbours 16 = .ok (.iload_n 0, 1) := by decide +kernel
theorem dX0_withNeighbours_17 : decode cX0_withNeighbours 17 = .ok (.bipush 6, 2) := by decide +kernel
theorem dX0_withNeighbours_19 : decode cX0_withNeighbours 19 = .ok (.ishl, 1) := by decide +kernel
theorem dX0_withNeighbours_20 : decode cX0_withNeighbours 20 = .ok (.iload_n 0, 1) := by decide +kernel
theorem dX0_withNeighbours_21 : decode cX0_withNeighbours 21 = .ok (.bipush 6, 2) := by decide +kernel
theorem dX0_withNeighbours_23 : decode cX0_withNeighbours 23 = .ok (.iushr, 1) := by decide +kernel
theorem dX0_withNeighbours_24 : decode cX0_withNeighbours 24 = .ok (.ior, 1) := by decide +kernel
theorem dX0_withNeighbours_25 : decode cX0_withNeighbours 25 = .ok (.istore 4, 2) := by decide +kernel
theorem dX0_withNeighbours_27 : decode cX0_withNeighbours 27 = .ok (.iload_n 0, 1) := by decide +kernel
theorem dX0_withNeighbours_28 : decode cX0_withNeighbours 28 = .ok (.bipush 6, 2) := by decide +kernel
theorem dX0_withNeighbours_30 : decode cX0_withNeighbours 30 = .ok (.ishl, 1) := by decide +kernel
theorem dX0_withNeighbours_31 : decode cX0_withNeighbours 31 = .ok (.iload_n 0, 1) := by decide +kernel
theorem dX0_withNeighbours_32 : decode cX0_withNeighbours 32 = .ok (.bipush 6, 2) := by decide +kernel
theorem dX0_withNeighbours_34 : decode cX0_withNeighbours 34 = .ok (.iushr, 1) := by decide +kernel
theorem dX0_withNeighbours_35 : decode cX0_withNeighbours 35 = .ok (.iand, 1) := by decide +kernel
theorem dX0_withNeighbours_36 : decode cX0_withNeighbours 36 = .ok (.istore 5, 2) := by decide +kernel
theorem dX0_withNeighbours_38 : decode cX0_withNeighbours 38 = .ok (.iload_n 1, 1) := by decide +kernel
theorem dX0_withNeighbours_39 : decode cX0_withNeighbours 39 = .ok (.tableswitch 59 1 4 #[29, 34, 44, 54], 29) := by decide +kernel
theorem dX0_withNeighbours_68 : decode cX0_withNeighbours 68 = .ok (.iload_n 2, 1) := by decide +kernel
theorem dX0_withNeighbours_69 : decode cX0_withNeighbours 69 = .ok (.iload 4, 2) := by decide +kernel
theorem dX0_withNeighbours_71 : decode cX0_withNeighbours 71 = .ok (.ior, 1) := by decide +kernel
theorem dX0_withNeighbours_72 : decode cX0_withNeighbours 72 = .ok (.ireturn, 1) := by decide +kernel
theorem dX0_withNeighbours_73 : decode cX0_withNeighbours 73 = .ok (.iload_n 3, 1) := by decide +kernel
theorem dX0_withNeighbours_74 : decode cX0_withNeighbours 74 = .ok (.iload 5, 2) := by decide +kernel
theorem dX0_withNeighbours_76 : decode cX0_withNeighbours 76 = .ok (.ior, 1) := by decide +kernel
theorem dX0_withNeighbours_77 : decode cX0_withNeighbours 77 = .ok (.iload_n 2, 1) := by decide +kernel
theorem dX0_withNeighbours_78 : decode cX0_withNeighbours 78 = .ok (.iload 4, 2) := by decide +kernel
theorem dX0_withNeighbours_80 : decode cX0_withNeighbours 80 = .ok (.iand, 1) := by decide +kernel
theorem dX0_withNeighbours_81 : decode cX0_withNeighbours 81 = .ok (.ior, 1) := by decide +kernel
theorem dX0_withNeighbours_82 : decode cX0_withNeighbours 82 = .ok (.ireturn, 1) := by decide +kernel
theorem dX0_withNeighbours_83 : decode cX0_withNeighbours 83 = .ok (.iload_n 3, 1) := by decide +kernel
theorem dX0_withNeighbours_84 : decode cX0_withNeighbours 84 = .ok (.iload 4, 2) := by decide +kernel
theorem dX0_withNeighbours_86 : decode cX0_withNeighbours 86 = .ok (.iand, 1) := by decide +kernel
theorem dX0_withNeighbours_87 : decode cX0_withNeighbours 87 = .ok (.iload_n 2, 1) := by decide +kernel
theorem dX0_withNeighbours_88 : decode cX0_withNeighbours 88 = .ok (.iload 5, 2) := by decide +kernel
theorem dX0_withNeighbours_90 : decode cX0_withNeighbours 90 = .ok (.iand, 1) := by decide +kernel
theorem dX0_withNeighbours_91 : decode cX0_withNeighbours 91 = .ok (.ior, 1) := by decide +kernel
theorem dX0_withNeighbours_92 : decode cX0_withNeighbours 92 = .ok (.ireturn, 1) := by decide +kernel
theorem dX0_withNeighbours_93 : decode cX0_withNeighbours 93 = .ok (.iload_n 3, 1) := by decide +kernel
theorem dX0_withNeighbours_94 : decode cX0_withNeighbours 94 = .ok (.iload 5, 2) := by decide +kernel
theorem dX0_withNeighbours_96 : decode cX0_withNeighbours 96 = .ok (.iand, 1) := by decide +kernel
theorem dX0_withNeighbours_97 : decode cX0_withNeighbours 97 = .ok (.ireturn, 1) := by decide +kernel
theorem dX0_withNeighbours_98 : decode cX0_withNeighbours 98 = .ok (.iconst 0, 1) := by decide +kernel
theorem dX0_withNeighbours_99 : decode cX0_withNeighbours 99 = .ok (.ireturn, 1) := by decide +kernel
set_option maxRecDepth 20000 in
theorem ggX0_regionFrom_X1_nextTo : GoodIn wsX0_regionFrom wsX1_nextTo := goodIn_r _ [3] (by decide +kernel) (by decide +kernel)
set_option maxRecDepth 20000 in
theorem gX0_regionFrom_X1_nextTo_n76 : GoodIn wsX0_regionFrom (wsX1_nextTo) := ggX0_regionFrom_X1_nextTo
theorem dX0_regionFrom_0 : decode cX0_regionFrom 0 = .ok (.iload_n 0, 1) := by decide +kernel
theorem dX0_regionFrom_1 : decode cX0_regionFrom 1 = .ok (.istore_n 2, 1) := by decide +kernel
theorem dX0_regionFrom_2 : decode cX0_regionFrom 2 = .ok (.iconst 0, 1) := by decide +kernel
theorem dX0_regionFrom_3 : decode cX0_regionFrom 3 = .ok (.istore_n 3, 1) := by decide +kernel
theorem dX0_regionFrom_4 : decode cX0_regionFrom 4 = .ok (.iload_n 3, 1) := by decide +kernel
theorem dX0_regionFrom_5 : decode cX0_regionFrom 5 = .ok (.bipush 25, 2) := by decide +kernel
theorem dX0_regionFrom_7 : decode cX0_regionFrom 7 = .ok (.if_icmp .ge 30, 3) := by decide +kernel
theorem dX0_regionFrom_10 : decode cX0_regionFrom 10 = .ok (.iload_n 2, 1) := by decide +kernel
theorem dX0_regionFrom_11 : decode cX0_regionFrom 11 = .ok (.iload_n 2, 1) := by decide +kernel
theorem dX0_regionFrom_12 : decode cX0_regionFrom 12 = .ok (.invokestatic 76, 3) := by decide +kernel
theorem dX0_regionFrom_15 : decode cX0_regionFrom 15 = .ok (.iload_n 1, 1) := by decide +kernel
theorem dX0_regionFrom_16 : decode cX0_regionFrom 16 = .ok (.iand, 1) := by decide +kernel
theorem dX0_regionFrom_17 : decode cX0_regionFrom 17 = .ok (.ior, 1) := by decide +kernel
theorem dX0_regionFrom_18 : decode cX0_regionFrom 18 = .ok (.istore 4, 2) := by decide +kernel
theorem dX0_regionFrom_20 : decode cX0_regionFrom 20 = .ok (.iload 4, 2) := by decide +kernel
theorem dX0_regionFrom_22 : decode cX0_regionFrom 22 = .ok (.iload_n 2, 1) := by decide +kernel
theorem dX0_regionFrom_23 : decode cX0_regionFrom 23 = .ok (.if_icmp .ne 5, 3) := by decide +kernel
theorem dX0_regionFrom_26 : decode cX0_regionFrom 26 = .ok (.iload_n 2, 1) := by decide +kernel
theorem dX0_regionFrom_27 : decode cX0_regionFrom 27 = .ok (.ireturn, 1) := by decide +kernel
theorem dX0_regionFrom_28 : decode cX0_regionFrom 28 = .ok (.iload 4, 2) := by decide +kernel
theorem dX0_regionFrom_30 : decode cX0_regionFrom 30 = .ok (.istore_n 2, 1) := by decide +kernel
theorem dX0_regionFrom_31 : decode cX0_regionFrom 31 = .ok (.iinc 3 1, 3) := by decide +kernel
theorem dX0_regionFrom_34 : decode cX0_regionFrom 34 = .ok (.goto (-30), 3) := by decide +kernel
theorem dX0_regionFrom_37 : decode cX0_regionFrom 37 = .ok (.iload_n 2, 1) := by decide +kernel
theorem dX0_regionFrom_38 : decode cX0_regionFrom 38 = .ok (.ireturn, 1) := by decide +kernel
set_option maxRecDepth 20000 in
theorem ggX0_countPairs_J6_bitCount_0f7a4 : GoodIn wsX0_countPairs wsJ6_bitCount_0f7a4 := goodIn_r _ [4, 5, 6, 7] (by decide +kernel) (by decide +kernel)
set_option maxRecDepth 20000 in
theorem gX0_countPairs_J6_bitCount_0f7a4 : GoodIn wsX0_countPairs (va_wsS RX0 39 yJ6_bitCount_0f7a4 wsJ6_bitCount_0f7a4) := goodIn_app (goodIn_of _ (by decide +kernel)) ggX0_countPairs_J6_bitCount_0f7a4
theorem dX0_countPairs_0 : decode cX0_countPairs 0 = .ok (.iload_n 0, 1) := by decide +kernel
theorem dX0_countPairs_1 : decode cX0_countPairs 1 = .ok (.iload_n 0, 1) := by decide +kernel
theorem dX0_countPairs_2 : decode cX0_countPairs 2 = .ok (.iconst 1, 1) := by decide +kernel
theorem dX0_countPairs_3 : decode cX0_countPairs 3 = .ok (.ishl, 1) := by decide +kernel
theorem dX0_countPairs_4 : decode cX0_countPairs 4 = .ok (.iand, 1) := by decide +kernel
theorem dX0_countPairs_5 : decode cX0_countPairs 5 = .ok (.invokestatic 39, 3) := by decide +kernel
theorem dX0_countPairs_8 : decode cX0_countPairs 8 = .ok (.iload_n 0, 1) := by decide +kernel
theorem dX0_countPairs_9 : decode cX0_countPairs 9 = .ok (.iload_n 0, 1) := by decide +kernel
theorem dX0_countPairs_10 : decode cX0_countPairs 10 = .ok (.bipush 6, 2) := by decide +kernel
theorem dX0_countPairs_12 : decode cX0_countPairs 12 = .ok (.ishl, 1) := by decide +kernel
theorem dX0_countPairs_13 : decode cX0_countPairs 13 = .ok (.iand, 1) := by decide +kernel
theorem dX0_countPairs_14 : decode cX0_countPairs 14 = .ok (.invokestatic 39, 3) := by decide +kernel
theorem dX0_countPairs_17 : decode cX0_countPairs 17 = .ok (.iadd, 1) := by decide +kernel
theorem dX0_countPairs_18 : decode cX0_countPairs 18 = .ok (.ireturn, 1) := by decide +kernel
theorem dX0_firstColourWith_0 : decode cX0_firstColourWith 0 = .ok (.iconst 1, 1) := by decide +kernel
theorem dX0_firstColourWith_1 : decode cX0_firstColourWith 1 = .ok (.istore_n 2, 1) := by decide +kernel
theorem dX0_firstColourWith_2 : decode cX0_firstColourWith 2 = .ok (.iload_n 2, 1) := by decide +kernel
theorem dX0_firstColourWith_3 : decode cX0_firstColourWith 3 = .ok (.aload_n 1, 1) := by decide +kernel
theorem dX0_firstColourWith_4 : decode cX0_firstColourWith 4 = .ok (.arraylength, 1) := by decide +kernel
theorem dX0_firstColourWith_5 : decode cX0_firstColourWith 5 = .ok (.if_icmp .ge 19, 3) := by decide +kernel
theorem dX0_firstColourWith_8 : decode cX0_firstColourWith 8 = .ok (.aload_n 1, 1) := by decide +kernel
theorem dX0_firstColourWith_9 : decode cX0_firstColourWith 9 = .ok (.iload_n 2, 1) := by decide +kernel
theorem dX0_firstColourWith_10 : decode cX0_firstColourWith 10 = .ok (.iaload, 1) := by decide +kernel
theorem dX0_firstColourWith_11 : decode cX0_firstColourWith 11 = .ok (.iload_n 0, 1) := by decide +kernel
theorem dX0_firstColourWith_12 : decode cX0_firstColourWith 12 = .ok (.iand, 1) := by decide +kernel
theorem dX0_firstColourWith_13 : decode cX0_firstColourWith 13 = .ok (.ifCond .eq 5, 3) := by decide +kernel
theorem dX0_firstColourWith_16 : decode cX0_firstColourWith 16 = .ok (.iload_n 2, 1) := by decide +kernel
theorem dX0_firstColourWith_17 : decode cX0_firstColourWith 17 = .ok (.ireturn, 1) := by decide +kernel
theorem dX0_firstColourWith_18 : decode cX0_firstColourWith 18 = .ok (.iinc 2 1, 3) := by decide +kernel
theorem dX0_firstColourWith_21 : decode cX0_firstColourWith 21 = .ok (.goto (-19), 3) := by decide +kernel
theorem dX0_firstColourWith_24 : decode cX0_firstColourWith 24 = .ok (.iconst 0, 1) := by decide +kernel
theorem dX0_firstColourWith_25 : decode cX0_firstColourWith 25 = .ok (.ireturn, 1) := by decide +kernel
set_option maxRecDepth 20000 in
theorem ggX1_init_X0_init : GoodIn wsX1_init wsX0_init := goodIn_r _ [14, 15, 2, 3, 16, 17, 18, 19, 20, 30, 31, 32, 33, 34, 35] (by decide +kernel) (by decide +kernel)
set_option maxRecDepth 20000 in
theorem gX1_init_X0_init : GoodIn wsX1_init (wsX0_init) := ggX1_init_X0_init
set_option maxRecDepth 20000 in
theorem ggX1_init_X0_clear : GoodIn wsX1_init wsX0_clear := goodIn_r _ [24, 25, 26, 18, 27, 28, 29, 30, 31, 32, 33, 34, 35] (by decide +kernel) (by decide +kernel)
set_option maxRecDepth 20000 in
theorem gX1_init_X0_clear : GoodIn wsX1_init (wsV RX1 29 RX0 yX0_clear wsX0_clear) := goodIn_app (goodIn_of _ (by decide +kernel)) ggX1_init_X0_clear
theorem dX1_init_0 : decode cX1_init 0 = .ok (.aload_n 0, 1) := by decide +kernel
theorem dX1_init_1 : decode cX1_init 1 = .ok (.invokespecial 3, 3) := by decide +kernel
theorem dX1_init_4 : decode cX1_init 4 = .ok (.aload_n 0, 1) := by decide +kernel
theorem dX1_init_5 : decode cX1_init 5 = .ok (.new 9, 3) := by decide +kernel
theorem dX1_init_8 : decode cX1_init 8 = .ok (.dup, 1) := by decide +kernel
theorem dX1_init_9 : decode cX1_init 9 = .ok (.invokespecial 11, 3) := by decide +kernel
theorem dX1_init_12 : decode cX1_init 12 = .ok (.putfield 12, 3) := by decide +kernel
theorem dX1_init_15 : decode cX1_init 15 = .ok (.aload_n 0, 1) := by decide +kernel
theorem dX1_init_16 : decode cX1_init 16 = .ok (.new 9, 3) := by decide +kernel
theorem dX1_init_19 : decode cX1_init 19 = .ok (.dup, 1) := by decide +kernel
theorem dX1_init_20 : decode cX1_init 20 = .ok (.invokespecial 11, 3) := by decide +kernel
theorem dX1_init_23 : decode cX1_init 23 = .ok (.putfield 16, 3) := by decide +kernel
theorem dX1_init_26 : decode cX1_init 26 = .ok (.aload_n 0, 1) := by decide +kernel
theorem dX1_init_27 : decode cX1_init 27 = .ok (.iconst 4, 1) := by decide +kernel
theorem dX1_init_28 : decode cX1_init 28 = .ok (.putfield 19, 3) := by decide +kernel
theorem dX1_init_31 : decode cX1_init 31 = .ok (.aload_n 0, 1) := by decide +kernel
theorem dX1_init_32 : decode cX1_init 32 = .ok (.iconst 4, 1) := by decide +kernel
theorem dX1_init_33 : decode cX1_init 33 = .ok (.putfield 23, 3) := by decide +kernel
theorem dX1_init_36 : decode cX1_init 36 = .ok (.aload_n 0, 1) := by decide +kernel
theorem dX1_init_37 : decode cX1_init 37 = .ok (.iconst 0, 1) := by decide +kernel
theorem dX1_init_38 : decode cX1_init 38 = .ok (.putfield 26, 3) := by decide +kernel
theorem dX1_init_41 : decode cX1_init 41 = .ok (.aload_n 0, 1) := by decide +kernel
theorem dX1_init_42 : decode cX1_init 42 = .ok (.getfield 12, 3) := by decide +kernel
theorem dX1_init_45 : decode cX1_init 45 = .ok (.iconst 4, 1) := by decide +kernel
theorem dX1_init_46 : decode cX1_init 46 = .ok (.iconst 4, 1) := by decide +kernel
theorem dX1_init_47 : decode cX1_init 47 = .ok (.invokevirtual 29, 3) := by decide +kernel
theorem dX1_init_50 : decode cX1_init 50 = .ok (.return_, 1) := by decide +kernel
set_option maxRecDepth 20000 in
theorem ggX1_newMap_X1_isSide : GoodIn wsX1_newMap wsX1_isSide := goodIn_r _ [10] (by decide +kernel) (by decide +kernel)
set_option maxRecDepth 20000 in
theorem gX1_newMap_X1_isSide : GoodIn wsX1_newMap (va_wsS RX1 33 yX1_isSide wsX1_isSide) := goodIn_app (goodIn_of _ (by decide +kernel)) ggX1_newMap_X1_isSide
set_option maxRecDepth 20000 in
theorem ggX1_newMap_X0_clear : GoodIn wsX1_newMap wsX0_clear := goodIn_r _ [15, 16, 17, 18, 19, 9, 20, 26, 27, 28, 29, 30, 31] (by decide +kernel) (by decide +kernel)
set_option maxRecDepth 20000 in
theorem gX1_newMap_X0_clear : GoodIn wsX1_newMap (wsV RX1 29 RX0 yX0_clear wsX0_clear) := goodIn_app (goodIn_of _ (by decide +kernel)) ggX1_newMap_X0_clear
theorem dX1_newMap_0 : decode cX1_newMap 0 = .ok (.iload_n 1, 1) := by decide +kernel
theorem dX1_newMap_1 : decode cX1_newMap 1 = .ok (.invokestatic 33, 3) := by decide +kernel
theorem dX1_newMap_4 : decode cX1_newMap 4 = .ok (.ifCond .eq 10, 3) := by decide +kernel
theorem dX1_newMap_7 : decode cX1_newMap 7 = .ok (.iload_n 2, 1) := by decide +kernel
theorem dX1_newMap_8 : decode cX1_newMap 8 = .ok (.invokestatic 33, 3) := by decide +kernel
theorem dX1_newMap_11 : decode cX1_newMap 11 = .ok (.ifCond .ne 13, 3) := by decide +kernel
theorem dX1_newMap_14 : decode cX1_newMap 14 = .ok (.new 37, 3) := by decide +kernel
theorem dX1_newMap_17 : decode cX1_newMap 17 = .ok (.dup, 1) := by decide +kernel
theorem dX1_newMap_18 : decode cX1_newMap 18 = .ok (.ldc 39, 2) := by decide +kernel
theorem dX1_newMap_20 : decode cX1_newMap 20 = .ok (.invokespecial 41, 3) := by decide +kernel
theorem dX1_newMap_23 : decode cX1_newMap 23 = .ok (.athrow, 1) := by decide +kernel
theorem dX1_newMap_24 : decode cX1_newMap 24 = .ok (.aload_n 0, 1) := by decide +kernel
theorem dX1_newMap_25 : decode cX1_newMap 25 = .ok (.iload_n 1, 1) := by decide +kernel
theorem dX1_newMap_26 : decode cX1_newMap 26 = .ok (.putfield 19, 3) := by decide +kernel
theorem dX1_newMap_29 : decode cX1_newMap 29 = .ok (.aload_n 0, 1) := by decide +kernel
theorem dX1_newMap_30 : decode cX1_newMap 30 = .ok (.iload_n 2, 1) := by decide +kernel
theorem dX1_newMap_31 : decode cX1_newMap 31 = .ok (.putfield 23, 3) := by decide +kernel
theorem dX1_newMap_34 : decode cX1_newMap 34 = .ok (.aload_n 0, 1) := by decide +kernel
theorem dX1_newMap_35 : decode cX1_newMap 35 = .ok (.iconst 0, 1) := by decide +kernel
theorem dX1_newMap_36 : decode cX1_newMap 36 = .ok (.putfield 26, 3) := by decide +kernel
theorem dX1_newMap_39 : decode cX1_newMap 39 = .ok (.aload_n 0, 1) := by decide +kernel
theorem dX1_newMap_40 : decode cX1_newMap 40 = .ok (.getfield 12, 3) := by decide +kernel
theorem dX1_newMap_43 : decode cX1_newMap 43 = .ok (.iload_n 1, 1) := by decide +kernel
theorem dX1_newMap_44 : decode cX1_newMap 44 = .ok (.iload_n 2, 1) := by decide +kernel
theorem dX1_newMap_45 : decode cX1_newMap 45 = .ok (.invokevirtual 29, 3) := by decide +kernel
theorem dX1_newMap_48 : decode cX1_newMap 48 = .ok (.iload_n 1, 1) := by decide +kernel
theorem dX1_newMap_49 : decode cX1_newMap 49 = .ok (.iload_n 2, 1) := by decide +kernel
theorem dX1_newMap_50 : decode cX1_newMap 50 = .ok (.imul, 1) := by decide +kernel
theorem dX1_newMap_51 : decode cX1_newMap 51 = .ok (.ireturn, 1) := by decide +kernel
set_option maxRecDepth 20000 in
theorem ggX1_paint_X1_isOnMap : GoodIn wsX1_paint wsX1_isOnMap := goodIn_r _ [8, 9, 10, 33, 34, 35, 36, 37] (by decide +kernel) (by decide +kernel)
set_option maxRecDepth 20000 in
theorem gX1_paint_X1_isOnMap : GoodIn wsX1_paint (wsV RX1 44 RX1 yX1_isOnMap wsX1_isOnMap) := goodIn_app (goodIn_of _ (by decide +kernel)) ggX1_paint_X1_isOnMap
set_option maxRecDepth 20000 in
theorem ggX1_paint_X1_isColourOrBare : GoodIn wsX1_paint wsX1_isColourOrBare := goodIn_r _ [13, 14, 15, 7, 16] (by decide +kernel) (by decide +kernel)
set_option maxRecDepth 20000 in
theorem gX1_paint_X1_isColourOrBare : GoodIn wsX1_paint (va_wsS RX1 48 yX1_isColourOrBare wsX1_isColourOrBare) := goodIn_app (goodIn_of _ (by decide +kernel)) ggX1_paint_X1_isColourOrBare
set_option maxRecDepth 20000 in
theorem ggX1_paint_X1_cell : GoodIn wsX1_paint wsX1_cell := goodIn_r _ [19] (by decide +kernel) (by decide +kernel)
set_option maxRecDepth 20000 in
theorem gX1_paint_X1_cell : GoodIn wsX1_paint (va_wsS RX1 56 yX1_cell wsX1_cell) := goodIn_app (goodIn_of _ (by decide +kernel)) ggX1_paint_X1_cell
set_option maxRecDepth 20000 in
theorem ggX1_paint_X0_colourOf : GoodIn wsX1_paint wsX0_colourOf := goodIn_r _ [24, 25, 26, 27, 23, 28, 38, 39, 40, 41, 42, 43] (by decide +kernel) (by decide +kernel)
set_option maxRecDepth 20000 in
theorem gX1_paint_X0_colourOf : GoodIn wsX1_paint (wsV RX1 60 RX0 yX0_colourOf wsX0_colourOf) := goodIn_app (goodIn_of _ (by decide +kernel)) ggX1_paint_X0_colourOf
set_option maxRecDepth 20000 in
theorem ggX1_paint_X0_dye : GoodIn wsX1_paint wsX0_dye := goodIn_r _ [32, 25, 38, 39, 40, 41, 42, 43] (by decide +kernel) (by decide +kernel)
set_option maxRecDepth 20000 in
theorem gX1_paint_X0_dye : GoodIn wsX1_paint (wsV RX1 64 RX0 yX0_dye wsX0_dye) := goodIn_app (goodIn_of _ (by decide +kernel)) ggX1_paint_X0_dye
theorem dX1_paint_0 : decode cX1_paint 0 = .ok (.aload_n 0, 1) := by decide +kernel
theorem dX1_paint_1 : decode cX1_paint 1 = .ok (.iload_n 1, 1) := by decide +kernel
theorem dX1_paint_2 : decode cX1_paint 2 = .ok (.iload_n 2, 1) := by decide +kernel
theorem dX1_paint_3 : decode cX1_paint 3 = .ok (.invokevirtual 44, 3) := by decide +kernel
theorem dX1_paint_6 : decode cX1_paint 6 = .ok (.ifCond .eq 10, 3) := by decide +kernel
theorem dX1_paint_9 : decode cX1_paint 9 = .ok (.iload_n 3, 1) := by decide +kernel
theorem dX1_paint_10 : decode cX1_paint 10 = .ok (.invokestatic 48, 3) := by decide +kernel
theorem dX1_paint_13 : decode cX1_paint 13 = .ok (.ifCond .ne 13, 3) := by decide +kernel
theorem dX1_paint_16 : decode cX1_paint 16 = .ok (.new 51, 3) := by decide +kernel
theorem dX1_paint_19 : decode cX1_paint 19 = .ok (.dup, 1) := by decide +kernel
theorem dX1_paint_20 : decode cX1_paint 20 = .ok (.ldc 53, 2) := by decide +kernel
theorem dX1_paint_22 : decode cX1_paint 22 = .ok (.invokespecial 55, 3) := by decide +kernel
theorem dX1_paint_25 : decode cX1_paint 25 = .ok (.athrow, 1) := by decide +kernel
theorem dX1_paint_26 : decode cX1_paint 26 = .ok (.aload_n 0, 1) := by decide +kernel
theorem dX1_paint_27 : decode cX1_paint 27 = .ok (.getfield 12, 3) := by decide +kernel
theorem dX1_paint_30 : decode cX1_paint 30 = .ok (.iload_n 1, 1) := by decide +kernel
theorem dX1_paint_31 : decode cX1_paint 31 = .ok (.iload_n 2, 1) := by decide +kernel
theorem dX1_paint_32 : decode cX1_paint 32 = .ok (.invokestatic 56, 3) := by decide +kernel
theorem dX1_paint_35 : decode cX1_paint 35 = .ok (.invokevirtual 60, 3) := by decide +kernel
theorem dX1_paint_38 : decode cX1_paint 38 = .ok (.istore 4, 2) := by decide +kernel
theorem dX1_paint_40 : decode cX1_paint 40 = .ok (.aload_n 0, 1) := by decide +kernel
theorem dX1_paint_41 : decode cX1_paint 41 = .ok (.getfield 12, 3) := by decide +kernel
theorem dX1_paint_44 : decode cX1_paint 44 = .ok (.iload_n 1, 1) := by decide +kernel
theorem dX1_paint_45 : decode cX1_paint 45 = .ok (.iload_n 2, 1) := by decide +kernel
theorem dX1_paint_46 : decode cX1_paint 46 = .ok (.invokestatic 56, 3) := by decide +kernel
theorem dX1_paint_49 : decode cX1_paint 49 = .ok (.iload_n 3, 1) := by decide +kernel
theorem dX1_paint_50 : decode cX1_paint 50 = .ok (.invokevirtual 64, 3) := by decide +kernel
theorem dX1_paint_53 : decode cX1_paint 53 = .ok (.iload 4, 2) := by decide +kernel
theorem dX1_paint_55 : decode cX1_paint 55 = .ok (.ireturn, 1) := by decide +kernel
set_option maxRecDepth 20000 in
theorem ggX1_turnStubborn_X1_isOnMap : GoodIn wsX1_turnStubborn wsX1_isOnMap := goodIn_r _ [9, 10, 11, 15, 16, 17, 18, 19] (by decide +kernel) (by decide +kernel)
set_option maxRecDepth 20000 in
theorem gX1_turnStubborn_X1_isOnMap : GoodIn wsX1_turnStubborn (wsV RX1 44 RX1 yX1_isOnMap wsX1_isOnMap) := goodIn_app (goodIn_of _ (by decide +kernel)) ggX1_turnStubborn_X1_isOnMap
set_option maxRecDepth 20000 in
theorem ggX1_turnStubborn_X1_cell : GoodIn wsX1_turnStubborn wsX1_cell := goodIn_r _ [14] (by decide +kernel) (by decide +kernel)
set_option maxRecDepth 20000 in
theorem gX1_turnStubborn_X1_cell : GoodIn wsX1_turnStubborn (va_wsS RX1 56 yX1_cell wsX1_cell) := goodIn_app (goodIn_of _ (by decide +kernel)) ggX1_turnStubborn_X1_cell
theorem dX1_turnStubborn_0 : decode cX1_turnStubborn 0 = .ok (.aload_n 0, 1) := by decide +kernel
theorem dX1_turnStubborn_1 : decode cX1_turnStubborn 1 = .ok (.iload_n 1, 1) := by decide +kernel
theorem dX1_turnStubborn_2 : decode cX1_turnStubborn 2 = .ok (.iload_n 2, 1) := by decide +kernel
theorem dX1_turnStubborn_3 : decode cX1_turnStubborn 3 = .ok (.invokevirtual 44, 3) := by decide +kernel
theorem dX1_turnStubborn_6 : decode cX1_turnStubborn 6 = .ok (.ifCond .ne 13, 3) := by decide +kernel
theorem dX1_turnStubborn_9 : decode cX1_turnStubborn 9 = .ok (.new 51, 3) := by decide +kernel
theorem dX1_turnStubborn_12 : decode cX1_turnStubborn 12 = .ok (.dup, 1) := by decide +kernel
theorem dX1_turnStubborn_13 : decode cX1_turnStubborn 13 = .ok (.ldc 67, 2) := by decide +kernel
theorem dX1_turnStubborn_15 : decode cX1_turnStubborn 15 = .ok (.invokespecial 55, 3) := by decide +kernel
theorem dX1_turnStubborn_18 : decode cX1_turnStubborn 18 = .ok (.athrow, 1) := by decide +kernel
theorem dX1_turnStubborn_19 : decode cX1_turnStubborn 19 = .ok (.aload_n 0, 1) := by decide +kernel
theorem dX1_turnStubborn_20 : decode cX1_turnStubborn 20 = .ok (.getfield 12, 3) := by decide +kernel
theorem dX1_turnStubborn_23 : decode cX1_turnStubborn 23 = .ok (.dup, 1) := by decide +kernel
theorem dX1_turnStubborn_24 : decode cX1_turnStubborn 24 = .ok (.getfield 69, 3) := by decide +kernel
theorem dX1_turnStubborn_27 : decode cX1_turnStubborn 27 = .ok (.iload_n 1, 1) := by decide +kernel
theorem dX1_turnStubborn_28 : decode cX1_turnStubborn 28 = .ok (.iload_n 2, 1) := by decide +kernel
theorem dX1_turnStubborn_29 : decode cX1_turnStubborn 29 = .ok (.invokestatic 56, 3) := by decide +kernel
theorem dX1_turnStubborn_32 : decode cX1_turnStubborn 32 = .ok (.ixor, 1) := by decide +kernel
theorem dX1_turnStubborn_33 : decode cX1_turnStubborn 33 = .ok (.putfield 69, 3) := by decide +kernel
theorem dX1_turnStubborn_36 : decode cX1_turnStubborn 36 = .ok (.aload_n 0, 1) := by decide +kernel
theorem dX1_turnStubborn_37 : decode cX1_turnStubborn 37 = .ok (.getfield 12, 3) := by decide +kernel
theorem dX1_turnStubborn_40 : decode cX1_turnStubborn 40 = .ok (.getfield 69, 3) := by decide +kernel
theorem dX1_turnStubborn_43 : decode cX1_turnStubborn 43 = .ok (.iload_n 1, 1) := by decide +kernel
theorem dX1_turnStubborn_44 : decode cX1_turnStubborn 44 = .ok (.iload_n 2, 1) := by decide +kernel
theorem dX1_turnStubborn_45 : decode cX1_turnStubborn 45 = .ok (.invokestatic 56, 3) := by decide +kernel
theorem dX1_turnStubborn_48 : decode cX1_turnStubborn 48 = .ok (.iand, 1) := by decide +kernel
theorem dX1_turnStubborn_49 : decode cX1_turnStubborn 49 = .ok (.ifCond .eq 7, 3) := by decide +kernel
theorem dX1_turnStubborn_52 : decode cX1_turnStubborn 52 = .ok (.iconst 1, 1) := by decide +kernel
theorem dX1_turnStubborn_53 : decode cX1_turnStubborn 53 = .ok (.goto 4, 3) := by decide +kernel
theorem dX1_turnStubborn_56 : decode cX1_turnStubborn 56 = .ok (.iconst 0, 1) := by decide +kernel
theorem dX1_turnStubborn_57 : decode cX1_turnStubborn 57 = .ok (.ireturn, 1) := by decide +kernel
theorem dX1_setNeed_0 : decode cX1_setNeed 0 = .ok (.iload_n 1, 1) := by decide +kernel
theorem dX1_setNeed_1 : decode cX1_setNeed 1 = .ok (.iconst 1, 1) := by decide +kernel
theorem dX1_setNeed_2 : decode cX1_setNeed 2 = .ok (.if_icmp .lt 8, 3) := by decide +kernel
theorem dX1_setNeed_5 : decode cX1_setNeed 5 = .ok (.iload_n 1, 1) := by decide +kernel
theorem dX1_setNeed_6 : decode cX1_setNeed 6 = .ok (.iconst 4, 1) := by decide +kernel
theorem dX1_setNeed_7 : decode cX1_setNeed 7 = .ok (.if_icmp .le 13, 3) := by decide +kernel
theorem dX1_setNeed_10 : decode cX1_setNeed 10 = .ok (.new 37, 3) := by decide +kernel
theorem dX1_setNeed_13 : decode cX1_setNeed 13 = .ok (.dup, 1) := by decide +kernel
theorem dX1_setNeed_14 : decode cX1_setNeed 14 = .ok (.ldc 72, 2) := by decide +kernel
theorem dX1_setNeed_16 : decode cX1_setNeed 16 = .ok (.invokespecial 41, 3) := by decide +kernel
theorem dX1_setNeed_19 : decode cX1_setNeed 19 = .ok (.athrow, 1) := by decide +kernel
theorem dX1_setNeed_20 : decode cX1_setNeed 20 = .ok (.aload_n 0, 1) := by decide +kernel
theorem dX1_setNeed_21 : decode cX1_setNeed 21 = .ok (.getfield 12, 3) := by decide +kernel
theorem dX1_setNeed_24 : decode cX1_setNeed 24 = .ok (.getfield 74, 3) := by decide +kernel
theorem dX1_setNeed_27 : decode cX1_setNeed 27 = .ok (.istore_n 2, 1) := by decide +kernel
theorem dX1_setNeed_28 : decode cX1_setNeed 28 = .ok (.aload_n 0, 1) := by decide +kernel
theorem dX1_setNeed_29 : decode cX1_setNeed 29 = .ok (.getfield 12, 3) := by decide +kernel
theorem dX1_setNeed_32 : decode cX1_setNeed 32 = .ok (.iload_n 1, 1) := by decide +kernel
theorem dX1_setNeed_33 : decode cX1_setNeed 33 = .ok (.putfield 74, 3) := by decide +kernel
theorem dX1_setNeed_36 : decode cX1_setNeed 36 = .ok (.iload_n 2, 1) := by decide +kernel
theorem dX1_setNeed_37 : decode cX1_setNeed 37 = .ok (.ireturn, 1) := by decide +kernel
set_option maxRecDepth 20000 in
theorem ggX1_pass_X0_surge : GoodIn wsX1_pass wsX0_surge := goodIn_r _ [9, 10, 11, 12, 8, 13, 14, 15, 16, 17, 18, 19, 20, 21, 22, 23, 24, 25, 26, 27, 28, 29, 30, 43, 44, 45, 46, 47, 48] (by decide +kernel) (by decide +kernel)
set_option maxRecDepth 20000 in
theorem gX1_pass_X0_surge : GoodIn wsX1_pass (wsV RX1 79 RX0 yX0_surge wsX0_surge) := goodIn_app (goodIn_of _ (by decide +kernel)) ggX1_pass_X0_surge
set_option maxRecDepth 20000 in
theorem ggX1_pass_J6_bitCount_0f7a4 : GoodIn wsX1_pass wsJ6_bitCount_0f7a4 := goodIn_r _ [34, 35, 36, 37] (by decide +kernel) (by decide +kernel)
set_option maxRecDepth 20000 in
theorem gX1_pass_J6_bitCount_0f7a4 : GoodIn wsX1_pass (va_wsS RX1 82 yJ6_bitCount_0f7a4 wsJ6_bitCount_0f7a4) := goodIn_app (goodIn_of _ (by decide +kernel)) ggX1_pass_J6_bitCount_0f7a4
theorem dX1_pass_0 : decode cX1_pass 0 = .ok (.iload_n 1, 1) := by decide +kernel
theorem dX1_pass_1 : decode cX1_pass 1 = .ok (.iconst 1, 1) := by decide +kernel
theorem dX1_pass_2 : decode cX1_pass 2 = .ok (.if_icmp .lt 9, 3) := by decide +kernel
theorem dX1_pass_5 : decode cX1_pass 5 = .ok (.iload_n 1, 1) := by decide +kernel
theorem dX1_pass_6 : decode cX1_pass 6 = .ok (.bipush 40, 2) := by decide +kernel
theorem dX1_pass_8 : decode cX1_pass 8 = .ok (.if_icmp .le 13, 3) := by decide +kernel
theorem dX1_pass_11 : decode cX1_pass 11 = .ok (.new 37, 3) := by decide +kernel
theorem dX1_pass_14 : decode cX1_pass 14 = .ok (.dup, 1) := by decide +kernel
theorem dX1_pass_15 : decode cX1_pass 15 = .ok (.ldc 77, 2) := by decide +kernel
theorem dX1_pass_17 : decode cX1_pass 17 = .ok (.invokespecial 41, 3) := by decide +kernel
theorem dX1_pass_20 : decode cX1_pass 20 = .ok (.athrow, 1) := by decide +kernel
theorem dX1_pass_21 : decode cX1_pass 21 = .ok (.aload_n 0, 1) := by decide +kernel
theorem dX1_pass_22 : decode cX1_pass 22 = .ok (.dup, 1) := by decide +kernel
theorem dX1_pass_23 : decode cX1_pass 23 = .ok (.getfield 26, 3) := by decide +kernel
theorem dX1_pass_26 : decode cX1_pass 26 = .ok (.iload_n 1, 1) := by decide +kernel
theorem dX1_pass_27 : decode cX1_pass 27 = .ok (.iadd, 1) := by decide +kernel
theorem dX1_pass_28 : decode cX1_pass 28 = .ok (.putfield 26, 3) := by decide +kernel
theorem dX1_pass_31 : decode cX1_pass 31 = .ok (.aload_n 0, 1) := by decide +kernel
theorem dX1_pass_32 : decode cX1_pass 32 = .ok (.getfield 12, 3) := by decide +kernel
theorem dX1_pass_35 : decode cX1_pass 35 = .ok (.iload_n 1, 1) := by decide +kernel
theorem dX1_pass_36 : decode cX1_pass 36 = .ok (.invokevirtual 79, 3) := by decide +kernel
theorem dX1_pass_39 : decode cX1_pass 39 = .ok (.invokestatic 82, 3) := by decide +kernel
theorem dX1_pass_42 : decode cX1_pass 42 = .ok (.ireturn, 1) := by decide +kernel
set_option maxRecDepth 20000 in
theorem ggX1_colourAt_X1_isOnMap : GoodIn wsX1_colourAt wsX1_isOnMap := goodIn_r _ [8, 9, 10, 23, 24, 25, 26, 27] (by decide +kernel) (by decide +kernel)
set_option maxRecDepth 20000 in
theorem gX1_colourAt_X1_isOnMap : GoodIn wsX1_colourAt (wsV RX1 44 RX1 yX1_isOnMap wsX1_isOnMap) := goodIn_app (goodIn_of _ (by decide +kernel)) ggX1_colourAt_X1_isOnMap
set_option maxRecDepth 20000 in
theorem ggX1_colourAt_X1_cell : GoodIn wsX1_colourAt wsX1_cell := goodIn_r _ [13] (by decide +kernel) (by decide +kernel)
set_option maxRecDepth 20000 in
theorem gX1_colourAt_X1_cell : GoodIn wsX1_colourAt (va_wsS RX1 56 yX1_cell wsX1_cell) := goodIn_app (goodIn_of _ (by decide +kernel)) ggX1_colourAt_X1_cell
set_option maxRecDepth 20000 in
theorem ggX1_colourAt_X0_colourOf : GoodIn wsX1_colourAt wsX0_colourOf := goodIn_r _ [18, 19, 20, 21, 17, 22, 28, 29, 30, 31, 32, 33] (by decide +kernel) (by decide +kernel)
set_option maxRecDepth 20000 in
theorem gX1_colourAt_X0_colourOf : GoodIn wsX1_colourAt (wsV RX1 60 RX0 yX0_colourOf wsX0_colourOf) := goodIn_app (goodIn_of _ (by decide +kernel)) ggX1_colourAt_X0_colourOf
theorem dX1_colourAt_0 : decode cX1_colourAt 0 = .ok (.aload_n 0, 1) := by decide +kernel
theorem dX1_colourAt_1 : decode cX1_colourAt 1 = .ok (.iload_n 1, 1) := by decide +kernel
theorem dX1_colourAt_2 : decode cX1_colourAt 2 = .ok (.iload_n 2, 1) := by decide +kernel
theorem dX1_colourAt_3 : decode cX1_colourAt 3 = .ok (.invokevirtual 44, 3) := by decide +kernel
theorem dX1_colourAt_6 : decode cX1_colourAt 6 = .ok (.ifCond .ne 13, 3) := by decide +kernel
theorem dX1_colourAt_9 : decode cX1_colourAt 9 = .ok (.new 51, 3) := by decide +kernel
theorem dX1_colourAt_12 : decode cX1_colourAt 12 = .ok (.dup, 1) := by decide +kernel
theorem dX1_colourAt_13 : decode cX1_colourAt 13 = .ok (.ldc 67, 2) := by decide +kernel
theorem dX1_colourAt_15 : decode cX1_colourAt 15 = .ok (.invokespecial 55, 3) := by decide +kernel
theorem dX1_colourAt_18 : decode cX1_colourAt 18 = .ok (.athrow, 1) := by decide +kernel
theorem dX1_colourAt_19 : decode cX1_colourAt 19 = .ok (.aload_n 0, 1) := by decide +kernel
theorem dX1_colourAt_20 : decode cX1_colourAt 20 = .ok (.getfield 12, 3) := by decide +kernel
theorem dX1_colourAt_23 : decode cX1_colourAt 23 = .ok (.iload_n 1, 1) := by decide +kernel
theorem dX1_colourAt_24 : decode cX1_colourAt 24 = .ok (.iload_n 2, 1) := by decide +kernel
theorem dX1_colourAt_25 : decode cX1_colourAt 25 = .ok (.invokestatic 56, 3) := by decide +kernel
theorem dX1_colourAt_28 : decode cX1_colourAt 28 = .ok (.invokevirtual 60, 3) := by decide +kernel
theorem dX1_colourAt_31 : decode cX1_colourAt 31 = .ok (.ireturn, 1) := by decide +kernel
set_option maxRecDepth 20000 in
theorem ggX1_isStubborn_X1_isOnMap : GoodIn wsX1_isStubborn wsX1_isOnMap := goodIn_r _ [9, 10, 11, 15, 16, 17, 18, 19] (by decide +kernel) (by decide +kernel)
set_option maxRecDepth 20000 in
theorem gX1_isStubborn_X1_isOnMap : GoodIn wsX1_isStubborn (wsV RX1 44 RX1 yX1_isOnMap wsX1_isOnMap) := goodIn_app (goodIn_of _ (by decide +kernel)) ggX1_isStubborn_X1_isOnMap
set_option maxRecDepth 20000 in
theorem ggX1_isStubborn_X1_cell : GoodIn wsX1_isStubborn wsX1_cell := goodIn_r _ [14] (by decide +kernel) (by decide +kernel)
set_option maxRecDepth 20000 in
theorem gX1_isStubborn_X1_cell : GoodIn wsX1_isStubborn (va_wsS RX1 56 yX1_cell wsX1_cell) := goodIn_app (goodIn_of _ (by decide +kernel)) ggX1_isStubborn_X1_cell
theorem dX1_isStubborn_0 : decode cX1_isStubborn 0 = .ok (.aload_n 0, 1) := by decide +kernel
theorem dX1_isStubborn_1 : decode cX1_isStubborn 1 = .ok (.iload_n 1, 1) := by decide +kernel
theorem dX1_isStubborn_2 : decode cX1_isStubborn 2 = .ok (.iload_n 2, 1) := by decide +kernel
theorem dX1_isStubborn_3 : decode cX1_isStubborn 3 = .ok (.invokevirtual 44, 3) := by decide +kernel
theorem dX1_isStubborn_6 : decode cX1_isStubborn 6 = .ok (.ifCond .ne 13, 3) := by decide +kernel
theorem dX1_isStubborn_9 : decode cX1_isStubborn 9 = .ok (.new 51, 3) := by decide +kernel
theorem dX1_isStubborn_12 : decode cX1_isStubborn 12 = .ok (.dup, 1) := by decide +kernel
theorem dX1_isStubborn_13 : decode cX1_isStubborn 13 = .ok (.ldc 67, 2) := by decide +kernel
theorem dX1_isStubborn_15 : decode cX1_isStubborn 15 = .ok (.invokespecial 55, 3) := by decide +kernel
theorem dX1_isStubborn_18 : decode cX1_isStubborn 18 = .ok (.athrow, 1) := by decide +kernel
theorem dX1_isStubborn_19 : decode cX1_isStubborn 19 = .ok (.aload_n 0, 1) := by decide +kernel
theorem dX1_isStubborn_20 : decode cX1_isStubborn 20 = .ok (.getfield 12, 3) := by decide +kernel
theorem dX1_isStubborn_23 : decode cX1_isStubborn 23 = .ok (.getfield 69, 3) := by decide +kernel
theorem dX1_isStubborn_26 : decode cX1_isStubborn 26 = .ok (.iload_n 1, 1) := by decide +kernel
theorem dX1_isStubborn_27 : decode cX1_isStubborn 27 = .ok (.iload_n 2, 1) := by decide +kernel
theorem dX1_isStubborn_28 : decode cX1_isStubborn 28 = .ok (.invokestatic 56, 3) := by decide +kernel
theorem dX1_isStubborn_31 : decode cX1_isStubborn 31 = .ok (.iand, 1) := by decide +kernel
theorem dX1_isStubborn_32 : decode cX1_isStubborn 32 = .ok (.ifCond .eq 7, 3) := by decide +kernel
theorem dX1_isStubborn_35 : decode cX1_isStubborn 35 = .ok (.iconst 1, 1) := by decide +kernel
theorem dX1_isStubborn_36 : decode cX1_isStubborn 36 = .ok (.goto 4, 3) := by decide +kernel
theorem dX1_isStubborn_39 : decode cX1_isStubborn 39 = .ok (.iconst 0, 1) := by decide +kernel
theorem dX1_isStubborn_40 : decode cX1_isStubborn 40 = .ok (.ireturn, 1) := by decide +kernel
set_option maxRecDepth 20000 in
theorem ggX1_neighboursWith_X1_isOnMap : GoodIn wsX1_neighboursWith wsX1_isOnMap := goodIn_r _ [8, 9, 10, 36, 37, 38, 39, 40] (by decide +kernel) (by decide +kernel)
set_option maxRecDepth 20000 in
theorem gX1_neighboursWith_X1_isOnMap : GoodIn wsX1_neighboursWith (wsV RX1 44 RX1 yX1_isOnMap wsX1_isOnMap) := goodIn_app (goodIn_of _ (by decide +kernel)) ggX1_neighboursWith_X1_isOnMap
set_option maxRecDepth 20000 in
theorem ggX1_neighboursWith_X1_isColourOrBare : GoodIn wsX1_neighboursWith wsX1_isColourOrBare := goodIn_r _ [13, 14, 15, 7, 16] (by decide +kernel) (by decide +kernel)
set_option maxRecDepth 20000 in
theorem gX1_neighboursWith_X1_isColourOrBare : GoodIn wsX1_neighboursWith (va_wsS RX1 48 yX1_isColourOrBare wsX1_isColourOrBare) := goodIn_app (goodIn_of _ (by decide +kernel)) ggX1_neighboursWith_X1_isColourOrBare
set_option maxRecDepth 20000 in
theorem ggX1_neighboursWith_X1_cell : GoodIn wsX1_neighboursWith wsX1_cell := goodIn_r _ [19] (by decide +kernel) (by decide +kernel)
set_option maxRecDepth 20000 in
theorem gX1_neighboursWith_X1_cell : GoodIn wsX1_neighboursWith (va_wsS RX1 56 yX1_cell wsX1_cell) := goodIn_app (goodIn_of _ (by decide +kernel)) ggX1_neighboursWith_X1_cell
set_option maxRecDepth 20000 in
theorem ggX1_neighboursWith_X1_nextTo : GoodIn wsX1_neighboursWith wsX1_nextTo := goodIn_r _ [22] (by decide +kernel) (by decide +kernel)
set_option maxRecDepth 20000 in
theorem gX1_neighboursWith_X1_nextTo : GoodIn wsX1_neighboursWith (va_wsS RX1 87 yX1_nextTo wsX1_nextTo) := goodIn_app (goodIn_of _ (by decide +kernel)) ggX1_neighboursWith_X1_nextTo
set_option maxRecDepth 20000 in
theorem ggX1_neighboursWith_X0_cellsWith : GoodIn wsX1_neighboursWith wsX0_cellsWith := goodIn_r _ [27, 28, 41, 42, 43, 44, 45, 46] (by decide +kernel) (by decide +kernel)
set_option maxRecDepth 20000 in
theorem gX1_neighboursWith_X0_cellsWith : GoodIn wsX1_neighboursWith (wsV RX1 90 RX0 yX0_cellsWith wsX0_cellsWith) := goodIn_app (goodIn_of _ (by decide +kernel)) ggX1_neighboursWith_X0_cellsWith
set_option maxRecDepth 20000 in
theorem ggX1_neighboursWith_J6_bitCount_0f7a4 : GoodIn wsX1_neighboursWith wsJ6_bitCount_0f7a4 := goodIn_r _ [32, 33, 34, 35] (by decide +kernel) (by decide +kernel)
set_option maxRecDepth 20000 in
theorem gX1_neighboursWith_J6_bitCount_0f7a4 : GoodIn wsX1_neighboursWith (va_wsS RX1 82 yJ6_bitCount_0f7a4 wsJ6_bitCount_0f7a4) := goodIn_app (goodIn_of _ (by decide +kernel)) ggX1_neighboursWith_J6_bitCount_0f7a4
theorem dX1_neighboursWith_0 : decode cX1_neighboursWith 0 = .ok (.aload_n 0, 1) := by decide +kernel
theorem dX1_neighboursWith_1 : decode cX1_neighboursWith 1 = .ok (.iload_n 1, 1) := by decide +kernel
theorem dX1_neighboursWith_2 : decode cX1_neighboursWith 2 = .ok (.iload_n 2, 1) := by decide +kernel
theorem dX1_neighboursWith_3 : decode cX1_neighboursWith 3 = .ok (.invokevirtual 44, 3) := by decide +kernel
theorem dX1_neighboursWith_6 : decode cX1_neighboursWith 6 = .ok (.ifCond .eq 10, 3) := by decide +kernel
theorem dX1_neighboursWith_9 : decode cX1_neighboursWith 9 = .ok (.iload_n 3, 1) := by decide +kernel
theorem dX1_neighboursWith_10 : decode cX1_neighboursWith 10 = .ok (.invokestatic 48, 3) := by decide +kernel
theorem dX1_neighboursWith_13 : decode cX1_neighboursWith 13 = .ok (.ifCond .ne 13, 3) := by decide +kernel
theorem dX1_neighboursWith_16 : decode cX1_neighboursWith 16 = .ok (.new 51, 3) := by decide +kernel
theorem dX1_neighboursWith_19 : decode cX1_neighboursWith 19 = .ok (.dup, 1) := by decide +kernel
theorem dX1_neighboursWith_20 : decode cX1_neighboursWith 20 = .ok (.ldc 53, 2) := by decide +kernel
theorem dX1_neighboursWith_22 : decode cX1_neighboursWith 22 = .ok (.invokespecial 55, 3) := by decide +kernel
theorem dX1_neighboursWith_25 : decode cX1_neighboursWith 25 = .ok (.athrow, 1) := by decide +kernel
theorem dX1_neighboursWith_26 : decode cX1_neighboursWith 26 = .ok (.iload_n 1, 1) := by decide +kernel
theorem dX1_neighboursWith_27 : decode cX1_neighboursWith 27 = .ok (.iload_n 2, 1) := by decide +kernel
theorem dX1_neighboursWith_28 : decode cX1_neighboursWith 28 = .ok (.invokestatic 56, 3) := by decide +kernel
theorem dX1_neighboursWith_31 : decode cX1_neighboursWith 31 = .ok (.invokestatic 87, 3) := by decide +kernel
theorem dX1_neighboursWith_34 : decode cX1_neighboursWith 34 = .ok (.aload_n 0, 1) := by decide +kernel
theorem dX1_neighboursWith_35 : decode cX1_neighboursWith 35 = .ok (.getfield 12, 3) := by decide +kernel
theorem dX1_neighboursWith_38 : decode cX1_neighboursWith 38 = .ok (.iload_n 3, 1) := by decide +kernel
theorem dX1_neighboursWith_39 : decode cX1_neighboursWith 39 = .ok (.invokevirtual 90, 3) := by decide +kernel
theorem dX1_neighboursWith_42 : decode cX1_neighboursWith 42 = .ok (.iand, 1) := by decide +kernel
theorem dX1_neighboursWith_43 : decode cX1_neighboursWith 43 = .ok (.invokestatic 82, 3) := by decide +kernel
theorem dX1_neighboursWith_46 : decode cX1_neighboursWith 46 = .ok (.ireturn, 1) := by decide +kernel
set_option maxRecDepth 20000 in
theorem ggX1_nextColour_X1_isOnMap : GoodIn wsX1_nextColour wsX1_isOnMap := goodIn_r _ [8, 9, 10, 43, 44, 45, 46, 47] (by decide +kernel) (by decide +kernel)
set_option maxRecDepth 20000 in
theorem gX1_nextColour_X1_isOnMap : GoodIn wsX1_nextColour (wsV RX1 44 RX1 yX1_isOnMap wsX1_isOnMap) := goodIn_app (goodIn_of _ (by decide +kernel)) ggX1_nextColour_X1_isOnMap
set_option maxRecDepth 20000 in
theorem ggX1_nextColour_X0_foresee : GoodIn wsX1_nextColour wsX0_foresee := goodIn_r _ [15, 16, 17, 18, 19, 20, 21, 14, 22, 23, 24, 25, 26, 27, 28, 48, 49, 50, 51, 52, 53] (by decide +kernel) (by decide +kernel)
set_option maxRecDepth 20000 in
theorem gX1_nextColour_X0_foresee : GoodIn wsX1_nextColour (wsV RX1 93 RX0 yX0_foresee wsX0_foresee) := goodIn_app (goodIn_of _ (by decide +kernel)) ggX1_nextColour_X0_foresee
set_option maxRecDepth 20000 in
theorem ggX1_nextColour_X1_cell : GoodIn wsX1_nextColour wsX1_cell := goodIn_r _ [31] (by decide +kernel) (by decide +kernel)
set_option maxRecDepth 20000 in
theorem gX1_nextColour_X1_cell : GoodIn wsX1_nextColour (va_wsS RX1 56 yX1_cell wsX1_cell) := goodIn_app (goodIn_of _ (by decide +kernel)) ggX1_nextColour_X1_cell
set_option maxRecDepth 20000 in
theorem ggX1_nextColour_X0_foreseenColourOf : GoodIn wsX1_nextColour wsX0_foreseenColourOf := goodIn_r _ [35, 16, 36, 37, 14, 38, 39, 40, 41, 42, 18, 48, 49, 50, 51, 52, 53] (by decide +kernel) (by decide +kernel)
set_option maxRecDepth 20000 in
theorem gX1_nextColour_X0_foreseenColourOf : GoodIn wsX1_nextColour (wsV RX1 97 RX0 yX0_foreseenColourOf wsX0_foreseenColourOf) := goodIn_app (goodIn_of _ (by decide +kernel)) ggX1_nextColour_X0_foreseenColourOf
theorem dX1_nextColour_0 : decode cX1_nextColour 0 = .ok (.aload_n 0, 1) := by decide +kernel
theorem dX1_nextColour_1 : decode cX1_nextColour 1 = .ok (.iload_n 1, 1) := by decide +kernel
theorem dX1_nextColour_2 : decode cX1_nextColour 2 = .ok (.iload_n 2, 1) := by decide +kernel
theorem dX1_nextColour_3 : decode cX1_nextColour 3 = .ok (.invokevirtual 44, 3) := by decide +kernel
theorem dX1_nextColour_6 : decode cX1_nextColour 6 = .ok (.ifCond .ne 13, 3) := by decide +kernel
theorem dX1_nextColour_9 : decode cX1_nextColour 9 = .ok (.new 51, 3) := by decide +kernel
theorem dX1_nextColour_12 : decode cX1_nextColour 12 = .ok (.dup, 1) := by decide +kernel
theorem dX1_nextColour_13 : decode cX1_nextColour 13 = .ok (.ldc 67, 2) := by decide +kernel
theorem dX1_nextColour_15 : decode cX1_nextColour 15 = .ok (.invokespecial 55, 3) := by decide +kernel
theorem dX1_nextColour_18 : decode cX1_nextColour 18 = .ok (.athrow, 1) := by decide +kernel
theorem dX1_nextColour_19 : decode cX1_nextColour 19 = .ok (.aload_n 0, 1) := by decide +kernel
theorem dX1_nextColour_20 : decode cX1_nextColour 20 = .ok (.getfield 12, 3) := by decide +kernel
theorem dX1_nextColour_23 : decode cX1_nextColour 23 = .ok (.invokevirtual 93, 3) := by decide +kernel
theorem dX1_nextColour_26 : decode cX1_nextColour 26 = .ok (.pop, 1) := by decide +kernel
theorem dX1_nextColour_27 : decode cX1_nextColour 27 = .ok (.aload_n 0, 1) := by decide +kernel
theorem dX1_nextColour_28 : decode cX1_nextColour 28 = .ok (.getfield 12, 3) := by decide +kernel
theorem dX1_nextColour_31 : decode cX1_nextColour 31 = .ok (.iload_n 1, 1) := by decide +kernel
theorem dX1_nextColour_32 : decode cX1_nextColour 32 = .ok (.iload_n 2, 1) := by decide +kernel
theorem dX1_nextColour_33 : decode cX1_nextColour 33 = .ok (.invokestatic 56, 3) := by decide +kernel
theorem dX1_nextColour_36 : decode cX1_nextColour 36 = .ok (.invokevirtual 97, 3) := by decide +kernel
theorem dX1_nextColour_39 : decode cX1_nextColour 39 = .ok (.ireturn, 1) := by decide +kernel
set_option maxRecDepth 20000 in
theorem ggX1_regionSize_X1_isOnMap : GoodIn wsX1_regionSize wsX1_isOnMap := goodIn_r _ [8, 9, 10, 43, 44, 45, 46, 47] (by decide +kernel) (by decide +kernel)
set_option maxRecDepth 20000 in
theorem gX1_regionSize_X1_isOnMap : GoodIn wsX1_regionSize (wsV RX1 44 RX1 yX1_isOnMap wsX1_isOnMap) := goodIn_app (goodIn_of _ (by decide +kernel)) ggX1_regionSize_X1_isOnMap
set_option maxRecDepth 20000 in
theorem ggX1_regionSize_X1_cell : GoodIn wsX1_regionSize wsX1_cell := goodIn_r _ [13] (by decide +kernel) (by decide +kernel)
set_option maxRecDepth 20000 in
theorem gX1_regionSize_X1_cell : GoodIn wsX1_regionSize (va_wsS RX1 56 yX1_cell wsX1_cell) := goodIn_app (goodIn_of _ (by decide +kernel)) ggX1_regionSize_X1_cell
set_option maxRecDepth 20000 in
theorem ggX1_regionSize_X0_sizeOfRegion : GoodIn wsX1_regionSize wsX0_sizeOfRegion := goodIn_r _ [18, 19, 20, 21, 17, 22, 23, 24, 25, 26, 27, 28, 29, 30, 31, 32, 33, 34, 7, 35, 36, 37, 38, 39, 40, 41, 42, 48, 49, 50, 51, 52, 53] (by decide +kernel) (by decide +kernel)
set_option maxRecDepth 20000 in
theorem gX1_regionSize_X0_sizeOfRegion : GoodIn wsX1_regionSize (wsV RX1 100 RX0 yX0_sizeOfRegion wsX0_sizeOfRegion) := goodIn_app (goodIn_of _ (by decide +kernel)) ggX1_regionSize_X0_sizeOfRegion
theorem dX1_regionSize_0 : decode cX1_regionSize 0 = .ok (.aload_n 0, 1) := by decide +kernel
theorem dX1_regionSize_1 : decode cX1_regionSize 1 = .ok (.iload_n 1, 1) := by decide +kernel
theorem dX1_regionSize_2 : decode cX1_regionSize 2 = .ok (.iload_n 2, 1) := by decide +kernel
theorem dX1_regionSize_3 : decode cX1_regionSize 3 = .ok (.invokevirtual 44, 3) := by decide +kernel
theorem dX1_regionSize_6 : decode cX1_regionSize 6 = .ok (.ifCond .ne 13, 3) := by decide +kernel
theorem dX1_regionSize_9 : decode cX1_regionSize 9 = .ok (.new 51, 3) := by decide +kernel
theorem dX1_regionSize_12 : decode cX1_regionSize 12 = .ok (.dup, 1) := by decide +kernel
theorem dX1_regionSize_13 : decode cX1_regionSize 13 = .ok (.ldc 67, 2) := by decide +kernel
theorem dX1_regionSize_15 : decode cX1_regionSize 15 = .ok (.invokespecial 55, 3) := by decide +kernel
theorem dX1_regionSize_18 : decode cX1_regionSize 18 = .ok (.athrow, 1) := by decide +kernel
theorem dX1_regionSize_19 : decode cX1_regionSize 19 = .ok (.aload_n 0, 1) := by decide +kernel
theorem dX1_regionSize_20 : decode cX1_regionSize 20 = .ok (.getfield 12, 3) := by decide +kernel
theorem dX1_regionSize_23 : decode cX1_regionSize 23 = .ok (.iload_n 1, 1) := by decide +kernel
theorem dX1_regionSize_24 : decode cX1_regionSize 24 = .ok (.iload_n 2, 1) := by decide +kernel
theorem dX1_regionSize_25 : decode cX1_regionSize 25 = .ok (.invokestatic 56, 3) := by decide +kernel
theorem dX1_regionSize_28 : decode cX1_regionSize 28 = .ok (.invokevirtual 100, 3) := by decide +kernel
theorem dX1_regionSize_31 : decode cX1_regionSize 31 = .ok (.ireturn, 1) := by decide +kernel
theorem dX1_width_0 : decode cX1_width 0 = .ok (.aload_n 0, 1) := by decide +kernel
theorem dX1_width_1 : decode cX1_width 1 = .ok (.getfield 19, 3) := by decide +kernel
theorem dX1_width_4 : decode cX1_width 4 = .ok (.ireturn, 1) := by decide +kernel
theorem dX1_height_0 : decode cX1_height 0 = .ok (.aload_n 0, 1) := by decide +kernel
theorem dX1_height_1 : decode cX1_height 1 = .ok (.getfield 23, 3) := by decide +kernel
theorem dX1_height_4 : decode cX1_height 4 = .ok (.ireturn, 1) := by decide +kernel
theorem dX1_need_0 : decode cX1_need 0 = .ok (.aload_n 0, 1) := by decide +kernel
theorem dX1_need_1 : decode cX1_need 1 = .ok (.getfield 12, 3) := by decide +kernel
theorem dX1_need_4 : decode cX1_need 4 = .ok (.getfield 74, 3) := by decide +kernel
theorem dX1_need_7 : decode cX1_need 7 = .ok (.ireturn, 1) := by decide +kernel
theorem dX1_waves_0 : decode cX1_waves 0 = .ok (.aload_n 0, 1) := by decide +kernel
theorem dX1_waves_1 : decode cX1_waves 1 = .ok (.getfield 26, 3) := by decide +kernel
theorem dX1_waves_4 : decode cX1_waves 4 = .ok (.ireturn, 1) := by decide +kernel
set_option maxRecDepth 20000 in
theorem ggX1_stubbornCells_J6_bitCount_0f7a4 : GoodIn wsX1_stubbornCells wsJ6_bitCount_0f7a4 := goodIn_r _ [6, 7, 8, 9] (by decide +kernel) (by decide +kernel)
set_option maxRecDepth 20000 in
theorem gX1_stubbornCells_J6_bitCount_0f7a4 : GoodIn wsX1_stubbornCells (va_wsS RX1 82 yJ6_bitCount_0f7a4 wsJ6_bitCount_0f7a4) := goodIn_app (goodIn_of _ (by decide +kernel)) ggX1_stubbornCells_J6_bitCount_0f7a4
theorem dX1_stubbornCells_0 : decode cX1_stubbornCells 0 = .ok (.aload_n 0, 1) := by decide +kernel
theorem dX1_stubbornCells_1 : decode cX1_stubbornCells 1 = .ok (.getfield 12, 3) := by decide +kernel
theorem dX1_stubbornCells_4 : decode cX1_stubbornCells 4 = .ok (.getfield 69, 3) := by decide +kernel
theorem dX1_stubbornCells_7 : decode cX1_stubbornCells 7 = .ok (.invokestatic 82, 3) := by decide +kernel
theorem dX1_stubbornCells_10 : decode cX1_stubbornCells 10 = .ok (.ireturn, 1) := by decide +kernel
set_option maxRecDepth 20000 in
theorem ggX1_cellsOf_X1_isColourOrBare : GoodIn wsX1_cellsOf wsX1_isColourOrBare := goodIn_r _ [7, 8, 9, 6, 10] (by decide +kernel) (by decide +kernel)
set_option maxRecDepth 20000 in
theorem gX1_cellsOf_X1_isColourOrBare : GoodIn wsX1_cellsOf (va_wsS RX1 48 yX1_isColourOrBare wsX1_isColourOrBare) := goodIn_app (goodIn_of _ (by decide +kernel)) ggX1_cellsOf_X1_isColourOrBare
set_option maxRecDepth 20000 in
theorem ggX1_cellsOf_X0_count : GoodIn wsX1_cellsOf wsX0_count := goodIn_r _ [15, 16, 17, 18, 14, 19, 20, 21, 22, 23, 24, 25, 26, 27, 33, 34, 35, 36, 37, 38] (by decide +kernel) (by decide +kernel)
set_option maxRecDepth 20000 in
theorem gX1_cellsOf_X0_count : GoodIn wsX1_cellsOf (wsV RX1 105 RX0 yX0_count wsX0_count) := goodIn_app (goodIn_of _ (by decide +kernel)) ggX1_cellsOf_X0_count
theorem dX1_cellsOf_0 : decode cX1_cellsOf 0 = .ok (.iload_n 1, 1) := by decide +kernel
theorem dX1_cellsOf_1 : decode cX1_cellsOf 1 = .ok (.invokestatic 48, 3) := by decide +kernel
theorem dX1_cellsOf_4 : decode cX1_cellsOf 4 = .ok (.ifCond .ne 13, 3) := by decide +kernel
theorem dX1_cellsOf_7 : decode cX1_cellsOf 7 = .ok (.new 51, 3) := by decide +kernel
theorem dX1_cellsOf_10 : decode cX1_cellsOf 10 = .ok (.dup, 1) := by decide +kernel
theorem dX1_cellsOf_11 : decode cX1_cellsOf 11 = .ok (.ldc 103, 2) := by decide +kernel
theorem dX1_cellsOf_13 : decode cX1_cellsOf 13 = .ok (.invokespecial 55, 3) := by decide +kernel
theorem dX1_cellsOf_16 : decode cX1_cellsOf 16 = .ok (.athrow, 1) := by decide +kernel
theorem dX1_cellsOf_17 : decode cX1_cellsOf 17 = .ok (.aload_n 0, 1) := by decide +kernel
theorem dX1_cellsOf_18 : decode cX1_cellsOf 18 = .ok (.getfield 12, 3) := by decide +kernel
theorem dX1_cellsOf_21 : decode cX1_cellsOf 21 = .ok (.iload_n 1, 1) := by decide +kernel
theorem dX1_cellsOf_22 : decode cX1_cellsOf 22 = .ok (.invokevirtual 105, 3) := by decide +kernel
theorem dX1_cellsOf_25 : decode cX1_cellsOf 25 = .ok (.ireturn, 1) := by decide +kernel
set_option maxRecDepth 20000 in
theorem ggX1_regionsOf_X1_isColour : GoodIn wsX1_regionsOf wsX1_isColour := goodIn_r _ [7] (by decide +kernel) (by decide +kernel)
set_option maxRecDepth 20000 in
theorem gX1_regionsOf_X1_isColour : GoodIn wsX1_regionsOf (va_wsS RX1 108 yX1_isColour wsX1_isColour) := goodIn_app (goodIn_of _ (by decide +kernel)) ggX1_regionsOf_X1_isColour
set_option maxRecDepth 20000 in
theorem ggX1_regionsOf_X0_countRegions : GoodIn wsX1_regionsOf wsX0_countRegions := goodIn_r _ [12, 13, 14, 15, 11, 16, 17, 18, 19, 20, 21, 6, 22, 28, 29, 30, 31, 32, 33] (by decide +kernel) (by decide +kernel)
set_option maxRecDepth 20000 in
theorem gX1_regionsOf_X0_countRegions : GoodIn wsX1_regionsOf (wsV RX1 111 RX0 yX0_countRegions wsX0_countRegions) := goodIn_app (goodIn_of _ (by decide +kernel)) ggX1_regionsOf_X0_countRegions
theorem dX1_regionsOf_0 : decode cX1_regionsOf 0 = .ok (.iload_n 1, 1) := by decide +kernel
theorem dX1_regionsOf_1 : decode cX1_regionsOf 1 = .ok (.invokestatic 108, 3) := by decide +kernel
theorem dX1_regionsOf_4 : decode cX1_regionsOf 4 = .ok (.ifCond .ne 13, 3) := by decide +kernel
theorem dX1_regionsOf_7 : decode cX1_regionsOf 7 = .ok (.new 51, 3) := by decide +kernel
theorem dX1_regionsOf_10 : decode cX1_regionsOf 10 = .ok (.dup, 1) := by decide +kernel
theorem dX1_regionsOf_11 : decode cX1_regionsOf 11 = .ok (.ldc 103, 2) := by decide +kernel
theorem dX1_regionsOf_13 : decode cX1_regionsOf 13 = .ok (.invokespecial 55, 3) := by decide +kernel
theorem dX1_regionsOf_16 : decode cX1_regionsOf 16 = .ok (.athrow, 1) := by decide +kernel
theorem dX1_regionsOf_17 : decode cX1_regionsOf 17 = .ok (.aload_n 0, 1) := by decide +kernel
theorem dX1_regionsOf_18 : decode cX1_regionsOf 18 = .ok (.getfield 12, 3) := by decide +kernel
theorem dX1_regionsOf_21 : decode cX1_regionsOf 21 = .ok (.iload_n 1, 1) := by decide +kernel
theorem dX1_regionsOf_22 : decode cX1_regionsOf 22 = .ok (.invokevirtual 111, 3) := by decide +kernel
theorem dX1_regionsOf_25 : decode cX1_regionsOf 25 = .ok (.ireturn, 1) := by decide +kernel
set_option maxRecDepth 20000 in
theorem ggX1_greatestRegion_X1_isColour : GoodIn wsX1_greatestRegion wsX1_isColour := goodIn_r _ [7] (by decide +kernel) (by decide +kernel)
set_option maxRecDepth 20000 in
theorem gX1_greatestRegion_X1_isColour : GoodIn wsX1_greatestRegion (va_wsS RX1 108 yX1_isColour wsX1_isColour) := goodIn_app (goodIn_of _ (by decide +kernel)) ggX1_greatestRegion_X1_isColour
set_option maxRecDepth 20000 in
theorem ggX1_greatestRegion_X0_sizeOfGreatestRegion : GoodIn wsX1_greatestRegion wsX0_sizeOfGreatestRegion := goodIn_r _ [12, 13, 14, 15, 16, 17, 18, 19, 11, 20, 21, 22, 23, 24, 25, 6, 26, 27, 28, 29, 30, 31, 32, 33, 39, 40, 41, 42, 43, 44] (by decide +kernel) (by decide +kernel)
set_option maxRecDepth 20000 in
theorem gX1_greatestRegion_X0_sizeOfGreatestRegion : GoodIn wsX1_greatestRegion (wsV RX1 114 RX0 yX0_sizeOfGreatestRegion wsX0_sizeOfGreatestRegion) := goodIn_app (goodIn_of _ (by decide +kernel)) ggX1_greatestRegion_X0_sizeOfGreatestRegion
theorem dX1_greatestRegion_0 : decode cX1_greatestRegion 0 = .ok (.iload_n 1, 1) := by decide +kernel
theorem dX1_greatestRegion_1 : decode cX1_greatestRegion 1 = .ok (.invokestatic 108, 3) := by decide +kernel
theorem dX1_greatestRegion_4 : decode cX1_greatestRegion 4 = .ok (.ifCond .ne 13, 3) := by decide +kernel
theorem dX1_greatestRegion_7 : decode cX1_greatestRegion 7 = .ok (.new 51, 3) := by decide +kernel
theorem dX1_greatestRegion_10 : decode cX1_greatestRegion 10 = .ok (.dup, 1) := by decide +kernel
theorem dX1_greatestRegion_11 : decode cX1_greatestRegion 11 = .ok (.ldc 103, 2) := by decide +kernel
theorem dX1_greatestRegion_13 : decode cX1_greatestRegion 13 = .ok (.invokespecial 55, 3) := by decide +kernel
theorem dX1_greatestRegion_16 : decode cX1_greatestRegion 16 = .ok (.athrow, 1) := by decide +kernel
theorem dX1_greatestRegion_17 : decode cX1_greatestRegion 17 = .ok (.aload_n 0, 1) := by decide +kernel
theorem dX1_greatestRegion_18 : decode cX1_greatestRegion 18 = .ok (.getfield 12, 3) := by decide +kernel
theorem dX1_greatestRegion_21 : decode cX1_greatestRegion 21 = .ok (.iload_n 1, 1) := by decide +kernel
theorem dX1_greatestRegion_22 : decode cX1_greatestRegion 22 = .ok (.invokevirtual 114, 3) := by decide +kernel
theorem dX1_greatestRegion_25 : decode cX1_greatestRegion 25 = .ok (.ireturn, 1) := by decide +kernel
set_option maxRecDepth 20000 in
theorem ggX1_borders_X0_countBorders : GoodIn wsX1_borders wsX0_countBorders := goodIn_r _ [6, 7, 8, 9, 10, 5, 11, 12, 13, 14, 15, 16, 17, 18, 24, 25, 26, 27, 28, 29] (by decide +kernel) (by decide +kernel)
set_option maxRecDepth 20000 in
theorem gX1_borders_X0_countBorders : GoodIn wsX1_borders (wsV RX1 117 RX0 yX0_countBorders wsX0_countBorders) := goodIn_app (goodIn_of _ (by decide +kernel)) ggX1_borders_X0_countBorders
theorem dX1_borders_0 : decode cX1_borders 0 = .ok (.aload_n 0, 1) := by decide +kernel
theorem dX1_borders_1 : decode cX1_borders 1 = .ok (.getfield 12, 3) := by decide +kernel
theorem dX1_borders_4 : decode cX1_borders 4 = .ok (.invokevirtual 117, 3) := by decide +kernel
theorem dX1_borders_7 : decode cX1_borders 7 = .ok (.ireturn, 1) := by decide +kernel
set_option maxRecDepth 20000 in
theorem ggX1_leader_X0_count : GoodIn wsX1_leader wsX0_count := goodIn_r _ [6, 7, 8, 9, 5, 10, 11, 12, 13, 14, 15, 16, 17, 18, 24, 25, 26, 27, 28, 29] (by decide +kernel) (by decide +kernel)
set_option maxRecDepth 20000 in
theorem gX1_leader_X0_count : GoodIn wsX1_leader (wsV RX1 105 RX0 yX0_count wsX0_count) := goodIn_app (goodIn_of _ (by decide +kernel)) ggX1_leader_X0_count
theorem dX1_leader_0 : decode cX1_leader 0 = .ok (.iconst 0, 1) := by decide +kernel
theorem dX1_leader_1 : decode cX1_leader 1 = .ok (.istore_n 1, 1) := by decide +kernel
theorem dX1_leader_2 : decode cX1_leader 2 = .ok (.iconst 0, 1) := by decide +kernel
theorem dX1_leader_3 : decode cX1_leader 3 = .ok (.istore_n 2, 1) := by decide +kernel
theorem dX1_leader_4 : decode cX1_leader 4 = .ok (.iconst 1, 1) := by decide +kernel
theorem dX1_leader_5 : decode cX1_leader 5 = .ok (.istore_n 3, 1) := by decide +kernel
theorem dX1_leader_6 : decode cX1_leader 6 = .ok (.iload_n 3, 1) := by decide +kernel
theorem dX1_leader_7 : decode cX1_leader 7 = .ok (.iconst 4, 1) := by decide +kernel
theorem dX1_leader_8 : decode cX1_leader 8 = .ok (.if_icmp .gt 30, 3) := by decide +kernel
theorem dX1_leader_11 : decode cX1_leader 11 = .ok (.aload_n 0, 1) := by decide +kernel
theorem dX1_leader_12 : decode cX1_leader 12 = .ok (.getfield 12, 3) := by decide +kernel
theorem dX1_leader_15 : decode cX1_leader 15 = .ok (.iload_n 3, 1) := by decide +kernel
theorem dX1_leader_16 : decode cX1_leader 16 = .ok (.invokevirtual 105, 3) := by decide +kernel
theorem dX1_leader_19 : decode cX1_leader 19 = .ok (.istore 4, 2) := by decide +kernel
theorem dX1_leader_21 : decode cX1_leader 21 = .ok (.iload 4, 2) := by decide +kernel
theorem dX1_leader_23 : decode cX1_leader 23 = .ok (.iload_n 2, 1) := by decide +kernel
theorem dX1_leader_24 : decode cX1_leader 24 = .ok (.if_icmp .le 8, 3) := by decide +kernel
theorem dX1_leader_27 : decode cX1_leader 27 = .ok (.iload 4, 2) := by decide +kernel
theorem dX1_leader_29 : decode cX1_leader 29 = .ok (.istore_n 2, 1) := by decide +kernel
theorem dX1_leader_30 : decode cX1_leader 30 = .ok (.iload_n 3, 1) := by decide +kernel
theorem dX1_leader_31 : decode cX1_leader 31 = .ok (.istore_n 1, 1) := by decide +kernel
theorem dX1_leader_32 : decode cX1_leader 32 = .ok (.iinc 3 1, 3) := by decide +kernel
theorem dX1_leader_35 : decode cX1_leader 35 = .ok (.goto (-29), 3) := by decide +kernel
theorem dX1_leader_38 : decode cX1_leader 38 = .ok (.iload_n 1, 1) := by decide +kernel
theorem dX1_leader_39 : decode cX1_leader 39 = .ok (.ireturn, 1) := by decide +kernel
set_option maxRecDepth 20000 in
theorem ggX1_isStill_X0_foresee : GoodIn wsX1_isStill wsX0_foresee := goodIn_r _ [6, 7, 8, 9, 10, 11, 12, 5, 13, 14, 15, 16, 17, 18, 19, 25, 26, 27, 28, 29, 30] (by decide +kernel) (by decide +kernel)
set_option maxRecDepth 20000 in
theorem gX1_isStill_X0_foresee : GoodIn wsX1_isStill (wsV RX1 93 RX0 yX0_foresee wsX0_foresee) := goodIn_app (goodIn_of _ (by decide +kernel)) ggX1_isStill_X0_foresee
theorem dX1_isStill_0 : decode cX1_isStill 0 = .ok (.aload_n 0, 1) := by decide +kernel
theorem dX1_isStill_1 : decode cX1_isStill 1 = .ok (.getfield 12, 3) := by decide +kernel
theorem dX1_isStill_4 : decode cX1_isStill 4 = .ok (.invokevirtual 93, 3) := by decide +kernel
theorem dX1_isStill_7 : decode cX1_isStill 7 = .ok (.ifCond .ne 7, 3) := by decide +kernel
theorem dX1_isStill_10 : decode cX1_isStill 10 = .ok (.iconst 1, 1) := by decide +kernel
theorem dX1_isStill_11 : decode cX1_isStill 11 = .ok (.goto 4, 3) := by decide +kernel
theorem dX1_isStill_14 : decode cX1_isStill 14 = .ok (.iconst 0, 1) := by decide +kernel
theorem dX1_isStill_15 : decode cX1_isStill 15 = .ok (.ireturn, 1) := by decide +kernel
set_option maxRecDepth 20000 in
theorem ggX1_winner_X0_isAll : GoodIn wsX1_winner wsX0_isAll := goodIn_r _ [6, 7, 8, 9, 10, 5, 11, 12, 18, 19, 20, 21, 22, 23] (by decide +kernel) (by decide +kernel)
set_option maxRecDepth 20000 in
theorem gX1_winner_X0_isAll : GoodIn wsX1_winner (wsV RX1 120 RX0 yX0_isAll wsX0_isAll) := goodIn_app (goodIn_of _ (by decide +kernel)) ggX1_winner_X0_isAll
theorem dX1_winner_0 : decode cX1_winner 0 = .ok (.iconst 1, 1) := by decide +kernel
theorem dX1_winner_1 : decode cX1_winner 1 = .ok (.istore_n 1, 1) := by decide +kernel
theorem dX1_winner_2 : decode cX1_winner 2 = .ok (.iload_n 1, 1) := by decide +kernel
theorem dX1_winner_3 : decode cX1_winner 3 = .ok (.iconst 4, 1) := by decide +kernel
theorem dX1_winner_4 : decode cX1_winner 4 = .ok (.if_icmp .gt 22, 3) := by decide +kernel
theorem dX1_winner_7 : decode cX1_winner 7 = .ok (.aload_n 0, 1) := by decide +kernel
theorem dX1_winner_8 : decode cX1_winner 8 = .ok (.getfield 12, 3) := by decide +kernel
theorem dX1_winner_11 : decode cX1_winner 11 = .ok (.iload_n 1, 1) := by decide +kernel
theorem dX1_winner_12 : decode cX1_winner 12 = .ok (.invokevirtual 120, 3) := by decide +kernel
theorem dX1_winner_15 : decode cX1_winner 15 = .ok (.ifCond .eq 5, 3) := by decide +kernel
theorem dX1_winner_18 : decode cX1_winner 18 = .ok (.iload_n 1, 1) := by decide +kernel
theorem dX1_winner_19 : decode cX1_winner 19 = .ok (.ireturn, 1) := by decide +kernel
theorem dX1_winner_20 : decode cX1_winner 20 = .ok (.iinc 1 1, 3) := by decide +kernel
theorem dX1_winner_23 : decode cX1_winner 23 = .ok (.goto (-21), 3) := by decide +kernel
theorem dX1_winner_26 : decode cX1_winner 26 = .ok (.iconst 0, 1) := by decide +kernel
theorem dX1_winner_27 : decode cX1_winner 27 = .ok (.ireturn, 1) := by decide +kernel
set_option maxRecDepth 20000 in
theorem ggX1_wavesUntilStill_X0_copyFrom : GoodIn wsX1_wavesUntilStill wsX0_copyFrom := goodIn_r _ [7, 8, 9, 10, 11, 38, 39, 40, 41, 42, 43] (by decide +kernel) (by decide +kernel)
set_option maxRecDepth 20000 in
theorem gX1_wavesUntilStill_X0_copyFrom : GoodIn wsX1_wavesUntilStill (wsV RX1 123 RX0 yX0_copyFrom wsX0_copyFrom) := goodIn_app (goodIn_of _ (by decide +kernel)) ggX1_wavesUntilStill_X0_copyFrom
set_option maxRecDepth 20000 in
theorem ggX1_wavesUntilStill_X0_surge : GoodIn wsX1_wavesUntilStill wsX0_surge := goodIn_r _ [15, 16, 17, 18, 6, 19, 20, 10, 11, 21, 22, 23, 24, 25, 8, 9, 26, 27, 28, 29, 30, 31, 32, 38, 39, 40, 41, 42, 43] (by decide +kernel) (by decide +kernel)
set_option maxRecDepth 20000 in
theorem gX1_wavesUntilStill_X0_surge : GoodIn wsX1_wavesUntilStill (wsV RX1 79 RX0 yX0_surge wsX0_surge) := goodIn_app (goodIn_of _ (by decide +kernel)) ggX1_wavesUntilStill_X0_surge
theorem dX1_wavesUntilStill_0 : decode cX1_wavesUntilStill 0 = .ok (.aload_n 0, 1) := by decide +kernel
theorem dX1_wavesUntilStill_1 : decode cX1_wavesUntilStill 1 = .ok (.getfield 16, 3) := by decide +kernel
theorem dX1_wavesUntilStill_4 : decode cX1_wavesUntilStill 4 = .ok (.aload_n 0, 1) := by decide +kernel
theorem dX1_wavesUntilStill_5 : decode cX1_wavesUntilStill 5 = .ok (.getfield 12, 3) := by decide +kernel
theorem dX1_wavesUntilStill_8 : decode cX1_wavesUntilStill 8 = .ok (.invokevirtual 123, 3) := by decide +kernel
theorem dX1_wavesUntilStill_11 : decode cX1_wavesUntilStill 11 = .ok (.iconst 0, 1) := by decide +kernel
theorem dX1_wavesUntilStill_12 : decode cX1_wavesUntilStill 12 = .ok (.istore_n 1, 1) := by decide +kernel
theorem dX1_wavesUntilStill_13 : decode cX1_wavesUntilStill 13 = .ok (.iload_n 1, 1) := by decide +kernel
theorem dX1_wavesUntilStill_14 : decode cX1_wavesUntilStill 14 = .ok (.bipush 40, 2) := by decide +kernel
theorem dX1_wavesUntilStill_16 : decode cX1_wavesUntilStill 16 = .ok (.if_icmp .gt 22, 3) := by decide +kernel
theorem dX1_wavesUntilStill_19 : decode cX1_wavesUntilStill 19 = .ok (.aload_n 0, 1) := by decide +kernel
theorem dX1_wavesUntilStill_20 : decode cX1_wavesUntilStill 20 = .ok (.getfield 16, 3) := by decide +kernel
theorem dX1_wavesUntilStill_23 : decode cX1_wavesUntilStill 23 = .ok (.iconst 1, 1) := by decide +kernel
theorem dX1_wavesUntilStill_24 : decode cX1_wavesUntilStill 24 = .ok (.invokevirtual 79, 3) := by decide +kernel
theorem dX1_wavesUntilStill_27 : decode cX1_wavesUntilStill 27 = .ok (.ifCond .ne 5, 3) := by decide +kernel
theorem dX1_wavesUntilStill_30 : decode cX1_wavesUntilStill 30 = .ok (.iload_n 1, 1) := by decide +kernel
theorem dX1_wavesUntilStill_31 : decode cX1_wavesUntilStill 31 = .ok (.ireturn, 1) := by decide +kernel
theorem dX1_wavesUntilStill_32 : decode cX1_wavesUntilStill 32 = .ok (.iinc 1 1, 3) := by decide +kernel
theorem dX1_wavesUntilStill_35 : decode cX1_wavesUntilStill 35 = .ok (.goto (-22), 3) := by decide +kernel
theorem dX1_wavesUntilStill_38 : decode cX1_wavesUntilStill 38 = .ok (.iconst (-1), 1) := by decide +kernel
theorem dX1_wavesUntilStill_39 : decode cX1_wavesUntilStill 39 = .ok (.ireturn, 1) := by decide +kernel
set_option maxRecDepth 20000 in
theorem ggX1_cellsAfter_X1_isColourOrBare : GoodIn wsX1_cellsAfter wsX1_isColourOrBare := goodIn_r _ [8, 9, 10, 7, 11] (by decide +kernel) (by decide +kernel)
set_option maxRecDepth 20000 in
theorem gX1_cellsAfter_X1_isColourOrBare : GoodIn wsX1_cellsAfter (va_wsS RX1 48 yX1_isColourOrBare wsX1_isColourOrBare) := goodIn_app (goodIn_of _ (by decide +kernel)) ggX1_cellsAfter_X1_isColourOrBare
set_option maxRecDepth 20000 in
theorem ggX1_cellsAfter_X1_countAfter : GoodIn wsX1_cellsAfter wsX1_countAfter := goodIn_r _ [15, 16, 17, 18, 19, 20, 21, 22, 23, 24, 25, 26, 27, 28, 29, 30, 31, 32, 33, 34, 35, 36, 37, 38, 39, 40, 41, 42, 43, 44, 45, 46, 47, 48, 49, 50, 51, 52, 53, 54, 55, 56, 57, 58, 59, 60, 61, 62, 63, 64, 65, 66, 67, 68, 69, 70, 71, 72, 73, 74, 75, 76, 77] (by decide +kernel) (by decide +kernel)
set_option maxRecDepth 20000 in
theorem gX1_cellsAfter_X1_countAfter : GoodIn wsX1_cellsAfter (wsV RX1 127 RX1 yX1_countAfter wsX1_countAfter) := goodIn_app (goodIn_of _ (by decide +kernel)) ggX1_cellsAfter_X1_countAfter
theorem dX1_cellsAfter_0 : decode cX1_cellsAfter 0 = .ok (.iload_n 1, 1) := by decide +kernel
theorem dX1_cellsAfter_1 : decode cX1_cellsAfter 1 = .ok (.iconst 1, 1) := by decide +kernel
theorem dX1_cellsAfter_2 : decode cX1_cellsAfter 2 = .ok (.if_icmp .lt 9, 3) := by decide +kernel
theorem dX1_cellsAfter_5 : decode cX1_cellsAfter 5 = .ok (.iload_n 1, 1) := by decide +kernel
theorem dX1_cellsAfter_6 : decode cX1_cellsAfter 6 = .ok (.bipush 40, 2) := by decide +kernel
theorem dX1_cellsAfter_8 : decode cX1_cellsAfter 8 = .ok (.if_icmp .le 13, 3) := by decide +kernel
theorem dX1_cellsAfter_11 : decode cX1_cellsAfter 11 = .ok (.new 37, 3) := by decide +kernel
theorem dX1_cellsAfter_14 : decode cX1_cellsAfter 14 = .ok (.dup, 1) := by decide +kernel
theorem dX1_cellsAfter_15 : decode cX1_cellsAfter 15 = .ok (.ldc 77, 2) := by decide +kernel
theorem dX1_cellsAfter_17 : decode cX1_cellsAfter 17 = .ok (.invokespecial 41, 3) := by decide +kernel
theorem dX1_cellsAfter_20 : decode cX1_cellsAfter 20 = .ok (.athrow, 1) := by decide +kernel
theorem dX1_cellsAfter_21 : decode cX1_cellsAfter 21 = .ok (.iload_n 2, 1) := by decide +kernel
theorem dX1_cellsAfter_22 : decode cX1_cellsAfter 22 = .ok (.invokestatic 48, 3) := by decide +kernel
theorem dX1_cellsAfter_25 : decode cX1_cellsAfter 25 = .ok (.ifCond .ne 13, 3) := by decide +kernel
theorem dX1_cellsAfter_28 : decode cX1_cellsAfter 28 = .ok (.new 51, 3) := by decide +kernel
theorem dX1_cellsAfter_31 : decode cX1_cellsAfter 31 = .ok (.dup, 1) := by decide +kernel
theorem dX1_cellsAfter_32 : decode cX1_cellsAfter 32 = .ok (.ldc 103, 2) := by decide +kernel
theorem dX1_cellsAfter_34 : decode cX1_cellsAfter 34 = .ok (.invokespecial 55, 3) := by decide +kernel
theorem dX1_cellsAfter_37 : decode cX1_cellsAfter 37 = .ok (.athrow, 1) := by decide +kernel
theorem dX1_cellsAfter_38 : decode cX1_cellsAfter 38 = .ok (.aload_n 0, 1) := by decide +kernel
theorem dX1_cellsAfter_39 : decode cX1_cellsAfter 39 = .ok (.iconst 0, 1) := by decide +kernel
theorem dX1_cellsAfter_40 : decode cX1_cellsAfter 40 = .ok (.iload_n 2, 1) := by decide +kernel
theorem dX1_cellsAfter_41 : decode cX1_cellsAfter 41 = .ok (.iload_n 1, 1) := by decide +kernel
theorem dX1_cellsAfter_42 : decode cX1_cellsAfter 42 = .ok (.invokevirtual 127, 3) := by decide +kernel
theorem dX1_cellsAfter_45 : decode cX1_cellsAfter 45 = .ok (.ireturn, 1) := by decide +kernel
set_option maxRecDepth 20000 in
theorem ggX1_wins_X1_isColour : GoodIn wsX1_wins wsX1_isColour := goodIn_r _ [6] (by decide +kernel) (by decide +kernel)
set_option maxRecDepth 20000 in
theorem gX1_wins_X1_isColour : GoodIn wsX1_wins (va_wsS RX1 108 yX1_isColour wsX1_isColour) := goodIn_app (goodIn_of _ (by decide +kernel)) ggX1_wins_X1_isColour
set_option maxRecDepth 20000 in
theorem ggX1_wins_X1_winsWith : GoodIn wsX1_wins wsX1_winsWith := goodIn_r _ [10, 11, 12, 13, 14, 15, 16, 17, 18, 19, 20, 21, 22, 23, 24, 25, 26, 27, 28, 29, 30, 31, 32, 33, 34, 35, 36, 37, 38, 39, 40, 41, 42, 43, 44, 45, 46, 47, 48, 49, 50, 51, 52, 53, 54, 55, 56, 57, 58, 59, 60, 61, 62, 63, 64, 65] (by decide +kernel) (by decide +kernel)
set_option maxRecDepth 20000 in
theorem gX1_wins_X1_winsWith : GoodIn wsX1_wins (wsV RX1 131 RX1 yX1_winsWith wsX1_winsWith) := goodIn_app (goodIn_of _ (by decide +kernel)) ggX1_wins_X1_winsWith
theorem dX1_wins_0 : decode cX1_wins 0 = .ok (.iload_n 1, 1) := by decide +kernel
theorem dX1_wins_1 : decode cX1_wins 1 = .ok (.invokestatic 108, 3) := by decide +kernel
theorem dX1_wins_4 : decode cX1_wins 4 = .ok (.ifCond .ne 13, 3) := by decide +kernel
theorem dX1_wins_7 : decode cX1_wins 7 = .ok (.new 51, 3) := by decide +kernel
theorem dX1_wins_10 : decode cX1_wins 10 = .ok (.dup, 1) := by decide +kernel
theorem dX1_wins_11 : decode cX1_wins 11 = .ok (.ldc 103, 2) := by decide +kernel
theorem dX1_wins_13 : decode cX1_wins 13 = .ok (.invokespecial 55, 3) := by decide +kernel
theorem dX1_wins_16 : decode cX1_wins 16 = .ok (.athrow, 1) := by decide +kernel
theorem dX1_wins_17 : decode cX1_wins 17 = .ok (.aload_n 0, 1) := by decide +kernel
theorem dX1_wins_18 : decode cX1_wins 18 = .ok (.iconst 0, 1) := by decide +kernel
theorem dX1_wins_19 : decode cX1_wins 19 = .ok (.iload_n 1, 1) := by decide +kernel
theorem dX1_wins_20 : decode cX1_wins 20 = .ok (.invokevirtual 131, 3) := by decide +kernel
theorem dX1_wins_23 : decode cX1_wins 23 = .ok (.ireturn, 1) := by decide +kernel
set_option maxRecDepth 20000 in
theorem ggX1_fewestSeeds_X1_isColour : GoodIn wsX1_fewestSeeds wsX1_isColour := goodIn_r _ [6] (by decide +kernel) (by decide +kernel)
set_option maxRecDepth 20000 in
theorem gX1_fewestSeeds_X1_isColour : GoodIn wsX1_fewestSeeds (va_wsS RX1 108 yX1_isColour wsX1_isColour) := goodIn_app (goodIn_of _ (by decide +kernel)) ggX1_fewestSeeds_X1_isColour
set_option maxRecDepth 20000 in
theorem ggX1_fewestSeeds_X1_winsWith : GoodIn wsX1_fewestSeeds wsX1_winsWith := goodIn_r _ [10, 11, 12, 13, 14, 15, 16, 17, 18, 19, 20, 21, 22, 23, 24, 25, 26, 27, 28, 29, 30, 31, 32, 33, 34, 35, 36, 37, 38, 39, 40, 41, 42, 43, 44, 45, 46, 47, 48, 49, 50, 51, 52, 53, 54, 64, 65, 66, 67, 68, 69, 70, 71, 72, 73, 74] (by decide +kernel) (by decide +kernel)
set_option maxRecDepth 20000 in
theorem gX1_fewestSeeds_X1_winsWith : GoodIn wsX1_fewestSeeds (wsV RX1 131 RX1 yX1_winsWith wsX1_winsWith) := goodIn_app (goodIn_of _ (by decide +kernel)) ggX1_fewestSeeds_X1_winsWith
set_option maxRecDepth 20000 in
theorem ggX1_fewestSeeds_X1_winsWithOneSeed : GoodIn wsX1_fewestSeeds wsX1_winsWithOneSeed := goodIn_r _ [58, 12, 59, 7, 8, 9, 5, 10, 11, 13, 14, 15, 16, 17, 18, 19, 20, 21, 22, 23, 24, 25, 26, 27, 28, 29, 30, 31, 32, 33, 34, 35, 36, 37, 38, 39, 40, 41, 42, 43, 44, 45, 46, 47, 48, 49, 50, 51, 52, 53, 54, 64, 65, 66, 67, 68, 69, 70, 71, 72, 73, 74] (by decide +kernel) (by decide +kernel)
set_option maxRecDepth 20000 in
theorem gX1_fewestSeeds_X1_winsWithOneSeed : GoodIn wsX1_fewestSeeds (wsV RX1 134 RX1 yX1_winsWithOneSeed wsX1_winsWithOneSeed) := goodIn_app (goodIn_of _ (by decide +kernel)) ggX1_fewestSeeds_X1_winsWithOneSeed
set_option maxRecDepth 20000 in
theorem ggX1_fewestSeeds_X1_winsWithTwoSeeds : GoodIn wsX1_fewestSeeds wsX1_winsWithTwoSeeds := goodIn_r _ [63, 12, 59, 7, 8, 9, 5, 10, 11, 13, 14, 15, 16, 17, 18, 19, 20, 21, 22, 23, 24, 25, 26, 27, 28, 29, 30, 31, 32, 33, 34, 35, 36, 37, 38, 39, 40, 41, 42, 43, 44, 45, 46, 47, 48, 49, 50, 51, 52, 53, 54, 64, 65, 66, 67, 68, 69, 70, 71, 72, 73, 74] (by decide +kernel) (by decide +kernel)
set_option maxRecDepth 20000 in
theorem gX1_fewestSeeds_X1_winsWithTwoSeeds : GoodIn wsX1_fewestSeeds (wsV RX1 137 RX1 yX1_winsWithTwoSeeds wsX1_winsWithTwoSeeds) := goodIn_app (goodIn_of _ (by decide +kernel)) ggX1_fewestSeeds_X1_winsWithTwoSeeds
theorem dX1_fewestSeeds_0 : decode cX1_fewestSeeds 0 = .ok (.iload_n 1, 1) := by decide +kernel
theorem dX1_fewestSeeds_1 : decode cX1_fewestSeeds 1 = .ok (.invokestatic 108, 3) := by decide +kernel
theorem dX1_fewestSeeds_4 : decode cX1_fewestSeeds 4 = .ok (.ifCond .ne 13, 3) := by decide +kernel
theorem dX1_fewestSeeds_7 : decode cX1_fewestSeeds 7 = .ok (.new 51, 3) := by decide +kernel
theorem dX1_fewestSeeds_10 : decode cX1_fewestSeeds 10 = .ok (.dup, 1) := by decide +kernel
theorem dX1_fewestSeeds_11 : decode cX1_fewestSeeds 11 = .ok (.ldc 103, 2) := by decide +kernel
theorem dX1_fewestSeeds_13 : decode cX1_fewestSeeds 13 = .ok (.invokespecial 55, 3) := by decide +kernel
theorem dX1_fewestSeeds_16 : decode cX1_fewestSeeds 16 = .ok (.athrow, 1) := by decide +kernel
theorem dX1_fewestSeeds_17 : decode cX1_fewestSeeds 17 = .ok (.aload_n 0, 1) := by decide +kernel
theorem dX1_fewestSeeds_18 : decode cX1_fewestSeeds 18 = .ok (.iconst 0, 1) := by decide +kernel
theorem dX1_fewestSeeds_19 : decode cX1_fewestSeeds 19 = .ok (.iload_n 1, 1) := by decide +kernel
theorem dX1_fewestSeeds_20 : decode cX1_fewestSeeds 20 = .ok (.invokevirtual 131, 3) := by decide +kernel
theorem dX1_fewestSeeds_23 : decode cX1_fewestSeeds 23 = .ok (.ifCond .eq 5, 3) := by decide +kernel
theorem dX1_fewestSeeds_26 : decode cX1_fewestSeeds 26 = .ok (.iconst 0, 1) := by decide +kernel
theorem dX1_fewestSeeds_27 : decode cX1_fewestSeeds 27 = .ok (.ireturn, 1) := by decide +kernel
theorem dX1_fewestSeeds_28 : decode cX1_fewestSeeds 28 = .ok (.aload_n 0, 1) := by decide +kernel
theorem dX1_fewestSeeds_29 : decode cX1_fewestSeeds 29 = .ok (.iload_n 1, 1) := by decide +kernel
theorem dX1_fewestSeeds_30 : decode cX1_fewestSeeds 30 = .ok (.invokevirtual 134, 3) := by decide +kernel
theorem dX1_fewestSeeds_33 : decode cX1_fewestSeeds 33 = .ok (.ifCond .eq 5, 3) := by decide +kernel
theorem dX1_fewestSeeds_36 : decode cX1_fewestSeeds 36 = .ok (.iconst 1, 1) := by decide +kernel
theorem dX1_fewestSeeds_37 : decode cX1_fewestSeeds 37 = .ok (.ireturn, 1) := by decide +kernel
theorem dX1_fewestSeeds_38 : decode cX1_fewestSeeds 38 = .ok (.aload_n 0, 1) := by decide +kernel
theorem dX1_fewestSeeds_39 : decode cX1_fewestSeeds 39 = .ok (.iload_n 1, 1) := by decide +kernel
theorem dX1_fewestSeeds_40 : decode cX1_fewestSeeds 40 = .ok (.invokevirtual 137, 3) := by decide +kernel
theorem dX1_fewestSeeds_43 : decode cX1_fewestSeeds 43 = .ok (.ifCond .eq 7, 3) := by decide +kernel
theorem dX1_fewestSeeds_46 : decode cX1_fewestSeeds 46 = .ok (.iconst 2, 1) := by decide +kernel
theorem dX1_fewestSeeds_47 : decode cX1_fewestSeeds 47 = .ok (.goto 4, 3) := by decide +kernel
theorem dX1_fewestSeeds_50 : decode cX1_fewestSeeds 50 = .ok (.iconst (-1), 1) := by decide +kernel
theorem dX1_fewestSeeds_51 : decode cX1_fewestSeeds 51 = .ok (.ireturn, 1) := by decide +kernel
set_option maxRecDepth 20000 in
theorem ggX1_bestCell_X1_isColour : GoodIn wsX1_bestCell wsX1_isColour := goodIn_r _ [10] (by decide +kernel) (by decide +kernel)
set_option maxRecDepth 20000 in
theorem gX1_bestCell_X1_isColour : GoodIn wsX1_bestCell (va_wsS RX1 108 yX1_isColour wsX1_isColour) := goodIn_app (goodIn_of _ (by decide +kernel)) ggX1_bestCell_X1_isColour
set_option maxRecDepth 20000 in
theorem ggX1_bestCell_X1_cell : GoodIn wsX1_bestCell wsX1_cell := goodIn_r _ [13] (by decide +kernel) (by decide +kernel)
set_option maxRecDepth 20000 in
theorem gX1_bestCell_X1_cell : GoodIn wsX1_bestCell (va_wsS RX1 56 yX1_cell wsX1_cell) := goodIn_app (goodIn_of _ (by decide +kernel)) ggX1_bestCell_X1_cell
set_option maxRecDepth 20000 in
theorem ggX1_bestCell_X1_countAfter : GoodIn wsX1_bestCell wsX1_countAfter := goodIn_r _ [17, 18, 19, 20, 21, 22, 23, 24, 25, 26, 27, 28, 29, 30, 31, 32, 33, 34, 35, 36, 37, 38, 39, 40, 41, 42, 43, 44, 45, 46, 47, 48, 49, 50, 51, 52, 53, 54, 55, 56, 57, 58, 59, 60, 61, 62, 63, 64, 65, 66, 67, 68, 69, 70, 71, 72, 73, 74, 75, 76, 77, 78, 79] (by decide +kernel) (by decide +kernel)
set_option maxRecDepth 20000 in
theorem gX1_bestCell_X1_countAfter : GoodIn wsX1_bestCell (wsV RX1 127 RX1 yX1_countAfter wsX1_countAfter) := goodIn_app (goodIn_of _ (by decide +kernel)) ggX1_bestCell_X1_countAfter
theorem dX1_bestCell_0 : decode cX1_bestCell 0 = .ok (.iload_n 1, 1) := by decide +kernel
theorem dX1_bestCell_1 : decode cX1_bestCell 1 = .ok (.invokestatic 108, 3) := by decide +kernel
theorem dX1_bestCell_4 : decode cX1_bestCell 4 = .ok (.ifCond .ne 13, 3) := by decide +kernel
theorem dX1_bestCell_7 : decode cX1_bestCell 7 = .ok (.new 51, 3) := by decide +kernel
theorem dX1_bestCell_10 : decode cX1_bestCell 10 = .ok (.dup, 1) := by decide +kernel
theorem dX1_bestCell_11 : decode cX1_bestCell 11 = .ok (.ldc 103, 2) := by decide +kernel
theorem dX1_bestCell_13 : decode cX1_bestCell 13 = .ok (.invokespecial 55, 3) := by decide +kernel
theorem dX1_bestCell_16 : decode cX1_bestCell 16 = .ok (.athrow, 1) := by decide +kernel
theorem dX1_bestCell_17 : decode cX1_bestCell 17 = .ok (.iload_n 2, 1) := by decide +kernel
theorem dX1_bestCell_18 : decode cX1_bestCell 18 = .ok (.iconst 1, 1) := by decide +kernel
theorem dX1_bestCell_19 : decode cX1_bestCell 19 = .ok (.if_icmp .lt 9, 3) := by decide +kernel
theorem dX1_bestCell_22 : decode cX1_bestCell 22 = .ok (.iload_n 2, 1) := by decide +kernel
theorem dX1_bestCell_23 : decode cX1_bestCell 23 = .ok (.bipush 24, 2) := by decide +kernel
theorem dX1_bestCell_25 : decode cX1_bestCell 25 = .ok (.if_icmp .le 13, 3) := by decide +kernel
theorem dX1_bestCell_28 : decode cX1_bestCell 28 = .ok (.new 37, 3) := by decide +kernel
theorem dX1_bestCell_31 : decode cX1_bestCell 31 = .ok (.dup, 1) := by decide +kernel
theorem dX1_bestCell_32 : decode cX1_bestCell 32 = .ok (.ldc 140, 2) := by decide +kernel
theorem dX1_bestCell_34 : decode cX1_bestCell 34 = .ok (.invokespecial 41, 3) := by decide +kernel
theorem dX1_bestCell_37 : decode cX1_bestCell 37 = .ok (.athrow, 1) := by decide +kernel
theorem dX1_bestCell_38 : decode cX1_bestCell 38 = .ok (.iconst 0, 1) := by decide +kernel
theorem dX1_bestCell_39 : decode cX1_bestCell 39 = .ok (.istore_n 3, 1) := by decide +kernel
theorem dX1_bestCell_40 : decode cX1_bestCell 40 = .ok (.iconst (-1), 1) := by decide +kernel
theorem dX1_bestCell_41 : decode cX1_bestCell 41 = .ok (.istore 4, 2) := by decide +kernel
theorem dX1_bestCell_43 : decode cX1_bestCell 43 = .ok (.iconst 0, 1) := by decide +kernel
theorem dX1_bestCell_44 : decode cX1_bestCell 44 = .ok (.istore 5, 2) := by decide +kernel
theorem dX1_bestCell_46 : decode cX1_bestCell 46 = .ok (.iload 5, 2) := by decide +kernel
theorem dX1_bestCell_48 : decode cX1_bestCell 48 = .ok (.aload_n 0, 1) := by decide +kernel
theorem dX1_bestCell_49 : decode cX1_bestCell 49 = .ok (.getfield 23, 3) := by decide +kernel
theorem dX1_bestCell_52 : decode cX1_bestCell 52 = .ok (.if_icmp .ge 64, 3) := by decide +kernel
theorem dX1_bestCell_55 : decode cX1_bestCell 55 = .ok (.iconst 0, 1) := by decide +kernel
theorem dX1_bestCell_56 : decode cX1_bestCell 56 = .ok (.istore 6, 2) := by decide +kernel
theorem dX1_bestCell_58 : decode cX1_bestCell 58 = .ok (.iload 6, 2) := by decide +kernel
theorem dX1_bestCell_60 : decode cX1_bestCell 60 = .ok (.aload_n 0, 1) := by decide +kernel
theorem dX1_bestCell_61 : decode cX1_bestCell 61 = .ok (.getfield 19, 3) := by decide +kernel
theorem dX1_bestCell_64 : decode cX1_bestCell 64 = .ok (.if_icmp .ge 46, 3) := by decide +kernel
theorem dX1_bestCell_67 : decode cX1_bestCell 67 = .ok (.aload_n 0, 1) := by decide +kernel
theorem dX1_bestCell_68 : decode cX1_bestCell 68 = .ok (.iload 6, 2) := by decide +kernel
theorem dX1_bestCell_70 : decode cX1_bestCell 70 = .ok (.iload 5, 2) := by decide +kernel
theorem dX1_bestCell_72 : decode cX1_bestCell 72 = .ok (.invokestatic 56, 3) := by decide +kernel
theorem dX1_bestCell_75 : decode cX1_bestCell 75 = .ok (.iload_n 1, 1) := by decide +kernel
theorem dX1_bestCell_76 : decode cX1_bestCell 76 = .ok (.iload_n 2, 1) := by decide +kernel
theorem dX1_bestCell_77 : decode cX1_bestCell 77 = .ok (.invokevirtual 127, 3) := by decide +kernel
theorem dX1_bestCell_80 : decode cX1_bestCell 80 = .ok (.istore 7, 2) := by decide +kernel
theorem dX1_bestCell_82 : decode cX1_bestCell 82 = .ok (.iload 7, 2) := by decide +kernel
theorem dX1_bestCell_84 : decode cX1_bestCell 84 = .ok (.iload 4, 2) := by decide +kernel
theorem dX1_bestCell_86 : decode cX1_bestCell 86 = .ok (.if_icmp .le 18, 3) := by decide +kernel
theorem dX1_bestCell_89 : decode cX1_bestCell 89 = .ok (.iload 7, 2) := by decide +kernel
theorem dX1_bestCell_91 : decode cX1_bestCell 91 = .ok (.istore 4, 2) := by decide +kernel
theorem dX1_bestCell_93 : decode cX1_bestCell 93 = .ok (.aload_n 0, 1) := by decide +kernel
theorem dX1_bestCell_94 : decode cX1_bestCell 94 = .ok (.getfield 19, 3) := by decide +kernel
theorem dX1_bestCell_97 : decode cX1_bestCell 97 = .ok (.iload 5, 2) := by decide +kernel
theorem dX1_bestCell_99 : decode cX1_bestCell 99 = .ok (.imul, 1) := by decide +kernel
theorem dX1_bestCell_100 : decode cX1_bestCell 100 = .ok (.iload 6, 2) := by decide +kernel
theorem dX1_bestCell_102 : decode cX1_bestCell 102 = .ok (.iadd, 1) := by decide +kernel
theorem dX1_bestCell_103 : decode cX1_bestCell 103 = .ok (.istore_n 3, 1) := by decide +kernel
theorem dX1_bestCell_104 : decode cX1_bestCell 104 = .ok (.iinc 6 1, 3) := by decide +kernel
theorem dX1_bestCell_107 : decode cX1_bestCell 107 = .ok (.goto (-49), 3) := by decide +kernel
theorem dX1_bestCell_110 : decode cX1_bestCell 110 = .ok (.iinc 5 1, 3) := by decide +kernel
theorem dX1_bestCell_113 : decode cX1_bestCell 113 = .ok (.goto (-67), 3) := by decide +kernel
theorem dX1_bestCell_116 : decode cX1_bestCell 116 = .ok (.iload_n 3, 1) := by decide +kernel
theorem dX1_bestCell_117 : decode cX1_bestCell 117 = .ok (.ireturn, 1) := by decide +kernel
set_option maxRecDepth 20000 in
theorem ggX1_share_X1_isColourOrBare : GoodIn wsX1_share wsX1_isColourOrBare := goodIn_r _ [9, 10, 11, 8, 12] (by decide +kernel) (by decide +kernel)
set_option maxRecDepth 20000 in
theorem gX1_share_X1_isColourOrBare : GoodIn wsX1_share (va_wsS RX1 48 yX1_isColourOrBare wsX1_isColourOrBare) := goodIn_app (goodIn_of _ (by decide +kernel)) ggX1_share_X1_isColourOrBare
set_option maxRecDepth 20000 in
theorem ggX1_share_X0_count : GoodIn wsX1_share wsX0_count := goodIn_r _ [17, 18, 19, 20, 16, 21, 22, 23, 24, 25, 26, 27, 28, 29, 35, 36, 37, 38, 39, 40] (by decide +kernel) (by decide +kernel)
set_option maxRecDepth 20000 in
theorem gX1_share_X0_count : GoodIn wsX1_share (wsV RX1 105 RX0 yX0_count wsX0_count) := goodIn_app (goodIn_of _ (by decide +kernel)) ggX1_share_X0_count
theorem dX1_share_0 : decode cX1_share 0 = .ok (.iload_n 1, 1) := by decide +kernel
theorem dX1_share_1 : decode cX1_share 1 = .ok (.invokestatic 48, 3) := by decide +kernel
theorem dX1_share_4 : decode cX1_share 4 = .ok (.ifCond .ne 13, 3) := by decide +kernel
theorem dX1_share_7 : decode cX1_share 7 = .ok (.new 51, 3) := by decide +kernel
theorem dX1_share_10 : decode cX1_share 10 = .ok (.dup, 1) := by decide +kernel
theorem dX1_share_11 : decode cX1_share 11 = .ok (.ldc 103, 2) := by decide +kernel
theorem dX1_share_13 : decode cX1_share 13 = .ok (.invokespecial 55, 3) := by decide +kernel
theorem dX1_share_16 : decode cX1_share 16 = .ok (.athrow, 1) := by decide +kernel
theorem dX1_share_17 : decode cX1_share 17 = .ok (.aload_n 0, 1) := by decide +kernel
theorem dX1_share_18 : decode cX1_share 18 = .ok (.getfield 19, 3) := by decide +kernel
theorem dX1_share_21 : decode cX1_share 21 = .ok (.aload_n 0, 1) := by decide +kernel
theorem dX1_share_22 : decode cX1_share 22 = .ok (.getfield 23, 3) := by decide +kernel
theorem dX1_share_25 : decode cX1_share 25 = .ok (.imul, 1) := by decide +kernel
theorem dX1_share_26 : decode cX1_share 26 = .ok (.istore_n 2, 1) := by decide +kernel
theorem dX1_share_27 : decode cX1_share 27 = .ok (.iload_n 2, 1) := by decide +kernel
theorem dX1_share_28 : decode cX1_share 28 = .ok (.ifCond .ne 7, 3) := by decide +kernel
theorem dX1_share_31 : decode cX1_share 31 = .ok (.dconst 0, 1) := by decide +kernel
theorem dX1_share_32 : decode cX1_share 32 = .ok (.goto 15, 3) := by decide +kernel
theorem dX1_share_35 : decode cX1_share 35 = .ok (.aload_n 0, 1) := by decide +kernel
theorem dX1_share_36 : decode cX1_share 36 = .ok (.getfield 12, 3) := by decide +kernel
theorem dX1_share_39 : decode cX1_share 39 = .ok (.iload_n 1, 1) := by decide +kernel
theorem dX1_share_40 : decode cX1_share 40 = .ok (.invokevirtual 105, 3) := by decide +kernel
theorem dX1_share_43 : decode cX1_share 43 = .ok (.i2d, 1) := by decide +kernel
theorem dX1_share_44 : decode cX1_share 44 = .ok (.iload_n 2, 1) := by decide +kernel
theorem dX1_share_45 : decode cX1_share 45 = .ok (.i2d, 1) := by decide +kernel
theorem dX1_share_46 : decode cX1_share 46 = .ok (.ddiv, 1) := by decide +kernel
theorem dX1_share_47 : decode cX1_share 47 = .ok (.dreturn, 1) := by decide +kernel
set_option maxRecDepth 20000 in
theorem ggX1_digest_X1_digestOfMap : GoodIn wsX1_digest wsX1_digestOfMap := goodIn_r _ [8, 9, 3, 2, 1, 10, 11, 12, 13, 7, 14, 15, 16, 17, 18, 19, 20, 21, 22, 23, 24, 25, 26, 27, 28, 29, 30, 31, 32, 33, 34, 35, 36, 37, 38, 39, 40, 41, 42, 43, 44, 45, 46, 47, 48, 49, 50, 51, 52, 53, 54, 55, 56, 57, 58, 59, 60, 61, 62, 63, 64, 65, 66, 67, 68, 69, 70, 71, 72, 73, 74, 75, 76, 77, 78, 79, 80, 81, 122, 123, 124, 125, 126, 127, 128, 129, 130, 131, 132] (by decide +kernel) (by decide +kernel)
set_option maxRecDepth 20000 in
theorem gX1_digest_X1_digestOfMap : GoodIn wsX1_digest (wsV RX1 142 RX1 yX1_digestOfMap wsX1_digestOfMap) := goodIn_app (goodIn_of _ (by decide +kernel)) ggX1_digest_X1_digestOfMap
set_option maxRecDepth 20000 in
theorem ggX1_digest_X0_count : GoodIn wsX1_digest wsX0_count := goodIn_r _ [50, 51, 52, 53, 35, 54, 38, 42, 22, 23, 24, 25, 26, 27, 127, 128, 129, 130, 131, 132] (by decide +kernel) (by decide +kernel)
set_option maxRecDepth 20000 in
theorem gX1_digest_X0_count : GoodIn wsX1_digest (wsV RX1 105 RX0 yX0_count wsX0_count) := goodIn_app (goodIn_of _ (by decide +kernel)) ggX1_digest_X0_count
set_option maxRecDepth 20000 in
theorem ggX1_digest_X1_mix : GoodIn wsX1_digest wsX1_mix := goodIn_r _ [14, 15] (by decide +kernel) (by decide +kernel)
set_option maxRecDepth 20000 in
theorem gX1_digest_X1_mix : GoodIn wsX1_digest (va_wsS RX1 146 yX1_mix wsX1_mix) := goodIn_app (goodIn_of _ (by decide +kernel)) ggX1_digest_X1_mix
set_option maxRecDepth 20000 in
theorem ggX1_digest_X0_countRegions : GoodIn wsX1_digest wsX0_countRegions := goodIn_r _ [85, 51, 52, 53, 35, 54, 38, 86, 87, 88, 89, 7, 90, 127, 128, 129, 130, 131, 132] (by decide +kernel) (by decide +kernel)
set_option maxRecDepth 20000 in
theorem gX1_digest_X0_countRegions : GoodIn wsX1_digest (wsV RX1 111 RX0 yX0_countRegions wsX0_countRegions) := goodIn_app (goodIn_of _ (by decide +kernel)) ggX1_digest_X0_countRegions
set_option maxRecDepth 20000 in
theorem ggX1_digest_X0_sizeOfGreatestRegion : GoodIn wsX1_digest wsX0_sizeOfGreatestRegion := goodIn_r _ [94, 95, 96, 97, 98, 51, 52, 53, 35, 54, 38, 86, 87, 88, 89, 7, 90, 42, 22, 23, 24, 25, 26, 27, 127, 128, 129, 130, 131, 132] (by decide +kernel) (by decide +kernel)
set_option maxRecDepth 20000 in
theorem gX1_digest_X0_sizeOfGreatestRegion : GoodIn wsX1_digest (wsV RX1 114 RX0 yX0_sizeOfGreatestRegion wsX0_sizeOfGreatestRegion) := goodIn_app (goodIn_of _ (by decide +kernel)) ggX1_digest_X0_sizeOfGreatestRegion
set_option maxRecDepth 20000 in
theorem ggX1_digest_X0_foresee : GoodIn wsX1_digest wsX0_foresee := goodIn_r _ [62, 63, 64, 38, 65, 66, 67, 35, 68, 69, 37, 70, 71, 72, 73, 127, 128, 129, 130, 131, 132] (by decide +kernel) (by decide +kernel)
set_option maxRecDepth 20000 in
theorem gX1_digest_X0_foresee : GoodIn wsX1_digest (wsV RX1 93 RX0 yX0_foresee wsX0_foresee) := goodIn_app (goodIn_of _ (by decide +kernel)) ggX1_digest_X0_foresee
set_option maxRecDepth 20000 in
theorem ggX1_digest_X1_cell : GoodIn wsX1_digest wsX1_cell := goodIn_r _ [101] (by decide +kernel) (by decide +kernel)
set_option maxRecDepth 20000 in
theorem gX1_digest_X1_cell : GoodIn wsX1_digest (va_wsS RX1 56 yX1_cell wsX1_cell) := goodIn_app (goodIn_of _ (by decide +kernel)) ggX1_digest_X1_cell
set_option maxRecDepth 20000 in
theorem ggX1_digest_X1_mixCell : GoodIn wsX1_digest wsX1_mixCell := goodIn_r _ [105, 1, 20, 106, 107, 108, 35, 109, 38, 110, 111, 112, 12, 13, 7, 14, 15, 113, 114, 115, 116, 63, 117, 118, 119, 120, 121, 51, 52, 53, 54, 86, 87, 88, 89, 90, 42, 22, 23, 24, 25, 26, 27, 122, 123, 124, 125, 126, 127, 128, 129, 130, 131, 132] (by decide +kernel) (by decide +kernel)
set_option maxRecDepth 20000 in
theorem gX1_digest_X1_mixCell : GoodIn wsX1_digest (wsV RX1 150 RX1 yX1_mixCell wsX1_mixCell) := goodIn_app (goodIn_of _ (by decide +kernel)) ggX1_digest_X1_mixCell
theorem dX1_digest_0 : decode cX1_digest 0 = .ok (.aload_n 0, 1) := by decide +kernel
theorem dX1_digest_1 : decode cX1_digest 1 = .ok (.invokevirtual 142, 3) := by decide +kernel
theorem dX1_digest_4 : decode cX1_digest 4 = .ok (.lstore_n 1, 1) := by decide +kernel
theorem dX1_digest_5 : decode cX1_digest 5 = .ok (.iconst 1, 1) := by decide +kernel
theorem dX1_digest_6 : decode cX1_digest 6 = .ok (.istore_n 3, 1) := by decide +kernel
theorem dX1_digest_7 : decode cX1_digest 7 = .ok (.iload_n 3, 1) := by decide +kernel
theorem dX1_digest_8 : decode cX1_digest 8 = .ok (.iconst 4, 1) := by decide +kernel
theorem dX1_digest_9 : decode cX1_digest 9 = .ok (.if_icmp .gt 48, 3) := by decide +kernel
theorem dX1_digest_12 : decode cX1_digest 12 = .ok (.lload_n 1, 1) := by decide +kernel
theorem dX1_digest_13 : decode cX1_digest 13 = .ok (.aload_n 0, 1) := by decide +kernel
theorem dX1_digest_14 : decode cX1_digest 14 = .ok (.getfield 12, 3) := by decide +kernel
theorem dX1_digest_17 : decode cX1_digest 17 = .ok (.iload_n 3, 1) := by decide +kernel
theorem dX1_digest_18 : decode cX1_digest 18 = .ok (.invokevirtual 105, 3) := by decide +kernel
theorem dX1_digest_21 : decode cX1_digest 21 = .ok (.invokestatic 146, 3) := by decide +kernel
theorem dX1_digest_24 : decode cX1_digest 24 = .ok (.lstore_n 1, 1) := by decide +kernel
theorem dX1_digest_25 : decode cX1_digest 25 = .ok (.lload_n 1, 1) := by decide +kernel
theorem dX1_digest_26 : decode cX1_digest 26 = .ok (.aload_n 0, 1) := by decide +kernel
theorem dX1_digest_27 : decode cX1_digest 27 = .ok (.getfield 12, 3) := by decide +kernel
theorem dX1_digest_30 : decode cX1_digest 30 = .ok (.iload_n 3, 1) := by decide +kernel
theorem dX1_digest_31 : decode cX1_digest 31 = .ok (.invokevirtual 111, 3) := by decide +kernel
theorem dX1_digest_34 : decode cX1_digest 34 = .ok (.invokestatic 146, 3) := by decide +kernel
theorem dX1_digest_37 : decode cX1_digest 37 = .ok (.lstore_n 1, 1) := by decide +kernel
theorem dX1_digest_38 : decode cX1_digest 38 = .ok (.lload_n 1, 1) := by decide +kernel
theorem dX1_digest_39 : decode cX1_digest 39 = .ok (.aload_n 0, 1) := by decide +kernel
theorem dX1_digest_40 : decode cX1_digest 40 = .ok (.getfield 12, 3) := by decide +kernel
theorem dX1_digest_43 : decode cX1_digest 43 = .ok (.iload_n 3, 1) := by decide +kernel
theorem dX1_digest_44 : decode cX1_digest 44 = .ok (.invokevirtual 114, 3) := by decide +kernel
theorem dX1_digest_47 : decode cX1_digest 47 = .ok (.invokestatic 146, 3) := by decide +kernel
theorem dX1_digest_50 : decode cX1_digest 50 = .ok (.lstore_n 1, 1) := by decide +kernel
theorem dX1_digest_51 : decode cX1_digest 51 = .ok (.iinc 3 1, 3) := by decide +kernel
theorem dX1_digest_54 : decode cX1_digest 54 = .ok (.goto (-47), 3) := by decide +kernel
theorem dX1_digest_57 : decode cX1_digest 57 = .ok (.aload_n 0, 1) := by decide +kernel
theorem dX1_digest_58 : decode cX1_digest 58 = .ok (.getfield 12, 3) := by decide +kernel
theorem dX1_digest_61 : decode cX1_digest 61 = .ok (.invokevirtual 93, 3) := by decide +kernel
theorem dX1_digest_64 : decode cX1_digest 64 = .ok (.pop, 1) := by decide +kernel
theorem dX1_digest_65 : decode cX1_digest 65 = .ok (.iconst 0, 1) := by decide +kernel
theorem dX1_digest_66 : decode cX1_digest 66 = .ok (.istore_n 3, 1) := by decide +kernel
theorem dX1_digest_67 : decode cX1_digest 67 = .ok (.iload_n 3, 1) := by decide +kernel
theorem dX1_digest_68 : decode cX1_digest 68 = .ok (.aload_n 0, 1) := by decide +kernel
theorem dX1_digest_69 : decode cX1_digest 69 = .ok (.getfield 23, 3) := by decide +kernel
theorem dX1_digest_72 : decode cX1_digest 72 = .ok (.if_icmp .ge 39, 3) := by decide +kernel
theorem dX1_digest_75 : decode cX1_digest 75 = .ok (.iconst 0, 1) := by decide +kernel
theorem dX1_digest_76 : decode cX1_digest 76 = .ok (.istore 4, 2) := by decide +kernel
theorem dX1_digest_78 : decode cX1_digest 78 = .ok (.iload 4, 2) := by decide +kernel
theorem dX1_digest_80 : decode cX1_digest 80 = .ok (.aload_n 0, 1) := by decide +kernel
theorem dX1_digest_81 : decode cX1_digest 81 = .ok (.getfield 19, 3) := by decide +kernel
theorem dX1_digest_84 : decode cX1_digest 84 = .ok (.if_icmp .ge 21, 3) := by decide +kernel
theorem dX1_digest_87 : decode cX1_digest 87 = .ok (.aload_n 0, 1) := by decide +kernel
theorem dX1_digest_88 : decode cX1_digest 88 = .ok (.lload_n 1, 1) := by decide +kernel
theorem dX1_digest_89 : decode cX1_digest 89 = .ok (.iload 4, 2) := by decide +kernel
theorem dX1_digest_91 : decode cX1_digest 91 = .ok (.iload_n 3, 1) := by decide +kernel
theorem dX1_digest_92 : decode cX1_digest 92 = .ok (.invokestatic 56, 3) := by decide +kernel
theorem dX1_digest_95 : decode cX1_digest 95 = .ok (.invokevirtual 150, 3) := by decide +kernel
theorem dX1_digest_98 : decode cX1_digest 98 = .ok (.lstore_n 1, 1) := by decide +kernel
theorem dX1_digest_99 : decode cX1_digest 99 = .ok (.iinc 4 1, 3) := by decide +kernel
theorem dX1_digest_102 : decode cX1_digest 102 = .ok (.goto (-24), 3) := by decide +kernel
theorem dX1_digest_105 : decode cX1_digest 105 = .ok (.iinc 3 1, 3) := by decide +kernel
theorem dX1_digest_108 : decode cX1_digest 108 = .ok (.goto (-41), 3) := by decide +kernel
theorem dX1_digest_111 : decode cX1_digest 111 = .ok (.lload_n 1, 1) := by decide +kernel
theorem dX1_digest_112 : decode cX1_digest 112 = .ok (.lreturn, 1) := by decide +kernel
set_option maxRecDepth 20000 in
theorem ggX1_digestOfMap_X1_mix : GoodIn wsX1_digestOfMap wsX1_mix := goodIn_r _ [10, 11] (by decide +kernel) (by decide +kernel)
set_option maxRecDepth 20000 in
theorem gX1_digestOfMap_X1_mix : GoodIn wsX1_digestOfMap (va_wsS RX1 146 yX1_mix wsX1_mix) := goodIn_app (goodIn_of _ (by decide +kernel)) ggX1_digestOfMap_X1_mix
set_option maxRecDepth 20000 in
theorem ggX1_digestOfMap_X1_stubbornCells : GoodIn wsX1_digestOfMap wsX1_stubbornCells := goodIn_r _ [15, 4, 16, 17, 18, 19, 20, 21, 22, 23, 78, 79, 80, 81, 82, 83, 84, 85, 86, 87, 88] (by decide +kernel) (by decide +kernel)
set_option maxRecDepth 20000 in
theorem gX1_digestOfMap_X1_stubbornCells : GoodIn wsX1_digestOfMap (wsV RX1 155 RX1 yX1_stubbornCells wsX1_stubbornCells) := goodIn_app (goodIn_of _ (by decide +kernel)) ggX1_digestOfMap_X1_stubbornCells
set_option maxRecDepth 20000 in
theorem ggX1_digestOfMap_X1_borders : GoodIn wsX1_digestOfMap wsX1_borders := goodIn_r _ [27, 4, 28, 29, 30, 31, 32, 33, 34, 35, 36, 37, 38, 18, 19, 20, 21, 22, 23, 78, 79, 80, 81, 82, 83, 84, 85, 86, 87, 88] (by decide +kernel) (by decide +kernel)
set_option maxRecDepth 20000 in
theorem gX1_digestOfMap_X1_borders : GoodIn wsX1_digestOfMap (wsV RX1 158 RX1 yX1_borders wsX1_borders) := goodIn_app (goodIn_of _ (by decide +kernel)) ggX1_digestOfMap_X1_borders
set_option maxRecDepth 20000 in
theorem ggX1_digestOfMap_X1_leader : GoodIn wsX1_digestOfMap wsX1_leader := goodIn_r _ [42, 4, 43, 44, 45, 31, 46, 47, 48, 49, 50, 34, 38, 18, 19, 20, 21, 22, 23, 78, 79, 80, 81, 82, 83, 84, 85, 86, 87, 88] (by decide +kernel) (by decide +kernel)
set_option maxRecDepth 20000 in
theorem gX1_digestOfMap_X1_leader : GoodIn wsX1_digestOfMap (wsV RX1 161 RX1 yX1_leader wsX1_leader) := goodIn_app (goodIn_of _ (by decide +kernel)) ggX1_digestOfMap_X1_leader
set_option maxRecDepth 20000 in
theorem ggX1_digestOfMap_X1_isStill : GoodIn wsX1_digestOfMap wsX1_isStill := goodIn_r _ [54, 4, 55, 56, 57, 31, 58, 59, 60, 34, 61, 62, 63, 64, 65, 33, 66, 67, 68, 69, 78, 79, 80, 81, 82, 83, 84, 85, 86, 87, 88] (by decide +kernel) (by decide +kernel)
set_option maxRecDepth 20000 in
theorem gX1_digestOfMap_X1_isStill : GoodIn wsX1_digestOfMap (wsV RX1 164 RX1 yX1_isStill wsX1_isStill) := goodIn_app (goodIn_of _ (by decide +kernel)) ggX1_digestOfMap_X1_isStill
set_option maxRecDepth 20000 in
theorem ggX1_digestOfMap_X1_winner : GoodIn wsX1_digestOfMap wsX1_winner := goodIn_r _ [73, 4, 74, 75, 76, 31, 77, 33, 47, 48, 49, 50, 34, 78, 79, 80, 81, 82, 83, 84, 85, 86, 87, 88] (by decide +kernel) (by decide +kernel)
set_option maxRecDepth 20000 in
theorem gX1_digestOfMap_X1_winner : GoodIn wsX1_digestOfMap (wsV RX1 168 RX1 yX1_winner wsX1_winner) := goodIn_app (goodIn_of _ (by decide +kernel)) ggX1_digestOfMap_X1_winner
theorem dX1_digestOfMap_0 : decode cX1_digestOfMap 0 = .ok (.ldc2_w 153, 3) := by decide +kernel
theorem dX1_digestOfMap_3 : decode cX1_digestOfMap 3 = .ok (.lstore_n 1, 1) := by decide +kernel
theorem dX1_digestOfMap_4 : decode cX1_digestOfMap 4 = .ok (.lload_n 1, 1) := by decide +kernel
theorem dX1_digestOfMap_5 : decode cX1_digestOfMap 5 = .ok (.aload_n 0, 1) := by decide +kernel
theorem dX1_digestOfMap_6 : decode cX1_digestOfMap 6 = .ok (.getfield 19, 3) := by decide +kernel
theorem dX1_digestOfMap_9 : decode cX1_digestOfMap 9 = .ok (.invokestatic 146, 3) := by decide +kernel
theorem dX1_digestOfMap_12 : decode cX1_digestOfMap 12 = .ok (.lstore_n 1, 1) := by decide +kernel
theorem dX1_digestOfMap_13 : decode cX1_digestOfMap 13 = .ok (.lload_n 1, 1) := by decide +kernel
theorem dX1_digestOfMap_14 : decode cX1_digestOfMap 14 = .ok (.aload_n 0, 1) := by decide +kernel
theorem dX1_digestOfMap_15 : decode cX1_digestOfMap 15 = .ok (.getfield 23, 3) := by decide +kernel
theorem dX1_digestOfMap_18 : decode cX1_digestOfMap 18 = .ok (.invokestatic 146, 3) := by decide +kernel
theorem dX1_digestOfMap_21 : decode cX1_digestOfMap 21 = .ok (.lstore_n 1, 1) := by decide +kernel
theorem dX1_digestOfMap_22 : decode cX1_digestOfMap 22 = .ok (.lload_n 1, 1) := by decide +kernel
theorem dX1_digestOfMap_23 : decode cX1_digestOfMap 23 = .ok (.aload_n 0, 1) := by decide +kernel
theorem dX1_digestOfMap_24 : decode cX1_digestOfMap 24 = .ok (.getfield 12, 3) := by decide +kernel
theorem dX1_digestOfMap_27 : decode cX1_digestOfMap 27 = .ok (.getfield 74, 3) := by decide +kernel
theorem dX1_digestOfMap_30 : decode cX1_digestOfMap 30 = .ok (.invokestatic 146, 3) := by decide +kernel
theorem dX1_digestOfMap_33 : decode cX1_digestOfMap 33 = .ok (.lstore_n 1, 1) := by decide +kernel
theorem dX1_digestOfMap_34 : decode cX1_digestOfMap 34 = .ok (.lload_n 1, 1) := by decide +kernel
theorem dX1_digestOfMap_35 : decode cX1_digestOfMap 35 = .ok (.aload_n 0, 1) := by decide +kernel
theorem dX1_digestOfMap_36 : decode cX1_digestOfMap 36 = .ok (.getfield 26, 3) := by decide +kernel
theorem dX1_digestOfMap_39 : decode cX1_digestOfMap 39 = .ok (.invokestatic 146, 3) := by decide +kernel
theorem dX1_digestOfMap_42 : decode cX1_digestOfMap 42 = .ok (.lstore_n 1, 1) := by decide +kernel
theorem dX1_digestOfMap_43 : decode cX1_digestOfMap 43 = .ok (.lload_n 1, 1) := by decide +kernel
theorem dX1_digestOfMap_44 : decode cX1_digestOfMap 44 = .ok (.aload_n 0, 1) := by decide +kernel
theorem dX1_digestOfMap_45 : decode cX1_digestOfMap 45 = .ok (.invokevirtual 155, 3) := by decide +kernel
theorem dX1_digestOfMap_48 : decode cX1_digestOfMap 48 = .ok (.invokestatic 146, 3) := by decide +kernel
theorem dX1_digestOfMap_51 : decode cX1_digestOfMap 51 = .ok (.lstore_n 1, 1) := by decide +kernel
theorem dX1_digestOfMap_52 : decode cX1_digestOfMap 52 = .ok (.lload_n 1, 1) := by decide +kernel
theorem dX1_digestOfMap_53 : decode cX1_digestOfMap 53 = .ok (.aload_n 0, 1) := by decide +kernel
theorem dX1_digestOfMap_54 : decode cX1_digestOfMap 54 = .ok (.invokevirtual 158, 3) := by decide +kernel
theorem dX1_digestOfMap_57 : decode cX1_digestOfMap 57 = .ok (.invokestatic 146, 3) := by decide +kernel
theorem dX1_digestOfMap_60 : decode cX1_digestOfMap 60 = .ok (.lstore_n 1, 1) := by decide +kernel
theorem dX1_digestOfMap_61 : decode cX1_digestOfMap 61 = .ok (.lload_n 1, 1) := by decide +kernel
theorem dX1_digestOfMap_62 : decode cX1_digestOfMap 62 = .ok (.aload_n 0, 1) := by decide +kernel
theorem dX1_digestOfMap_63 : decode cX1_digestOfMap 63 = .ok (.invokevirtual 161, 3) := by decide +kernel
theorem dX1_digestOfMap_66 : decode cX1_digestOfMap 66 = .ok (.invokestatic 146, 3) := by decide +kernel
theorem dX1_digestOfMap_69 : decode cX1_digestOfMap 69 = .ok (.lstore_n 1, 1) := by decide +kernel
theorem dX1_digestOfMap_70 : decode cX1_digestOfMap 70 = .ok (.lload_n 1, 1) := by decide +kernel
theorem dX1_digestOfMap_71 : decode cX1_digestOfMap 71 = .ok (.aload_n 0, 1) := by decide +kernel
theorem dX1_digestOfMap_72 : decode cX1_digestOfMap 72 = .ok (.invokevirtual 164, 3) := by decide +kernel
theorem dX1_digestOfMap_75 : decode cX1_digestOfMap 75 = .ok (.ifCond .eq 7, 3) := by decide +kernel
theorem dX1_digestOfMap_78 : decode cX1_digestOfMap 78 = .ok (.iconst 1, 1) := by decide +kernel
theorem dX1_digestOfMap_79 : decode cX1_digestOfMap 79 = .ok (.goto 4, 3) := by decide +kernel
theorem dX1_digestOfMap_82 : decode cX1_digestOfMap 82 = .ok (.iconst 0, 1) := by decide +kernel
theorem dX1_digestOfMap_83 : decode cX1_digestOfMap 83 = .ok (.invokestatic 146, 3) := by decide +kernel
theorem dX1_digestOfMap_86 : decode cX1_digestOfMap 86 = .ok (.lstore_n 1, 1) := by decide +kernel
theorem dX1_digestOfMap_87 : decode cX1_digestOfMap 87 = .ok (.lload_n 1, 1) := by decide +kernel
theorem dX1_digestOfMap_88 : decode cX1_digestOfMap 88 = .ok (.aload_n 0, 1) := by decide +kernel
theorem dX1_digestOfMap_89 : decode cX1_digestOfMap 89 = .ok (.invokevirtual 168, 3) := by decide +kernel
theorem dX1_digestOfMap_92 : decode cX1_digestOfMap 92 = .ok (.invokestatic 146, 3) := by decide +kernel
theorem dX1_digestOfMap_95 : decode cX1_digestOfMap 95 = .ok (.lreturn, 1) := by decide +kernel
set_option maxRecDepth 20000 in
theorem ggX1_mixCell_X0_colourOf : GoodIn wsX1_mixCell wsX0_colourOf := goodIn_r _ [7, 8, 9, 10, 6, 11, 48, 49, 50, 51, 52, 53] (by decide +kernel) (by decide +kernel)
set_option maxRecDepth 20000 in
theorem gX1_mixCell_X0_colourOf : GoodIn wsX1_mixCell (wsV RX1 60 RX0 yX0_colourOf wsX0_colourOf) := goodIn_app (goodIn_of _ (by decide +kernel)) ggX1_mixCell_X0_colourOf
set_option maxRecDepth 20000 in
theorem ggX1_mixCell_X1_mix : GoodIn wsX1_mixCell wsX1_mix := goodIn_r _ [15, 16] (by decide +kernel) (by decide +kernel)
set_option maxRecDepth 20000 in
theorem gX1_mixCell_X1_mix : GoodIn wsX1_mixCell (va_wsS RX1 146 yX1_mix wsX1_mix) := goodIn_app (goodIn_of _ (by decide +kernel)) ggX1_mixCell_X1_mix
set_option maxRecDepth 20000 in
theorem ggX1_mixCell_X0_foreseenColourOf : GoodIn wsX1_mixCell wsX0_foreseenColourOf := goodIn_r _ [20, 21, 9, 10, 6, 11, 22, 4, 5, 7, 8, 48, 49, 50, 51, 52, 53] (by decide +kernel) (by decide +kernel)
set_option maxRecDepth 20000 in
theorem gX1_mixCell_X0_foreseenColourOf : GoodIn wsX1_mixCell (wsV RX1 97 RX0 yX0_foreseenColourOf wsX0_foreseenColourOf) := goodIn_app (goodIn_of _ (by decide +kernel)) ggX1_mixCell_X0_foreseenColourOf
set_option maxRecDepth 20000 in
theorem ggX1_mixCell_X0_sizeOfRegion : GoodIn wsX1_mixCell wsX0_sizeOfRegion := goodIn_r _ [26, 22, 4, 5, 6, 7, 8, 9, 10, 11, 27, 28, 29, 30, 31, 32, 33, 34, 14, 35, 36, 37, 38, 39, 40, 41, 42, 48, 49, 50, 51, 52, 53] (by decide +kernel) (by decide +kernel)
set_option maxRecDepth 20000 in
theorem gX1_mixCell_X0_sizeOfRegion : GoodIn wsX1_mixCell (wsV RX1 100 RX0 yX0_sizeOfRegion wsX0_sizeOfRegion) := goodIn_app (goodIn_of _ (by decide +kernel)) ggX1_mixCell_X0_sizeOfRegion
theorem dX1_mixCell_0 : decode cX1_mixCell 0 = .ok (.lload_n 1, 1) := by decide +kernel
theorem dX1_mixCell_1 : decode cX1_mixCell 1 = .ok (.aload_n 0, 1) := by decide +kernel
theorem dX1_mixCell_2 : decode cX1_mixCell 2 = .ok (.getfield 12, 3) := by decide +kernel
theorem dX1_mixCell_5 : decode cX1_mixCell 5 = .ok (.iload_n 3, 1) := by decide +kernel
theorem dX1_mixCell_6 : decode cX1_mixCell 6 = .ok (.invokevirtual 60, 3) := by decide +kernel
theorem dX1_mixCell_9 : decode cX1_mixCell 9 = .ok (.invokestatic 146, 3) := by decide +kernel
theorem dX1_mixCell_12 : decode cX1_mixCell 12 = .ok (.lstore 4, 2) := by decide +kernel
theorem dX1_mixCell_14 : decode cX1_mixCell 14 = .ok (.lload 4, 2) := by decide +kernel
theorem dX1_mixCell_16 : decode cX1_mixCell 16 = .ok (.aload_n 0, 1) := by decide +kernel
theorem dX1_mixCell_17 : decode cX1_mixCell 17 = .ok (.getfield 12, 3) := by decide +kernel
theorem dX1_mixCell_20 : decode cX1_mixCell 20 = .ok (.getfield 69, 3) := by decide +kernel
theorem dX1_mixCell_23 : decode cX1_mixCell 23 = .ok (.iload_n 3, 1) := by decide +kernel
theorem dX1_mixCell_24 : decode cX1_mixCell 24 = .ok (.iand, 1) := by decide +kernel
theorem dX1_mixCell_25 : decode cX1_mixCell 25 = .ok (.ifCond .eq 7, 3) := by decide +kernel
theorem dX1_mixCell_28 : decode cX1_mixCell 28 = .ok (.iconst 1, 1) := by decide +kernel
theorem dX1_mixCell_29 : decode cX1_mixCell 29 = .ok (.goto 4, 3) := by decide +kernel
theorem dX1_mixCell_32 : decode cX1_mixCell 32 = .ok (.iconst 0, 1) := by decide +kernel
theorem dX1_mixCell_33 : decode cX1_mixCell 33 = .ok (.invokestatic 146, 3) := by decide +kernel
theorem dX1_mixCell_36 : decode cX1_mixCell 36 = .ok (.lstore 4, 2) := by decide +kernel
theorem dX1_mixCell_38 : decode cX1_mixCell 38 = .ok (.lload 4, 2) := by decide +kernel
theorem dX1_mixCell_40 : decode cX1_mixCell 40 = .ok (.aload_n 0, 1) := by decide +kernel
theorem dX1_mixCell_41 : decode cX1_mixCell 41 = .ok (.getfield 12, 3) := by decide +kernel
theorem dX1_mixCell_44 : decode cX1_mixCell 44 = .ok (.iload_n 3, 1) := by decide +kernel
theorem dX1_mixCell_45 : decode cX1_mixCell 45 = .ok (.invokevirtual 97, 3) := by decide +kernel
theorem dX1_mixCell_48 : decode cX1_mixCell 48 = .ok (.invokestatic 146, 3) := by decide +kernel
theorem dX1_mixCell_51 : decode cX1_mixCell 51 = .ok (.lstore 4, 2) := by decide +kernel
theorem dX1_mixCell_53 : decode cX1_mixCell 53 = .ok (.lload 4, 2) := by decide +kernel
theorem dX1_mixCell_55 : decode cX1_mixCell 55 = .ok (.aload_n 0, 1) := by decide +kernel
theorem dX1_mixCell_56 : decode cX1_mixCell 56 = .ok (.getfield 12, 3) := by decide +kernel
theorem dX1_mixCell_59 : decode cX1_mixCell 59 = .ok (.iload_n 3, 1) := by decide +kernel
theorem dX1_mixCell_60 : decode cX1_mixCell 60 = .ok (.invokevirtual 100, 3) := by decide +kernel
theorem dX1_mixCell_63 : decode cX1_mixCell 63 = .ok (.invokestatic 146, 3) := by decide +kernel
theorem dX1_mixCell_66 : decode cX1_mixCell 66 = .ok (.lreturn, 1) := by decide +kernel
theorem dX1_mix_0 : decode cX1_mix 0 = .ok (.lload_n 0, 1) := by decide +kernel
theorem dX1_mix_1 : decode cX1_mix 1 = .ok (.ldc2_w 171, 3) := by decide +kernel
theorem dX1_mix_4 : decode cX1_mix 4 = .ok (.lmul, 1) := by decide +kernel
theorem dX1_mix_5 : decode cX1_mix 5 = .ok (.iload_n 2, 1) := by decide +kernel
theorem dX1_mix_6 : decode cX1_mix 6 = .ok (.i2l, 1) := by decide +kernel
theorem dX1_mix_7 : decode cX1_mix 7 = .ok (.ladd, 1) := by decide +kernel
theorem dX1_mix_8 : decode cX1_mix 8 = .ok (.lreturn, 1) := by decide +kernel
set_option maxRecDepth 20000 in
theorem ggX1_winsWithOneSeed_X1_winsWith : GoodIn wsX1_winsWithOneSeed wsX1_winsWith := goodIn_r _ [7, 8, 1, 9, 10, 11, 12, 13, 14, 15, 16, 17, 18, 19, 20, 21, 22, 23, 24, 25, 26, 27, 28, 29, 30, 31, 32, 33, 34, 35, 36, 37, 38, 39, 40, 41, 42, 43, 44, 45, 46, 47, 48, 49, 50, 51, 52, 53, 54, 55, 56, 57, 58, 59, 60, 61] (by decide +kernel) (by decide +kernel)
set_option maxRecDepth 20000 in
theorem gX1_winsWithOneSeed_X1_winsWith : GoodIn wsX1_winsWithOneSeed (wsV RX1 131 RX1 yX1_winsWith wsX1_winsWith) := goodIn_app (goodIn_of _ (by decide +kernel)) ggX1_winsWithOneSeed_X1_winsWith
theorem dX1_winsWithOneSeed_0 : decode cX1_winsWithOneSeed 0 = .ok (.iconst 0, 1) := by decide +kernel
theorem dX1_winsWithOneSeed_1 : decode cX1_winsWithOneSeed 1 = .ok (.istore_n 2, 1) := by decide +kernel
theorem dX1_winsWithOneSeed_2 : decode cX1_winsWithOneSeed 2 = .ok (.iload_n 2, 1) := by decide +kernel
theorem dX1_winsWithOneSeed_3 : decode cX1_winsWithOneSeed 3 = .ok (.bipush 30, 2) := by decide +kernel
theorem dX1_winsWithOneSeed_5 : decode cX1_winsWithOneSeed 5 = .ok (.if_icmp .ge 36, 3) := by decide +kernel
theorem dX1_winsWithOneSeed_8 : decode cX1_winsWithOneSeed 8 = .ok (.aload_n 0, 1) := by decide +kernel
theorem dX1_winsWithOneSeed_9 : decode cX1_winsWithOneSeed 9 = .ok (.getfield 12, 3) := by decide +kernel
theorem dX1_winsWithOneSeed_12 : decode cX1_winsWithOneSeed 12 = .ok (.getfield 173, 3) := by decide +kernel
theorem dX1_winsWithOneSeed_15 : decode cX1_winsWithOneSeed 15 = .ok (.iconst 1, 1) := by decide +kernel
theorem dX1_winsWithOneSeed_16 : decode cX1_winsWithOneSeed 16 = .ok (.iload_n 2, 1) := by decide +kernel
theorem dX1_winsWithOneSeed_17 : decode cX1_winsWithOneSeed 17 = .ok (.ishl, 1) := by decide +kernel
theorem dX1_winsWithOneSeed_18 : decode cX1_winsWithOneSeed 18 = .ok (.iand, 1) := by decide +kernel
theorem dX1_winsWithOneSeed_19 : decode cX1_winsWithOneSeed 19 = .ok (.istore_n 3, 1) := by decide +kernel
theorem dX1_winsWithOneSeed_20 : decode cX1_winsWithOneSeed 20 = .ok (.iload_n 3, 1) := by decide +kernel
theorem dX1_winsWithOneSeed_21 : decode cX1_winsWithOneSeed 21 = .ok (.ifCond .eq 14, 3) := by decide +kernel
theorem dX1_winsWithOneSeed_24 : decode cX1_winsWithOneSeed 24 = .ok (.aload_n 0, 1) := by decide +kernel
theorem dX1_winsWithOneSeed_25 : decode cX1_winsWithOneSeed 25 = .ok (.iload_n 3, 1) := by decide +kernel
theorem dX1_winsWithOneSeed_26 : decode cX1_winsWithOneSeed 26 = .ok (.iload_n 1, 1) := by decide +kernel
theorem dX1_winsWithOneSeed_27 : decode cX1_winsWithOneSeed 27 = .ok (.invokevirtual 131, 3) := by decide +kernel
theorem dX1_winsWithOneSeed_30 : decode cX1_winsWithOneSeed 30 = .ok (.ifCond .eq 5, 3) := by decide +kernel
theorem dX1_winsWithOneSeed_33 : decode cX1_winsWithOneSeed 33 = .ok (.iconst 1, 1) := by decide +kernel
theorem dX1_winsWithOneSeed_34 : decode cX1_winsWithOneSeed 34 = .ok (.ireturn, 1) := by decide +kernel
theorem dX1_winsWithOneSeed_35 : decode cX1_winsWithOneSeed 35 = .ok (.iinc 2 1, 3) := by decide +kernel
theorem dX1_winsWithOneSeed_38 : decode cX1_winsWithOneSeed 38 = .ok (.goto (-36), 3) := by decide +kernel
theorem dX1_winsWithOneSeed_41 : decode cX1_winsWithOneSeed 41 = .ok (.iconst 0, 1) := by decide +kernel
theorem dX1_winsWithOneSeed_42 : decode cX1_winsWithOneSeed 42 = .ok (.ireturn, 1) := by decide +kernel
set_option maxRecDepth 20000 in
theorem ggX1_winsWithTwoSeeds_X1_winsWith : GoodIn wsX1_winsWithTwoSeeds wsX1_winsWith := goodIn_r _ [7, 8, 1, 9, 10, 11, 12, 13, 14, 15, 16, 17, 18, 19, 20, 21, 22, 23, 24, 25, 26, 27, 28, 29, 30, 31, 32, 33, 34, 35, 36, 37, 38, 39, 40, 41, 42, 43, 44, 45, 46, 47, 48, 49, 50, 51, 52, 53, 54, 55, 56, 57, 58, 59, 60, 61] (by decide +kernel) (by decide +kernel)
set_option maxRecDepth 20000 in
theorem gX1_winsWithTwoSeeds_X1_winsWith : GoodIn wsX1_winsWithTwoSeeds (wsV RX1 131 RX1 yX1_winsWith wsX1_winsWith) := goodIn_app (goodIn_of _ (by decide +kernel)) ggX1_winsWithTwoSeeds_X1_winsWith
theorem dX1_winsWithTwoSeeds_0 : decode cX1_winsWithTwoSeeds 0 = .ok (.iconst 0, 1) := by decide +kernel
theorem dX1_winsWithTwoSeeds_1 : decode cX1_winsWithTwoSeeds 1 = .ok (.istore_n 2, 1) := by decide +kernel
theorem dX1_winsWithTwoSeeds_2 : decode cX1_winsWithTwoSeeds 2 = .ok (.iload_n 2, 1) := by decide +kernel
theorem dX1_winsWithTwoSeeds_3 : decode cX1_winsWithTwoSeeds 3 = .ok (.bipush 30, 2) := by decide +kernel
theorem dX1_winsWithTwoSeeds_5 : decode cX1_winsWithTwoSeeds 5 = .ok (.if_icmp .ge 61, 3) := by decide +kernel
theorem dX1_winsWithTwoSeeds_8 : decode cX1_winsWithTwoSeeds 8 = .ok (.iload_n 2, 1) := by decide +kernel
theorem dX1_winsWithTwoSeeds_9 : decode cX1_winsWithTwoSeeds 9 = .ok (.iconst 1, 1) := by decide +kernel
theorem dX1_winsWithTwoSeeds_10 : decode cX1_winsWithTwoSeeds 10 = .ok (.iadd, 1) := by decide +kernel
theorem dX1_winsWithTwoSeeds_11 : decode cX1_winsWithTwoSeeds 11 = .ok (.istore_n 3, 1) := by decide +kernel
theorem dX1_winsWithTwoSeeds_12 : decode cX1_winsWithTwoSeeds 12 = .ok (.iload_n 3, 1) := by decide +kernel
theorem dX1_winsWithTwoSeeds_13 : decode cX1_winsWithTwoSeeds 13 = .ok (.bipush 30, 2) := by decide +kernel
theorem dX1_winsWithTwoSeeds_15 : decode cX1_winsWithTwoSeeds 15 = .ok (.if_icmp .ge 45, 3) := by decide +kernel
theorem dX1_winsWithTwoSeeds_18 : decode cX1_winsWithTwoSeeds 18 = .ok (.iconst 1, 1) := by decide +kernel
theorem dX1_winsWithTwoSeeds_19 : decode cX1_winsWithTwoSeeds 19 = .ok (.iload_n 2, 1) := by decide +kernel
theorem dX1_winsWithTwoSeeds_20 : decode cX1_winsWithTwoSeeds 20 = .ok (.ishl, 1) := by decide +kernel
theorem dX1_winsWithTwoSeeds_21 : decode cX1_winsWithTwoSeeds 21 = .ok (.iconst 1, 1) := by decide +kernel
theorem dX1_winsWithTwoSeeds_22 : decode cX1_winsWithTwoSeeds 22 = .ok (.iload_n 3, 1) := by decide +kernel
theorem dX1_winsWithTwoSeeds_23 : decode cX1_winsWithTwoSeeds 23 = .ok (.ishl, 1) := by decide +kernel
theorem dX1_winsWithTwoSeeds_24 : decode cX1_winsWithTwoSeeds 24 = .ok (.ior, 1) := by decide +kernel
theorem dX1_winsWithTwoSeeds_25 : decode cX1_winsWithTwoSeeds 25 = .ok (.istore 4, 2) := by decide +kernel
theorem dX1_winsWithTwoSeeds_27 : decode cX1_winsWithTwoSeeds 27 = .ok (.iload 4, 2) := by decide +kernel
theorem dX1_winsWithTwoSeeds_29 : decode cX1_winsWithTwoSeeds 29 = .ok (.aload_n 0, 1) := by decide +kernel
theorem dX1_winsWithTwoSeeds_30 : decode cX1_winsWithTwoSeeds 30 = .ok (.getfield 12, 3) := by decide +kernel
theorem dX1_winsWithTwoSeeds_33 : decode cX1_winsWithTwoSeeds 33 = .ok (.getfield 173, 3) := by decide +kernel
theorem dX1_winsWithTwoSeeds_36 : decode cX1_winsWithTwoSeeds 36 = .ok (.iconst (-1), 1) := by decide +kernel
theorem dX1_winsWithTwoSeeds_37 : decode cX1_winsWithTwoSeeds 37 = .ok (.ixor, 1) := by decide +kernel
theorem dX1_winsWithTwoSeeds_38 : decode cX1_winsWithTwoSeeds 38 = .ok (.iand, 1) := by decide +kernel
theorem dX1_winsWithTwoSeeds_39 : decode cX1_winsWithTwoSeeds 39 = .ok (.ifCond .ne 15, 3) := by decide +kernel
theorem dX1_winsWithTwoSeeds_42 : decode cX1_winsWithTwoSeeds 42 = .ok (.aload_n 0, 1) := by decide +kernel
theorem dX1_winsWithTwoSeeds_43 : decode cX1_winsWithTwoSeeds 43 = .ok (.iload 4, 2) := by decide +kernel
theorem dX1_winsWithTwoSeeds_45 : decode cX1_winsWithTwoSeeds 45 = .ok (.iload_n 1, 1) := by decide +kernel
theorem dX1_winsWithTwoSeeds_46 : decode cX1_winsWithTwoSeeds 46 = .ok (.invokevirtual 131, 3) := by decide +kernel
theorem dX1_winsWithTwoSeeds_49 : decode cX1_winsWithTwoSeeds 49 = .ok (.ifCond .eq 5, 3) := by decide +kernel
theorem dX1_winsWithTwoSeeds_52 : decode cX1_winsWithTwoSeeds 52 = .ok (.iconst 1, 1) := by decide +kernel
theorem dX1_winsWithTwoSeeds_53 : decode cX1_winsWithTwoSeeds 53 = .ok (.ireturn, 1) := by decide +kernel
theorem dX1_winsWithTwoSeeds_54 : decode cX1_winsWithTwoSeeds 54 = .ok (.iinc 3 1, 3) := by decide +kernel
theorem dX1_winsWithTwoSeeds_57 : decode cX1_winsWithTwoSeeds 57 = .ok (.goto (-45), 3) := by decide +kernel
theorem dX1_winsWithTwoSeeds_60 : decode cX1_winsWithTwoSeeds 60 = .ok (.iinc 2 1, 3) := by decide +kernel
theorem dX1_winsWithTwoSeeds_63 : decode cX1_winsWithTwoSeeds 63 = .ok (.goto (-61), 3) := by decide +kernel
theorem dX1_winsWithTwoSeeds_66 : decode cX1_winsWithTwoSeeds 66 = .ok (.iconst 0, 1) := by decide +kernel
theorem dX1_winsWithTwoSeeds_67 : decode cX1_winsWithTwoSeeds 67 = .ok (.ireturn, 1) := by decide +kernel
set_option maxRecDepth 20000 in
theorem ggX1_winsWith_X0_copyFrom : GoodIn wsX1_winsWith wsX0_copyFrom := goodIn_r _ [7, 8, 9, 10, 11, 50, 51, 52, 53, 54, 55] (by decide +kernel) (by decide +kernel)
set_option maxRecDepth 20000 in
theorem gX1_winsWith_X0_copyFrom : GoodIn wsX1_winsWith (wsV RX1 123 RX0 yX0_copyFrom wsX0_copyFrom) := goodIn_app (goodIn_of _ (by decide +kernel)) ggX1_winsWith_X0_copyFrom
set_option maxRecDepth 20000 in
theorem ggX1_winsWith_X0_dye : GoodIn wsX1_winsWith wsX0_dye := goodIn_r _ [15, 11, 50, 51, 52, 53, 54, 55] (by decide +kernel) (by decide +kernel)
set_option maxRecDepth 20000 in
theorem gX1_winsWith_X0_dye : GoodIn wsX1_winsWith (wsV RX1 64 RX0 yX0_dye wsX0_dye) := goodIn_app (goodIn_of _ (by decide +kernel)) ggX1_winsWith_X0_dye
set_option maxRecDepth 20000 in
theorem ggX1_winsWith_X0_surge : GoodIn wsX1_winsWith wsX0_surge := goodIn_r _ [19, 20, 21, 22, 6, 23, 24, 10, 11, 25, 26, 27, 28, 29, 8, 9, 30, 31, 32, 33, 34, 35, 36, 50, 51, 52, 53, 54, 55] (by decide +kernel) (by decide +kernel)
set_option maxRecDepth 20000 in
theorem gX1_winsWith_X0_surge : GoodIn wsX1_winsWith (wsV RX1 79 RX0 yX0_surge wsX0_surge) := goodIn_app (goodIn_of _ (by decide +kernel)) ggX1_winsWith_X0_surge
set_option maxRecDepth 20000 in
theorem ggX1_winsWith_X0_isAll : GoodIn wsX1_winsWith wsX0_isAll := goodIn_r _ [40, 8, 41, 42, 43, 6, 44, 11, 50, 51, 52, 53, 54, 55] (by decide +kernel) (by decide +kernel)
set_option maxRecDepth 20000 in
theorem gX1_winsWith_X0_isAll : GoodIn wsX1_winsWith (wsV RX1 120 RX0 yX0_isAll wsX0_isAll) := goodIn_app (goodIn_of _ (by decide +kernel)) ggX1_winsWith_X0_isAll
theorem dX1_winsWith_0 : decode cX1_winsWith 0 = .ok (.aload_n 0, 1) := by decide +kernel
theorem dX1_winsWith_1 : decode cX1_winsWith 1 = .ok (.getfield 16, 3) := by decide +kernel
theorem dX1_winsWith_4 : decode cX1_winsWith 4 = .ok (.aload_n 0, 1) := by decide +kernel
theorem dX1_winsWith_5 : decode cX1_winsWith 5 = .ok (.getfield 12, 3) := by decide +kernel
theorem dX1_winsWith_8 : decode cX1_winsWith 8 = .ok (.invokevirtual 123, 3) := by decide +kernel
theorem dX1_winsWith_11 : decode cX1_winsWith 11 = .ok (.aload_n 0, 1) := by decide +kernel
theorem dX1_winsWith_12 : decode cX1_winsWith 12 = .ok (.getfield 16, 3) := by decide +kernel
theorem dX1_winsWith_15 : decode cX1_winsWith 15 = .ok (.iload_n 1, 1) := by decide +kernel
theorem dX1_winsWith_16 : decode cX1_winsWith 16 = .ok (.iload_n 2, 1) := by decide +kernel
theorem dX1_winsWith_17 : decode cX1_winsWith 17 = .ok (.invokevirtual 64, 3) := by decide +kernel
theorem dX1_winsWith_20 : decode cX1_winsWith 20 = .ok (.aload_n 0, 1) := by decide +kernel
theorem dX1_winsWith_21 : decode cX1_winsWith 21 = .ok (.getfield 16, 3) := by decide +kernel
theorem dX1_winsWith_24 : decode cX1_winsWith 24 = .ok (.bipush 8, 2) := by decide +kernel
theorem dX1_winsWith_26 : decode cX1_winsWith 26 = .ok (.invokevirtual 79, 3) := by decide +kernel
theorem dX1_winsWith_29 : decode cX1_winsWith 29 = .ok (.pop, 1) := by decide +kernel
theorem dX1_winsWith_30 : decode cX1_winsWith 30 = .ok (.aload_n 0, 1) := by decide +kernel
theorem dX1_winsWith_31 : decode cX1_winsWith 31 = .ok (.getfield 16, 3) := by decide +kernel
theorem dX1_winsWith_34 : decode cX1_winsWith 34 = .ok (.iload_n 2, 1) := by decide +kernel
theorem dX1_winsWith_35 : decode cX1_winsWith 35 = .ok (.invokevirtual 120, 3) := by decide +kernel
theorem dX1_winsWith_38 : decode cX1_winsWith 38 = .ok (.ireturn, 1) := by decide +kernel
set_option maxRecDepth 20000 in
theorem ggX1_countAfter_X0_copyFrom : GoodIn wsX1_countAfter wsX0_copyFrom := goodIn_r _ [7, 8, 9, 10, 11, 57, 58, 59, 60, 61, 62] (by decide +kernel) (by decide +kernel)
set_option maxRecDepth 20000 in
theorem gX1_countAfter_X0_copyFrom : GoodIn wsX1_countAfter (wsV RX1 123 RX0 yX0_copyFrom wsX0_copyFrom) := goodIn_app (goodIn_of _ (by decide +kernel)) ggX1_countAfter_X0_copyFrom
set_option maxRecDepth 20000 in
theorem ggX1_countAfter_X0_dye : GoodIn wsX1_countAfter wsX0_dye := goodIn_r _ [15, 11, 57, 58, 59, 60, 61, 62] (by decide +kernel) (by decide +kernel)
set_option maxRecDepth 20000 in
theorem gX1_countAfter_X0_dye : GoodIn wsX1_countAfter (wsV RX1 64 RX0 yX0_dye wsX0_dye) := goodIn_app (goodIn_of _ (by decide +kernel)) ggX1_countAfter_X0_dye
set_option maxRecDepth 20000 in
theorem ggX1_countAfter_X0_surge : GoodIn wsX1_countAfter wsX0_surge := goodIn_r _ [19, 20, 21, 22, 6, 23, 24, 10, 11, 25, 26, 27, 28, 29, 8, 9, 30, 31, 32, 33, 34, 35, 36, 57, 58, 59, 60, 61, 62] (by decide +kernel) (by decide +kernel)
set_option maxRecDepth 20000 in
theorem gX1_countAfter_X0_surge : GoodIn wsX1_countAfter (wsV RX1 79 RX0 yX0_surge wsX0_surge) := goodIn_app (goodIn_of _ (by decide +kernel)) ggX1_countAfter_X0_surge
set_option maxRecDepth 20000 in
theorem ggX1_countAfter_X0_count : GoodIn wsX1_countAfter wsX0_count := goodIn_r _ [40, 41, 42, 43, 6, 44, 11, 45, 46, 47, 48, 49, 50, 51, 57, 58, 59, 60, 61, 62] (by decide +kernel) (by decide +kernel)
set_option maxRecDepth 20000 in
theorem gX1_countAfter_X0_count : GoodIn wsX1_countAfter (wsV RX1 105 RX0 yX0_count wsX0_count) := goodIn_app (goodIn_of _ (by decide +kernel)) ggX1_countAfter_X0_count
theorem dX1_countAfter_0 : decode cX1_countAfter 0 = .ok (.aload_n 0, 1) := by decide +kernel
theorem dX1_countAfter_1 : decode cX1_countAfter 1 = .ok (.getfield 16, 3) := by decide +kernel
theorem dX1_countAfter_4 : decode cX1_countAfter 4 = .ok (.aload_n 0, 1) := by decide +kernel
theorem dX1_countAfter_5 : decode cX1_countAfter 5 = .ok (.getfield 12, 3) := by decide +kernel
theorem dX1_countAfter_8 : decode cX1_countAfter 8 = .ok (.invokevirtual 123, 3) := by decide +kernel
theorem dX1_countAfter_11 : decode cX1_countAfter 11 = .ok (.aload_n 0, 1) := by decide +kernel
theorem dX1_countAfter_12 : decode cX1_countAfter 12 = .ok (.getfield 16, 3) := by decide +kernel
theorem dX1_countAfter_15 : decode cX1_countAfter 15 = .ok (.iload_n 1, 1) := by decide +kernel
theorem dX1_countAfter_16 : decode cX1_countAfter 16 = .ok (.iload_n 2, 1) := by decide +kernel
theorem dX1_countAfter_17 : decode cX1_countAfter 17 = .ok (.invokevirtual 64, 3) := by decide +kernel
theorem dX1_countAfter_20 : decode cX1_countAfter 20 = .ok (.aload_n 0, 1) := by decide +kernel
theorem dX1_countAfter_21 : decode cX1_countAfter 21 = .ok (.getfield 16, 3) := by decide +kernel
theorem dX1_countAfter_24 : decode cX1_countAfter 24 = .ok (.iload_n 3, 1) := by decide +kernel
theorem dX1_countAfter_25 : decode cX1_countAfter 25 = .ok (.invokevirtual 79, 3) := by decide +kernel
theorem dX1_countAfter_28 : decode cX1_countAfter 28 = .ok (.pop, 1) := by decide +kernel
theorem dX1_countAfter_29 : decode cX1_countAfter 29 = .ok (.aload_n 0, 1) := by decide +kernel
theorem dX1_countAfter_30 : decode cX1_countAfter 30 = .ok (.getfield 16, 3) := by decide +kernel
theorem dX1_countAfter_33 : decode cX1_countAfter 33 = .ok (.iload_n 2, 1) := by decide +kernel
theorem dX1_countAfter_34 : decode cX1_countAfter 34 = .ok (.invokevirtual 105, 3) := by decide +kernel
theorem dX1_countAfter_37 : decode cX1_countAfter 37 = .ok (.ireturn, 1) := by decide +kernel
theorem dX1_isOnMap_0 : decode cX1_isOnMap 0 = .ok (.iload_n 1, 1) := by decide +kernel
theorem dX1_isOnMap_1 : decode cX1_isOnMap 1 = .ok (.ifCond .lt 27, 3) := by decide +kernel
theorem dX1_isOnMap_4 : decode cX1_isOnMap 4 = .ok (.iload_n 1, 1) := by decide +kernel
theorem dX1_isOnMap_5 : decode cX1_isOnMap 5 = .ok (.aload_n 0, 1) := by decide +kernel
theorem dX1_isOnMap_6 : decode cX1_isOnMap 6 = .ok (.getfield 19, 3) := by decide +kernel
theorem dX1_isOnMap_9 : decode cX1_isOnMap 9 = .ok (.if_icmp .ge 19, 3) := by decide +kernel
theorem dX1_isOnMap_12 : decode cX1_isOnMap 12 = .ok (.iload_n 2, 1) := by decide +kernel
theorem dX1_isOnMap_13 : decode cX1_isOnMap 13 = .ok (.ifCond .lt 15, 3) := by decide +kernel
theorem dX1_isOnMap_16 : decode cX1_isOnMap 16 = .ok (.iload_n 2, 1) := by decide +kernel
theorem dX1_isOnMap_17 : decode cX1_isOnMap 17 = .ok (.aload_n 0, 1) := by decide +kernel
theorem dX1_isOnMap_18 : decode cX1_isOnMap 18 = .ok (.getfield 23, 3) := by decide +kernel
theorem dX1_isOnMap_21 : decode cX1_isOnMap 21 = .ok (.if_icmp .ge 7, 3) := by decide +kernel
theorem dX1_isOnMap_24 : decode cX1_isOnMap 24 = .ok (.iconst 1, 1) := by decide +kernel
theorem dX1_isOnMap_25 : decode cX1_isOnMap 25 = .ok (.goto 4, 3) := by decide +kernel
theorem dX1_isOnMap_28 : decode cX1_isOnMap 28 = .ok (.iconst 0, 1) := by decide +kernel
theorem dX1_isOnMap_29 : decode cX1_isOnMap 29 = .ok (.ireturn, 1) := by decide +kernel
theorem dX1_isSide_0 : decode cX1_isSide 0 = .ok (.iload_n 0, 1) := by decide +kernel
theorem dX1_isSide_1 : decode cX1_isSide 1 = .ok (.iconst 2, 1) := by decide +kernel
theorem dX1_isSide_2 : decode cX1_isSide 2 = .ok (.if_icmp .lt 12, 3) := by decide +kernel
theorem dX1_isSide_5 : decode cX1_isSide 5 = .ok (.iload_n 0, 1) := by decide +kernel
theorem dX1_isSide_6 : decode cX1_isSide 6 = .ok (.iconst 5, 1) := by decide +kernel
theorem dX1_isSide_7 : decode cX1_isSide 7 = .ok (.if_icmp .gt 7, 3) := by decide +kernel
theorem dX1_isSide_10 : decode cX1_isSide 10 = .ok (.iconst 1, 1) := by decide +kernel
theorem dX1_isSide_11 : decode cX1_isSide 11 = .ok (.goto 4, 3) := by decide +kernel
theorem dX1_isSide_14 : decode cX1_isSide 14 = .ok (.iconst 0, 1) := by decide +kernel
theorem dX1_isSide_15 : decode cX1_isSide 15 = .ok (.ireturn, 1) := by decide +kernel
theorem dX1_isColour_0 : decode cX1_isColour 0 = .ok (.iload_n 0, 1) := by decide +kernel
theorem dX1_isColour_1 : decode cX1_isColour 1 = .ok (.iconst 1, 1) := by decide +kernel
theorem dX1_isColour_2 : decode cX1_isColour 2 = .ok (.if_icmp .lt 12, 3) := by decide +kernel
theorem dX1_isColour_5 : decode cX1_isColour 5 = .ok (.iload_n 0, 1) := by decide +kernel
theorem dX1_isColour_6 : decode cX1_isColour 6 = .ok (.iconst 4, 1) := by decide +kernel
theorem dX1_isColour_7 : decode cX1_isColour 7 = .ok (.if_icmp .gt 7, 3) := by decide +kernel
theorem dX1_isColour_10 : decode cX1_isColour 10 = .ok (.iconst 1, 1) := by decide +kernel
theorem dX1_isColour_11 : decode cX1_isColour 11 = .ok (.goto 4, 3) := by decide +kernel
theorem dX1_isColour_14 : decode cX1_isColour 14 = .ok (.iconst 0, 1) := by decide +kernel
theorem dX1_isColour_15 : decode cX1_isColour 15 = .ok (.ireturn, 1) := by decide +kernel
set_option maxRecDepth 20000 in
theorem ggX1_isColourOrBare_X1_isColour : GoodIn wsX1_isColourOrBare wsX1_isColour := goodIn_r _ [4] (by decide +kernel) (by decide +kernel)
set_option maxRecDepth 20000 in
theorem gX1_isColourOrBare_X1_isColour : GoodIn wsX1_isColourOrBare (va_wsS RX1 108 yX1_isColour wsX1_isColour) := goodIn_app (goodIn_of _ (by decide +kernel)) ggX1_isColourOrBare_X1_isColour
theorem dX1_isColourOrBare_0 : decode cX1_isColourOrBare 0 = .ok (.iload_n 0, 1) := by decide +kernel
theorem dX1_isColourOrBare_1 : decode cX1_isColourOrBare 1 = .ok (.ifCond .eq 10, 3) := by decide +kernel
theorem dX1_isColourOrBare_4 : decode cX1_isColourOrBare 4 = .ok (.iload_n 0, 1) := by decide +kernel
theorem dX1_isColourOrBare_5 : decode cX1_isColourOrBare 5 = .ok (.invokestatic 108, 3) := by decide +kernel
theorem dX1_isColourOrBare_8 : decode cX1_isColourOrBare 8 = .ok (.ifCond .eq 7, 3) := by decide +kernel
theorem dX1_isColourOrBare_11 : decode cX1_isColourOrBare 11 = .ok (.iconst 1, 1) := by decide +kernel
theorem dX1_isColourOrBare_12 : decode cX1_isColourOrBare 12 = .ok (.goto 4, 3) := by decide +kernel
theorem dX1_isColourOrBare_15 : decode cX1_isColourOrBare 15 = .ok (.iconst 0, 1) := by decide +kernel
theorem dX1_isColourOrBare_16 : decode cX1_isColourOrBare 16 = .ok (.ireturn, 1) := by decide +kernel
theorem dX1_cell_0 : decode cX1_cell 0 = .ok (.iconst 1, 1) := by decide +kernel
theorem dX1_cell_1 : decode cX1_cell 1 = .ok (.iload_n 0, 1) := by decide +kernel
theorem dX1_cell_2 : decode cX1_cell 2 = .ok (.bipush 6, 2) := by decide +kernel
theorem dX1_cell_4 : decode cX1_cell 4 = .ok (.iload_n 1, 1) := by decide +kernel
theorem dX1_cell_5 : decode cX1_cell 5 = .ok (.imul, 1) := by decide +kernel
theorem dX1_cell_6 : decode cX1_cell 6 = .ok (.iadd, 1) := by decide +kernel
theorem dX1_cell_7 : decode cX1_cell 7 = .ok (.ishl, 1) := by decide +kernel
theorem dX1_cell_8 : decode cX1_cell 8 = .ok (.ireturn, 1) := by decide +kernel
theorem dX1_nextTo_0 : decode cX1_nextTo 0 = .ok (.iload_n 0, 1) := by decide +kernel
theorem dX1_nextTo_1 : decode cX1_nextTo 1 = .ok (.iconst 1, 1) := by decide +kernel
theorem dX1_nextTo_2 : decode cX1_nextTo 2 = .ok (.ishl, 1) := by decide +kernel
theorem dX1_nextTo_3 : decode cX1_nextTo 3 = .ok (.iload_n 0, 1) := by decide +kernel
theorem dX1_nextTo_4 : decode cX1_nextTo 4 = .ok (.iconst 1, 1) := by decide +kernel
theorem dX1_nextTo_5 : decode cX1_nextTo 5 = .ok (.iushr, 1) := by decide +kernel
theorem dX1_nextTo_6 : decode cX1_nextTo 6 = .ok (.ior, 1) := by decide +kernel
theorem dX1_nextTo_7 : decode cX1_nextTo 7 = .ok (.iload_n 0, 1) := by decide +kernel
theorem dX1_nextTo_8 : decode cX1_nextTo 8 = .ok (.bipush 6, 2) := by decide +kernel
theorem dX1_nextTo_10 : decode cX1_nextTo 10 = .ok (.ishl, 1) := by decide +kernel
theorem dX1_nextTo_11 : decode cX1_nextTo 11 = .ok (.ior, 1) := by decide +kernel
theorem dX1_nextTo_12 : decode cX1_nextTo 12 = .ok (.iload_n 0, 1) := by decide +kernel
theorem dX1_nextTo_13 : decode cX1_nextTo 13 = .ok (.bipush 6, 2) := by decide +kernel
theorem dX1_nextTo_15 : decode cX1_nextTo 15 = .ok (.iushr, 1) := by decide +kernel
theorem dX1_nextTo_16 : decode cX1_nextTo 16 = .ok (.ior, 1) := by decide +kernel
theorem dX1_nextTo_17 : decode cX1_nextTo 17 = .ok (.ireturn, 1) := by decide +kernel
theorem dJ6_bitCount_0f7a4_0 : decode cJ6_bitCount_0f7a4 0 = .ok (.iload_n 0, 1) := by decide +kernel
theorem dJ6_bitCount_0f7a4_1 : decode cJ6_bitCount_0f7a4 1 = .ok (.iload_n 0, 1) := by decide +kernel
theorem dJ6_bitCount_0f7a4_2 : decode cJ6_bitCount_0f7a4 2 = .ok (.iconst 1, 1) := by decide +kernel
theorem dJ6_bitCount_0f7a4_3 : decode cJ6_bitCount_0f7a4 3 = .ok (.iushr, 1) := by decide +kernel
theorem dJ6_bitCount_0f7a4_4 : decode cJ6_bitCount_0f7a4 4 = .ok (.ldc_w 265, 3) := by decide +kernel
theorem dJ6_bitCount_0f7a4_7 : decode cJ6_bitCount_0f7a4 7 = .ok (.iand, 1) := by decide +kernel
theorem dJ6_bitCount_0f7a4_8 : decode cJ6_bitCount_0f7a4 8 = .ok (.isub, 1) := by decide +kernel
theorem dJ6_bitCount_0f7a4_9 : decode cJ6_bitCount_0f7a4 9 = .ok (.istore_n 0, 1) := by decide +kernel
theorem dJ6_bitCount_0f7a4_10 : decode cJ6_bitCount_0f7a4 10 = .ok (.iload_n 0, 1) := by decide +kernel
theorem dJ6_bitCount_0f7a4_11 : decode cJ6_bitCount_0f7a4 11 = .ok (.ldc_w 266, 3) := by decide +kernel
theorem dJ6_bitCount_0f7a4_14 : decode cJ6_bitCount_0f7a4 14 = .ok (.iand, 1) := by decide +kernel
theorem dJ6_bitCount_0f7a4_15 : decode cJ6_bitCount_0f7a4 15 = .ok (.iload_n 0, 1) := by decide +kernel
theorem dJ6_bitCount_0f7a4_16 : decode cJ6_bitCount_0f7a4 16 = .ok (.iconst 2, 1) := by decide +kernel
theorem dJ6_bitCount_0f7a4_17 : decode cJ6_bitCount_0f7a4 17 = .ok (.iushr, 1) := by decide +kernel
theorem dJ6_bitCount_0f7a4_18 : decode cJ6_bitCount_0f7a4 18 = .ok (.ldc_w 266, 3) := by decide +kernel
theorem dJ6_bitCount_0f7a4_21 : decode cJ6_bitCount_0f7a4 21 = .ok (.iand, 1) := by decide +kernel
theorem dJ6_bitCount_0f7a4_22 : decode cJ6_bitCount_0f7a4 22 = .ok (.iadd, 1) := by decide +kernel
theorem dJ6_bitCount_0f7a4_23 : decode cJ6_bitCount_0f7a4 23 = .ok (.istore_n 0, 1) := by decide +kernel
theorem dJ6_bitCount_0f7a4_24 : decode cJ6_bitCount_0f7a4 24 = .ok (.iload_n 0, 1) := by decide +kernel
theorem dJ6_bitCount_0f7a4_25 : decode cJ6_bitCount_0f7a4 25 = .ok (.iload_n 0, 1) := by decide +kernel
theorem dJ6_bitCount_0f7a4_26 : decode cJ6_bitCount_0f7a4 26 = .ok (.iconst 4, 1) := by decide +kernel
theorem dJ6_bitCount_0f7a4_27 : decode cJ6_bitCount_0f7a4 27 = .ok (.iushr, 1) := by decide +kernel
theorem dJ6_bitCount_0f7a4_28 : decode cJ6_bitCount_0f7a4 28 = .ok (.iadd, 1) := by decide +kernel
theorem dJ6_bitCount_0f7a4_29 : decode cJ6_bitCount_0f7a4 29 = .ok (.ldc_w 267, 3) := by decide +kernel
theorem dJ6_bitCount_0f7a4_32 : decode cJ6_bitCount_0f7a4 32 = .ok (.iand, 1) := by decide +kernel
theorem dJ6_bitCount_0f7a4_33 : decode cJ6_bitCount_0f7a4 33 = .ok (.istore_n 0, 1) := by decide +kernel
theorem dJ6_bitCount_0f7a4_34 : decode cJ6_bitCount_0f7a4 34 = .ok (.iload_n 0, 1) := by decide +kernel
theorem dJ6_bitCount_0f7a4_35 : decode cJ6_bitCount_0f7a4 35 = .ok (.iload_n 0, 1) := by decide +kernel
theorem dJ6_bitCount_0f7a4_36 : decode cJ6_bitCount_0f7a4 36 = .ok (.bipush 8, 2) := by decide +kernel
theorem dJ6_bitCount_0f7a4_38 : decode cJ6_bitCount_0f7a4 38 = .ok (.iushr, 1) := by decide +kernel
theorem dJ6_bitCount_0f7a4_39 : decode cJ6_bitCount_0f7a4 39 = .ok (.iadd, 1) := by decide +kernel
theorem dJ6_bitCount_0f7a4_40 : decode cJ6_bitCount_0f7a4 40 = .ok (.istore_n 0, 1) := by decide +kernel
theorem dJ6_bitCount_0f7a4_41 : decode cJ6_bitCount_0f7a4 41 = .ok (.iload_n 0, 1) := by decide +kernel
theorem dJ6_bitCount_0f7a4_42 : decode cJ6_bitCount_0f7a4 42 = .ok (.iload_n 0, 1) := by decide +kernel
theorem dJ6_bitCount_0f7a4_43 : decode cJ6_bitCount_0f7a4 43 = .ok (.bipush 16, 2) := by decide +kernel
theorem dJ6_bitCount_0f7a4_45 : decode cJ6_bitCount_0f7a4 45 = .ok (.iushr, 1) := by decide +kernel
theorem dJ6_bitCount_0f7a4_46 : decode cJ6_bitCount_0f7a4 46 = .ok (.iadd, 1) := by decide +kernel
theorem dJ6_bitCount_0f7a4_47 : decode cJ6_bitCount_0f7a4 47 = .ok (.istore_n 0, 1) := by decide +kernel
theorem dJ6_bitCount_0f7a4_48 : decode cJ6_bitCount_0f7a4 48 = .ok (.iload_n 0, 1) := by decide +kernel
theorem dJ6_bitCount_0f7a4_49 : decode cJ6_bitCount_0f7a4 49 = .ok (.bipush 63, 2) := by decide +kernel
theorem dJ6_bitCount_0f7a4_51 : decode cJ6_bitCount_0f7a4 51 = .ok (.iand, 1) := by decide +kernel
theorem dJ6_bitCount_0f7a4_52 : decode cJ6_bitCount_0f7a4 52 = .ok (.ireturn, 1) := by decide +kernel
theorem dJ9_max_7cf53_0 : decode cJ9_max_7cf53 0 = .ok (.iload_n 0, 1) := by decide +kernel
theorem dJ9_max_7cf53_1 : decode cJ9_max_7cf53 1 = .ok (.iload_n 1, 1) := by decide +kernel
theorem dJ9_max_7cf53_2 : decode cJ9_max_7cf53 2 = .ok (.if_icmp .lt 7, 3) := by decide +kernel
theorem dJ9_max_7cf53_5 : decode cJ9_max_7cf53 5 = .ok (.iload_n 0, 1) := by decide +kernel
theorem dJ9_max_7cf53_6 : decode cJ9_max_7cf53 6 = .ok (.goto 4, 3) := by decide +kernel
theorem dJ9_max_7cf53_9 : decode cJ9_max_7cf53 9 = .ok (.iload_n 1, 1) := by decide +kernel
theorem dJ9_max_7cf53_10 : decode cJ9_max_7cf53 10 = .ok (.ireturn, 1) := by decide +kernel
abbrev vwCl : List vw_C := [(RX0, TX0, 6), (RX1, TX1, 5), (RX2, TX2, 14)]
end
section
/-! THE PROVER'S OWN KIT: contracts over a fixed list of cells that keep their addresses; calls that put the callee's cells back in place; array rows by a Nat index -/
abbrev nwA : Cond := .methodLinkNest RX0 28 yX1_cell RX1
abbrev nwB : Cond := .methodLinkNest RX0 76 yX1_nextTo RX1
def zN (U : State) : Prop := va_Nw nwA U ∧ va_Nw nwB U
theorem zN.same {u U : State} (h : u.vm = U.vm) (z : zN u) : zN U := ⟨va_Nw.same rfl h z.1, va_Nw.same rfl h z.2⟩
theorem zN.warm {s U : State} (hW : s.WarmedH U.vm) (z : zN s) : zN U := ⟨va_Nw.warmM hW z.1, va_Nw.warmM hW z.2⟩
abbrev zT : Type := List (ClassId × FieldType)
def zput : va_W → List Nat → va_W → va_W
  | ws, i :: is, q :: qs => zput (ws.set i q) is qs
  | ws, [], _ => ws
  | ws, _ :: _, [] => ws
theorem zput_P {D : va_G} {cl : List vw_C} {H1 : Heap} : ∀ (is : List Nat) (W1 ws : va_W), (∀ (k : Nat) (q : Nat × va_E), ws[k]? = some q → k ∈ is ∨ va_at D cl q H1) → va_P D cl W1 H1 → is.length = W1.length → va_P D cl (zput ws is W1) H1
  | [], W1, ws, h, _, _ => fun k q hq => by
      have e : zput ws [] W1 = ws := by cases W1 <;> rfl
      rw [e] at hq
      rcases h k q hq with h | h
      · cases h
      · exact h
  | i :: is, [], ws, _, _, hl => by simp at hl
  | i :: is, q :: qs, ws, h, h1, hl => by
      show va_P D cl (zput (ws.set i q) is qs) H1
      refine zput_P is qs (ws.set i q) ?_ (fun k x hx => h1 (k + 1) x (by simpa using hx)) (by simpa using hl)
      intro k x hx
      by_cases hk : i = k
      · subst hk
        have hi : i < (ws.set i q).length := (List.getElem?_eq_some_iff.mp hx).1
        have hi2 : i < ws.length := by simpa using hi
        rw [List.getElem?_set_self hi2] at hx
        cases hx
        exact Or.inr (h1 0 q rfl)
      · rw [List.getElem?_set_ne hk] at hx
        rcases h k x hx with hm | ha
        · rcases List.mem_cons.mp hm with e | hm
          · exact absurd e.symm hk
          · exact Or.inl hm
        · exact Or.inr ha
theorem zset_self {α : Type} : ∀ (l : List α) (i : Nat) (x : α), l[i]? = some x → l.set i x = l
  | [], i, x, h => by simp at h
  | a :: l, 0, x, h => by simp at h; subst h; rfl
  | a :: l, i + 1, x, h => by
      have h2 : l[i]? = some x := by simpa using h
      show a :: l.set i x = a :: l
      rw [zset_self l i x h2]
theorem zput_fst : ∀ (is : List Nat) (W1 ws : va_W), (is.map fun i => (ws.map Prod.fst)[i]?) = W1.map (fun q => some q.1) → (zput ws is W1).map Prod.fst = ws.map Prod.fst
  | [], W1, ws, _ => by cases W1 <;> rfl
  | i :: is, [], ws, h => by simp at h
  | i :: is, q :: qs, ws, h => by
      show (zput (ws.set i q) is qs).map Prod.fst = _
      simp only [List.map_cons, List.cons.injEq] at h
      have e : (ws.set i q).map Prod.fst = ws.map Prod.fst := by
        rw [List.map_set]
        exact zset_self _ _ _ h.1
      rw [zput_fst is qs (ws.set i q) (by rw [e]; exact h.2), e]
theorem zD {A : Nat → Prop} {ws ws' : va_W} (h : ws'.map Prod.fst = ws.map Prod.fst) (hD : va_D A ws) : va_D A ws' := by
  have key : ∀ (k : Nat) (q : Nat × va_E), ws'[k]? = some q → ∃ q0, ws[k]? = some q0 ∧ q0.1 = q.1 := by
    intro k q hq
    have h1 : (ws'.map Prod.fst)[k]? = some q.1 := by rw [List.getElem?_map, hq]; rfl
    rw [h, List.getElem?_map] at h1
    cases hw : ws[k]? with
    | none => rw [hw] at h1; cases h1
    | some q0 => rw [hw] at h1; exact ⟨q0, rfl, Option.some.inj h1⟩
  refine ⟨fun i j p q hp hq hpq => ?_, fun k q hq => ?_⟩
  · obtain ⟨p0, e1, e2⟩ := key i p hp
    obtain ⟨q0, e3, e4⟩ := key j q hq
    exact hD.1 i j p0 q0 e1 e3 (by rw [e2, e4, hpq])
  · obtain ⟨q0, e1, e2⟩ := key k q hq
    rw [← e2]
    exact hD.2 k q0 e1
theorem z_subP {D : va_G} {cl : List vw_C} {ws W : va_W} {H : Heap} (hP : va_P D cl ws H) (isC : List Nat) (hC : isC.map (fun i => ws[i]?) = W.map some) : va_P D cl W H := by
  intro k q hq
  have h1 : (isC.map (fun i => ws[i]?))[k]? = some (some q) := by rw [hC, List.getElem?_map, hq]; rfl
  rw [List.getElem?_map] at h1
  cases hi : isC[k]? with
  | none => rw [hi] at h1; cases h1
  | some i => rw [hi] at h1; exact hP i q (Option.some.inj h1)
theorem z_jn {D : va_G} {cl : List vw_C} {A0 : Nat → Prop} {ws W W1 : va_W} {H H1 : Heap} (hP : va_P D cl ws H) (hD : va_D A0 ws) (isC : List Nat) (hC : isC.map (fun i => ws[i]?) = W.map some) (hk : ∀ q : Nat, q < H.size → ¬ va_A W H.size q → H1[q]? = H[q]?) (hP1 : va_P D cl W1 H1) (hf : W1.map Prod.fst = W.map Prod.fst) : va_P D cl (zput ws isC W1) H1 ∧ va_D A0 (zput ws isC W1) := by
  have hl0 : isC.length = W.length := by have := congrArg List.length hC; simpa using this
  have hl : isC.length = W1.length := by have := congrArg List.length hf; rw [List.length_map, List.length_map] at this; omega
  constructor
  · refine zput_P isC W1 ws (fun k q hq => ?_) hP1 hl
    by_cases hm : k ∈ isC
    · exact Or.inl hm
    · right
      have hlt := (hP k q hq).lt
      refine (hP k q hq).kept (hk q.1 hlt ?_)
      rintro (⟨k2, e, h⟩ | h)
      · have h1 : (isC.map (fun i => ws[i]?))[k2]? = some (some (q.1, e)) := by rw [hC, List.getElem?_map, h]; rfl
        rw [List.getElem?_map] at h1
        cases hi : isC[k2]? with
        | none => rw [hi] at h1; cases h1
        | some j =>
          rw [hi] at h1
          have h2 : ws[j]? = some (q.1, e) := Option.some.inj h1
          have e3 := hD.1 k j q (q.1, e) hq h2 rfl
          exact hm (by rw [e3]; exact List.mem_of_getElem? hi)
      · omega
  · refine zD (zput_fst isC W1 ws ?_) hD
    have e1 : (isC.map fun i => (ws.map Prod.fst)[i]?) = (isC.map (fun i => ws[i]?)).map (Option.map Prod.fst) := by
      rw [List.map_map]
      exact List.map_congr_left (fun i _ => by rw [List.getElem?_map]; rfl)
    have e2 : W1.map (fun q => some q.1) = (W.map some).map (Option.map Prod.fst) := by
      rw [List.map_map]
      have := congrArg (List.map some) hf
      rw [List.map_map, List.map_map] at this
      exact this
    rw [e1, e2, hC]
def zPc (D : va_G) (T : zT) (W : va_W) (av : List Value) (sz : Nat) : Array Value → State → Prop := va_Pc av (fun U => U.heap.size = sz ∧ va_P D vwCl W U.heap ∧ va_K D vwCl T U ∧ va_D (fun _ => True) W ∧ zN U)
theorem zPc_blind {D : va_G} {T : zT} {W : va_W} {av : List Value} {sz : Nat} : FrameBlind (zPc D T W av sz) := fun a U g mk q => by
  obtain ⟨q0, q1, qP, qK, qD, qN⟩ := q
  exact ⟨q0, q1, qP, va_K.moved (u := U) (U := U.calling g mk a) (Vm.Alike.refl U.vm) qK, qD, zN.same (u := U) (U := U.calling g mk a) rfl qN⟩
def zI (l : Launch) (D : va_G) (T : zT) (y : MethodName) (ws : List Cond) (rm : Room) (W : va_W) (av : List Value) {S : Type} (W1 : S → va_W) (post : Int32 → S → Prop) : Prop := ∀ sz, Met l y ws rm (zPc D T W av sz) (va_Qi post (fun u t => va_P D vwCl (W1 u) t.heap) (va_A W sz)) 0 0 (va_A W sz)
def zL (l : Launch) (D : va_G) (T : zT) (y : MethodName) (ws : List Cond) (rm : Room) (W : va_W) (av : List Value) {S : Type} (W1 : S → va_W) (post : Int64 → S → Prop) : Prop := ∀ sz, Met l y ws rm (zPc D T W av sz) (va_Ql post (fun u t => va_P D vwCl (W1 u) t.heap) (va_A W sz)) 0 0 (va_A W sz)
def zV (l : Launch) (D : va_G) (T : zT) (y : MethodName) (ws : List Cond) (rm : Room) (W : va_W) (av : List Value) {S : Type} (W1 : S → va_W) (post : S → Prop) : Prop := ∀ sz, Met l y ws rm (zPc D T W av sz) (va_Qv post (fun u t => va_P D vwCl (W1 u) t.heap) (va_A W sz)) 0 0 (va_A W sz)
section ZR
variable {p : Program} {l : Launch} {e : Env} {R : Room} {s : State} {m : MethodId} {args : Array Value} {below : List Frame} {meth : Method} {c : Code} {H : Heap} {locs : List Loc} {cells slots : Nat} {Q : State → Prop}
variable {cc : ByteArray} {pc : Nat} {ls : Array Slot} {rest : List Value} {D : va_G} {cl : List vw_C} {A : Nat → Prop} {a : Nat} {tys : List (ClassId × FieldType)} {ws : va_W} {H0 : Heap}
/-- the entry: the locals hold the arguments -/
theorem z_entry {vs : List Value} {n : Nat} (ha : args = vs.toArray) (h : (lg_sl vs).length ≤ n) (k : ∀ ls : Array Slot, lv_has ls n (lv_args 0 vs) → W p l e R s m args below meth c H locs cells slots Q (F0 m 0 ls [])) : W p l e R s m args below meth c H locs cells slots Q (entryFrame m args n) := by
  have e1 : entryFrame m args n = F0 m 0 ((lg_sl vs ++ List.replicate (n - (lg_sl vs).length) Slot.unset).toArray) [] := by rw [ha]; exact lg_entry_eq m vs n
  rw [e1]
  exact k _ (lv_entry vs h)
theorem z_iald (hexec : p.tables.exec = Jvm.exec) (hb : c.code = cc) (hK : va_K D cl tys s) (hP : va_P D cl ws H) (q0 t0 : Nat) {cA : ClassId} {n : Nat} {f : Nat → Int32} (ha : ws[q0]? = some (a, .inl (cA, n, .inl f))) (ht : tys[t0]? = some (cA, .int)) {i : Int32} (k : Nat) (hi : i = nI k) (hk : k < n) (hn : n < 2 ^ 31) (hdg : decode cc pc = .ok (.iaload, 1))
    (kk : W p l e R s m args below meth c H locs cells slots Q (F0 m (pc + 1) ls (.int (f k) :: rest))) : W p l e R s m args below meth c H locs cells slots Q (F0 m pc ls (.int i :: .ref a :: rest)) := by
  subst hi
  refine va_iald hexec hb hK hP q0 t0 ha ht (vp_in_nI hk hn) hdg ?_
  rw [nI_clamp (Nat.lt_trans hk hn)]
  exact kk
theorem z_zald (hexec : p.tables.exec = Jvm.exec) (hb : c.code = cc) (hK : va_K D cl tys s) (hP : va_P D cl ws H) (q0 t0 : Nat) {cA : ClassId} {n : Nat} {f : Nat → Int32} (ha : ws[q0]? = some (a, .inl (cA, n, .inl f))) (ht : tys[t0]? = some (cA, .boolean)) {i : Int32} (k : Nat) (hi : i = nI k) (hk : k < n) (hn : n < 2 ^ 31) (hdg : decode cc pc = .ok (.baload, 1))
    (kk : W p l e R s m args below meth c H locs cells slots Q (F0 m (pc + 1) ls (.int (f k) :: rest))) : W p l e R s m args below meth c H locs cells slots Q (F0 m pc ls (.int i :: .ref a :: rest)) := by
  subst hi
  refine va_zald hexec hb hK hP q0 t0 ha ht (vp_in_nI hk hn) hdg ?_
  rw [nI_clamp (Nat.lt_trans hk hn)]
  exact kk
theorem z_iast (hexec : p.tables.exec = Jvm.exec) (hb : c.code = cc) (hK : va_K D cl tys s) (hP : va_P D cl ws H) (hD : va_D A ws) (hS : va_S A H0 H locs) (q0 t0 : Nat) {cA : ClassId} {n : Nat} {f : Nat → Int32} (ha : ws[q0]? = some (a, .inl (cA, n, .inl f))) (ht : tys[t0]? = some (cA, .int)) {i : Int32} {x : Int32} (k : Nat) (hi : i = nI k) (hk : k < n) (hn : n < 2 ^ 31) (hdg : decode cc pc = .ok (.iastore, 1))
    (kk : ∀ (H1 : Heap) (locs1 : List Loc), va_P D cl (ws.set q0 (a, .inl (cA, n, .inl (upd f k x)))) H1 → va_D A (ws.set q0 (a, .inl (cA, n, .inl (upd f k x)))) → va_S A H0 H1 locs1 → W p l e R s m args below meth c H1 locs1 cells slots Q (F0 m (pc + 1) ls rest)) : W p l e R s m args below meth c H locs cells slots Q (F0 m pc ls (.int x :: .int i :: .ref a :: rest)) := by
  subst hi
  refine va_iast hexec hb hK hP hD hS q0 t0 ha ht (vp_in_nI hk hn) hdg ?_
  rw [nI_clamp (Nat.lt_trans hk hn)]
  exact kk
theorem z_nar (b : Bool) : vp_nar .boolean (if b then 1 else 0) = if b then 1 else 0 := by cases b <;> decide +kernel
theorem z_zast (hexec : p.tables.exec = Jvm.exec) (hb : c.code = cc) (hK : va_K D cl tys s) (hP : va_P D cl ws H) (hD : va_D A ws) (hS : va_S A H0 H locs) (q0 t0 : Nat) {cA : ClassId} {n : Nat} {f : Nat → Int32} (ha : ws[q0]? = some (a, .inl (cA, n, .inl f))) (ht : tys[t0]? = some (cA, .boolean)) {i : Int32} {x : Int32} (k : Nat) (hi : i = nI k) (hk : k < n) (hn : n < 2 ^ 31) (hx : vp_nar .boolean x = x) (hdg : decode cc pc = .ok (.bastore, 1))
    (kk : ∀ (H1 : Heap) (locs1 : List Loc), va_P D cl (ws.set q0 (a, .inl (cA, n, .inl (upd f k x)))) H1 → va_D A (ws.set q0 (a, .inl (cA, n, .inl (upd f k x)))) → va_S A H0 H1 locs1 → W p l e R s m args below meth c H1 locs1 cells slots Q (F0 m (pc + 1) ls rest)) : W p l e R s m args below meth c H locs cells slots Q (F0 m pc ls (.int x :: .int i :: .ref a :: rest)) := by
  subst hi
  refine va_zast hexec hb hK hP hD hS q0 t0 ha ht (vp_in_nI hk hn) hdg ?_
  rw [nI_clamp (Nat.lt_trans hk hn), hx]
  exact kk
theorem z_pre {W0 : va_W} {T : zT} {av : List Value} (hK : va_K D vwCl T s) (hN : zN s) (hP : va_P D vwCl W0 H) (hD : va_D A W0) : ∀ U : State, U.heap = H → s.WarmedH U.vm → zPc D T W0 av H.size av.toArray U := fun U hU hW => ⟨rfl, by rw [hU], by rw [hU]; exact hP, va_K.moved hW.alike hK, hD.weaken (fun _ _ _ _ => trivial), zN.warm hW hN⟩
variable {Ts wsy : List Cond} {bytes : ByteArray} {nL maxL index n : Nat} {own C host : String} {y : MethodName} {ret : Option FieldType} {rm : Room} {b : Nat} {As st0 : List Value} {T : zT} {W0 : va_W} {S : Type} {W1 : S → va_W}
/-- virtual calls -/
theorem z_callVi {post : Int32 → S → Prop} (F : CallFix p m c cc nL s args Ts own) (hM : zI l D T y wsy rm W0 (.ref b :: As) W1 post) (cw : CallW R s args own C index y bytes maxL ret wsy rm 0 0 n) (hK : va_K D vwCl T s) (hN : zN s) (hP : va_P D vwCl ws H) (hD : va_D A ws) (hS : va_S A H0 H locs) (hA : ∀ q, H0.size ≤ q → A q)
    (isC : List Nat) (hC : isC.map (fun i => ws[i]?) = W0.map some) (hnd : va_nd isC = true) (hf : ∀ u, (W1 u).map Prod.fst = W0.map Prod.fst) (q0 : Nat) {ci : Nat} {q : vw_C} {fs : List Value} (hc : vwCl[ci]? = some q) (hq : q.1 = C) (he : ws[q0]? = some (b, .inr (ci, fs)))
    (hn : As.length = n) (hl : ls.size = nL) (hst : st0 = As.reverse ++ .ref b :: rest) (hW : (rest.map fun v => v.category).sum ≤ 8) (hdg : decode cc pc = .ok (.invokevirtual index, 3)) (hcs : cells + 0 ≤ R.cells ∧ slots + 0 ≤ R.slots)
    (kk : ∀ (r : Int32) (u : S) (H1 : Heap) (locs1 : List Loc), post r u → va_P D vwCl (zput ws isC (W1 u)) H1 → va_D A (zput ws isC (W1 u)) → va_S A H0 H1 locs1 → W p l e R s m args below meth c H1 locs1 cells slots Q (F0 m (pc + 3) ls (.int r :: rest))) : W p l e R s m args below meth c H locs cells slots Q (F0 m pc ls st0) := by
  have hFc := va_free (wc := W0) hD hS hA isC hC
  have hr := va_recv hK hP hc he
  rw [hq] at hr
  exact va_calli (va_runV F (hM H.size) cw ⟨zPc_blind, hr, z_pre hK hN (z_subP hP isC hC) (hD.sub isC hnd hC)⟩ rfl hn hl hst (lv_room hW) hdg hcs) hS (fun q _ h => hFc q h) hFc (fun r u t H1 locs1 ht _ hp hB _ hk1 hS1 => by
    obtain ⟨h1, h2⟩ := z_jn hP hD isC hC hk1 (by rw [← ht]; exact hB) (hf u)
    exact kk r u H1 locs1 hp h1 h2 hS1)
theorem z_callVl {post : Int64 → S → Prop} (F : CallFix p m c cc nL s args Ts own) (hM : zL l D T y wsy rm W0 (.ref b :: As) W1 post) (cw : CallW R s args own C index y bytes maxL ret wsy rm 0 0 n) (hK : va_K D vwCl T s) (hN : zN s) (hP : va_P D vwCl ws H) (hD : va_D A ws) (hS : va_S A H0 H locs) (hA : ∀ q, H0.size ≤ q → A q)
    (isC : List Nat) (hC : isC.map (fun i => ws[i]?) = W0.map some) (hnd : va_nd isC = true) (hf : ∀ u, (W1 u).map Prod.fst = W0.map Prod.fst) (q0 : Nat) {ci : Nat} {q : vw_C} {fs : List Value} (hc : vwCl[ci]? = some q) (hq : q.1 = C) (he : ws[q0]? = some (b, .inr (ci, fs)))
    (hn : As.length = n) (hl : ls.size = nL) (hst : st0 = As.reverse ++ .ref b :: rest) (hW : (rest.map fun v => v.category).sum ≤ 8) (hdg : decode cc pc = .ok (.invokevirtual index, 3)) (hcs : cells + 0 ≤ R.cells ∧ slots + 0 ≤ R.slots)
    (kk : ∀ (r : Int64) (u : S) (H1 : Heap) (locs1 : List Loc), post r u → va_P D vwCl (zput ws isC (W1 u)) H1 → va_D A (zput ws isC (W1 u)) → va_S A H0 H1 locs1 → W p l e R s m args below meth c H1 locs1 cells slots Q (F0 m (pc + 3) ls (.long r :: rest))) : W p l e R s m args below meth c H locs cells slots Q (F0 m pc ls st0) := by
  have hFc := va_free (wc := W0) hD hS hA isC hC
  have hr := va_recv hK hP hc he
  rw [hq] at hr
  exact va_calll (va_runV F (hM H.size) cw ⟨zPc_blind, hr, z_pre hK hN (z_subP hP isC hC) (hD.sub isC hnd hC)⟩ rfl hn hl hst (lv_room hW) hdg hcs) hS (fun q _ h => hFc q h) hFc (fun r u t H1 locs1 ht _ hp hB _ hk1 hS1 => by
    obtain ⟨h1, h2⟩ := z_jn hP hD isC hC hk1 (by rw [← ht]; exact hB) (hf u)
    exact kk r u H1 locs1 hp h1 h2 hS1)
theorem z_callVv {post : S → Prop} (F : CallFix p m c cc nL s args Ts own) (hM : zV l D T y wsy rm W0 (.ref b :: As) W1 post) (cw : CallW R s args own C index y bytes maxL ret wsy rm 0 0 n) (hK : va_K D vwCl T s) (hN : zN s) (hP : va_P D vwCl ws H) (hD : va_D A ws) (hS : va_S A H0 H locs) (hA : ∀ q, H0.size ≤ q → A q)
    (isC : List Nat) (hC : isC.map (fun i => ws[i]?) = W0.map some) (hnd : va_nd isC = true) (hf : ∀ u, (W1 u).map Prod.fst = W0.map Prod.fst) (q0 : Nat) {ci : Nat} {q : vw_C} {fs : List Value} (hc : vwCl[ci]? = some q) (hq : q.1 = C) (he : ws[q0]? = some (b, .inr (ci, fs)))
    (hn : As.length = n) (hl : ls.size = nL) (hst : st0 = As.reverse ++ .ref b :: rest) (hW : (rest.map fun v => v.category).sum ≤ 8) (hdg : decode cc pc = .ok (.invokevirtual index, 3)) (hcs : cells + 0 ≤ R.cells ∧ slots + 0 ≤ R.slots)
    (kk : ∀ (u : S) (H1 : Heap) (locs1 : List Loc), post u → va_P D vwCl (zput ws isC (W1 u)) H1 → va_D A (zput ws isC (W1 u)) → va_S A H0 H1 locs1 → W p l e R s m args below meth c H1 locs1 cells slots Q (F0 m (pc + 3) ls rest)) : W p l e R s m args below meth c H locs cells slots Q (F0 m pc ls st0) := by
  have hFc := va_free (wc := W0) hD hS hA isC hC
  have hr := va_recv hK hP hc he
  rw [hq] at hr
  exact va_callv (va_runV F (hM H.size) cw ⟨zPc_blind, hr, z_pre hK hN (z_subP hP isC hC) (hD.sub isC hnd hC)⟩ rfl hn hl hst (lv_room hW) hdg hcs) hS (fun q _ h => hFc q h) hFc (fun u t H1 locs1 ht _ hp hB _ hk1 hS1 => by
    obtain ⟨h1, h2⟩ := z_jn hP hD isC hC hk1 (by rw [← ht]; exact hB) (hf u)
    exact kk u H1 locs1 hp h1 h2 hS1)
/-- static calls of the own class or a foreign one, without cells -/
theorem z_callSi {post : Int32 → Unit → Prop} (F : CallFix p m c cc nL s args Ts own) (hM : zI l D T y wsy rm [] As (fun _ => []) post) (cw : CallB R s args own index y bytes maxL ret wsy rm 0 0 n ∧ (Cond.static y).before args s = true) (hK : va_K D vwCl T s) (hN : zN s) (hP : va_P D vwCl ws H) (hD : va_D A ws) (hS : va_S A H0 H locs) (hA : ∀ q, H0.size ≤ q → A q)
    (hn : As.length = n) (hl : ls.size = nL) (hst : st0 = As.reverse ++ rest) (hW : (rest.map fun v => v.category).sum ≤ 8) (hdg : decode cc pc = .ok (.invokestatic index, 3)) (hcs : cells + 0 ≤ R.cells ∧ slots + 0 ≤ R.slots)
    (kk : ∀ (r : Int32) (H1 : Heap) (locs1 : List Loc), post r () → va_P D vwCl ws H1 → va_S A H0 H1 locs1 → W p l e R s m args below meth c H1 locs1 cells slots Q (F0 m (pc + 3) ls (.int r :: rest))) : W p l e R s m args below meth c H locs cells slots Q (F0 m pc ls st0) := by
  have hFc := va_free (wc := []) hD hS hA [] rfl
  exact va_calli (va_runS F (hM H.size) cw ⟨zPc_blind, z_pre (A := A) hK hN (fun k q h => by simp at h) ⟨fun i j p q h => by simp at h, fun k q h => by simp at h⟩⟩ rfl hn hl hst (lv_room hW) hdg hcs) hS (fun q _ h => hFc q h) hFc (fun r u t H1 locs1 ht _ hp hB _ hk1 hS1 => by
    obtain ⟨h1, h2⟩ := z_jn (W := []) (W1 := []) hP hD [] rfl hk1 (by rw [← ht]; exact hB) rfl
    exact kk r H1 locs1 hp h1 hS1)
theorem z_callSl {post : Int64 → Unit → Prop} (F : CallFix p m c cc nL s args Ts own) (hM : zL l D T y wsy rm [] As (fun _ => []) post) (cw : CallB R s args own index y bytes maxL ret wsy rm 0 0 n ∧ (Cond.static y).before args s = true) (hK : va_K D vwCl T s) (hN : zN s) (hP : va_P D vwCl ws H) (hD : va_D A ws) (hS : va_S A H0 H locs) (hA : ∀ q, H0.size ≤ q → A q)
    (hn : As.length = n) (hl : ls.size = nL) (hst : st0 = As.reverse ++ rest) (hW : (rest.map fun v => v.category).sum ≤ 8) (hdg : decode cc pc = .ok (.invokestatic index, 3)) (hcs : cells + 0 ≤ R.cells ∧ slots + 0 ≤ R.slots)
    (kk : ∀ (r : Int64) (H1 : Heap) (locs1 : List Loc), post r () → va_P D vwCl ws H1 → va_S A H0 H1 locs1 → W p l e R s m args below meth c H1 locs1 cells slots Q (F0 m (pc + 3) ls (.long r :: rest))) : W p l e R s m args below meth c H locs cells slots Q (F0 m pc ls st0) := by
  have hFc := va_free (wc := []) hD hS hA [] rfl
  exact va_calll (va_runS F (hM H.size) cw ⟨zPc_blind, z_pre (A := A) hK hN (fun k q h => by simp at h) ⟨fun i j p q h => by simp at h, fun k q h => by simp at h⟩⟩ rfl hn hl hst (lv_room hW) hdg hcs) hS (fun q _ h => hFc q h) hFc (fun r u t H1 locs1 ht _ hp hB _ hk1 hS1 => by
    obtain ⟨h1, h2⟩ := z_jn (W := []) (W1 := []) hP hD [] rfl hk1 (by rw [← ht]; exact hB) rfl
    exact kk r H1 locs1 hp h1 hS1)
/-- a static call with cells (an array handed on) -/
theorem z_callSWi {post : Int32 → S → Prop} (F : CallFix p m c cc nL s args Ts own) (hM : zI l D T y wsy rm W0 As W1 post) (cw : CallB R s args own index y bytes maxL ret wsy rm 0 0 n ∧ (Cond.static y).before args s = true) (hK : va_K D vwCl T s) (hN : zN s) (hP : va_P D vwCl ws H) (hD : va_D A ws) (hS : va_S A H0 H locs) (hA : ∀ q, H0.size ≤ q → A q)
    (isC : List Nat) (hC : isC.map (fun i => ws[i]?) = W0.map some) (hnd : va_nd isC = true) (hf : ∀ u, (W1 u).map Prod.fst = W0.map Prod.fst)
    (hn : As.length = n) (hl : ls.size = nL) (hst : st0 = As.reverse ++ rest) (hW : (rest.map fun v => v.category).sum ≤ 8) (hdg : decode cc pc = .ok (.invokestatic index, 3)) (hcs : cells + 0 ≤ R.cells ∧ slots + 0 ≤ R.slots)
    (kk : ∀ (r : Int32) (u : S) (H1 : Heap) (locs1 : List Loc), post r u → va_P D vwCl (zput ws isC (W1 u)) H1 → va_D A (zput ws isC (W1 u)) → va_S A H0 H1 locs1 → W p l e R s m args below meth c H1 locs1 cells slots Q (F0 m (pc + 3) ls (.int r :: rest))) : W p l e R s m args below meth c H locs cells slots Q (F0 m pc ls st0) := by
  have hFc := va_free (wc := W0) hD hS hA isC hC
  exact va_calli (va_runS F (hM H.size) cw ⟨zPc_blind, z_pre hK hN (z_subP hP isC hC) (hD.sub isC hnd hC)⟩ rfl hn hl hst (lv_room hW) hdg hcs) hS (fun q _ h => hFc q h) hFc (fun r u t H1 locs1 ht _ hp hB _ hk1 hS1 => by
    obtain ⟨h1, h2⟩ := z_jn hP hD isC hC hk1 (by rw [← ht]; exact hB) (hf u)
    exact kk r u H1 locs1 hp h1 h2 hS1)
/-- a static call of a nest mate, without cells -/
theorem z_callNi {post : Int32 → Unit → Prop} (F : CallFix p m c cc nL s args Ts own) (hM : zI l D T y wsy rm [] As (fun _ => []) post) (cw : va_CN R s args own index y host bytes maxL ret wsy rm 0 0 n ∧ (Cond.static y).before args s = true ∧ True) (hK : va_K D vwCl T s) (hN : zN s) (hP : va_P D vwCl ws H) (hD : va_D A ws) (hS : va_S A H0 H locs) (hA : ∀ q, H0.size ≤ q → A q)
    (hn : As.length = n) (hl : ls.size = nL) (hst : st0 = As.reverse ++ rest) (hW : (rest.map fun v => v.category).sum ≤ 8) (hdg : decode cc pc = .ok (.invokestatic index, 3)) (hcs : cells + 0 ≤ R.cells ∧ slots + 0 ≤ R.slots)
    (kk : ∀ (r : Int32) (H1 : Heap) (locs1 : List Loc), post r () → va_P D vwCl ws H1 → va_S A H0 H1 locs1 → W p l e R s m args below meth c H1 locs1 cells slots Q (F0 m (pc + 3) ls (.int r :: rest))) : W p l e R s m args below meth c H locs cells slots Q (F0 m pc ls st0) := by
  have hFc := va_free (wc := []) hD hS hA [] rfl
  exact va_calli (va_runSN F (hM H.size) cw ⟨zPc_blind, z_pre (A := A) hK hN (fun k q h => by simp at h) ⟨fun i j p q h => by simp at h, fun k q h => by simp at h⟩⟩ rfl hn hl hst (lv_room hW) hdg hcs) hS (fun q _ h => hFc q h) hFc (fun r u t H1 locs1 ht _ hp hB _ hk1 hS1 => by
    obtain ⟨h1, h2⟩ := z_jn (W := []) (W1 := []) hP hD [] rfl hk1 (by rw [← ht]; exact hB) rfl
    exact kk r H1 locs1 hp h1 hS1)
end ZR
section ZE
variable {p : Program} {l : Launch} {e : Env} {R : Room} {s : State} {m : MethodId} {args : Array Value} {below : List Frame} {meth : Method} {c : Code} {H : Heap} {locs : List Loc}
variable {cc : ByteArray} {pc : Nat} {ls : Array Slot} {D : va_G} {A : Nat → Prop} {ws : va_W} {S : Type} {W1 : S → va_W}
/-- the ends of a contract -/
theorem z_iret {post : Int32 → S → Prop} {v : Int32} (hx : p.tables.exec = Jvm.exec) (hb : c.code = cc) (hr : meth.sig.returnType = some .int) (hlocks : meth.locks = false) (hP : va_P D vwCl ws H) (hS : va_S A s.heap H locs) (u : S) (hw : W1 u = ws) (hp : post v u) (hdg : decode cc pc = .ok (.ireturn, 1)) : W p l e R s m args below meth c H locs 0 0 (MQ below (va_Qi post (fun u t => va_P D vwCl (W1 u) t.heap) A) args s 0 0 A) (F0 m pc ls [.int v]) :=
  W.iret hx hb hr (fun t ht _ => ⟨⟨v, u, rfl, hp, by show va_P D vwCl (W1 u) t.heap; rw [hw, ht]; exact hP⟩, hS.F ht⟩) hS.2.2 hdg hlocks
theorem z_zret {post : Int32 → S → Prop} {v : Int32} (hx : p.tables.exec = Jvm.exec) (hb : c.code = cc) (hr : meth.sig.returnType = some .boolean) (hlocks : meth.locks = false) (hv : narrow .boolean (.int v) = .int v) (hP : va_P D vwCl ws H) (hS : va_S A s.heap H locs) (u : S) (hw : W1 u = ws) (hp : post v u) (hdg : decode cc pc = .ok (.ireturn, 1)) : W p l e R s m args below meth c H locs 0 0 (MQ below (va_Qi post (fun u t => va_P D vwCl (W1 u) t.heap) A) args s 0 0 A) (F0 m pc ls [.int v]) :=
  W.zret hx hb hr hv (fun t ht _ => ⟨⟨v, u, rfl, hp, by show va_P D vwCl (W1 u) t.heap; rw [hw, ht]; exact hP⟩, hS.F ht⟩) hS.2.2 hdg hlocks
theorem z_lret {post : Int64 → S → Prop} {v : Int64} (hx : p.tables.exec = Jvm.exec) (hb : c.code = cc) (hr : meth.sig.returnType = some .long) (hlocks : meth.locks = false) (hP : va_P D vwCl ws H) (hS : va_S A s.heap H locs) (u : S) (hw : W1 u = ws) (hp : post v u) (hdg : decode cc pc = .ok (.lreturn, 1)) : W p l e R s m args below meth c H locs 0 0 (MQ below (va_Ql post (fun u t => va_P D vwCl (W1 u) t.heap) A) args s 0 0 A) (F0 m pc ls [.long v]) :=
  W.lret hx hb hr (fun t ht _ => ⟨⟨v, u, rfl, hp, by show va_P D vwCl (W1 u) t.heap; rw [hw, ht]; exact hP⟩, hS.F ht⟩) hS.2.2 hdg hlocks
theorem z_vret {post : S → Prop} (hx : p.tables.exec = Jvm.exec) (hb : c.code = cc) (hr : meth.sig.returnType = none) (hlocks : meth.locks = false) (hP : va_P D vwCl ws H) (hS : va_S A s.heap H locs) (u : S) (hw : W1 u = ws) (hp : post u) (hdg : decode cc pc = .ok (.return_, 1)) : W p l e R s m args below meth c H locs 0 0 (MQ below (va_Qv post (fun u t => va_P D vwCl (W1 u) t.heap) A) args s 0 0 A) (F0 m pc ls []) :=
  W.vret hx hb hr (fun t ht _ => ⟨⟨u, rfl, hp, by show va_P D vwCl (W1 u) t.heap; rw [hw, ht]; exact hP⟩, hS.F ht⟩) hS.2.2 hdg hlocks
end ZE
/-! pure words -/
abbrev ushr (x k : Int32) : Int32 := (x.toUInt32 >>> (k.toUInt32 &&& Int32.toUInt32 31)).toInt32
def zfill (f g : Nat → Int32) (i : Nat) : Nat → Int32 := fun k => if k < i then f k else g k
theorem zfill_0 (f g : Nat → Int32) : zfill f g 0 = g := by funext k; simp [zfill]
theorem zfill_succ (f g : Nat → Int32) (i : Nat) : upd (zfill f g i) i (f i) = zfill f g (i + 1) := by
  funext k
  unfold upd zfill
  by_cases h : k = i
  · subst h; simp
  · by_cases h2 : k < i
    · simp [h, h2, Nat.lt_succ_of_lt h2]
    · have : ¬ k < i + 1 := by omega
      simp [h, h2, this]
theorem zfill_at {f g : Nat → Int32} {i k : Nat} (h : i ≤ k) : zfill f g i k = g k := by simp [zfill, Nat.not_lt.mpr h]
theorem zfill_in {f g : Nat → Int32} {i k : Nat} (h : k < i) : zfill f g i k = f k := by simp [zfill, h]
end
section
/-! more of the prover's own kit: named tops, compares over Nat forms, arraycopy from 0, the worlds' array classes -/
section ZT
variable {p : Program} {l : Launch} {e : Env} {R : Room} {s : State} {m : MethodId} {args : Array Value} {below : List Frame} {meth : Method} {c : Code} {H : Heap} {locs : List Loc} {cells slots : Nat} {Q : State → Prop}
variable {cc : ByteArray} {pc : Nat} {ls : Array Slot} {rest : List Value} {D : va_G} {cl : List vw_C} {A : Nat → Prop} {a : Nat} {tys : List (ClassId × FieldType)} {ws : va_W} {H0 : Heap}
theorem z_topi {x y : Int32} (h : x = y) (k : W p l e R s m args below meth c H locs cells slots Q (F0 m pc ls (.int y :: rest))) : W p l e R s m args below meth c H locs cells slots Q (F0 m pc ls (.int x :: rest)) := by rw [h]; exact k
theorem z_topl {x y : Int64} (h : x = y) (k : W p l e R s m args below meth c H locs cells slots Q (F0 m pc ls (.long y :: rest))) : W p l e R s m args below meth c H locs cells slots Q (F0 m pc ls (.long x :: rest)) := by rw [h]; exact k
theorem z_cpy (f g : Nat → Int32) (n : Nat) : va_cpy f g 0 0 n = zfill f g n := by
  funext k
  simp [va_cpy, zfill]
theorem z_copy (hexec : p.tables.exec = Jvm.exec) (hb : c.code = cc) (hml : c.maxLocals = ls.size) {own : String} {index : Nat} (hown : s.vm.findClass own = some m.cls) (hlink : (Cond.methodLink own index arraycopyName).before args s = true) (hnat : (Cond.native arraycopyName).before args s = true) (hstat : (Cond.static arraycopyName).before args s = true) (hini : (Cond.initialized "java/lang/System").before args s = true)
    (hK : va_K D cl tys s) (hP : va_P D cl ws H) (hD : va_D A ws) (hS : va_S A H0 H locs) (q0 q1 t0 t1 : Nat) {a0 : Nat} {c0 c1 : ClassId} {n0 n1 : Nat} {f g : Nat → Int32} (ha0 : ws[q0]? = some (a0, .inl (c0, n0, .inl f))) (ha1 : ws[q1]? = some (a, .inl (c1, n1, .inl g))) (ht0 : tys[t0]? = some (c0, .int)) (ht1 : tys[t1]? = some (c1, .int))
    (N : Nat) {n : Int32} (hn : n = nI N) (hle : N ≤ n0 ∧ N ≤ n1 ∧ N < 2 ^ 31) (hframes : 1 ≤ R.frames) (hlocals : (rest.map fun v => v.category).sum + (nativeFrameWords "java/lang/System" "arraycopy" 5 + 11) ≤ R.locals) (hdg : decode cc pc = .ok (.invokestatic index, 3))
    (kk : ∀ (H1 : Heap) (locs1 : List Loc), va_P D cl (ws.set q1 (a, .inl (c1, n1, .inl (zfill f g N)))) H1 → va_D A (ws.set q1 (a, .inl (c1, n1, .inl (zfill f g N)))) → va_S A H0 H1 locs1 → W p l e R s m args below meth c H1 locs1 cells slots Q (F0 m (pc + 3) ls rest)) : W p l e R s m args below meth c H locs cells slots Q (F0 m pc ls (.int n :: .int 0 :: .ref a :: .int 0 :: .ref a0 :: rest)) := by
  subst hn
  have hN : (nI N).toNatClampNeg = N := nI_clamp hle.2.2
  have h0 : (0 : Int32).toNatClampNeg = 0 := rfl
  refine va_copyi hexec hb hml hown hlink hnat hstat hini hK hP hD hS q0 q1 t0 t1 ha0 ha1 ht0 ht1 rfl (by decide) (by decide) (nI_pos hle.2.2) (by rw [hN, h0]; omega) (by rw [hN, h0]; omega) (fun i _ => rfl) hframes hlocals hdg (fun H1 locs1 hP hD hS => ?_)
  rw [hN, h0, z_cpy] at hP hD
  exact kk H1 locs1 hP hD hS
end ZT
theorem zc_le_t {a b : Nat} (ha : a < 2 ^ 31) (hb : b < 2 ^ 31) (h : nI a ≤ nI b) : a ≤ b := (nI_leI ha hb).mp h
theorem zc_le_f {a b : Nat} (ha : a < 2 ^ 31) (hb : b < 2 ^ 31) (h : ¬ nI a ≤ nI b) : b < a := Nat.lt_of_not_le fun q => h ((nI_leI ha hb).mpr q)
theorem zc_lt_t {a b : Nat} (ha : a < 2 ^ 31) (hb : b < 2 ^ 31) (h : nI a < nI b) : a < b := (nI_ltI ha hb).mp h
theorem zc_lt_f {a b : Nat} (ha : a < 2 ^ 31) (hb : b < 2 ^ 31) (h : ¬ nI a < nI b) : b ≤ a := Nat.le_of_not_lt fun q => h ((nI_ltI ha hb).mpr q)
theorem zc_eq_t {a b : Nat} (ha : a < 2 ^ 31) (hb : b < 2 ^ 31) (h : nI a = nI b) : a = b := (nI_eq ha hb).mp h
theorem zc_eq_f {a b : Nat} (ha : a < 2 ^ 31) (hb : b < 2 ^ 31) (h : ¬ nI a = nI b) : a ≠ b := fun q => h ((nI_eq ha hb).mpr q)
abbrev wT (cI cZ cJ cD : ClassId) : zT := [(cI, .int), (cZ, .boolean), (cJ, .long), (cD, .double)]
def zfrom (f g : Nat → Int32) (i : Nat) : Nat → Int32 := fun j => if 1 ≤ j ∧ j < i + 1 then f j else g j
theorem zfrom_0 (f g : Nat → Int32) : zfrom f g 0 = g := by
  funext j
  have : ¬ (1 ≤ j ∧ j < 0 + 1) := by omega
  simp only [zfrom, if_neg this]
theorem zfrom_succ (f g : Nat → Int32) (i : Nat) : upd (zfrom f g i) (i + 1) (f (i + 1)) = zfrom f g (i + 1) := by
  funext j
  unfold upd zfrom
  by_cases h : j = i + 1
  · subst h
    rw [if_pos rfl, if_pos ⟨by omega, by omega⟩]
  · rw [if_neg h]
    by_cases h2 : 1 ≤ j ∧ j < i + 1
    · rw [if_pos h2, if_pos ⟨h2.1, by omega⟩]
    · rw [if_neg h2, if_neg (by omega)]
theorem zfrom_at {f g : Nat → Int32} {i j : Nat} (h : i < j) : zfrom f g i j = g j := by
  have : ¬ (1 ≤ j ∧ j < i + 1) := by omega
  simp only [zfrom, if_neg this]
theorem zfrom_in {f g : Nat → Int32} {i j : Nat} (h1 : 1 ≤ j) (h2 : j ≤ i) : zfrom f g i j = f j := by
  have : (1 ≤ j ∧ j < i + 1) := by omega
  simp only [zfrom, if_pos this]
end
section
/-! the class's methods as pure functions over Int32 -/
def pCell (x y : Int32) : Int32 := (1 : Int32) <<< ((x + 6 * y) &&& 31)
def pNext (z : Int32) : Int32 := (((z <<< ((1 : Int32) &&& 31)) ||| ushr z 1) ||| (z <<< ((6 : Int32) &&& 31))) ||| ushr z 6
def bc1 (x : Int32) : Int32 := x - (ushr x 1 &&& 1431655765)
def bc2 (x : Int32) : Int32 := (x &&& 858993459) + (ushr x 2 &&& 858993459)
def bc3 (x : Int32) : Int32 := (x + ushr x 4) &&& 252645135
def bc4 (x : Int32) : Int32 := x + ushr x 8
def bc5 (x : Int32) : Int32 := x + ushr x 16
def pBC (x : Int32) : Int32 := bc5 (bc4 (bc3 (bc2 (bc1 x)))) &&& 63
def oB (z : Int32) : Int32 := (z <<< ((1 : Int32) &&& 31)) ||| ushr z 1
def bB (z : Int32) : Int32 := (z <<< ((1 : Int32) &&& 31)) &&& ushr z 1
def oA (z : Int32) : Int32 := (z <<< ((6 : Int32) &&& 31)) ||| ushr z 6
def bA (z : Int32) : Int32 := (z <<< ((6 : Int32) &&& 31)) &&& ushr z 6
def wN (z : Int32) : Nat → Int32
  | 1 => oB z ||| oA z
  | 2 => (bB z ||| bA z) ||| (oB z &&& oA z)
  | 3 => (bB z &&& oA z) ||| (oB z &&& bA z)
  | 4 => bB z &&& bA z
  | _ => 0
def pFirst (A : Nat → Int32) (c : Int32) : Int32 := if A 1 &&& c = 0 then (if A 2 &&& c = 0 then (if A 3 &&& c = 0 then (if A 4 &&& c = 0 then 0 else 4) else 3) else 2) else 1
theorem pFirst_at {A : Nat → Int32} {c : Int32} {k : Nat} (h1 : 1 ≤ k) (hk : k < 5) (hz : ∀ j, 1 ≤ j → j < k → A j &&& c = 0) (hn : ¬ A k &&& c = 0) : nI k = pFirst A c := by
  rcases (show k = 1 ∨ k = 2 ∨ k = 3 ∨ k = 4 by omega) with rfl | rfl | rfl | rfl
  · simp only [pFirst, if_neg hn]; rfl
  · simp only [pFirst, if_neg hn, hz 1 (by omega) (by omega)]; rfl
  · simp only [pFirst, if_neg hn, hz 1 (by omega) (by omega), hz 2 (by omega) (by omega)]; rfl
  · simp only [pFirst, if_neg hn, hz 1 (by omega) (by omega), hz 2 (by omega) (by omega), hz 3 (by omega) (by omega)]; rfl
theorem pFirst_no {A : Nat → Int32} {c : Int32} (hz : ∀ j, 1 ≤ j → j < 5 → A j &&& c = 0) : 0 = pFirst A c := by
  simp only [pFirst, hz 1 (by omega) (by omega), hz 2 (by omega) (by omega), hz 3 (by omega) (by omega), hz 4 (by omega) (by omega), if_true]
def pCW (S : Nat → Int32) (col : Int32) : Int32 := if col = 0 then S 0 else if col = 1 then S 1 else if col = 2 then S 2 else if col = 3 then S 3 else if col = 4 then S 4 else 0
theorem pCW_at (S : Nat → Int32) {j : Nat} (h : j < 5) : S j = pCW S (nI j) := by
  rcases (show j = 0 ∨ j = 1 ∨ j = 2 ∨ j = 3 ∨ j = 4 by omega) with rfl | rfl | rfl | rfl | rfl <;> rfl
theorem z_five {col : Int32} (h1 : ¬ col < 0) (h2 : ¬ 5 ≤ col) : ∃ j : Nat, j < 5 ∧ col = nI j := by
  rcases pk_ix col (n := 5) (by decide) with h | h | h
  · exact absurd h h1
  · exact absurd h h2
  · exact h
theorem z_lt5 {j : Nat} (h : j < 5) : ¬ nI j < 0 ∧ ¬ (5 : Int32) ≤ nI j := ⟨nI_pos (by omega), nI_ge (b := 5) (a := j) h (by decide)⟩
theorem pCW_out (S : Nat → Int32) {col : Int32} (h : col < 0 ∨ 5 ≤ col) : 0 = pCW S col := by
  have hh : ∀ j : Nat, j < 5 → ¬ col = nI j := by
    intro j hj e
    subst e
    obtain ⟨a, b⟩ := z_lt5 hj
    rcases h with h | h
    · exact a h
    · exact b h
  have e0 : ¬ col = 0 := hh 0 (by omega)
  have e1 : ¬ col = 1 := hh 1 (by omega)
  have e2 : ¬ col = 2 := hh 2 (by omega)
  have e3 : ¬ col = 3 := hh 3 (by omega)
  have e4 : ¬ col = 4 := hh 4 (by omega)
  unfold pCW
  rw [if_neg e0, if_neg e1, if_neg e2, if_neg e3, if_neg e4]
def pDyeF (S : Nat → Int32) (z col : Int32) : Nat → Int32 := fun j => if nI j = col then S j ||| z else S j &&& (z ^^^ (-1))
def pDye (S : Nat → Int32) (z col : Int32) : Nat → Int32 := zfill (pDyeF S z col) S 5
def pRow (y : Nat) (b : Int32) : Nat → Int32
  | 0 => b
  | x + 1 => pRow y b x ||| pCell (nI x) (nI y)
def pBrd (w : Nat) : Nat → Int32
  | 0 => 0
  | y + 1 => pRow y (pBrd w y) w
def pClrF (b : Int32) : Nat → Int32 := fun j => if nI j = 0 then b else 0
def pTakeF (S G : Nat → Int32) (ch : Int32) : Nat → Int32 := fun j => (S j &&& (ch ^^^ (-1))) ||| (G j &&& ch)
def pTake (S G : Nat → Int32) (ch : Int32) : Nat → Int32 := zfill (pTakeF S G ch) S 5
def pSo (S : Nat → Int32) (q : Nat) : Nat → Int32
  | 0 => 0
  | i + 1 => pSo S q i ||| wN (S (i + 1)) q
def pSe (S : Nat → Int32) (q : Nat) : Nat → Int32
  | 0 => 0
  | i + 1 => pSe S q i ||| (pSo S q i &&& wN (S (i + 1)) q)
def pCrF (S : Nat → Int32) (q : Nat) : Nat → Int32 := fun j => wN (S j) q
def pAddF (S : Nat → Int32) (bd sb : Int32) (q : Nat) (G : Nat → Int32) : Nat → Int32 := fun j => G j ||| (((wN (S j) q &&& (pSe S q 4 ^^^ (-1))) &&& bd) &&& (sb ^^^ (-1)))
def pGs (S : Nat → Int32) (bd sb : Int32) (q0 : Nat) (G : Nat → Int32) : Nat → Nat → Int32
  | 0 => G
  | i + 1 => zfrom (pAddF S bd sb (q0 + i) (pGs S bd sb q0 G i)) (pGs S bd sb q0 G i) 4
def pCs (S : Nat → Int32) (q0 : Nat) (C : Nat → Int32) : Nat → Nat → Int32
  | 0 => C
  | i + 1 => zfrom (pCrF S (q0 + i)) (pCs S q0 C i) 4
def pCh (S G : Nat → Int32) : Nat → Int32
  | 0 => 0
  | i + 1 => pCh S G i ||| (G (i + 1) &&& (S (i + 1) ^^^ (-1)))
def pGf (S : Nat → Int32) (bd sb : Int32) (q0 : Nat) (G : Nat → Int32) : Nat → Int32 := pGs S bd sb q0 (zfill (fun _ => 0) G 5) (5 - q0)
def pChg (S : Nat → Int32) (bd sb : Int32) (q0 : Nat) (G : Nat → Int32) : Int32 := pCh S (pGf S bd sb q0 G) 4
def pFore (S G : Nat → Int32) (c : Int32) : Int32 := if pFirst G c = 0 then pFirst S c else pFirst G c
def pRF (cells : Int32) : Nat → Int32 → Int32
  | 0, r => r
  | k + 1, r => if r ||| (pNext r &&& cells) = r then r else pRF cells k (r ||| (pNext r &&& cells))
def pSoR (S : Nat → Int32) (c : Int32) : Int32 := if pFirst S c = 0 then 0 else pBC (pRF (pCW S (pFirst S c)) 25 c)
def pLow (left : Int32) : Int32 := pRF left 25 (left &&& (-left))
def pCut (left : Int32) : Int32 := left &&& (pLow left ^^^ (-1))
def pCR : Nat → Int32 → Nat → Nat
  | 0, _, n => n
  | k + 1, left, n => if left = 0 then n else pCR k (pCut left) (n + 1)
def pGR : Nat → Int32 → Int32 → Int32
  | 0, _, g => g
  | k + 1, left, g => if left = 0 then g else pGR k (pCut left) (if g < pBC (pLow left) then pBC (pLow left) else g)
def pPairs (z : Int32) : Int32 := pBC (z &&& (z <<< ((1 : Int32) &&& 31))) + pBC (z &&& (z <<< ((6 : Int32) &&& 31)))
def pBo (S : Nat → Int32) (b : Int32) : Nat → Int32
  | 0 => pPairs (b &&& (S 0 ^^^ (-1)))
  | i + 1 => pBo S b i - pPairs (S (i + 1))
/-- one wave over the sets; many -/
def pG0 (S : Nat → Int32) (bd sb : Int32) (q0 : Nat) : Nat → Int32 := pGf S bd sb q0 (fun _ => 0)
def pC0 (S : Nat → Int32) (bd sb : Int32) (q0 : Nat) : Int32 := pCh S (pG0 S bd sb q0) 4
def pIt (bd sb : Int32) (q0 : Nat) (S : Nat → Int32) : Nat → Nat → Int32
  | 0 => S
  | k + 1 => if pC0 (pIt bd sb q0 S k) bd sb q0 = 0 then pIt bd sb q0 S k else pTake (pIt bd sb q0 S k) (pG0 (pIt bd sb q0 S k) bd sb q0) (pC0 (pIt bd sb q0 S k) bd sb q0)
def pLast (bd sb : Int32) (q0 : Nat) (S : Nat → Int32) : Nat → Int32
  | 0 => 0
  | k + 1 => pC0 (pIt bd sb q0 S k) bd sb q0
theorem pGs_in (S : Nat → Int32) (bd sb : Int32) (q0 : Nat) {G G2 : Nat → Int32} (h : ∀ j, j < 5 → G j = G2 j) : ∀ i j, j < 5 → pGs S bd sb q0 G i j = pGs S bd sb q0 G2 i j
  | 0, j, hj => h j hj
  | i + 1, j, hj => by
    have ih := pGs_in S bd sb q0 h i j hj
    show zfrom _ _ 4 j = zfrom _ _ 4 j
    unfold zfrom pAddF
    rw [ih]
theorem pGf_in (S : Nat → Int32) (bd sb : Int32) (q0 : Nat) (G : Nat → Int32) {j : Nat} (hj : j < 5) : pGf S bd sb q0 G j = pG0 S bd sb q0 j :=
  pGs_in S bd sb q0 (fun j hj => by rw [zfill_in hj, zfill_in hj]) _ j hj
theorem pCh_in (S : Nat → Int32) {G G2 : Nat → Int32} : ∀ i, (∀ j, j < i + 1 → G j = G2 j) → pCh S G i = pCh S G2 i
  | 0, _ => rfl
  | i + 1, h => by
    show pCh S G i ||| _ = pCh S G2 i ||| _
    rw [pCh_in S i (fun j hj => h j (by omega)), h (i + 1) (by omega)]
theorem pChg_0 (S : Nat → Int32) (bd sb : Int32) (q0 : Nat) (G : Nat → Int32) : pChg S bd sb q0 G = pC0 S bd sb q0 := pCh_in S 4 (fun _ hj => pGf_in S bd sb q0 G hj)
theorem pTake_in (S : Nat → Int32) (ch : Int32) {G G2 : Nat → Int32} (h : ∀ j, j < 5 → G j = G2 j) : pTake S G ch = pTake S G2 ch := by
  funext j
  unfold pTake zfill pTakeF
  by_cases hj : j < 5
  · rw [if_pos hj, if_pos hj, h j hj]
  · rw [if_neg hj, if_neg hj]
theorem pIt_stay {bd sb : Int32} {q0 : Nat} {S : Nat → Int32} {k : Nat} (h : pC0 (pIt bd sb q0 S k) bd sb q0 = 0) : ∀ n, pIt bd sb q0 S (k + n) = pIt bd sb q0 S k
  | 0 => rfl
  | n + 1 => by
    have ih := pIt_stay h n
    show pIt bd sb q0 S (k + n + 1) = _
    rw [pIt, ih, if_pos h]
theorem pIt_end {bd sb : Int32} {q0 : Nat} {S : Nat → Int32} {k N : Nat} (h : pC0 (pIt bd sb q0 S k) bd sb q0 = 0) (hk : k < N) : pIt bd sb q0 S N = pIt bd sb q0 S k ∧ 0 = pLast bd sb q0 S N := by
  obtain ⟨n, rfl⟩ : ∃ n, N = k + n + 1 := ⟨N - k - 1, by omega⟩
  refine ⟨pIt_stay h (n + 1), ?_⟩
  show 0 = pC0 (pIt bd sb q0 S (k + n)) bd sb q0
  rw [pIt_stay h n, h]
end
section
abbrev rmX1_cell : Room := { frames := 0, cells := 0, slots := 0, locals := 0 }
set_option maxHeartbeats 4000000 in
set_option maxRecDepth 100000 in
theorem m_X1_cell (l : Launch) (dC : Nat → ClassId) (dI : Nat → Nat → Nat) (cI cZ cJ cD : ClassId) (x0 : Int32) (y0 : Int32)  : zI l (dC, dI) (wT cI cZ cJ cD) yX1_cell wsX1_cell rmX1_cell [] [.int x0, .int y0] (fun (_ : Unit) => []) (fun (r : Int32) (_ : Unit) => r = pCell x0 y0) := by
  intro sz
  refine Met.ofW (cc := cX1_cell) (maxL := 2) (ret := (some .int)) (by decide) rfl ?_
  intro p e s m args below meth c s₁ B hml hv
  obtain ⟨ha, hsz, hP, hK, hD0, hN⟩ := hv
  have hx := B.exec
  have hb := B.bytes
  have hr := B.returns
  have hts := atoms_spec (ws := wsX1_cell) B.pre
  have hown : s.vm.findClass RX1 = some m.cls := findClass_of_methodNamed B.named
  have hlocks := B.notSynchronized
  subst hsz
  have hD := hD0.self (sz := s.heap.size)
  generalize hAe : va_A [] s.heap.size = A at hD ⊢
  have hA : ∀ q : Nat, s.heap.size ≤ q → A q := fun q h => by rw [← hAe]; exact Or.inr h
  have hS : va_S A s.heap s.heap [] := va_S.rf
  generalize hQ : MQ below (va_Qi (fun (r : Int32) (_ : Unit) => r = pCell x0 y0) (fun u t => va_P (dC, dI) vwCl ((fun (_ : Unit) => []) u) t.heap) A) args s 0 0 A = Q
  have F9 : CallFix p m c cX1_cell 2 s args wsX1_cell RX1 := ⟨hx, hb, hml, hown, hts⟩
  refine z_entry (R := rmX1_cell) ha (Nat.le_of_ble_eq_true rfl) (fun ls hl => ?_)
  have hl : lv_has ls 2 [(0, .int x0), (1, .int y0)] := hl
  refine lv_iconst (v := 1) hx hb dX1_cell_0 (by decide) ?_
  refine lv_iload_n hx hb dX1_cell_1 rfl (lv_at hl 0 rfl) ?_
  refine lv_bipush (v := 6) hx hb dX1_cell_2 (by decide +kernel) ?_
  refine lv_iload_n hx hb dX1_cell_4 rfl (lv_at hl 1 rfl) ?_
  refine lv_imul hx hb dX1_cell_5 ?_
  refine lv_iadd hx hb dX1_cell_6 ?_
  refine lv_ishl hx hb dX1_cell_7 ?_
  rw [← hQ]
  exact z_iret (W1 := (fun (_ : Unit) => [])) hx hb hr hlocks hP hS () (rfl) (rfl) dX1_cell_8
abbrev rmX1_nextTo : Room := { frames := 0, cells := 0, slots := 0, locals := 0 }
set_option maxHeartbeats 4000000 in
set_option maxRecDepth 100000 in
theorem m_X1_nextTo (l : Launch) (dC : Nat → ClassId) (dI : Nat → Nat → Nat) (cI cZ cJ cD : ClassId) (z0 : Int32)  : zI l (dC, dI) (wT cI cZ cJ cD) yX1_nextTo wsX1_nextTo rmX1_nextTo [] [.int z0] (fun (_ : Unit) => []) (fun (r : Int32) (_ : Unit) => r = pNext z0) := by
  intro sz
  refine Met.ofW (cc := cX1_nextTo) (maxL := 1) (ret := (some .int)) (by decide) rfl ?_
  intro p e s m args below meth c s₁ B hml hv
  obtain ⟨ha, hsz, hP, hK, hD0, hN⟩ := hv
  have hx := B.exec
  have hb := B.bytes
  have hr := B.returns
  have hts := atoms_spec (ws := wsX1_nextTo) B.pre
  have hown : s.vm.findClass RX1 = some m.cls := findClass_of_methodNamed B.named
  have hlocks := B.notSynchronized
  subst hsz
  have hD := hD0.self (sz := s.heap.size)
  generalize hAe : va_A [] s.heap.size = A at hD ⊢
  have hA : ∀ q : Nat, s.heap.size ≤ q → A q := fun q h => by rw [← hAe]; exact Or.inr h
  have hS : va_S A s.heap s.heap [] := va_S.rf
  generalize hQ : MQ below (va_Qi (fun (r : Int32) (_ : Unit) => r = pNext z0) (fun u t => va_P (dC, dI) vwCl ((fun (_ : Unit) => []) u) t.heap) A) args s 0 0 A = Q
  have F9 : CallFix p m c cX1_nextTo 1 s args wsX1_nextTo RX1 := ⟨hx, hb, hml, hown, hts⟩
  refine z_entry (R := rmX1_nextTo) ha (Nat.le_of_ble_eq_true rfl) (fun ls hl => ?_)
  have hl : lv_has ls 1 [(0, .int z0)] := hl
  refine lv_iload_n hx hb dX1_nextTo_0 rfl (lv_at hl 0 rfl) ?_
  refine lv_iconst (v := 1) hx hb dX1_nextTo_1 (by decide) ?_
  refine lv_ishl hx hb dX1_nextTo_2 ?_
  refine lv_iload_n hx hb dX1_nextTo_3 rfl (lv_at hl 0 rfl) ?_
  refine lv_iconst (v := 1) hx hb dX1_nextTo_4 (by decide) ?_
  refine lv_iushr (v := ushr z0 1) hx hb dX1_nextTo_5 rfl ?_
  refine lv_ior hx hb dX1_nextTo_6 ?_
  refine lv_iload_n hx hb dX1_nextTo_7 rfl (lv_at hl 0 rfl) ?_
  refine lv_bipush (v := 6) hx hb dX1_nextTo_8 (by decide +kernel) ?_
  refine lv_ishl hx hb dX1_nextTo_10 ?_
  refine lv_ior hx hb dX1_nextTo_11 ?_
  refine lv_iload_n hx hb dX1_nextTo_12 rfl (lv_at hl 0 rfl) ?_
  refine lv_bipush (v := 6) hx hb dX1_nextTo_13 (by decide +kernel) ?_
  refine lv_iushr (v := ushr z0 6) hx hb dX1_nextTo_15 rfl ?_
  refine lv_ior hx hb dX1_nextTo_16 ?_
  rw [← hQ]
  exact z_iret (W1 := (fun (_ : Unit) => [])) hx hb hr hlocks hP hS () (rfl) (rfl) dX1_nextTo_17
abbrev rmJ6_bitCount_0f7a4 : Room := { frames := 0, cells := 0, slots := 0, locals := 0 }
set_option maxHeartbeats 4000000 in
set_option maxRecDepth 100000 in
theorem m_J6_bitCount_0f7a4 (l : Launch) (dC : Nat → ClassId) (dI : Nat → Nat → Nat) (cI cZ cJ cD : ClassId) (z0 : Int32)  : zI l (dC, dI) (wT cI cZ cJ cD) yJ6_bitCount_0f7a4 wsJ6_bitCount_0f7a4 rmJ6_bitCount_0f7a4 [] [.int z0] (fun (_ : Unit) => []) (fun (r : Int32) (_ : Unit) => r = pBC z0) := by
  intro sz
  refine Met.ofW (cc := cJ6_bitCount_0f7a4) (maxL := 1) (ret := (some .int)) (by decide) rfl ?_
  intro p e s m args below meth c s₁ B hml hv
  obtain ⟨ha, hsz, hP, hK, hD0, hN⟩ := hv
  have hx := B.exec
  have hb := B.bytes
  have hr := B.returns
  have hts := atoms_spec (ws := wsJ6_bitCount_0f7a4) B.pre
  have hown : s.vm.findClass RJ6 = some m.cls := findClass_of_methodNamed B.named
  have hlocks := B.notSynchronized
  subst hsz
  have hD := hD0.self (sz := s.heap.size)
  generalize hAe : va_A [] s.heap.size = A at hD ⊢
  have hA : ∀ q : Nat, s.heap.size ≤ q → A q := fun q h => by rw [← hAe]; exact Or.inr h
  have hS : va_S A s.heap s.heap [] := va_S.rf
  generalize hQ : MQ below (va_Qi (fun (r : Int32) (_ : Unit) => r = pBC z0) (fun u t => va_P (dC, dI) vwCl ((fun (_ : Unit) => []) u) t.heap) A) args s 0 0 A = Q
  have F9 : CallFix p m c cJ6_bitCount_0f7a4 1 s args wsJ6_bitCount_0f7a4 RJ6 := ⟨hx, hb, hml, hown, hts⟩
  refine z_entry (R := rmJ6_bitCount_0f7a4) ha (Nat.le_of_ble_eq_true rfl) (fun ls hl => ?_)
  have hl : lv_has ls 1 [(0, .int z0)] := hl
  refine lv_iload_n hx hb dJ6_bitCount_0f7a4_0 rfl (lv_at hl 0 rfl) ?_
  refine lv_iload_n hx hb dJ6_bitCount_0f7a4_1 rfl (lv_at hl 0 rfl) ?_
  refine lv_iconst (v := 1) hx hb dJ6_bitCount_0f7a4_2 (by decide) ?_
  refine lv_iushr (v := ushr z0 1) hx hb dJ6_bitCount_0f7a4_3 rfl ?_
  refine lv_ldcw hx hb hown (hts (.constant RJ6 265 (1431655765)) (List.mem_of_getElem? (i := 1) rfl)) dJ6_bitCount_0f7a4_4 ?_
  refine lv_iand hx hb dJ6_bitCount_0f7a4_7 ?_
  refine lv_isub hx hb dJ6_bitCount_0f7a4_8 ?_
  refine z_topi (y := bc1 z0) (rfl) ?_
  refine lv_istore_n (lv' := [(0, .int (bc1 z0))]) hx hb dJ6_bitCount_0f7a4_9 rfl hl (by decide) rfl (fun ls hl => ?_)
  refine lv_iload_n hx hb dJ6_bitCount_0f7a4_10 rfl (lv_at hl 0 rfl) ?_
  refine lv_ldcw hx hb hown (hts (.constant RJ6 266 (858993459)) (List.mem_of_getElem? (i := 2) rfl)) dJ6_bitCount_0f7a4_11 ?_
  refine lv_iand hx hb dJ6_bitCount_0f7a4_14 ?_
  refine lv_iload_n hx hb dJ6_bitCount_0f7a4_15 rfl (lv_at hl 0 rfl) ?_
  refine lv_iconst (v := 2) hx hb dJ6_bitCount_0f7a4_16 (by decide) ?_
  refine lv_iushr (v := ushr (bc1 z0) 2) hx hb dJ6_bitCount_0f7a4_17 rfl ?_
  refine lv_ldcw hx hb hown (hts (.constant RJ6 266 (858993459)) (List.mem_of_getElem? (i := 2) rfl)) dJ6_bitCount_0f7a4_18 ?_
  refine lv_iand hx hb dJ6_bitCount_0f7a4_21 ?_
  refine lv_iadd hx hb dJ6_bitCount_0f7a4_22 ?_
  refine z_topi (y := bc2 (bc1 z0)) (rfl) ?_
  refine lv_istore_n (lv' := [(0, .int (bc2 (bc1 z0)))]) hx hb dJ6_bitCount_0f7a4_23 rfl hl (by decide) rfl (fun ls hl => ?_)
  refine lv_iload_n hx hb dJ6_bitCount_0f7a4_24 rfl (lv_at hl 0 rfl) ?_
  refine lv_iload_n hx hb dJ6_bitCount_0f7a4_25 rfl (lv_at hl 0 rfl) ?_
  refine lv_iconst (v := 4) hx hb dJ6_bitCount_0f7a4_26 (by decide) ?_
  refine lv_iushr (v := ushr (bc2 (bc1 z0)) 4) hx hb dJ6_bitCount_0f7a4_27 rfl ?_
  refine lv_iadd hx hb dJ6_bitCount_0f7a4_28 ?_
  refine lv_ldcw hx hb hown (hts (.constant RJ6 267 (252645135)) (List.mem_of_getElem? (i := 3) rfl)) dJ6_bitCount_0f7a4_29 ?_
  refine lv_iand hx hb dJ6_bitCount_0f7a4_32 ?_
  refine z_topi (y := bc3 (bc2 (bc1 z0))) (rfl) ?_
  refine lv_istore_n (lv' := [(0, .int (bc3 (bc2 (bc1 z0))))]) hx hb dJ6_bitCount_0f7a4_33 rfl hl (by decide) rfl (fun ls hl => ?_)
  refine lv_iload_n hx hb dJ6_bitCount_0f7a4_34 rfl (lv_at hl 0 rfl) ?_
  refine lv_iload_n hx hb dJ6_bitCount_0f7a4_35 rfl (lv_at hl 0 rfl) ?_
  refine lv_bipush (v := 8) hx hb dJ6_bitCount_0f7a4_36 (by decide +kernel) ?_
  refine lv_iushr (v := ushr (bc3 (bc2 (bc1 z0))) 8) hx hb dJ6_bitCount_0f7a4_38 rfl ?_
  refine lv_iadd hx hb dJ6_bitCount_0f7a4_39 ?_
  refine z_topi (y := bc4 (bc3 (bc2 (bc1 z0)))) (rfl) ?_
  refine lv_istore_n (lv' := [(0, .int (bc4 (bc3 (bc2 (bc1 z0)))))]) hx hb dJ6_bitCount_0f7a4_40 rfl hl (by decide) rfl (fun ls hl => ?_)
  refine lv_iload_n hx hb dJ6_bitCount_0f7a4_41 rfl (lv_at hl 0 rfl) ?_
  refine lv_iload_n hx hb dJ6_bitCount_0f7a4_42 rfl (lv_at hl 0 rfl) ?_
  refine lv_bipush (v := 16) hx hb dJ6_bitCount_0f7a4_43 (by decide +kernel) ?_
  refine lv_iushr (v := ushr (bc4 (bc3 (bc2 (bc1 z0)))) 16) hx hb dJ6_bitCount_0f7a4_45 rfl ?_
  refine lv_iadd hx hb dJ6_bitCount_0f7a4_46 ?_
  refine z_topi (y := bc5 (bc4 (bc3 (bc2 (bc1 z0))))) (rfl) ?_
  refine lv_istore_n (lv' := [(0, .int (bc5 (bc4 (bc3 (bc2 (bc1 z0))))))]) hx hb dJ6_bitCount_0f7a4_47 rfl hl (by decide) rfl (fun ls hl => ?_)
  refine lv_iload_n hx hb dJ6_bitCount_0f7a4_48 rfl (lv_at hl 0 rfl) ?_
  refine lv_bipush (v := 63) hx hb dJ6_bitCount_0f7a4_49 (by decide +kernel) ?_
  refine lv_iand hx hb dJ6_bitCount_0f7a4_51 ?_
  rw [← hQ]
  exact z_iret (W1 := (fun (_ : Unit) => [])) hx hb hr hlocks hP hS () (rfl) (rfl) dJ6_bitCount_0f7a4_52
abbrev rmX0_withNeighbours : Room := { frames := 0, cells := 0, slots := 0, locals := 0 }
set_option maxHeartbeats 4000000 in
set_option maxRecDepth 100000 in
theorem m_X0_withNeighbours (l : Launch) (dC : Nat → ClassId) (dI : Nat → Nat → Nat) (cI cZ cJ cD : ClassId) (z0 : Int32) (q0 : Nat) (hq : 1 ≤ q0 ∧ q0 ≤ 4) : zI l (dC, dI) (wT cI cZ cJ cD) yX0_withNeighbours wsX0_withNeighbours rmX0_withNeighbours [] [.int z0, .int (nI q0)] (fun (_ : Unit) => []) (fun (r : Int32) (_ : Unit) => r = wN z0 q0) := by
  intro sz
  refine Met.ofW (cc := cX0_withNeighbours) (maxL := 6) (ret := (some .int)) (by decide) rfl ?_
  intro p e s m args below meth c s₁ B hml hv
  obtain ⟨ha, hsz, hP, hK, hD0, hN⟩ := hv
  have hx := B.exec
  have hb := B.bytes
  have hr := B.returns
  have hts := atoms_spec (ws := wsX0_withNeighbours) B.pre
  have hown : s.vm.findClass RX0 = some m.cls := findClass_of_methodNamed B.named
  have hlocks := B.notSynchronized
  subst hsz
  have hD := hD0.self (sz := s.heap.size)
  generalize hAe : va_A [] s.heap.size = A at hD ⊢
  have hA : ∀ q : Nat, s.heap.size ≤ q → A q := fun q h => by rw [← hAe]; exact Or.inr h
  have hS : va_S A s.heap s.heap [] := va_S.rf
  generalize hQ : MQ below (va_Qi (fun (r : Int32) (_ : Unit) => r = wN z0 q0) (fun u t => va_P (dC, dI) vwCl ((fun (_ : Unit) => []) u) t.heap) A) args s 0 0 A = Q
  have F9 : CallFix p m c cX0_withNeighbours 6 s args wsX0_withNeighbours RX0 := ⟨hx, hb, hml, hown, hts⟩
  refine z_entry (R := rmX0_withNeighbours) ha (Nat.le_of_ble_eq_true rfl) (fun ls hl => ?_)
  have hl : lv_has ls 6 [(0, .int z0), (1, .int (nI q0))] := hl
  refine lv_iload_n hx hb dX0_withNeighbours_0 rfl (lv_at hl 0 rfl) ?_
  refine lv_iconst (v := 1) hx hb dX0_withNeighbours_1 (by decide) ?_
  refine lv_ishl hx hb dX0_withNeighbours_2 ?_
  refine lv_iload_n hx hb dX0_withNeighbours_3 rfl (lv_at hl 0 rfl) ?_
  refine lv_iconst (v := 1) hx hb dX0_withNeighbours_4 (by decide) ?_
  refine lv_iushr (v := ushr z0 1) hx hb dX0_withNeighbours_5 rfl ?_
  refine lv_ior hx hb dX0_withNeighbours_6 ?_
  refine z_topi (y := oB z0) (rfl) ?_
  refine lv_istore_n (lv' := [(2, .int (oB z0)), (0, .int z0), (1, .int (nI q0))]) hx hb dX0_withNeighbours_7 rfl hl (by decide) rfl (fun ls hl => ?_)
  refine lv_iload_n hx hb dX0_withNeighbours_8 rfl (lv_at hl 1 rfl) ?_
  refine lv_iconst (v := 1) hx hb dX0_withNeighbours_9 (by decide) ?_
  refine lv_ishl hx hb dX0_withNeighbours_10 ?_
  refine lv_iload_n hx hb dX0_withNeighbours_11 rfl (lv_at hl 1 rfl) ?_
  refine lv_iconst (v := 1) hx hb dX0_withNeighbours_12 (by decide) ?_
  refine lv_iushr (v := ushr z0 1) hx hb dX0_withNeighbours_13 rfl ?_
  refine lv_iand hx hb dX0_withNeighbours_14 ?_
  refine z_topi (y := bB z0) (rfl) ?_
  refine lv_istore_n (lv' := [(3, .int (bB z0)), (2, .int (oB z0)), (0, .int z0), (1, .int (nI q0))]) hx hb dX0_withNeighbours_15 rfl hl (by decide) rfl (fun ls hl => ?_)
  refine lv_iload_n hx hb dX0_withNeighbours_16 rfl (lv_at hl 2 rfl) ?_
  refine lv_bipush (v := 6) hx hb dX0_withNeighbours_17 (by decide +kernel) ?_
  refine lv_ishl hx hb dX0_withNeighbours_19 ?_
  refine lv_iload_n hx hb dX0_withNeighbours_20 rfl (lv_at hl 2 rfl) ?_
  refine lv_bipush (v := 6) hx hb dX0_withNeighbours_21 (by decide +kernel) ?_
  refine lv_iushr (v := ushr z0 6) hx hb dX0_withNeighbours_23 rfl ?_
  refine lv_ior hx hb dX0_withNeighbours_24 ?_
  refine z_topi (y := oA z0) (rfl) ?_
  refine lv_istore (lv' := [(4, .int (oA z0)), (3, .int (bB z0)), (2, .int (oB z0)), (0, .int z0), (1, .int (nI q0))]) hx hb dX0_withNeighbours_25 hl (by decide) rfl (fun ls hl => ?_)
  refine lv_iload_n hx hb dX0_withNeighbours_27 rfl (lv_at hl 3 rfl) ?_
  refine lv_bipush (v := 6) hx hb dX0_withNeighbours_28 (by decide +kernel) ?_
  refine lv_ishl hx hb dX0_withNeighbours_30 ?_
  refine lv_iload_n hx hb dX0_withNeighbours_31 rfl (lv_at hl 3 rfl) ?_
  refine lv_bipush (v := 6) hx hb dX0_withNeighbours_32 (by decide +kernel) ?_
  refine lv_iushr (v := ushr z0 6) hx hb dX0_withNeighbours_34 rfl ?_
  refine lv_iand hx hb dX0_withNeighbours_35 ?_
  refine z_topi (y := bA z0) (rfl) ?_
  refine lv_istore (lv' := [(5, .int (bA z0)), (4, .int (oA z0)), (3, .int (bB z0)), (2, .int (oB z0)), (0, .int z0), (1, .int (nI q0))]) hx hb dX0_withNeighbours_36 hl (by decide) rfl (fun ls hl => ?_)
  refine lv_iload_n hx hb dX0_withNeighbours_38 rfl (lv_at hl 5 rfl) ?_
  rcases (show q0 = 1 ∨ q0 = 2 ∨ q0 = 3 ∨ q0 = 4 by omega) with rfl | rfl | rfl | rfl
  · refine lv_tableIn (tgt := 68) hx hb dX0_withNeighbours_39 (by decide +kernel) (by decide +kernel) (off := 29) (by decide +kernel) (by decide) ?_
    refine lv_iload_n hx hb dX0_withNeighbours_68 rfl (lv_at hl 3 rfl) ?_
    refine lv_iload hx hb dX0_withNeighbours_69 (lv_at hl 1 rfl) ?_
    refine lv_ior hx hb dX0_withNeighbours_71 ?_
    rw [← hQ]
    exact z_iret (W1 := (fun (_ : Unit) => [])) hx hb hr hlocks hP hS () (rfl) (rfl) dX0_withNeighbours_72
  · refine lv_tableIn (tgt := 73) hx hb dX0_withNeighbours_39 (by decide +kernel) (by decide +kernel) (off := 34) (by decide +kernel) (by decide) ?_
    refine lv_iload_n hx hb dX0_withNeighbours_73 rfl (lv_at hl 2 rfl) ?_
    refine lv_iload hx hb dX0_withNeighbours_74 (lv_at hl 0 rfl) ?_
    refine lv_ior hx hb dX0_withNeighbours_76 ?_
    refine lv_iload_n hx hb dX0_withNeighbours_77 rfl (lv_at hl 3 rfl) ?_
    refine lv_iload hx hb dX0_withNeighbours_78 (lv_at hl 1 rfl) ?_
    refine lv_iand hx hb dX0_withNeighbours_80 ?_
    refine lv_ior hx hb dX0_withNeighbours_81 ?_
    rw [← hQ]
    exact z_iret (W1 := (fun (_ : Unit) => [])) hx hb hr hlocks hP hS () (rfl) (rfl) dX0_withNeighbours_82
  · refine lv_tableIn (tgt := 83) hx hb dX0_withNeighbours_39 (by decide +kernel) (by decide +kernel) (off := 44) (by decide +kernel) (by decide) ?_
    refine lv_iload_n hx hb dX0_withNeighbours_83 rfl (lv_at hl 2 rfl) ?_
    refine lv_iload hx hb dX0_withNeighbours_84 (lv_at hl 1 rfl) ?_
    refine lv_iand hx hb dX0_withNeighbours_86 ?_
    refine lv_iload_n hx hb dX0_withNeighbours_87 rfl (lv_at hl 3 rfl) ?_
    refine lv_iload hx hb dX0_withNeighbours_88 (lv_at hl 0 rfl) ?_
    refine lv_iand hx hb dX0_withNeighbours_90 ?_
    refine lv_ior hx hb dX0_withNeighbours_91 ?_
    rw [← hQ]
    exact z_iret (W1 := (fun (_ : Unit) => [])) hx hb hr hlocks hP hS () (rfl) (rfl) dX0_withNeighbours_92
  · refine lv_tableIn (tgt := 93) hx hb dX0_withNeighbours_39 (by decide +kernel) (by decide +kernel) (off := 54) (by decide +kernel) (by decide) ?_
    refine lv_iload_n hx hb dX0_withNeighbours_93 rfl (lv_at hl 2 rfl) ?_
    refine lv_iload hx hb dX0_withNeighbours_94 (lv_at hl 0 rfl) ?_
    refine lv_iand hx hb dX0_withNeighbours_96 ?_
    rw [← hQ]
    exact z_iret (W1 := (fun (_ : Unit) => [])) hx hb hr hlocks hP hS () (rfl) (rfl) dX0_withNeighbours_97
abbrev rmX0_firstColourWith : Room := { frames := 0, cells := 0, slots := 0, locals := 0 }
set_option maxHeartbeats 4000000 in
set_option maxRecDepth 100000 in
theorem m_X0_firstColourWith (l : Launch) (dC : Nat → ClassId) (dI : Nat → Nat → Nat) (cI cZ cJ cD : ClassId) (aS : Nat) (S0 : Nat → Int32) (z0 : Int32)  : zI l (dC, dI) (wT cI cZ cJ cD) yX0_firstColourWith wsX0_firstColourWith rmX0_firstColourWith [(aS, .inl (cI, 5, .inl S0))] [.int z0, .ref aS] (fun (_ : Unit) => [(aS, .inl (cI, 5, .inl S0))]) (fun (r : Int32) (_ : Unit) => r = pFirst S0 z0) := by
  intro sz
  refine Met.ofW (cc := cX0_firstColourWith) (maxL := 3) (ret := (some .int)) (by decide) rfl ?_
  intro p e s m args below meth c s₁ B hml hv
  obtain ⟨ha, hsz, hP, hK, hD0, hN⟩ := hv
  have hx := B.exec
  have hb := B.bytes
  have hr := B.returns
  have hts := atoms_spec (ws := wsX0_firstColourWith) B.pre
  have hown : s.vm.findClass RX0 = some m.cls := findClass_of_methodNamed B.named
  have hlocks := B.notSynchronized
  subst hsz
  have hD := hD0.self (sz := s.heap.size)
  generalize hAe : va_A [(aS, .inl (cI, 5, .inl S0))] s.heap.size = A at hD ⊢
  have hA : ∀ q : Nat, s.heap.size ≤ q → A q := fun q h => by rw [← hAe]; exact Or.inr h
  have hS : va_S A s.heap s.heap [] := va_S.rf
  generalize hQ : MQ below (va_Qi (fun (r : Int32) (_ : Unit) => r = pFirst S0 z0) (fun u t => va_P (dC, dI) vwCl ((fun (_ : Unit) => [(aS, .inl (cI, 5, .inl S0))]) u) t.heap) A) args s 0 0 A = Q
  have F9 : CallFix p m c cX0_firstColourWith 3 s args wsX0_firstColourWith RX0 := ⟨hx, hb, hml, hown, hts⟩
  refine z_entry (R := rmX0_firstColourWith) ha (Nat.le_of_ble_eq_true rfl) (fun ls hl => ?_)
  have hl : lv_has ls 3 [(0, .int z0), (1, .ref aS)] := hl
  refine lv_iconst (v := 1) hx hb dX0_firstColourWith_0 (by decide) ?_
  refine lv_istore_n (lv' := [(2, .int 1), (0, .int z0), (1, .ref aS)]) hx hb dX0_firstColourWith_1 rfl hl (by decide) rfl (fun ls hl => ?_)
  have loop_2 : ∀ (n : Nat) (k : Nat) (hkn : k + n = 5) (h1 : 1 ≤ k) (hz : ∀ j, 1 ≤ j → j < k → S0 j &&& z0 = 0) (H : Heap) (locs : List Loc) (ls : Array Slot) (hP : va_P (dC, dI) vwCl [(aS, .inl (cI, 5, .inl S0))] H) (hD : va_D A [(aS, .inl (cI, 5, .inl S0))]) (hS : va_S A s.heap H locs) (hl : lv_has ls 3 [(0, .int z0), (1, .ref aS), (2, .int (nI k))]), W p l e rmX0_firstColourWith s m args below meth c H locs 0 0 Q (F0 m 2 ls []) := by
    intro n
    induction n with
    | zero =>
      intro k hkn h1 hz H locs ls hP hD hS hl
      refine lv_iload_n hx hb dX0_firstColourWith_2 rfl (lv_at hl 2 rfl) ?_
      refine lv_aload_n hx hb dX0_firstColourWith_3 rfl (lv_at hl 1 rfl) ?_
      refine va_alen (v := 5) hx hb hK hP 0 0 rfl rfl rfl dX0_firstColourWith_4 ?_
      refine lv_icmp_ge (tgt := 24) hx hb dX0_firstColourWith_5 (by decide) (fun c_5 => ?_) (fun c_5 => ?_)
      · skip
        have n_5 := zc_le_t (a := 5) (b := k) (by omega) (by omega) c_5
        refine lv_iconst (v := 0) hx hb dX0_firstColourWith_24 (by decide) ?_
        rw [← hQ]
        exact z_iret (W1 := (fun (_ : Unit) => [(aS, .inl (cI, 5, .inl S0))])) hx hb hr hlocks hP hS () (rfl) (pFirst_no (fun j h1 h2 => hz j h1 (by omega))) dX0_firstColourWith_25
      · skip
        have n_5 := zc_le_f (a := 5) (b := k) (by omega) (by omega) c_5
        exact absurd n_5 (by omega)
    | succ n ih_2 =>
      intro k hkn h1 hz H locs ls hP hD hS hl
      refine lv_iload_n hx hb dX0_firstColourWith_2 rfl (lv_at hl 2 rfl) ?_
      refine lv_aload_n hx hb dX0_firstColourWith_3 rfl (lv_at hl 1 rfl) ?_
      refine va_alen (v := 5) hx hb hK hP 0 0 rfl rfl rfl dX0_firstColourWith_4 ?_
      refine lv_icmp_ge (tgt := 24) hx hb dX0_firstColourWith_5 (by decide) (fun c_5 => ?_) (fun c_5 => ?_)
      · skip
        have n_5 := zc_le_t (a := 5) (b := k) (by omega) (by omega) c_5
        exact absurd n_5 (by omega)
      · skip
        have n_5 := zc_le_f (a := 5) (b := k) (by omega) (by omega) c_5
        refine lv_aload_n hx hb dX0_firstColourWith_8 rfl (lv_at hl 1 rfl) ?_
        refine lv_iload_n hx hb dX0_firstColourWith_9 rfl (lv_at hl 2 rfl) ?_
        refine z_iald hx hb hK hP 0 0 rfl rfl k (rfl) (by omega) (by decide) dX0_firstColourWith_10 ?_
        refine lv_iload_n hx hb dX0_firstColourWith_11 rfl (lv_at hl 0 rfl) ?_
        refine lv_iand hx hb dX0_firstColourWith_12 ?_
        refine lv_if_eq (tgt := 18) hx hb dX0_firstColourWith_13 (by decide) (fun c_13 => ?_) (fun c_13 => ?_)
        · skip
          refine lv_iinc (v := nI (k + 1)) (lv' := [(2, .int (nI (k + 1))), (0, .int z0), (1, .ref aS)]) hx hb dX0_firstColourWith_18 hl (k := 2) rfl (nI_1 k) (by decide) rfl (fun ls hl => ?_)
          refine lv_goto (tgt := 2) hx hb dX0_firstColourWith_21 (by decide) ?_
          exact ih_2 (k + 1) (by omega) (by omega) (fun j h1 h2 => by rcases Nat.lt_succ_iff_lt_or_eq.mp h2 with h | rfl; exact hz j h1 h; exact c_13) _ _ _ hP hD hS (lv_sub hl [1, 2, 0] rfl)
        · skip
          refine lv_iload_n hx hb dX0_firstColourWith_16 rfl (lv_at hl 2 rfl) ?_
          rw [← hQ]
          exact z_iret (W1 := (fun (_ : Unit) => [(aS, .inl (cI, 5, .inl S0))])) hx hb hr hlocks hP hS () (rfl) (pFirst_at h1 (by omega) hz c_13) dX0_firstColourWith_17
  exact loop_2 4 1 (by omega) (Nat.le_refl 1) (fun j h1 h2 => absurd h2 (by omega)) _ _ _ hP hD hS (lv_sub hl [1, 2, 0] rfl)
abbrev rmX0_cellsWith : Room := { frames := 0, cells := 0, slots := 0, locals := 0 }
set_option maxRecDepth 20000 in
theorem iX0_cellsWith_X0 : ∀ w ∈ wsX00, w ∈ wsX0_cellsWith := fun w h => (goodIn_r (big := wsX0_cellsWith) wsX00 [2, 3, 4, 5, 6, 7] (by decide +kernel) (by decide +kernel) w h).1
set_option maxHeartbeats 4000000 in
set_option maxRecDepth 100000 in
theorem m_X0_cellsWith (l : Launch) (dC : Nat → ClassId) (dI : Nat → Nat → Nat) (cI cZ cJ cD : ClassId) (hT : Nat) (aS : Nat) (aC : Nat) (aG : Nat) (bd : Int32) (sb : Int32) (nd : Int32) (S0 : Nat → Int32) (Cr : Nat → Int32) (G0 : Nat → Int32) (col : Int32)  : zI l (dC, dI) (wT cI cZ cJ cD) yX0_cellsWith wsX0_cellsWith rmX0_cellsWith [(hT, .inr (0, [.int bd, .int sb, .int nd, .ref aS, .ref aC, .ref aG])), (aS, .inl (cI, 5, .inl S0)), (aC, .inl (cI, 5, .inl Cr)), (aG, .inl (cI, 5, .inl G0))] [.ref hT, .int col] (fun (_ : Unit) => [(hT, .inr (0, [.int bd, .int sb, .int nd, .ref aS, .ref aC, .ref aG])), (aS, .inl (cI, 5, .inl S0)), (aC, .inl (cI, 5, .inl Cr)), (aG, .inl (cI, 5, .inl G0))]) (fun (r : Int32) (_ : Unit) => r = pCW S0 col) := by
  intro sz
  refine Met.ofW (cc := cX0_cellsWith) (maxL := 2) (ret := (some .int)) (by decide) rfl ?_
  intro p e s m args below meth c s₁ B hml hv
  obtain ⟨ha, hsz, hP, hK, hD0, hN⟩ := hv
  have hx := B.exec
  have hb := B.bytes
  have hr := B.returns
  have hts := atoms_spec (ws := wsX0_cellsWith) B.pre
  have hown : s.vm.findClass RX0 = some m.cls := findClass_of_methodNamed B.named
  have hlocks := B.notSynchronized
  subst hsz
  have hD := hD0.self (sz := s.heap.size)
  generalize hAe : va_A [(hT, .inr (0, [.int bd, .int sb, .int nd, .ref aS, .ref aC, .ref aG])), (aS, .inl (cI, 5, .inl S0)), (aC, .inl (cI, 5, .inl Cr)), (aG, .inl (cI, 5, .inl G0))] s.heap.size = A at hD ⊢
  have hA : ∀ q : Nat, s.heap.size ≤ q → A q := fun q h => by rw [← hAe]; exact Or.inr h
  have hS : va_S A s.heap s.heap [] := va_S.rf
  generalize hQ : MQ below (va_Qi (fun (r : Int32) (_ : Unit) => r = pCW S0 col) (fun u t => va_P (dC, dI) vwCl ((fun (_ : Unit) => [(hT, .inr (0, [.int bd, .int sb, .int nd, .ref aS, .ref aC, .ref aG])), (aS, .inl (cI, 5, .inl S0)), (aC, .inl (cI, 5, .inl Cr)), (aG, .inl (cI, 5, .inl G0))]) u) t.heap) A) args s 0 0 A = Q
  have F9 : CallFix p m c cX0_cellsWith 2 s args wsX0_cellsWith RX0 := ⟨hx, hb, hml, hown, hts⟩
  refine z_entry (R := rmX0_cellsWith) ha (Nat.le_of_ble_eq_true rfl) (fun ls hl => ?_)
  have hl : lv_has ls 2 [(0, .ref hT), (1, .int col)] := hl
  refine lv_iload_n hx hb dX0_cellsWith_0 rfl (lv_at hl 1 rfl) ?_
  refine lv_if_lt (tgt := 18) hx hb dX0_cellsWith_1 (by decide) (fun c_1 => ?_) (fun c_1 => ?_)
  · skip
    refine lv_iconst (v := 0) hx hb dX0_cellsWith_18 (by decide) ?_
    rw [← hQ]
    exact z_iret (W1 := (fun (_ : Unit) => [(hT, .inr (0, [.int bd, .int sb, .int nd, .ref aS, .ref aC, .ref aG])), (aS, .inl (cI, 5, .inl S0)), (aC, .inl (cI, 5, .inl Cr)), (aG, .inl (cI, 5, .inl G0))])) hx hb hr hlocks hP hS () (rfl) (pCW_out S0 (Or.inl c_1)) dX0_cellsWith_19
  · skip
    refine lv_iload_n hx hb dX0_cellsWith_4 rfl (lv_at hl 1 rfl) ?_
    refine lv_iconst (v := 5) hx hb dX0_cellsWith_5 (by decide) ?_
    refine lv_icmp_ge (tgt := 18) hx hb dX0_cellsWith_6 (by decide) (fun c_6 => ?_) (fun c_6 => ?_)
    · skip
      refine lv_iconst (v := 0) hx hb dX0_cellsWith_18 (by decide) ?_
      rw [← hQ]
      exact z_iret (W1 := (fun (_ : Unit) => [(hT, .inr (0, [.int bd, .int sb, .int nd, .ref aS, .ref aC, .ref aG])), (aS, .inl (cI, 5, .inl S0)), (aC, .inl (cI, 5, .inl Cr)), (aG, .inl (cI, 5, .inl G0))])) hx hb hr hlocks hP hS () (rfl) (pCW_out S0 (Or.inr c_6)) dX0_cellsWith_19
    · skip
      obtain ⟨j, hj, rfl⟩ := z_five c_1 c_6
      refine lv_aload_n hx hb dX0_cellsWith_9 rfl (lv_at hl 0 rfl) ?_
      refine va_get (D := (dC, dI)) (ci := 0) (v := .ref aS) (C := RX0) (T := TX0) (N := 6) hx hb hts iX0_cellsWith_X0 hown hK hP 0 rfl rfl 3 (by decide) (hts (.fieldLink RX0 15 "ColourTide$Tide" "sets" "[I") (List.mem_of_getElem? (i := 1) rfl)) (fun _ h9 => h9) rfl dX0_cellsWith_10 ?_
      refine lv_iload_n hx hb dX0_cellsWith_13 rfl (lv_at hl 1 rfl) ?_
      refine z_iald hx hb hK hP 1 0 rfl rfl j (rfl) (hj) (by decide) dX0_cellsWith_14 ?_
      refine lv_goto (tgt := 19) hx hb dX0_cellsWith_15 (by decide) ?_
      rw [← hQ]
      exact z_iret (W1 := (fun (_ : Unit) => [(hT, .inr (0, [.int bd, .int sb, .int nd, .ref aS, .ref aC, .ref aG])), (aS, .inl (cI, 5, .inl S0)), (aC, .inl (cI, 5, .inl Cr)), (aG, .inl (cI, 5, .inl G0))])) hx hb hr hlocks hP hS () (rfl) (pCW_at S0 hj) dX0_cellsWith_19
abbrev rmX0_count : Room := { frames := 1, cells := 0, slots := 0, locals := 21 }
set_option maxRecDepth 20000 in
theorem iX0_count_X0 : ∀ w ∈ wsX00, w ∈ wsX0_count := fun w h => (goodIn_r (big := wsX0_count) wsX00 [14, 15, 16, 17, 18, 19] (by decide +kernel) (by decide +kernel) w h).1
set_option maxHeartbeats 4000000 in
set_option maxRecDepth 100000 in
theorem m_X0_count (l : Launch) (dC : Nat → ClassId) (dI : Nat → Nat → Nat) (cI cZ cJ cD : ClassId) (hT : Nat) (aS : Nat) (aC : Nat) (aG : Nat) (bd : Int32) (sb : Int32) (nd : Int32) (S0 : Nat → Int32) (Cr : Nat → Int32) (G0 : Nat → Int32) (col : Int32)  : zI l (dC, dI) (wT cI cZ cJ cD) yX0_count wsX0_count rmX0_count [(hT, .inr (0, [.int bd, .int sb, .int nd, .ref aS, .ref aC, .ref aG])), (aS, .inl (cI, 5, .inl S0)), (aC, .inl (cI, 5, .inl Cr)), (aG, .inl (cI, 5, .inl G0))] [.ref hT, .int col] (fun (_ : Unit) => [(hT, .inr (0, [.int bd, .int sb, .int nd, .ref aS, .ref aC, .ref aG])), (aS, .inl (cI, 5, .inl S0)), (aC, .inl (cI, 5, .inl Cr)), (aG, .inl (cI, 5, .inl G0))]) (fun (r : Int32) (_ : Unit) => r = pBC (pCW S0 col)) := by
  intro sz
  refine Met.ofW (cc := cX0_count) (maxL := 2) (ret := (some .int)) (by decide) rfl ?_
  intro p e s m args below meth c s₁ B hml hv
  obtain ⟨ha, hsz, hP, hK, hD0, hN⟩ := hv
  have hx := B.exec
  have hb := B.bytes
  have hr := B.returns
  have hts := atoms_spec (ws := wsX0_count) B.pre
  have hown : s.vm.findClass RX0 = some m.cls := findClass_of_methodNamed B.named
  have hlocks := B.notSynchronized
  subst hsz
  have hD := hD0.self (sz := s.heap.size)
  generalize hAe : va_A [(hT, .inr (0, [.int bd, .int sb, .int nd, .ref aS, .ref aC, .ref aG])), (aS, .inl (cI, 5, .inl S0)), (aC, .inl (cI, 5, .inl Cr)), (aG, .inl (cI, 5, .inl G0))] s.heap.size = A at hD ⊢
  have hA : ∀ q : Nat, s.heap.size ≤ q → A q := fun q h => by rw [← hAe]; exact Or.inr h
  have hS : va_S A s.heap s.heap [] := va_S.rf
  generalize hQ : MQ below (va_Qi (fun (r : Int32) (_ : Unit) => r = pBC (pCW S0 col)) (fun u t => va_P (dC, dI) vwCl ((fun (_ : Unit) => [(hT, .inr (0, [.int bd, .int sb, .int nd, .ref aS, .ref aC, .ref aG])), (aS, .inl (cI, 5, .inl S0)), (aC, .inl (cI, 5, .inl Cr)), (aG, .inl (cI, 5, .inl G0))]) u) t.heap) A) args s 0 0 A = Q
  have F9 : CallFix p m c cX0_count 2 s args wsX0_count RX0 := ⟨hx, hb, hml, hown, hts⟩
  refine z_entry (R := rmX0_count) ha (Nat.le_of_ble_eq_true rfl) (fun ls hl => ?_)
  have hl : lv_has ls 2 [(0, .ref hT), (1, .int col)] := hl
  refine lv_aload_n hx hb dX0_count_0 rfl (lv_at hl 0 rfl) ?_
  refine lv_iload_n hx hb dX0_count_1 rfl (lv_at hl 1 rfl) ?_
  refine z_callVi (As := [.int col]) (rest := []) F9 (m_X0_cellsWith l dC dI cI cZ cJ cD hT aS aC aG bd sb nd S0 Cr G0 col ) (cwV 1 hts gX0_count_X0_cellsWith rfl rfl rfl (by decide +kernel) ⟨Nat.le_of_ble_eq_true rfl, Nat.le_of_ble_eq_true rfl⟩) hK hN hP hD hS hA [0, 1, 2, 3] rfl rfl (fun _ => rfl) 0 (ci := 0) rfl rfl rfl rfl hl.1 rfl (Nat.le_of_ble_eq_true rfl) dX0_count_2 ⟨Nat.zero_le _, Nat.zero_le _⟩ (fun r_1 u H locs hp_2 hP hD hS => ?_)
  have hP : va_P (dC, dI) vwCl [(hT, .inr (0, [.int bd, .int sb, .int nd, .ref aS, .ref aC, .ref aG])), (aS, .inl (cI, 5, .inl S0)), (aC, .inl (cI, 5, .inl Cr)), (aG, .inl (cI, 5, .inl G0))] H := hP
  have hD : va_D A [(hT, .inr (0, [.int bd, .int sb, .int nd, .ref aS, .ref aC, .ref aG])), (aS, .inl (cI, 5, .inl S0)), (aC, .inl (cI, 5, .inl Cr)), (aG, .inl (cI, 5, .inl G0))] := hD
  have hp_2 : r_1 = pCW S0 col := hp_2
  refine z_topi (y := pCW S0 col) hp_2 ?_
  refine z_callSi (As := [.int (pCW S0 col)]) (rest := []) F9 (m_J6_bitCount_0f7a4 l dC dI cI cZ cJ cD (pCW S0 col) ) (va_cwS 1 hts gX0_count_J6_bitCount_0f7a4 rfl rfl rfl (by decide +kernel) ⟨Nat.le_of_ble_eq_true rfl, Nat.le_of_ble_eq_true rfl⟩) hK hN hP hD hS hA rfl hl.1 rfl (Nat.le_of_ble_eq_true rfl) dX0_count_5 ⟨Nat.zero_le _, Nat.zero_le _⟩ (fun r_2 H locs hp_5 hP hS => ?_)
  have hp_5 : r_2 = pBC (pCW S0 col) := hp_5
  refine z_topi (y := pBC (pCW S0 col)) hp_5 ?_
  rw [← hQ]
  exact z_iret (W1 := (fun (_ : Unit) => [(hT, .inr (0, [.int bd, .int sb, .int nd, .ref aS, .ref aC, .ref aG])), (aS, .inl (cI, 5, .inl S0)), (aC, .inl (cI, 5, .inl Cr)), (aG, .inl (cI, 5, .inl G0))])) hx hb hr hlocks hP hS () (rfl) (rfl) dX0_count_8
abbrev rmX0_isAll : Room := { frames := 1, cells := 0, slots := 0, locals := 21 }
set_option maxRecDepth 20000 in
theorem iX0_isAll_X0 : ∀ w ∈ wsX00, w ∈ wsX0_isAll := fun w h => (goodIn_r (big := wsX0_isAll) wsX00 [8, 9, 10, 11, 12, 13] (by decide +kernel) (by decide +kernel) w h).1
set_option maxHeartbeats 4000000 in
set_option maxRecDepth 100000 in
theorem m_X0_isAll (l : Launch) (dC : Nat → ClassId) (dI : Nat → Nat → Nat) (cI cZ cJ cD : ClassId) (hT : Nat) (aS : Nat) (aC : Nat) (aG : Nat) (bd : Int32) (sb : Int32) (nd : Int32) (S0 : Nat → Int32) (Cr : Nat → Int32) (G0 : Nat → Int32) (col : Int32)  : zI l (dC, dI) (wT cI cZ cJ cD) yX0_isAll wsX0_isAll rmX0_isAll [(hT, .inr (0, [.int bd, .int sb, .int nd, .ref aS, .ref aC, .ref aG])), (aS, .inl (cI, 5, .inl S0)), (aC, .inl (cI, 5, .inl Cr)), (aG, .inl (cI, 5, .inl G0))] [.ref hT, .int col] (fun (_ : Unit) => [(hT, .inr (0, [.int bd, .int sb, .int nd, .ref aS, .ref aC, .ref aG])), (aS, .inl (cI, 5, .inl S0)), (aC, .inl (cI, 5, .inl Cr)), (aG, .inl (cI, 5, .inl G0))]) (fun (r : Int32) (_ : Unit) => r = if pCW S0 col = bd then 1 else 0) := by
  intro sz
  refine Met.ofW (cc := cX0_isAll) (maxL := 2) (ret := (some .boolean)) (by decide) rfl ?_
  intro p e s m args below meth c s₁ B hml hv
  obtain ⟨ha, hsz, hP, hK, hD0, hN⟩ := hv
  have hx := B.exec
  have hb := B.bytes
  have hr := B.returns
  have hts := atoms_spec (ws := wsX0_isAll) B.pre
  have hown : s.vm.findClass RX0 = some m.cls := findClass_of_methodNamed B.named
  have hlocks := B.notSynchronized
  subst hsz
  have hD := hD0.self (sz := s.heap.size)
  generalize hAe : va_A [(hT, .inr (0, [.int bd, .int sb, .int nd, .ref aS, .ref aC, .ref aG])), (aS, .inl (cI, 5, .inl S0)), (aC, .inl (cI, 5, .inl Cr)), (aG, .inl (cI, 5, .inl G0))] s.heap.size = A at hD ⊢
  have hA : ∀ q : Nat, s.heap.size ≤ q → A q := fun q h => by rw [← hAe]; exact Or.inr h
  have hS : va_S A s.heap s.heap [] := va_S.rf
  generalize hQ : MQ below (va_Qi (fun (r : Int32) (_ : Unit) => r = if pCW S0 col = bd then 1 else 0) (fun u t => va_P (dC, dI) vwCl ((fun (_ : Unit) => [(hT, .inr (0, [.int bd, .int sb, .int nd, .ref aS, .ref aC, .ref aG])), (aS, .inl (cI, 5, .inl S0)), (aC, .inl (cI, 5, .inl Cr)), (aG, .inl (cI, 5, .inl G0))]) u) t.heap) A) args s 0 0 A = Q
  have F9 : CallFix p m c cX0_isAll 2 s args wsX0_isAll RX0 := ⟨hx, hb, hml, hown, hts⟩
  refine z_entry (R := rmX0_isAll) ha (Nat.le_of_ble_eq_true rfl) (fun ls hl => ?_)
  have hl : lv_has ls 2 [(0, .ref hT), (1, .int col)] := hl
  refine lv_aload_n hx hb dX0_isAll_0 rfl (lv_at hl 0 rfl) ?_
  refine lv_iload_n hx hb dX0_isAll_1 rfl (lv_at hl 1 rfl) ?_
  refine z_callVi (As := [.int col]) (rest := []) F9 (m_X0_cellsWith l dC dI cI cZ cJ cD hT aS aC aG bd sb nd S0 Cr G0 col ) (cwV 1 hts gX0_isAll_X0_cellsWith rfl rfl rfl (by decide +kernel) ⟨Nat.le_of_ble_eq_true rfl, Nat.le_of_ble_eq_true rfl⟩) hK hN hP hD hS hA [0, 1, 2, 3] rfl rfl (fun _ => rfl) 0 (ci := 0) rfl rfl rfl rfl hl.1 rfl (Nat.le_of_ble_eq_true rfl) dX0_isAll_2 ⟨Nat.zero_le _, Nat.zero_le _⟩ (fun r_1 u H locs hp_2 hP hD hS => ?_)
  have hP : va_P (dC, dI) vwCl [(hT, .inr (0, [.int bd, .int sb, .int nd, .ref aS, .ref aC, .ref aG])), (aS, .inl (cI, 5, .inl S0)), (aC, .inl (cI, 5, .inl Cr)), (aG, .inl (cI, 5, .inl G0))] H := hP
  have hD : va_D A [(hT, .inr (0, [.int bd, .int sb, .int nd, .ref aS, .ref aC, .ref aG])), (aS, .inl (cI, 5, .inl S0)), (aC, .inl (cI, 5, .inl Cr)), (aG, .inl (cI, 5, .inl G0))] := hD
  have hp_2 : r_1 = pCW S0 col := hp_2
  refine z_topi (y := pCW S0 col) hp_2 ?_
  refine lv_aload_n hx hb dX0_isAll_5 rfl (lv_at hl 0 rfl) ?_
  refine va_get (D := (dC, dI)) (ci := 0) (v := .int bd) (C := RX0) (T := TX0) (N := 6) hx hb hts iX0_isAll_X0 hown hK hP 0 rfl rfl 0 (by decide) (hts (.fieldLink RX0 25 "ColourTide$Tide" "board" "I") (List.mem_of_getElem? (i := 1) rfl)) (fun _ h9 => h9) rfl dX0_isAll_6 ?_
  refine lv_icmp_ne (tgt := 16) hx hb dX0_isAll_9 (by decide) (fun c_9 => ?_) (fun c_9 => ?_)
  · skip
    refine lv_iconst (v := 0) hx hb dX0_isAll_16 (by decide) ?_
    rw [← hQ]
    exact z_zret (W1 := (fun (_ : Unit) => [(hT, .inr (0, [.int bd, .int sb, .int nd, .ref aS, .ref aC, .ref aG])), (aS, .inl (cI, 5, .inl S0)), (aC, .inl (cI, 5, .inl Cr)), (aG, .inl (cI, 5, .inl G0))])) hx hb hr hlocks (by decide +kernel) hP hS () (rfl) (by simp [c_9]) dX0_isAll_17
  · skip
    refine lv_iconst (v := 1) hx hb dX0_isAll_12 (by decide) ?_
    refine lv_goto (tgt := 17) hx hb dX0_isAll_13 (by decide) ?_
    rw [← hQ]
    exact z_zret (W1 := (fun (_ : Unit) => [(hT, .inr (0, [.int bd, .int sb, .int nd, .ref aS, .ref aC, .ref aG])), (aS, .inl (cI, 5, .inl S0)), (aC, .inl (cI, 5, .inl Cr)), (aG, .inl (cI, 5, .inl G0))])) hx hb hr hlocks (by decide +kernel) hP hS () (rfl) (by simp [c_9]) dX0_isAll_17
abbrev rmX0_colourOf : Room := { frames := 1, cells := 0, slots := 0, locals := 22 }
set_option maxRecDepth 20000 in
theorem iX0_colourOf_X0 : ∀ w ∈ wsX00, w ∈ wsX0_colourOf := fun w h => (goodIn_r (big := wsX0_colourOf) wsX00 [6, 7, 8, 9, 10, 11] (by decide +kernel) (by decide +kernel) w h).1
set_option maxHeartbeats 4000000 in
set_option maxRecDepth 100000 in
theorem m_X0_colourOf (l : Launch) (dC : Nat → ClassId) (dI : Nat → Nat → Nat) (cI cZ cJ cD : ClassId) (hT : Nat) (aS : Nat) (aC : Nat) (aG : Nat) (bd : Int32) (sb : Int32) (nd : Int32) (S0 : Nat → Int32) (Cr : Nat → Int32) (G0 : Nat → Int32) (z0 : Int32)  : zI l (dC, dI) (wT cI cZ cJ cD) yX0_colourOf wsX0_colourOf rmX0_colourOf [(hT, .inr (0, [.int bd, .int sb, .int nd, .ref aS, .ref aC, .ref aG])), (aS, .inl (cI, 5, .inl S0)), (aC, .inl (cI, 5, .inl Cr)), (aG, .inl (cI, 5, .inl G0))] [.ref hT, .int z0] (fun (_ : Unit) => [(hT, .inr (0, [.int bd, .int sb, .int nd, .ref aS, .ref aC, .ref aG])), (aS, .inl (cI, 5, .inl S0)), (aC, .inl (cI, 5, .inl Cr)), (aG, .inl (cI, 5, .inl G0))]) (fun (r : Int32) (_ : Unit) => r = pFirst S0 z0) := by
  intro sz
  refine Met.ofW (cc := cX0_colourOf) (maxL := 2) (ret := (some .int)) (by decide) rfl ?_
  intro p e s m args below meth c s₁ B hml hv
  obtain ⟨ha, hsz, hP, hK, hD0, hN⟩ := hv
  have hx := B.exec
  have hb := B.bytes
  have hr := B.returns
  have hts := atoms_spec (ws := wsX0_colourOf) B.pre
  have hown : s.vm.findClass RX0 = some m.cls := findClass_of_methodNamed B.named
  have hlocks := B.notSynchronized
  subst hsz
  have hD := hD0.self (sz := s.heap.size)
  generalize hAe : va_A [(hT, .inr (0, [.int bd, .int sb, .int nd, .ref aS, .ref aC, .ref aG])), (aS, .inl (cI, 5, .inl S0)), (aC, .inl (cI, 5, .inl Cr)), (aG, .inl (cI, 5, .inl G0))] s.heap.size = A at hD ⊢
  have hA : ∀ q : Nat, s.heap.size ≤ q → A q := fun q h => by rw [← hAe]; exact Or.inr h
  have hS : va_S A s.heap s.heap [] := va_S.rf
  generalize hQ : MQ below (va_Qi (fun (r : Int32) (_ : Unit) => r = pFirst S0 z0) (fun u t => va_P (dC, dI) vwCl ((fun (_ : Unit) => [(hT, .inr (0, [.int bd, .int sb, .int nd, .ref aS, .ref aC, .ref aG])), (aS, .inl (cI, 5, .inl S0)), (aC, .inl (cI, 5, .inl Cr)), (aG, .inl (cI, 5, .inl G0))]) u) t.heap) A) args s 0 0 A = Q
  have F9 : CallFix p m c cX0_colourOf 2 s args wsX0_colourOf RX0 := ⟨hx, hb, hml, hown, hts⟩
  refine z_entry (R := rmX0_colourOf) ha (Nat.le_of_ble_eq_true rfl) (fun ls hl => ?_)
  have hl : lv_has ls 2 [(0, .ref hT), (1, .int z0)] := hl
  refine lv_iload_n hx hb dX0_colourOf_0 rfl (lv_at hl 1 rfl) ?_
  refine lv_aload_n hx hb dX0_colourOf_1 rfl (lv_at hl 0 rfl) ?_
  refine va_get (D := (dC, dI)) (ci := 0) (v := .ref aS) (C := RX0) (T := TX0) (N := 6) hx hb hts iX0_colourOf_X0 hown hK hP 0 rfl rfl 3 (by decide) (hts (.fieldLink RX0 15 "ColourTide$Tide" "sets" "[I") (List.mem_of_getElem? (i := 1) rfl)) (fun _ h9 => h9) rfl dX0_colourOf_2 ?_
  refine z_callSWi (As := [.int z0, .ref aS]) (rest := []) F9 (m_X0_firstColourWith l dC dI cI cZ cJ cD aS S0 z0 ) (va_cwS 2 hts gX0_colourOf_X0_firstColourWith rfl rfl rfl (by decide +kernel) ⟨Nat.le_of_ble_eq_true rfl, Nat.le_of_ble_eq_true rfl⟩) hK hN hP hD hS hA [1] rfl rfl (fun _ => rfl) rfl hl.1 rfl (Nat.le_of_ble_eq_true rfl) dX0_colourOf_5 ⟨Nat.zero_le _, Nat.zero_le _⟩ (fun r_1 u H locs hp_5 hP hD hS => ?_)
  have hP : va_P (dC, dI) vwCl [(hT, .inr (0, [.int bd, .int sb, .int nd, .ref aS, .ref aC, .ref aG])), (aS, .inl (cI, 5, .inl S0)), (aC, .inl (cI, 5, .inl Cr)), (aG, .inl (cI, 5, .inl G0))] H := hP
  have hD : va_D A [(hT, .inr (0, [.int bd, .int sb, .int nd, .ref aS, .ref aC, .ref aG])), (aS, .inl (cI, 5, .inl S0)), (aC, .inl (cI, 5, .inl Cr)), (aG, .inl (cI, 5, .inl G0))] := hD
  have hp_5 : r_1 = pFirst S0 z0 := hp_5
  refine z_topi (y := pFirst S0 z0) hp_5 ?_
  rw [← hQ]
  exact z_iret (W1 := (fun (_ : Unit) => [(hT, .inr (0, [.int bd, .int sb, .int nd, .ref aS, .ref aC, .ref aG])), (aS, .inl (cI, 5, .inl S0)), (aC, .inl (cI, 5, .inl Cr)), (aG, .inl (cI, 5, .inl G0))])) hx hb hr hlocks hP hS () (rfl) (rfl) dX0_colourOf_8
abbrev rmX0_dye : Room := { frames := 0, cells := 0, slots := 0, locals := 0 }
set_option maxRecDepth 20000 in
theorem iX0_dye_X0 : ∀ w ∈ wsX00, w ∈ wsX0_dye := fun w h => (goodIn_r (big := wsX0_dye) wsX00 [2, 3, 4, 5, 6, 7] (by decide +kernel) (by decide +kernel) w h).1
set_option maxHeartbeats 4000000 in
set_option maxRecDepth 100000 in
theorem m_X0_dye (l : Launch) (dC : Nat → ClassId) (dI : Nat → Nat → Nat) (cI cZ cJ cD : ClassId) (hT : Nat) (aS : Nat) (aC : Nat) (aG : Nat) (bd : Int32) (sb : Int32) (nd : Int32) (S0 : Nat → Int32) (Cr : Nat → Int32) (G0 : Nat → Int32) (z0 : Int32) (col : Int32)  : zV l (dC, dI) (wT cI cZ cJ cD) yX0_dye wsX0_dye rmX0_dye [(hT, .inr (0, [.int bd, .int sb, .int nd, .ref aS, .ref aC, .ref aG])), (aS, .inl (cI, 5, .inl S0)), (aC, .inl (cI, 5, .inl Cr)), (aG, .inl (cI, 5, .inl G0))] [.ref hT, .int z0, .int col] (fun (_ : Unit) => [(hT, .inr (0, [.int bd, .int sb, .int nd, .ref aS, .ref aC, .ref aG])), (aS, .inl (cI, 5, .inl (pDye S0 z0 col))), (aC, .inl (cI, 5, .inl Cr)), (aG, .inl (cI, 5, .inl G0))]) (fun (_ : Unit) => True) := by
  intro sz
  refine Met.ofW (cc := cX0_dye) (maxL := 4) (ret := none) (by decide) rfl ?_
  intro p e s m args below meth c s₁ B hml hv
  obtain ⟨ha, hsz, hP, hK, hD0, hN⟩ := hv
  have hx := B.exec
  have hb := B.bytes
  have hr := B.returns
  have hts := atoms_spec (ws := wsX0_dye) B.pre
  have hown : s.vm.findClass RX0 = some m.cls := findClass_of_methodNamed B.named
  have hlocks := B.notSynchronized
  subst hsz
  have hD := hD0.self (sz := s.heap.size)
  generalize hAe : va_A [(hT, .inr (0, [.int bd, .int sb, .int nd, .ref aS, .ref aC, .ref aG])), (aS, .inl (cI, 5, .inl S0)), (aC, .inl (cI, 5, .inl Cr)), (aG, .inl (cI, 5, .inl G0))] s.heap.size = A at hD ⊢
  have hA : ∀ q : Nat, s.heap.size ≤ q → A q := fun q h => by rw [← hAe]; exact Or.inr h
  have hS : va_S A s.heap s.heap [] := va_S.rf
  generalize hQ : MQ below (va_Qv (fun (_ : Unit) => True) (fun u t => va_P (dC, dI) vwCl ((fun (_ : Unit) => [(hT, .inr (0, [.int bd, .int sb, .int nd, .ref aS, .ref aC, .ref aG])), (aS, .inl (cI, 5, .inl (pDye S0 z0 col))), (aC, .inl (cI, 5, .inl Cr)), (aG, .inl (cI, 5, .inl G0))]) u) t.heap) A) args s 0 0 A = Q
  have F9 : CallFix p m c cX0_dye 4 s args wsX0_dye RX0 := ⟨hx, hb, hml, hown, hts⟩
  refine z_entry (R := rmX0_dye) ha (Nat.le_of_ble_eq_true rfl) (fun ls hl => ?_)
  have hl : lv_has ls 4 [(0, .ref hT), (1, .int z0), (2, .int col)] := hl
  refine lv_iconst (v := 0) hx hb dX0_dye_0 (by decide) ?_
  refine lv_istore_n (lv' := [(3, .int 0), (0, .ref hT), (1, .int z0), (2, .int col)]) hx hb dX0_dye_1 rfl hl (by decide) rfl (fun ls hl => ?_)
  have loop_2 : ∀ (n : Nat) (k : Nat) (hkn : k + n = 5) (H : Heap) (locs : List Loc) (ls : Array Slot) (hP : va_P (dC, dI) vwCl [(hT, .inr (0, [.int bd, .int sb, .int nd, .ref aS, .ref aC, .ref aG])), (aS, .inl (cI, 5, .inl (zfill (pDyeF S0 z0 col) S0 k))), (aC, .inl (cI, 5, .inl Cr)), (aG, .inl (cI, 5, .inl G0))] H) (hD : va_D A [(hT, .inr (0, [.int bd, .int sb, .int nd, .ref aS, .ref aC, .ref aG])), (aS, .inl (cI, 5, .inl (zfill (pDyeF S0 z0 col) S0 k))), (aC, .inl (cI, 5, .inl Cr)), (aG, .inl (cI, 5, .inl G0))]) (hS : va_S A s.heap H locs) (hl : lv_has ls 4 [(0, .ref hT), (1, .int z0), (2, .int col), (3, .int (nI k))]), W p l e rmX0_dye s m args below meth c H locs 0 0 Q (F0 m 2 ls []) := by
    intro n
    induction n with
    | zero =>
      intro k hkn  H locs ls hP hD hS hl
      refine lv_iload_n hx hb dX0_dye_2 rfl (lv_at hl 3 rfl) ?_
      refine lv_iconst (v := 5) hx hb dX0_dye_3 (by decide) ?_
      refine lv_icmp_ge (tgt := 45) hx hb dX0_dye_4 (by decide) (fun c_4 => ?_) (fun c_4 => ?_)
      · skip
        have n_4 := zc_le_t (a := 5) (b := k) (by omega) (by omega) c_4
        have hl9 := hl
        have hP9 := hP
        have hD9 := hD
        have hS9 := hS
        obtain rfl : k = 5 := by omega
        have hl := hl9
        have hP := hP9
        have hD := hD9
        have hS := hS9
        rw [← hQ]
        exact z_vret (W1 := (fun (_ : Unit) => [(hT, .inr (0, [.int bd, .int sb, .int nd, .ref aS, .ref aC, .ref aG])), (aS, .inl (cI, 5, .inl (pDye S0 z0 col))), (aC, .inl (cI, 5, .inl Cr)), (aG, .inl (cI, 5, .inl G0))])) hx hb hr hlocks hP hS () (rfl) (trivial) dX0_dye_45
      · skip
        have n_4 := zc_le_f (a := 5) (b := k) (by omega) (by omega) c_4
        exact absurd n_4 (by omega)
    | succ n ih_2 =>
      intro k hkn  H locs ls hP hD hS hl
      refine lv_iload_n hx hb dX0_dye_2 rfl (lv_at hl 3 rfl) ?_
      refine lv_iconst (v := 5) hx hb dX0_dye_3 (by decide) ?_
      refine lv_icmp_ge (tgt := 45) hx hb dX0_dye_4 (by decide) (fun c_4 => ?_) (fun c_4 => ?_)
      · skip
        have n_4 := zc_le_t (a := 5) (b := k) (by omega) (by omega) c_4
        exact absurd n_4 (by omega)
      · skip
        have n_4 := zc_le_f (a := 5) (b := k) (by omega) (by omega) c_4
        refine lv_aload_n hx hb dX0_dye_7 rfl (lv_at hl 0 rfl) ?_
        refine va_get (D := (dC, dI)) (ci := 0) (v := .ref aS) (C := RX0) (T := TX0) (N := 6) hx hb hts iX0_dye_X0 hown hK hP 0 rfl rfl 3 (by decide) (hts (.fieldLink RX0 15 "ColourTide$Tide" "sets" "[I") (List.mem_of_getElem? (i := 1) rfl)) (fun _ h9 => h9) rfl dX0_dye_8 ?_
        refine lv_iload_n hx hb dX0_dye_11 rfl (lv_at hl 3 rfl) ?_
        refine lv_iload_n hx hb dX0_dye_12 rfl (lv_at hl 3 rfl) ?_
        refine lv_iload_n hx hb dX0_dye_13 rfl (lv_at hl 2 rfl) ?_
        suffices j_38 : ∀ v_38 : Int32, v_38 = (if nI k = col then S0 k ||| z0 else S0 k &&& (z0 ^^^ (-1))) → W p l e rmX0_dye s m args below meth c H locs 0 0 Q (F0 m 38 ls [.int v_38, .int (nI k), .ref aS]) by
          refine lv_icmp_ne (tgt := 28) hx hb dX0_dye_14 (by decide) (fun c_14 => ?_) (fun c_14 => ?_)
          · skip
            refine lv_aload_n hx hb dX0_dye_28 rfl (lv_at hl 0 rfl) ?_
            refine va_get (D := (dC, dI)) (ci := 0) (v := .ref aS) (C := RX0) (T := TX0) (N := 6) hx hb hts iX0_dye_X0 hown hK hP 0 rfl rfl 3 (by decide) (hts (.fieldLink RX0 15 "ColourTide$Tide" "sets" "[I") (List.mem_of_getElem? (i := 1) rfl)) (fun _ h9 => h9) rfl dX0_dye_29 ?_
            refine lv_iload_n hx hb dX0_dye_32 rfl (lv_at hl 3 rfl) ?_
            refine z_iald hx hb hK hP 1 0 rfl rfl k (rfl) (by omega) (by decide) dX0_dye_33 ?_
            refine z_topi (y := S0 k) (zfill_at (Nat.le_refl _)) ?_
            refine lv_iload_n hx hb dX0_dye_34 rfl (lv_at hl 1 rfl) ?_
            refine lv_iconst (v := (-1)) hx hb dX0_dye_35 (by decide) ?_
            refine lv_ixor hx hb dX0_dye_36 ?_
            refine lv_iand hx hb dX0_dye_37 ?_
            exact j_38 _ (by rw [if_neg c_14])
          · skip
            refine lv_aload_n hx hb dX0_dye_17 rfl (lv_at hl 0 rfl) ?_
            refine va_get (D := (dC, dI)) (ci := 0) (v := .ref aS) (C := RX0) (T := TX0) (N := 6) hx hb hts iX0_dye_X0 hown hK hP 0 rfl rfl 3 (by decide) (hts (.fieldLink RX0 15 "ColourTide$Tide" "sets" "[I") (List.mem_of_getElem? (i := 1) rfl)) (fun _ h9 => h9) rfl dX0_dye_18 ?_
            refine lv_iload_n hx hb dX0_dye_21 rfl (lv_at hl 3 rfl) ?_
            refine z_iald hx hb hK hP 1 0 rfl rfl k (rfl) (by omega) (by decide) dX0_dye_22 ?_
            refine z_topi (y := S0 k) (zfill_at (Nat.le_refl _)) ?_
            refine lv_iload_n hx hb dX0_dye_23 rfl (lv_at hl 1 rfl) ?_
            refine lv_ior hx hb dX0_dye_24 ?_
            refine lv_goto (tgt := 38) hx hb dX0_dye_25 (by decide) ?_
            exact j_38 _ (by rw [if_pos c_14])
        intro v_38 h_v_38
        refine z_iast hx hb hK hP hD hS 1 0 rfl rfl k (rfl) (by omega) (by decide) dX0_dye_38 (fun H locs hP hD hS => ?_)
        have hP : va_P (dC, dI) vwCl [(hT, .inr (0, [.int bd, .int sb, .int nd, .ref aS, .ref aC, .ref aG])), (aS, .inl (cI, 5, .inl (upd (zfill (pDyeF S0 z0 col) S0 k) k v_38))), (aC, .inl (cI, 5, .inl Cr)), (aG, .inl (cI, 5, .inl G0))] H := hP
        have hD : va_D A [(hT, .inr (0, [.int bd, .int sb, .int nd, .ref aS, .ref aC, .ref aG])), (aS, .inl (cI, 5, .inl (upd (zfill (pDyeF S0 z0 col) S0 k) k v_38))), (aC, .inl (cI, 5, .inl Cr)), (aG, .inl (cI, 5, .inl G0))] := hD
        have e_38 : upd (zfill (pDyeF S0 z0 col) S0 k) k v_38 = zfill (pDyeF S0 z0 col) S0 (k + 1) := by rw [h_v_38]; exact zfill_succ _ _ _
        rw [e_38] at hP hD
        refine lv_iinc (v := nI (k + 1)) (lv' := [(3, .int (nI (k + 1))), (0, .ref hT), (1, .int z0), (2, .int col)]) hx hb dX0_dye_39 hl (k := 3) rfl (nI_1 k) (by decide) rfl (fun ls hl => ?_)
        refine lv_goto (tgt := 2) hx hb dX0_dye_42 (by decide) ?_
        exact ih_2 (k + 1) (by omega)  _ _ _ hP hD hS (lv_sub hl [1, 2, 3, 0] rfl)
  rw [← zfill_0 (pDyeF S0 z0 col) S0] at hP hD
  exact loop_2 5 0 (by omega)  _ _ _ hP hD hS (lv_sub hl [1, 2, 3, 0] rfl)
end
section
abbrev rmX0_countPairs : Room := { frames := 1, cells := 0, slots := 0, locals := 20 }
set_option maxHeartbeats 4000000 in
set_option maxRecDepth 100000 in
theorem m_X0_countPairs (l : Launch) (dC : Nat → ClassId) (dI : Nat → Nat → Nat) (cI cZ cJ cD : ClassId) (z0 : Int32)  : zI l (dC, dI) (wT cI cZ cJ cD) yX0_countPairs wsX0_countPairs rmX0_countPairs [] [.int z0] (fun (_ : Unit) => []) (fun (r : Int32) (_ : Unit) => r = pPairs z0) := by
  intro sz
  refine Met.ofW (cc := cX0_countPairs) (maxL := 1) (ret := (some .int)) (by decide) rfl ?_
  intro p e s m args below meth c s₁ B hml hv
  obtain ⟨ha, hsz, hP, hK, hD0, hN⟩ := hv
  have hx := B.exec
  have hb := B.bytes
  have hr := B.returns
  have hts := atoms_spec (ws := wsX0_countPairs) B.pre
  have hown : s.vm.findClass RX0 = some m.cls := findClass_of_methodNamed B.named
  have hlocks := B.notSynchronized
  subst hsz
  have hD := hD0.self (sz := s.heap.size)
  generalize hAe : va_A [] s.heap.size = A at hD ⊢
  have hA : ∀ q : Nat, s.heap.size ≤ q → A q := fun q h => by rw [← hAe]; exact Or.inr h
  have hS : va_S A s.heap s.heap [] := va_S.rf
  generalize hQ : MQ below (va_Qi (fun (r : Int32) (_ : Unit) => r = pPairs z0) (fun u t => va_P (dC, dI) vwCl ((fun (_ : Unit) => []) u) t.heap) A) args s 0 0 A = Q
  have F9 : CallFix p m c cX0_countPairs 1 s args wsX0_countPairs RX0 := ⟨hx, hb, hml, hown, hts⟩
  refine z_entry (R := rmX0_countPairs) ha (Nat.le_of_ble_eq_true rfl) (fun ls hl => ?_)
  have hl : lv_has ls 1 [(0, .int z0)] := hl
  refine lv_iload_n hx hb dX0_countPairs_0 rfl (lv_at hl 0 rfl) ?_
  refine lv_iload_n hx hb dX0_countPairs_1 rfl (lv_at hl 0 rfl) ?_
  refine lv_iconst (v := 1) hx hb dX0_countPairs_2 (by decide) ?_
  refine lv_ishl hx hb dX0_countPairs_3 ?_
  refine lv_iand hx hb dX0_countPairs_4 ?_
  refine z_callSi (As := [.int (z0 &&& (z0 <<< (1 &&& 31)))]) (rest := []) F9 (m_J6_bitCount_0f7a4 l dC dI cI cZ cJ cD (z0 &&& (z0 <<< (1 &&& 31))) ) (va_cwS 1 hts gX0_countPairs_J6_bitCount_0f7a4 rfl rfl rfl (by decide +kernel) ⟨Nat.le_of_ble_eq_true rfl, Nat.le_of_ble_eq_true rfl⟩) hK hN hP hD hS hA rfl hl.1 rfl (Nat.le_of_ble_eq_true rfl) dX0_countPairs_5 ⟨Nat.zero_le _, Nat.zero_le _⟩ (fun r_1 H locs hp_5 hP hS => ?_)
  have hp_5 : r_1 = pBC (z0 &&& (z0 <<< (1 &&& 31))) := hp_5
  refine z_topi (y := pBC (z0 &&& (z0 <<< (1 &&& 31)))) hp_5 ?_
  refine lv_iload_n hx hb dX0_countPairs_8 rfl (lv_at hl 0 rfl) ?_
  refine lv_iload_n hx hb dX0_countPairs_9 rfl (lv_at hl 0 rfl) ?_
  refine lv_bipush (v := 6) hx hb dX0_countPairs_10 (by decide +kernel) ?_
  refine lv_ishl hx hb dX0_countPairs_12 ?_
  refine lv_iand hx hb dX0_countPairs_13 ?_
  refine z_callSi (As := [.int (z0 &&& (z0 <<< (6 &&& 31)))]) (rest := [.int (pBC (z0 &&& (z0 <<< (1 &&& 31))))]) F9 (m_J6_bitCount_0f7a4 l dC dI cI cZ cJ cD (z0 &&& (z0 <<< (6 &&& 31))) ) (va_cwS 1 hts gX0_countPairs_J6_bitCount_0f7a4 rfl rfl rfl (by decide +kernel) ⟨Nat.le_of_ble_eq_true rfl, Nat.le_of_ble_eq_true rfl⟩) hK hN hP hD hS hA rfl hl.1 rfl (Nat.le_of_ble_eq_true rfl) dX0_countPairs_14 ⟨Nat.zero_le _, Nat.zero_le _⟩ (fun r_2 H locs hp_14 hP hS => ?_)
  have hp_14 : r_2 = pBC (z0 &&& (z0 <<< (6 &&& 31))) := hp_14
  refine z_topi (y := pBC (z0 &&& (z0 <<< (6 &&& 31)))) hp_14 ?_
  refine lv_iadd hx hb dX0_countPairs_17 ?_
  rw [← hQ]
  exact z_iret (W1 := (fun (_ : Unit) => [])) hx hb hr hlocks hP hS () (rfl) (rfl) dX0_countPairs_18
abbrev rmX0_regionFrom : Room := { frames := 1, cells := 0, slots := 0, locals := 20 }
set_option maxHeartbeats 4000000 in
set_option maxRecDepth 100000 in
theorem m_X0_regionFrom (l : Launch) (dC : Nat → ClassId) (dI : Nat → Nat → Nat) (cI cZ cJ cD : ClassId) (z0 : Int32) (cl0 : Int32)  : zI l (dC, dI) (wT cI cZ cJ cD) yX0_regionFrom wsX0_regionFrom rmX0_regionFrom [] [.int z0, .int cl0] (fun (_ : Unit) => []) (fun (r : Int32) (_ : Unit) => r = pRF cl0 25 z0) := by
  intro sz
  refine Met.ofW (cc := cX0_regionFrom) (maxL := 5) (ret := (some .int)) (by decide) rfl ?_
  intro p e s m args below meth c s₁ B hml hv
  obtain ⟨ha, hsz, hP, hK, hD0, hN⟩ := hv
  have hx := B.exec
  have hb := B.bytes
  have hr := B.returns
  have hts := atoms_spec (ws := wsX0_regionFrom) B.pre
  have hown : s.vm.findClass RX0 = some m.cls := findClass_of_methodNamed B.named
  have hlocks := B.notSynchronized
  subst hsz
  have hD := hD0.self (sz := s.heap.size)
  generalize hAe : va_A [] s.heap.size = A at hD ⊢
  have hA : ∀ q : Nat, s.heap.size ≤ q → A q := fun q h => by rw [← hAe]; exact Or.inr h
  have hS : va_S A s.heap s.heap [] := va_S.rf
  generalize hQ : MQ below (va_Qi (fun (r : Int32) (_ : Unit) => r = pRF cl0 25 z0) (fun u t => va_P (dC, dI) vwCl ((fun (_ : Unit) => []) u) t.heap) A) args s 0 0 A = Q
  have F9 : CallFix p m c cX0_regionFrom 5 s args wsX0_regionFrom RX0 := ⟨hx, hb, hml, hown, hts⟩
  refine z_entry (R := rmX0_regionFrom) ha (Nat.le_of_ble_eq_true rfl) (fun ls hl => ?_)
  have hl : lv_has ls 5 [(0, .int z0), (1, .int cl0)] := hl
  refine lv_iload_n hx hb dX0_regionFrom_0 rfl (lv_at hl 0 rfl) ?_
  refine lv_istore_n (lv' := [(2, .int z0), (0, .int z0), (1, .int cl0)]) hx hb dX0_regionFrom_1 rfl hl (by decide) rfl (fun ls hl => ?_)
  refine lv_iconst (v := 0) hx hb dX0_regionFrom_2 (by decide) ?_
  refine lv_istore_n (lv' := [(3, .int 0), (2, .int z0), (0, .int z0), (1, .int cl0)]) hx hb dX0_regionFrom_3 rfl hl (by decide) rfl (fun ls hl => ?_)
  have loop_4 : ∀ (n : Nat) (k : Nat) (rg : Int32) (hkn : k + n = 25) (hh : pRF cl0 (25 - k) rg = pRF cl0 25 z0) (H : Heap) (locs : List Loc) (ls : Array Slot) (hP : va_P (dC, dI) vwCl [] H) (hD : va_D A []) (hS : va_S A s.heap H locs) (hl : lv_has ls 5 [(0, .int z0), (1, .int cl0), (2, .int rg), (3, .int (nI k))]), W p l e rmX0_regionFrom s m args below meth c H locs 0 0 Q (F0 m 4 ls []) := by
    intro n
    induction n with
    | zero =>
      intro k rg hkn hh H locs ls hP hD hS hl
      refine lv_iload_n hx hb dX0_regionFrom_4 rfl (lv_at hl 3 rfl) ?_
      refine lv_bipush (v := 25) hx hb dX0_regionFrom_5 (by decide +kernel) ?_
      refine lv_icmp_ge (tgt := 37) hx hb dX0_regionFrom_7 (by decide) (fun c_7 => ?_) (fun c_7 => ?_)
      · skip
        have n_7 := zc_le_t (a := 25) (b := k) (by omega) (by omega) c_7
        refine lv_iload_n hx hb dX0_regionFrom_37 rfl (lv_at hl 2 rfl) ?_
        have hl9 := hl
        have hP9 := hP
        have hD9 := hD
        have hS9 := hS
        obtain rfl : k = 25 := by omega
        have hl := hl9
        have hP := hP9
        have hD := hD9
        have hS := hS9
        rw [← hQ]
        exact z_iret (W1 := (fun (_ : Unit) => [])) hx hb hr hlocks hP hS () (rfl) (hh) dX0_regionFrom_38
      · skip
        have n_7 := zc_le_f (a := 25) (b := k) (by omega) (by omega) c_7
        exact absurd n_7 (by omega)
    | succ n ih_4 =>
      intro k rg hkn hh H locs ls hP hD hS hl
      refine lv_iload_n hx hb dX0_regionFrom_4 rfl (lv_at hl 3 rfl) ?_
      refine lv_bipush (v := 25) hx hb dX0_regionFrom_5 (by decide +kernel) ?_
      refine lv_icmp_ge (tgt := 37) hx hb dX0_regionFrom_7 (by decide) (fun c_7 => ?_) (fun c_7 => ?_)
      · skip
        have n_7 := zc_le_t (a := 25) (b := k) (by omega) (by omega) c_7
        exact absurd n_7 (by omega)
      · skip
        have n_7 := zc_le_f (a := 25) (b := k) (by omega) (by omega) c_7
        refine lv_iload_n hx hb dX0_regionFrom_10 rfl (lv_at hl 2 rfl) ?_
        refine lv_iload_n hx hb dX0_regionFrom_11 rfl (lv_at hl 2 rfl) ?_
        refine z_callNi (As := [.int rg]) (rest := [.int rg]) (host := RX1) F9 (m_X1_nextTo l dC dI cI cZ cJ cD rg ) ⟨va_cnB 1 hts gX0_regionFrom_X1_nextTo_n76 rfl rfl rfl hN.2 (hts (.initialized RX1) (List.mem_of_getElem? (i := 2) rfl)) (by decide +kernel) ⟨Nat.le_of_ble_eq_true rfl, Nat.le_of_ble_eq_true rfl⟩, (hts (.static yX1_nextTo) (List.mem_of_getElem? (i := 1) rfl)), trivial⟩ hK hN hP hD hS hA rfl hl.1 rfl (Nat.le_of_ble_eq_true rfl) dX0_regionFrom_12 ⟨Nat.zero_le _, Nat.zero_le _⟩ (fun r_1 H locs hp_12 hP hS => ?_)
        have hp_12 : r_1 = pNext rg := hp_12
        refine z_topi (y := pNext rg) hp_12 ?_
        refine lv_iload_n hx hb dX0_regionFrom_15 rfl (lv_at hl 1 rfl) ?_
        refine lv_iand hx hb dX0_regionFrom_16 ?_
        refine lv_ior hx hb dX0_regionFrom_17 ?_
        refine lv_istore (lv' := [(4, .int (rg ||| ((pNext rg) &&& cl0))), (0, .int z0), (1, .int cl0), (2, .int rg), (3, .int (nI k))]) hx hb dX0_regionFrom_18 hl (by decide) rfl (fun ls hl => ?_)
        refine lv_iload hx hb dX0_regionFrom_20 (lv_at hl 0 rfl) ?_
        refine lv_iload_n hx hb dX0_regionFrom_22 rfl (lv_at hl 3 rfl) ?_
        refine lv_icmp_ne (tgt := 28) hx hb dX0_regionFrom_23 (by decide) (fun c_23 => ?_) (fun c_23 => ?_)
        · skip
          refine lv_iload hx hb dX0_regionFrom_28 (lv_at hl 0 rfl) ?_
          refine lv_istore_n (lv' := [(2, .int (rg ||| ((pNext rg) &&& cl0))), (4, .int (rg ||| ((pNext rg) &&& cl0))), (0, .int z0), (1, .int cl0), (3, .int (nI k))]) hx hb dX0_regionFrom_30 rfl hl (by decide) rfl (fun ls hl => ?_)
          refine lv_iinc (v := nI (k + 1)) (lv' := [(3, .int (nI (k + 1))), (2, .int (rg ||| ((pNext rg) &&& cl0))), (4, .int (rg ||| ((pNext rg) &&& cl0))), (0, .int z0), (1, .int cl0)]) hx hb dX0_regionFrom_31 hl (k := 4) rfl (nI_1 k) (by decide) rfl (fun ls hl => ?_)
          refine lv_goto (tgt := 4) hx hb dX0_regionFrom_34 (by decide) ?_
          exact ih_4 (k + 1) (rg ||| (pNext rg &&& cl0)) (by omega) (by rw [← hh, show 25 - k = (25 - (k + 1)) + 1 by omega, pRF, if_neg c_23]) _ _ _ hP hD hS (lv_sub hl [3, 4, 1, 0] rfl)
        · skip
          refine lv_iload_n hx hb dX0_regionFrom_26 rfl (lv_at hl 3 rfl) ?_
          rw [← hQ]
          exact z_iret (W1 := (fun (_ : Unit) => [])) hx hb hr hlocks hP hS () (rfl) (by rw [← hh, show 25 - k = (25 - (k + 1)) + 1 by omega, pRF, if_pos c_23]) dX0_regionFrom_27
  exact loop_4 25 0 z0 (by omega) (rfl) _ _ _ hP hD hS (lv_sub hl [2, 3, 1, 0] rfl)
abbrev rmX0_sizeOfRegion : Room := { frames := 2, cells := 0, slots := 0, locals := 44 }
set_option maxRecDepth 20000 in
theorem iX0_sizeOfRegion_X0 : ∀ w ∈ wsX00, w ∈ wsX0_sizeOfRegion := fun w h => (goodIn_r (big := wsX0_sizeOfRegion) wsX00 [27, 28, 29, 30, 31, 32] (by decide +kernel) (by decide +kernel) w h).1
set_option maxHeartbeats 4000000 in
set_option maxRecDepth 100000 in
theorem m_X0_sizeOfRegion (l : Launch) (dC : Nat → ClassId) (dI : Nat → Nat → Nat) (cI cZ cJ cD : ClassId) (hT : Nat) (aS : Nat) (aC : Nat) (aG : Nat) (bd : Int32) (sb : Int32) (nd : Int32) (S0 : Nat → Int32) (Cr : Nat → Int32) (G0 : Nat → Int32) (z0 : Int32)  : zI l (dC, dI) (wT cI cZ cJ cD) yX0_sizeOfRegion wsX0_sizeOfRegion rmX0_sizeOfRegion [(hT, .inr (0, [.int bd, .int sb, .int nd, .ref aS, .ref aC, .ref aG])), (aS, .inl (cI, 5, .inl S0)), (aC, .inl (cI, 5, .inl Cr)), (aG, .inl (cI, 5, .inl G0))] [.ref hT, .int z0] (fun (_ : Unit) => [(hT, .inr (0, [.int bd, .int sb, .int nd, .ref aS, .ref aC, .ref aG])), (aS, .inl (cI, 5, .inl S0)), (aC, .inl (cI, 5, .inl Cr)), (aG, .inl (cI, 5, .inl G0))]) (fun (r : Int32) (_ : Unit) => r = pSoR S0 z0) := by
  intro sz
  refine Met.ofW (cc := cX0_sizeOfRegion) (maxL := 3) (ret := (some .int)) (by decide) rfl ?_
  intro p e s m args below meth c s₁ B hml hv
  obtain ⟨ha, hsz, hP, hK, hD0, hN⟩ := hv
  have hx := B.exec
  have hb := B.bytes
  have hr := B.returns
  have hts := atoms_spec (ws := wsX0_sizeOfRegion) B.pre
  have hown : s.vm.findClass RX0 = some m.cls := findClass_of_methodNamed B.named
  have hlocks := B.notSynchronized
  subst hsz
  have hD := hD0.self (sz := s.heap.size)
  generalize hAe : va_A [(hT, .inr (0, [.int bd, .int sb, .int nd, .ref aS, .ref aC, .ref aG])), (aS, .inl (cI, 5, .inl S0)), (aC, .inl (cI, 5, .inl Cr)), (aG, .inl (cI, 5, .inl G0))] s.heap.size = A at hD ⊢
  have hA : ∀ q : Nat, s.heap.size ≤ q → A q := fun q h => by rw [← hAe]; exact Or.inr h
  have hS : va_S A s.heap s.heap [] := va_S.rf
  generalize hQ : MQ below (va_Qi (fun (r : Int32) (_ : Unit) => r = pSoR S0 z0) (fun u t => va_P (dC, dI) vwCl ((fun (_ : Unit) => [(hT, .inr (0, [.int bd, .int sb, .int nd, .ref aS, .ref aC, .ref aG])), (aS, .inl (cI, 5, .inl S0)), (aC, .inl (cI, 5, .inl Cr)), (aG, .inl (cI, 5, .inl G0))]) u) t.heap) A) args s 0 0 A = Q
  have F9 : CallFix p m c cX0_sizeOfRegion 3 s args wsX0_sizeOfRegion RX0 := ⟨hx, hb, hml, hown, hts⟩
  refine z_entry (R := rmX0_sizeOfRegion) ha (Nat.le_of_ble_eq_true rfl) (fun ls hl => ?_)
  have hl : lv_has ls 3 [(0, .ref hT), (1, .int z0)] := hl
  refine lv_aload_n hx hb dX0_sizeOfRegion_0 rfl (lv_at hl 0 rfl) ?_
  refine lv_iload_n hx hb dX0_sizeOfRegion_1 rfl (lv_at hl 1 rfl) ?_
  refine z_callVi (As := [.int z0]) (rest := []) F9 (m_X0_colourOf l dC dI cI cZ cJ cD hT aS aC aG bd sb nd S0 Cr G0 z0 ) (cwV 1 hts gX0_sizeOfRegion_X0_colourOf rfl rfl rfl (by decide +kernel) ⟨Nat.le_of_ble_eq_true rfl, Nat.le_of_ble_eq_true rfl⟩) hK hN hP hD hS hA [0, 1, 2, 3] rfl rfl (fun _ => rfl) 0 (ci := 0) rfl rfl rfl rfl hl.1 rfl (Nat.le_of_ble_eq_true rfl) dX0_sizeOfRegion_2 ⟨Nat.zero_le _, Nat.zero_le _⟩ (fun r_1 u H locs hp_2 hP hD hS => ?_)
  have hP : va_P (dC, dI) vwCl [(hT, .inr (0, [.int bd, .int sb, .int nd, .ref aS, .ref aC, .ref aG])), (aS, .inl (cI, 5, .inl S0)), (aC, .inl (cI, 5, .inl Cr)), (aG, .inl (cI, 5, .inl G0))] H := hP
  have hD : va_D A [(hT, .inr (0, [.int bd, .int sb, .int nd, .ref aS, .ref aC, .ref aG])), (aS, .inl (cI, 5, .inl S0)), (aC, .inl (cI, 5, .inl Cr)), (aG, .inl (cI, 5, .inl G0))] := hD
  have hp_2 : r_1 = pFirst S0 z0 := hp_2
  refine z_topi (y := pFirst S0 z0) hp_2 ?_
  refine lv_istore_n (lv' := [(2, .int (pFirst S0 z0)), (0, .ref hT), (1, .int z0)]) hx hb dX0_sizeOfRegion_5 rfl hl (by decide) rfl (fun ls hl => ?_)
  refine lv_iload_n hx hb dX0_sizeOfRegion_6 rfl (lv_at hl 0 rfl) ?_
  refine lv_if_ne (tgt := 14) hx hb dX0_sizeOfRegion_7 (by decide) (fun c_7 => ?_) (fun c_7 => ?_)
  · skip
    refine lv_iload_n hx hb dX0_sizeOfRegion_14 rfl (lv_at hl 2 rfl) ?_
    refine lv_aload_n hx hb dX0_sizeOfRegion_15 rfl (lv_at hl 1 rfl) ?_
    refine lv_iload_n hx hb dX0_sizeOfRegion_16 rfl (lv_at hl 0 rfl) ?_
    refine z_callVi (As := [.int (pFirst S0 z0)]) (rest := [.int z0]) F9 (m_X0_cellsWith l dC dI cI cZ cJ cD hT aS aC aG bd sb nd S0 Cr G0 (pFirst S0 z0) ) (cwV 1 hts gX0_sizeOfRegion_X0_cellsWith rfl rfl rfl (by decide +kernel) ⟨Nat.le_of_ble_eq_true rfl, Nat.le_of_ble_eq_true rfl⟩) hK hN hP hD hS hA [0, 1, 2, 3] rfl rfl (fun _ => rfl) 0 (ci := 0) rfl rfl rfl rfl hl.1 rfl (Nat.le_of_ble_eq_true rfl) dX0_sizeOfRegion_17 ⟨Nat.zero_le _, Nat.zero_le _⟩ (fun r_2 u H locs hp_17 hP hD hS => ?_)
    have hP : va_P (dC, dI) vwCl [(hT, .inr (0, [.int bd, .int sb, .int nd, .ref aS, .ref aC, .ref aG])), (aS, .inl (cI, 5, .inl S0)), (aC, .inl (cI, 5, .inl Cr)), (aG, .inl (cI, 5, .inl G0))] H := hP
    have hD : va_D A [(hT, .inr (0, [.int bd, .int sb, .int nd, .ref aS, .ref aC, .ref aG])), (aS, .inl (cI, 5, .inl S0)), (aC, .inl (cI, 5, .inl Cr)), (aG, .inl (cI, 5, .inl G0))] := hD
    have hp_17 : r_2 = pCW S0 (pFirst S0 z0) := hp_17
    refine z_topi (y := pCW S0 (pFirst S0 z0)) hp_17 ?_
    refine z_callSi (As := [.int z0, .int (pCW S0 (pFirst S0 z0))]) (rest := []) F9 (m_X0_regionFrom l dC dI cI cZ cJ cD z0 (pCW S0 (pFirst S0 z0)) ) (va_cwS 2 hts gX0_sizeOfRegion_X0_regionFrom rfl rfl rfl (by decide +kernel) ⟨Nat.le_of_ble_eq_true rfl, Nat.le_of_ble_eq_true rfl⟩) hK hN hP hD hS hA rfl hl.1 rfl (Nat.le_of_ble_eq_true rfl) dX0_sizeOfRegion_20 ⟨Nat.zero_le _, Nat.zero_le _⟩ (fun r_3 H locs hp_20 hP hS => ?_)
    have hp_20 : r_3 = pRF (pCW S0 (pFirst S0 z0)) 25 z0 := hp_20
    refine z_topi (y := pRF (pCW S0 (pFirst S0 z0)) 25 z0) hp_20 ?_
    refine z_callSi (As := [.int (pRF (pCW S0 (pFirst S0 z0)) 25 z0)]) (rest := []) F9 (m_J6_bitCount_0f7a4 l dC dI cI cZ cJ cD (pRF (pCW S0 (pFirst S0 z0)) 25 z0) ) (va_cwS 1 hts gX0_sizeOfRegion_J6_bitCount_0f7a4 rfl rfl rfl (by decide +kernel) ⟨Nat.le_of_ble_eq_true rfl, Nat.le_of_ble_eq_true rfl⟩) hK hN hP hD hS hA rfl hl.1 rfl (Nat.le_of_ble_eq_true rfl) dX0_sizeOfRegion_23 ⟨Nat.zero_le _, Nat.zero_le _⟩ (fun r_4 H locs hp_23 hP hS => ?_)
    have hp_23 : r_4 = pBC (pRF (pCW S0 (pFirst S0 z0)) 25 z0) := hp_23
    refine z_topi (y := pBC (pRF (pCW S0 (pFirst S0 z0)) 25 z0)) hp_23 ?_
    rw [← hQ]
    exact z_iret (W1 := (fun (_ : Unit) => [(hT, .inr (0, [.int bd, .int sb, .int nd, .ref aS, .ref aC, .ref aG])), (aS, .inl (cI, 5, .inl S0)), (aC, .inl (cI, 5, .inl Cr)), (aG, .inl (cI, 5, .inl G0))])) hx hb hr hlocks hP hS () (rfl) (by unfold pSoR; simp [c_7]) dX0_sizeOfRegion_26
  · skip
    refine lv_iconst (v := 0) hx hb dX0_sizeOfRegion_10 (by decide) ?_
    refine lv_goto (tgt := 26) hx hb dX0_sizeOfRegion_11 (by decide) ?_
    rw [← hQ]
    exact z_iret (W1 := (fun (_ : Unit) => [(hT, .inr (0, [.int bd, .int sb, .int nd, .ref aS, .ref aC, .ref aG])), (aS, .inl (cI, 5, .inl S0)), (aC, .inl (cI, 5, .inl Cr)), (aG, .inl (cI, 5, .inl G0))])) hx hb hr hlocks hP hS () (rfl) (by unfold pSoR; simp [c_7]) dX0_sizeOfRegion_26
abbrev rmX0_countRegions : Room := { frames := 2, cells := 0, slots := 0, locals := 44 }
set_option maxRecDepth 20000 in
theorem iX0_countRegions_X0 : ∀ w ∈ wsX00, w ∈ wsX0_countRegions := fun w h => (goodIn_r (big := wsX0_countRegions) wsX00 [13, 14, 15, 16, 17, 18] (by decide +kernel) (by decide +kernel) w h).1
set_option maxHeartbeats 4000000 in
set_option maxRecDepth 100000 in
theorem m_X0_countRegions (l : Launch) (dC : Nat → ClassId) (dI : Nat → Nat → Nat) (cI cZ cJ cD : ClassId) (hT : Nat) (aS : Nat) (aC : Nat) (aG : Nat) (bd : Int32) (sb : Int32) (nd : Int32) (S0 : Nat → Int32) (Cr : Nat → Int32) (G0 : Nat → Int32) (col : Int32)  : zI l (dC, dI) (wT cI cZ cJ cD) yX0_countRegions wsX0_countRegions rmX0_countRegions [(hT, .inr (0, [.int bd, .int sb, .int nd, .ref aS, .ref aC, .ref aG])), (aS, .inl (cI, 5, .inl S0)), (aC, .inl (cI, 5, .inl Cr)), (aG, .inl (cI, 5, .inl G0))] [.ref hT, .int col] (fun (_ : Unit) => [(hT, .inr (0, [.int bd, .int sb, .int nd, .ref aS, .ref aC, .ref aG])), (aS, .inl (cI, 5, .inl S0)), (aC, .inl (cI, 5, .inl Cr)), (aG, .inl (cI, 5, .inl G0))]) (fun (r : Int32) (_ : Unit) => r = nI (pCR 25 (pCW S0 col) 0)) := by
  intro sz
  refine Met.ofW (cc := cX0_countRegions) (maxL := 5) (ret := (some .int)) (by decide) rfl ?_
  intro p e s m args below meth c s₁ B hml hv
  obtain ⟨ha, hsz, hP, hK, hD0, hN⟩ := hv
  have hx := B.exec
  have hb := B.bytes
  have hr := B.returns
  have hts := atoms_spec (ws := wsX0_countRegions) B.pre
  have hown : s.vm.findClass RX0 = some m.cls := findClass_of_methodNamed B.named
  have hlocks := B.notSynchronized
  subst hsz
  have hD := hD0.self (sz := s.heap.size)
  generalize hAe : va_A [(hT, .inr (0, [.int bd, .int sb, .int nd, .ref aS, .ref aC, .ref aG])), (aS, .inl (cI, 5, .inl S0)), (aC, .inl (cI, 5, .inl Cr)), (aG, .inl (cI, 5, .inl G0))] s.heap.size = A at hD ⊢
  have hA : ∀ q : Nat, s.heap.size ≤ q → A q := fun q h => by rw [← hAe]; exact Or.inr h
  have hS : va_S A s.heap s.heap [] := va_S.rf
  generalize hQ : MQ below (va_Qi (fun (r : Int32) (_ : Unit) => r = nI (pCR 25 (pCW S0 col) 0)) (fun u t => va_P (dC, dI) vwCl ((fun (_ : Unit) => [(hT, .inr (0, [.int bd, .int sb, .int nd, .ref aS, .ref aC, .ref aG])), (aS, .inl (cI, 5, .inl S0)), (aC, .inl (cI, 5, .inl Cr)), (aG, .inl (cI, 5, .inl G0))]) u) t.heap) A) args s 0 0 A = Q
  have F9 : CallFix p m c cX0_countRegions 5 s args wsX0_countRegions RX0 := ⟨hx, hb, hml, hown, hts⟩
  refine z_entry (R := rmX0_countRegions) ha (Nat.le_of_ble_eq_true rfl) (fun ls hl => ?_)
  have hl : lv_has ls 5 [(0, .ref hT), (1, .int col)] := hl
  refine lv_aload_n hx hb dX0_countRegions_0 rfl (lv_at hl 0 rfl) ?_
  refine lv_iload_n hx hb dX0_countRegions_1 rfl (lv_at hl 1 rfl) ?_
  refine z_callVi (As := [.int col]) (rest := []) F9 (m_X0_cellsWith l dC dI cI cZ cJ cD hT aS aC aG bd sb nd S0 Cr G0 col ) (cwV 1 hts gX0_countRegions_X0_cellsWith rfl rfl rfl (by decide +kernel) ⟨Nat.le_of_ble_eq_true rfl, Nat.le_of_ble_eq_true rfl⟩) hK hN hP hD hS hA [0, 1, 2, 3] rfl rfl (fun _ => rfl) 0 (ci := 0) rfl rfl rfl rfl hl.1 rfl (Nat.le_of_ble_eq_true rfl) dX0_countRegions_2 ⟨Nat.zero_le _, Nat.zero_le _⟩ (fun r_1 u H locs hp_2 hP hD hS => ?_)
  have hP : va_P (dC, dI) vwCl [(hT, .inr (0, [.int bd, .int sb, .int nd, .ref aS, .ref aC, .ref aG])), (aS, .inl (cI, 5, .inl S0)), (aC, .inl (cI, 5, .inl Cr)), (aG, .inl (cI, 5, .inl G0))] H := hP
  have hD : va_D A [(hT, .inr (0, [.int bd, .int sb, .int nd, .ref aS, .ref aC, .ref aG])), (aS, .inl (cI, 5, .inl S0)), (aC, .inl (cI, 5, .inl Cr)), (aG, .inl (cI, 5, .inl G0))] := hD
  have hp_2 : r_1 = pCW S0 col := hp_2
  refine z_topi (y := pCW S0 col) hp_2 ?_
  refine lv_istore_n (lv' := [(2, .int (pCW S0 col)), (0, .ref hT), (1, .int col)]) hx hb dX0_countRegions_5 rfl hl (by decide) rfl (fun ls hl => ?_)
  refine lv_iconst (v := 0) hx hb dX0_countRegions_6 (by decide) ?_
  refine lv_istore_n (lv' := [(3, .int 0), (2, .int (pCW S0 col)), (0, .ref hT), (1, .int col)]) hx hb dX0_countRegions_7 rfl hl (by decide) rfl (fun ls hl => ?_)
  refine lv_iconst (v := 0) hx hb dX0_countRegions_8 (by decide) ?_
  refine lv_istore (lv' := [(4, .int 0), (3, .int 0), (2, .int (pCW S0 col)), (0, .ref hT), (1, .int col)]) hx hb dX0_countRegions_9 hl (by decide) rfl (fun ls hl => ?_)
  have loop_11 : ∀ (n : Nat) (k : Nat) (lf : Int32) (rn : Nat) (hkn : k + n = 25) (hh : pCR (25 - k) lf rn = pCR 25 (pCW S0 col) 0) (H : Heap) (locs : List Loc) (ls : Array Slot) (hP : va_P (dC, dI) vwCl [(hT, .inr (0, [.int bd, .int sb, .int nd, .ref aS, .ref aC, .ref aG])), (aS, .inl (cI, 5, .inl S0)), (aC, .inl (cI, 5, .inl Cr)), (aG, .inl (cI, 5, .inl G0))] H) (hD : va_D A [(hT, .inr (0, [.int bd, .int sb, .int nd, .ref aS, .ref aC, .ref aG])), (aS, .inl (cI, 5, .inl S0)), (aC, .inl (cI, 5, .inl Cr)), (aG, .inl (cI, 5, .inl G0))]) (hS : va_S A s.heap H locs) (hl : lv_has ls 5 [(0, .ref hT), (1, .int col), (2, .int lf), (3, .int (nI rn)), (4, .int (nI k))]), W p l e rmX0_countRegions s m args below meth c H locs 0 0 Q (F0 m 11 ls []) := by
    intro n
    induction n with
    | zero =>
      intro k lf rn hkn hh H locs ls hP hD hS hl
      refine lv_iload hx hb dX0_countRegions_11 (lv_at hl 4 rfl) ?_
      refine lv_bipush (v := 25) hx hb dX0_countRegions_13 (by decide +kernel) ?_
      refine lv_icmp_ge (tgt := 44) hx hb dX0_countRegions_15 (by decide) (fun c_15 => ?_) (fun c_15 => ?_)
      · skip
        have n_15 := zc_le_t (a := 25) (b := k) (by omega) (by omega) c_15
        refine lv_iload_n hx hb dX0_countRegions_44 rfl (lv_at hl 3 rfl) ?_
        have hl9 := hl
        have hP9 := hP
        have hD9 := hD
        have hS9 := hS
        obtain rfl : k = 25 := by omega
        have hl := hl9
        have hP := hP9
        have hD := hD9
        have hS := hS9
        rw [← hQ]
        exact z_iret (W1 := (fun (_ : Unit) => [(hT, .inr (0, [.int bd, .int sb, .int nd, .ref aS, .ref aC, .ref aG])), (aS, .inl (cI, 5, .inl S0)), (aC, .inl (cI, 5, .inl Cr)), (aG, .inl (cI, 5, .inl G0))])) hx hb hr hlocks hP hS () (rfl) (by rw [← hh]; rfl) dX0_countRegions_45
      · skip
        have n_15 := zc_le_f (a := 25) (b := k) (by omega) (by omega) c_15
        exact absurd n_15 (by omega)
    | succ n ih_11 =>
      intro k lf rn hkn hh H locs ls hP hD hS hl
      refine lv_iload hx hb dX0_countRegions_11 (lv_at hl 4 rfl) ?_
      refine lv_bipush (v := 25) hx hb dX0_countRegions_13 (by decide +kernel) ?_
      refine lv_icmp_ge (tgt := 44) hx hb dX0_countRegions_15 (by decide) (fun c_15 => ?_) (fun c_15 => ?_)
      · skip
        have n_15 := zc_le_t (a := 25) (b := k) (by omega) (by omega) c_15
        exact absurd n_15 (by omega)
      · skip
        have n_15 := zc_le_f (a := 25) (b := k) (by omega) (by omega) c_15
        refine lv_iload_n hx hb dX0_countRegions_18 rfl (lv_at hl 2 rfl) ?_
        refine lv_if_eq (tgt := 44) hx hb dX0_countRegions_19 (by decide) (fun c_19 => ?_) (fun c_19 => ?_)
        · skip
          refine lv_iload_n hx hb dX0_countRegions_44 rfl (lv_at hl 3 rfl) ?_
          rw [← hQ]
          exact z_iret (W1 := (fun (_ : Unit) => [(hT, .inr (0, [.int bd, .int sb, .int nd, .ref aS, .ref aC, .ref aG])), (aS, .inl (cI, 5, .inl S0)), (aC, .inl (cI, 5, .inl Cr)), (aG, .inl (cI, 5, .inl G0))])) hx hb hr hlocks hP hS () (rfl) (by rw [← hh, show 25 - k = (25 - (k + 1)) + 1 by omega, pCR, if_pos c_19]) dX0_countRegions_45
        · skip
          refine lv_iload_n hx hb dX0_countRegions_22 rfl (lv_at hl 2 rfl) ?_
          refine lv_iload_n hx hb dX0_countRegions_23 rfl (lv_at hl 2 rfl) ?_
          refine lv_iload_n hx hb dX0_countRegions_24 rfl (lv_at hl 2 rfl) ?_
          refine lv_ineg hx hb dX0_countRegions_25 ?_
          refine lv_iand hx hb dX0_countRegions_26 ?_
          refine lv_iload_n hx hb dX0_countRegions_27 rfl (lv_at hl 2 rfl) ?_
          refine z_callSi (As := [.int (lf &&& (-lf)), .int lf]) (rest := [.int lf]) F9 (m_X0_regionFrom l dC dI cI cZ cJ cD (lf &&& (-lf)) lf ) (va_cwS 2 hts gX0_countRegions_X0_regionFrom rfl rfl rfl (by decide +kernel) ⟨Nat.le_of_ble_eq_true rfl, Nat.le_of_ble_eq_true rfl⟩) hK hN hP hD hS hA rfl hl.1 rfl (Nat.le_of_ble_eq_true rfl) dX0_countRegions_28 ⟨Nat.zero_le _, Nat.zero_le _⟩ (fun r_2 H locs hp_28 hP hS => ?_)
          have hp_28 : r_2 = pRF lf 25 (lf &&& (-lf)) := hp_28
          refine z_topi (y := pRF lf 25 (lf &&& (-lf))) hp_28 ?_
          refine lv_iconst (v := (-1)) hx hb dX0_countRegions_31 (by decide) ?_
          refine lv_ixor hx hb dX0_countRegions_32 ?_
          refine lv_iand hx hb dX0_countRegions_33 ?_
          refine z_topi (y := pCut lf) (rfl) ?_
          refine lv_istore_n (lv' := [(2, .int (pCut lf)), (0, .ref hT), (1, .int col), (3, .int (nI rn)), (4, .int (nI k))]) hx hb dX0_countRegions_34 rfl hl (by decide) rfl (fun ls hl => ?_)
          refine lv_iinc (v := nI (rn + 1)) (lv' := [(3, .int (nI (rn + 1))), (2, .int (pCut lf)), (0, .ref hT), (1, .int col), (4, .int (nI k))]) hx hb dX0_countRegions_35 hl (k := 3) rfl (nI_1 rn) (by decide) rfl (fun ls hl => ?_)
          refine lv_iinc (v := nI (k + 1)) (lv' := [(4, .int (nI (k + 1))), (3, .int (nI (rn + 1))), (2, .int (pCut lf)), (0, .ref hT), (1, .int col)]) hx hb dX0_countRegions_38 hl (k := 4) rfl (nI_1 k) (by decide) rfl (fun ls hl => ?_)
          refine lv_goto (tgt := 11) hx hb dX0_countRegions_41 (by decide) ?_
          exact ih_11 (k + 1) (pCut lf) (rn + 1) (by omega) (by rw [← hh, show 25 - k = (25 - (k + 1)) + 1 by omega, pCR, if_neg c_19]) _ _ _ hP hD hS (lv_sub hl [3, 4, 2, 1, 0] rfl)
  exact loop_11 25 0 (pCW S0 col) 0 (by omega) (rfl) _ _ _ hP hD hS (lv_sub hl [3, 4, 2, 1, 0] rfl)
abbrev rmX0_sizeOfGreatestRegion : Room := { frames := 2, cells := 0, slots := 0, locals := 44 }
set_option maxRecDepth 20000 in
theorem iX0_sizeOfGreatestRegion_X0 : ∀ w ∈ wsX00, w ∈ wsX0_sizeOfGreatestRegion := fun w h => (goodIn_r (big := wsX0_sizeOfGreatestRegion) wsX00 [24, 25, 26, 27, 28, 29] (by decide +kernel) (by decide +kernel) w h).1
set_option maxHeartbeats 4000000 in
set_option maxRecDepth 100000 in
theorem m_X0_sizeOfGreatestRegion (l : Launch) (dC : Nat → ClassId) (dI : Nat → Nat → Nat) (cI cZ cJ cD : ClassId) (hT : Nat) (aS : Nat) (aC : Nat) (aG : Nat) (bd : Int32) (sb : Int32) (nd : Int32) (S0 : Nat → Int32) (Cr : Nat → Int32) (G0 : Nat → Int32) (col : Int32)  : zI l (dC, dI) (wT cI cZ cJ cD) yX0_sizeOfGreatestRegion wsX0_sizeOfGreatestRegion rmX0_sizeOfGreatestRegion [(hT, .inr (0, [.int bd, .int sb, .int nd, .ref aS, .ref aC, .ref aG])), (aS, .inl (cI, 5, .inl S0)), (aC, .inl (cI, 5, .inl Cr)), (aG, .inl (cI, 5, .inl G0))] [.ref hT, .int col] (fun (_ : Unit) => [(hT, .inr (0, [.int bd, .int sb, .int nd, .ref aS, .ref aC, .ref aG])), (aS, .inl (cI, 5, .inl S0)), (aC, .inl (cI, 5, .inl Cr)), (aG, .inl (cI, 5, .inl G0))]) (fun (r : Int32) (_ : Unit) => r = pGR 25 (pCW S0 col) 0) := by
  intro sz
  refine Met.ofW (cc := cX0_sizeOfGreatestRegion) (maxL := 6) (ret := (some .int)) (by decide) rfl ?_
  intro p e s m args below meth c s₁ B hml hv
  obtain ⟨ha, hsz, hP, hK, hD0, hN⟩ := hv
  have hx := B.exec
  have hb := B.bytes
  have hr := B.returns
  have hts := atoms_spec (ws := wsX0_sizeOfGreatestRegion) B.pre
  have hown : s.vm.findClass RX0 = some m.cls := findClass_of_methodNamed B.named
  have hlocks := B.notSynchronized
  subst hsz
  have hD := hD0.self (sz := s.heap.size)
  generalize hAe : va_A [(hT, .inr (0, [.int bd, .int sb, .int nd, .ref aS, .ref aC, .ref aG])), (aS, .inl (cI, 5, .inl S0)), (aC, .inl (cI, 5, .inl Cr)), (aG, .inl (cI, 5, .inl G0))] s.heap.size = A at hD ⊢
  have hA : ∀ q : Nat, s.heap.size ≤ q → A q := fun q h => by rw [← hAe]; exact Or.inr h
  have hS : va_S A s.heap s.heap [] := va_S.rf
  generalize hQ : MQ below (va_Qi (fun (r : Int32) (_ : Unit) => r = pGR 25 (pCW S0 col) 0) (fun u t => va_P (dC, dI) vwCl ((fun (_ : Unit) => [(hT, .inr (0, [.int bd, .int sb, .int nd, .ref aS, .ref aC, .ref aG])), (aS, .inl (cI, 5, .inl S0)), (aC, .inl (cI, 5, .inl Cr)), (aG, .inl (cI, 5, .inl G0))]) u) t.heap) A) args s 0 0 A = Q
  have F9 : CallFix p m c cX0_sizeOfGreatestRegion 6 s args wsX0_sizeOfGreatestRegion RX0 := ⟨hx, hb, hml, hown, hts⟩
  refine z_entry (R := rmX0_sizeOfGreatestRegion) ha (Nat.le_of_ble_eq_true rfl) (fun ls hl => ?_)
  have hl : lv_has ls 6 [(0, .ref hT), (1, .int col)] := hl
  refine lv_aload_n hx hb dX0_sizeOfGreatestRegion_0 rfl (lv_at hl 0 rfl) ?_
  refine lv_iload_n hx hb dX0_sizeOfGreatestRegion_1 rfl (lv_at hl 1 rfl) ?_
  refine z_callVi (As := [.int col]) (rest := []) F9 (m_X0_cellsWith l dC dI cI cZ cJ cD hT aS aC aG bd sb nd S0 Cr G0 col ) (cwV 1 hts gX0_sizeOfGreatestRegion_X0_cellsWith rfl rfl rfl (by decide +kernel) ⟨Nat.le_of_ble_eq_true rfl, Nat.le_of_ble_eq_true rfl⟩) hK hN hP hD hS hA [0, 1, 2, 3] rfl rfl (fun _ => rfl) 0 (ci := 0) rfl rfl rfl rfl hl.1 rfl (Nat.le_of_ble_eq_true rfl) dX0_sizeOfGreatestRegion_2 ⟨Nat.zero_le _, Nat.zero_le _⟩ (fun r_1 u H locs hp_2 hP hD hS => ?_)
  have hP : va_P (dC, dI) vwCl [(hT, .inr (0, [.int bd, .int sb, .int nd, .ref aS, .ref aC, .ref aG])), (aS, .inl (cI, 5, .inl S0)), (aC, .inl (cI, 5, .inl Cr)), (aG, .inl (cI, 5, .inl G0))] H := hP
  have hD : va_D A [(hT, .inr (0, [.int bd, .int sb, .int nd, .ref aS, .ref aC, .ref aG])), (aS, .inl (cI, 5, .inl S0)), (aC, .inl (cI, 5, .inl Cr)), (aG, .inl (cI, 5, .inl G0))] := hD
  have hp_2 : r_1 = pCW S0 col := hp_2
  refine z_topi (y := pCW S0 col) hp_2 ?_
  refine lv_istore_n (lv' := [(2, .int (pCW S0 col)), (0, .ref hT), (1, .int col)]) hx hb dX0_sizeOfGreatestRegion_5 rfl hl (by decide) rfl (fun ls hl => ?_)
  refine lv_iconst (v := 0) hx hb dX0_sizeOfGreatestRegion_6 (by decide) ?_
  refine lv_istore_n (lv' := [(3, .int 0), (2, .int (pCW S0 col)), (0, .ref hT), (1, .int col)]) hx hb dX0_sizeOfGreatestRegion_7 rfl hl (by decide) rfl (fun ls hl => ?_)
  refine lv_iconst (v := 0) hx hb dX0_sizeOfGreatestRegion_8 (by decide) ?_
  refine lv_istore (lv' := [(4, .int 0), (3, .int 0), (2, .int (pCW S0 col)), (0, .ref hT), (1, .int col)]) hx hb dX0_sizeOfGreatestRegion_9 hl (by decide) rfl (fun ls hl => ?_)
  have loop_11 : ∀ (n : Nat) (k : Nat) (lf : Int32) (gt : Int32) (hkn : k + n = 25) (hh : pGR (25 - k) lf gt = pGR 25 (pCW S0 col) 0) (H : Heap) (locs : List Loc) (ls : Array Slot) (hP : va_P (dC, dI) vwCl [(hT, .inr (0, [.int bd, .int sb, .int nd, .ref aS, .ref aC, .ref aG])), (aS, .inl (cI, 5, .inl S0)), (aC, .inl (cI, 5, .inl Cr)), (aG, .inl (cI, 5, .inl G0))] H) (hD : va_D A [(hT, .inr (0, [.int bd, .int sb, .int nd, .ref aS, .ref aC, .ref aG])), (aS, .inl (cI, 5, .inl S0)), (aC, .inl (cI, 5, .inl Cr)), (aG, .inl (cI, 5, .inl G0))]) (hS : va_S A s.heap H locs) (hl : lv_has ls 6 [(0, .ref hT), (1, .int col), (2, .int lf), (3, .int gt), (4, .int (nI k))]), W p l e rmX0_sizeOfGreatestRegion s m args below meth c H locs 0 0 Q (F0 m 11 ls []) := by
    intro n
    induction n with
    | zero =>
      intro k lf gt hkn hh H locs ls hP hD hS hl
      refine lv_iload hx hb dX0_sizeOfGreatestRegion_11 (lv_at hl 4 rfl) ?_
      refine lv_bipush (v := 25) hx hb dX0_sizeOfGreatestRegion_13 (by decide +kernel) ?_
      refine lv_icmp_ge (tgt := 55) hx hb dX0_sizeOfGreatestRegion_15 (by decide) (fun c_15 => ?_) (fun c_15 => ?_)
      · skip
        have n_15 := zc_le_t (a := 25) (b := k) (by omega) (by omega) c_15
        refine lv_iload_n hx hb dX0_sizeOfGreatestRegion_55 rfl (lv_at hl 3 rfl) ?_
        have hl9 := hl
        have hP9 := hP
        have hD9 := hD
        have hS9 := hS
        obtain rfl : k = 25 := by omega
        have hl := hl9
        have hP := hP9
        have hD := hD9
        have hS := hS9
        rw [← hQ]
        exact z_iret (W1 := (fun (_ : Unit) => [(hT, .inr (0, [.int bd, .int sb, .int nd, .ref aS, .ref aC, .ref aG])), (aS, .inl (cI, 5, .inl S0)), (aC, .inl (cI, 5, .inl Cr)), (aG, .inl (cI, 5, .inl G0))])) hx hb hr hlocks hP hS () (rfl) (by rw [← hh]; rfl) dX0_sizeOfGreatestRegion_56
      · skip
        have n_15 := zc_le_f (a := 25) (b := k) (by omega) (by omega) c_15
        exact absurd n_15 (by omega)
    | succ n ih_11 =>
      intro k lf gt hkn hh H locs ls hP hD hS hl
      refine lv_iload hx hb dX0_sizeOfGreatestRegion_11 (lv_at hl 4 rfl) ?_
      refine lv_bipush (v := 25) hx hb dX0_sizeOfGreatestRegion_13 (by decide +kernel) ?_
      refine lv_icmp_ge (tgt := 55) hx hb dX0_sizeOfGreatestRegion_15 (by decide) (fun c_15 => ?_) (fun c_15 => ?_)
      · skip
        have n_15 := zc_le_t (a := 25) (b := k) (by omega) (by omega) c_15
        exact absurd n_15 (by omega)
      · skip
        have n_15 := zc_le_f (a := 25) (b := k) (by omega) (by omega) c_15
        refine lv_iload_n hx hb dX0_sizeOfGreatestRegion_18 rfl (lv_at hl 2 rfl) ?_
        refine lv_if_eq (tgt := 55) hx hb dX0_sizeOfGreatestRegion_19 (by decide) (fun c_19 => ?_) (fun c_19 => ?_)
        · skip
          refine lv_iload_n hx hb dX0_sizeOfGreatestRegion_55 rfl (lv_at hl 3 rfl) ?_
          rw [← hQ]
          exact z_iret (W1 := (fun (_ : Unit) => [(hT, .inr (0, [.int bd, .int sb, .int nd, .ref aS, .ref aC, .ref aG])), (aS, .inl (cI, 5, .inl S0)), (aC, .inl (cI, 5, .inl Cr)), (aG, .inl (cI, 5, .inl G0))])) hx hb hr hlocks hP hS () (rfl) (by rw [← hh, show 25 - k = (25 - (k + 1)) + 1 by omega, pGR, if_pos c_19]) dX0_sizeOfGreatestRegion_56
        · skip
          refine lv_iload_n hx hb dX0_sizeOfGreatestRegion_22 rfl (lv_at hl 2 rfl) ?_
          refine lv_iload_n hx hb dX0_sizeOfGreatestRegion_23 rfl (lv_at hl 2 rfl) ?_
          refine lv_ineg hx hb dX0_sizeOfGreatestRegion_24 ?_
          refine lv_iand hx hb dX0_sizeOfGreatestRegion_25 ?_
          refine lv_iload_n hx hb dX0_sizeOfGreatestRegion_26 rfl (lv_at hl 2 rfl) ?_
          refine z_callSi (As := [.int (lf &&& (-lf)), .int lf]) (rest := []) F9 (m_X0_regionFrom l dC dI cI cZ cJ cD (lf &&& (-lf)) lf ) (va_cwS 2 hts gX0_sizeOfGreatestRegion_X0_regionFrom rfl rfl rfl (by decide +kernel) ⟨Nat.le_of_ble_eq_true rfl, Nat.le_of_ble_eq_true rfl⟩) hK hN hP hD hS hA rfl hl.1 rfl (Nat.le_of_ble_eq_true rfl) dX0_sizeOfGreatestRegion_27 ⟨Nat.zero_le _, Nat.zero_le _⟩ (fun r_2 H locs hp_27 hP hS => ?_)
          have hp_27 : r_2 = pRF lf 25 (lf &&& (-lf)) := hp_27
          refine z_topi (y := pRF lf 25 (lf &&& (-lf))) hp_27 ?_
          refine z_topi (y := pLow lf) (rfl) ?_
          refine lv_istore (lv' := [(5, .int (pLow lf)), (0, .ref hT), (1, .int col), (2, .int lf), (3, .int gt), (4, .int (nI k))]) hx hb dX0_sizeOfGreatestRegion_30 hl (by decide) rfl (fun ls hl => ?_)
          refine lv_iload_n hx hb dX0_sizeOfGreatestRegion_32 rfl (lv_at hl 3 rfl) ?_
          refine lv_iload hx hb dX0_sizeOfGreatestRegion_33 (lv_at hl 0 rfl) ?_
          refine lv_iconst (v := (-1)) hx hb dX0_sizeOfGreatestRegion_35 (by decide) ?_
          refine lv_ixor hx hb dX0_sizeOfGreatestRegion_36 ?_
          refine lv_iand hx hb dX0_sizeOfGreatestRegion_37 ?_
          refine z_topi (y := pCut lf) (rfl) ?_
          refine lv_istore_n (lv' := [(2, .int (pCut lf)), (5, .int (pLow lf)), (0, .ref hT), (1, .int col), (3, .int gt), (4, .int (nI k))]) hx hb dX0_sizeOfGreatestRegion_38 rfl hl (by decide) rfl (fun ls hl => ?_)
          refine lv_iload_n hx hb dX0_sizeOfGreatestRegion_39 rfl (lv_at hl 4 rfl) ?_
          refine lv_iload hx hb dX0_sizeOfGreatestRegion_40 (lv_at hl 1 rfl) ?_
          refine z_callSi (As := [.int (pLow lf)]) (rest := [.int gt]) F9 (m_J6_bitCount_0f7a4 l dC dI cI cZ cJ cD (pLow lf) ) (va_cwS 1 hts gX0_sizeOfGreatestRegion_J6_bitCount_0f7a4 rfl rfl rfl (by decide +kernel) ⟨Nat.le_of_ble_eq_true rfl, Nat.le_of_ble_eq_true rfl⟩) hK hN hP hD hS hA rfl hl.1 rfl (Nat.le_of_ble_eq_true rfl) dX0_sizeOfGreatestRegion_42 ⟨Nat.zero_le _, Nat.zero_le _⟩ (fun r_3 H locs hp_42 hP hS => ?_)
          have hp_42 : r_3 = pBC (pLow lf) := hp_42
          refine z_topi (y := pBC (pLow lf)) hp_42 ?_
          refine va_mmax hx hb (by rw [hml]; exact hl.1.symm) hown (hts (.methodLink RX0 65 Lib.Math.max.name) (List.mem_of_getElem? (i := 1) rfl)) (hts (.static Lib.Math.max.name) (List.mem_of_getElem? (i := 2) rfl)) (hts (.initialized "java/lang/Math") (List.mem_of_getElem? (i := 3) rfl)) (hts (.code Lib.Math.max.name Lib.Math.max.code 2 (some .int)) (List.mem_of_getElem? (i := 4) rfl)) (Nat.le_of_ble_eq_true rfl) (Nat.le_of_ble_eq_true rfl) (Nat.zero_le _) (Nat.zero_le _) dX0_sizeOfGreatestRegion_45 ?_
          refine lv_istore_n (lv' := [(3, .int (if gt < pBC (pLow lf) then pBC (pLow lf) else gt)), (2, .int (pCut lf)), (5, .int (pLow lf)), (0, .ref hT), (1, .int col), (4, .int (nI k))]) hx hb dX0_sizeOfGreatestRegion_48 rfl hl (by decide) rfl (fun ls hl => ?_)
          refine lv_iinc (v := nI (k + 1)) (lv' := [(4, .int (nI (k + 1))), (3, .int (if gt < pBC (pLow lf) then pBC (pLow lf) else gt)), (2, .int (pCut lf)), (5, .int (pLow lf)), (0, .ref hT), (1, .int col)]) hx hb dX0_sizeOfGreatestRegion_49 hl (k := 5) rfl (nI_1 k) (by decide) rfl (fun ls hl => ?_)
          refine lv_goto (tgt := 11) hx hb dX0_sizeOfGreatestRegion_52 (by decide) ?_
          exact ih_11 (k + 1) (pCut lf) (if gt < pBC (pLow lf) then pBC (pLow lf) else gt) (by omega) (by rw [← hh, show 25 - k = (25 - (k + 1)) + 1 by omega, pGR, if_neg c_19]) _ _ _ hP hD hS (lv_sub hl [4, 5, 2, 1, 0] rfl)
  exact loop_11 25 0 (pCW S0 col) 0 (by omega) (rfl) _ _ _ hP hD hS (lv_sub hl [3, 4, 2, 1, 0] rfl)
abbrev rmX0_countBorders : Room := { frames := 2, cells := 0, slots := 0, locals := 40 }
set_option maxRecDepth 20000 in
theorem iX0_countBorders_X0 : ∀ w ∈ wsX00, w ∈ wsX0_countBorders := fun w h => (goodIn_r (big := wsX0_countBorders) wsX00 [14, 15, 16, 17, 18, 19] (by decide +kernel) (by decide +kernel) w h).1
set_option maxHeartbeats 4000000 in
set_option maxRecDepth 100000 in
theorem m_X0_countBorders (l : Launch) (dC : Nat → ClassId) (dI : Nat → Nat → Nat) (cI cZ cJ cD : ClassId) (hT : Nat) (aS : Nat) (aC : Nat) (aG : Nat) (bd : Int32) (sb : Int32) (nd : Int32) (S0 : Nat → Int32) (Cr : Nat → Int32) (G0 : Nat → Int32)  : zI l (dC, dI) (wT cI cZ cJ cD) yX0_countBorders wsX0_countBorders rmX0_countBorders [(hT, .inr (0, [.int bd, .int sb, .int nd, .ref aS, .ref aC, .ref aG])), (aS, .inl (cI, 5, .inl S0)), (aC, .inl (cI, 5, .inl Cr)), (aG, .inl (cI, 5, .inl G0))] [.ref hT] (fun (_ : Unit) => [(hT, .inr (0, [.int bd, .int sb, .int nd, .ref aS, .ref aC, .ref aG])), (aS, .inl (cI, 5, .inl S0)), (aC, .inl (cI, 5, .inl Cr)), (aG, .inl (cI, 5, .inl G0))]) (fun (r : Int32) (_ : Unit) => r = pBo S0 bd 4) := by
  intro sz
  refine Met.ofW (cc := cX0_countBorders) (maxL := 3) (ret := (some .int)) (by decide) rfl ?_
  intro p e s m args below meth c s₁ B hml hv
  obtain ⟨ha, hsz, hP, hK, hD0, hN⟩ := hv
  have hx := B.exec
  have hb := B.bytes
  have hr := B.returns
  have hts := atoms_spec (ws := wsX0_countBorders) B.pre
  have hown : s.vm.findClass RX0 = some m.cls := findClass_of_methodNamed B.named
  have hlocks := B.notSynchronized
  subst hsz
  have hD := hD0.self (sz := s.heap.size)
  generalize hAe : va_A [(hT, .inr (0, [.int bd, .int sb, .int nd, .ref aS, .ref aC, .ref aG])), (aS, .inl (cI, 5, .inl S0)), (aC, .inl (cI, 5, .inl Cr)), (aG, .inl (cI, 5, .inl G0))] s.heap.size = A at hD ⊢
  have hA : ∀ q : Nat, s.heap.size ≤ q → A q := fun q h => by rw [← hAe]; exact Or.inr h
  have hS : va_S A s.heap s.heap [] := va_S.rf
  generalize hQ : MQ below (va_Qi (fun (r : Int32) (_ : Unit) => r = pBo S0 bd 4) (fun u t => va_P (dC, dI) vwCl ((fun (_ : Unit) => [(hT, .inr (0, [.int bd, .int sb, .int nd, .ref aS, .ref aC, .ref aG])), (aS, .inl (cI, 5, .inl S0)), (aC, .inl (cI, 5, .inl Cr)), (aG, .inl (cI, 5, .inl G0))]) u) t.heap) A) args s 0 0 A = Q
  have F9 : CallFix p m c cX0_countBorders 3 s args wsX0_countBorders RX0 := ⟨hx, hb, hml, hown, hts⟩
  refine z_entry (R := rmX0_countBorders) ha (Nat.le_of_ble_eq_true rfl) (fun ls hl => ?_)
  have hl : lv_has ls 3 [(0, .ref hT)] := hl
  refine lv_aload_n hx hb dX0_countBorders_0 rfl (lv_at hl 0 rfl) ?_
  refine va_get (D := (dC, dI)) (ci := 0) (v := .int bd) (C := RX0) (T := TX0) (N := 6) hx hb hts iX0_countBorders_X0 hown hK hP 0 rfl rfl 0 (by decide) (hts (.fieldLink RX0 25 "ColourTide$Tide" "board" "I") (List.mem_of_getElem? (i := 1) rfl)) (fun _ h9 => h9) rfl dX0_countBorders_1 ?_
  refine lv_aload_n hx hb dX0_countBorders_4 rfl (lv_at hl 0 rfl) ?_
  refine va_get (D := (dC, dI)) (ci := 0) (v := .ref aS) (C := RX0) (T := TX0) (N := 6) hx hb hts iX0_countBorders_X0 hown hK hP 0 rfl rfl 3 (by decide) (hts (.fieldLink RX0 15 "ColourTide$Tide" "sets" "[I") (List.mem_of_getElem? (i := 2) rfl)) (fun _ h9 => h9) rfl dX0_countBorders_5 ?_
  refine lv_iconst (v := 0) hx hb dX0_countBorders_8 (by decide) ?_
  refine z_iald hx hb hK hP 1 0 rfl rfl 0 (rfl) (by omega) (by decide) dX0_countBorders_9 ?_
  refine lv_iconst (v := (-1)) hx hb dX0_countBorders_10 (by decide) ?_
  refine lv_ixor hx hb dX0_countBorders_11 ?_
  refine lv_iand hx hb dX0_countBorders_12 ?_
  refine z_callSi (As := [.int (bd &&& ((S0 0) ^^^ (-1)))]) (rest := []) F9 (m_X0_countPairs l dC dI cI cZ cJ cD (bd &&& ((S0 0) ^^^ (-1))) ) (va_cwS 1 hts gX0_countBorders_X0_countPairs rfl rfl rfl (by decide +kernel) ⟨Nat.le_of_ble_eq_true rfl, Nat.le_of_ble_eq_true rfl⟩) hK hN hP hD hS hA rfl hl.1 rfl (Nat.le_of_ble_eq_true rfl) dX0_countBorders_13 ⟨Nat.zero_le _, Nat.zero_le _⟩ (fun r_1 H locs hp_13 hP hS => ?_)
  have hp_13 : r_1 = pPairs (bd &&& ((S0 0) ^^^ (-1))) := hp_13
  refine z_topi (y := pPairs (bd &&& ((S0 0) ^^^ (-1)))) hp_13 ?_
  refine z_topi (y := pBo S0 bd 0) (rfl) ?_
  refine lv_istore_n (lv' := [(1, .int (pBo S0 bd 0)), (0, .ref hT)]) hx hb dX0_countBorders_16 rfl hl (by decide) rfl (fun ls hl => ?_)
  refine lv_iconst (v := 1) hx hb dX0_countBorders_17 (by decide) ?_
  refine lv_istore_n (lv' := [(2, .int 1), (1, .int (pBo S0 bd 0)), (0, .ref hT)]) hx hb dX0_countBorders_18 rfl hl (by decide) rfl (fun ls hl => ?_)
  have loop_19 : ∀ (n : Nat) (i : Nat) (hkn : i + n = 4) (H : Heap) (locs : List Loc) (ls : Array Slot) (hP : va_P (dC, dI) vwCl [(hT, .inr (0, [.int bd, .int sb, .int nd, .ref aS, .ref aC, .ref aG])), (aS, .inl (cI, 5, .inl S0)), (aC, .inl (cI, 5, .inl Cr)), (aG, .inl (cI, 5, .inl G0))] H) (hD : va_D A [(hT, .inr (0, [.int bd, .int sb, .int nd, .ref aS, .ref aC, .ref aG])), (aS, .inl (cI, 5, .inl S0)), (aC, .inl (cI, 5, .inl Cr)), (aG, .inl (cI, 5, .inl G0))]) (hS : va_S A s.heap H locs) (hl : lv_has ls 3 [(0, .ref hT), (1, .int (pBo S0 bd i)), (2, .int (nI (i + 1)))]), W p l e rmX0_countBorders s m args below meth c H locs 0 0 Q (F0 m 19 ls []) := by
    intro n
    induction n with
    | zero =>
      intro i hkn  H locs ls hP hD hS hl
      refine lv_iload_n hx hb dX0_countBorders_19 rfl (lv_at hl 2 rfl) ?_
      refine lv_iconst (v := 5) hx hb dX0_countBorders_20 (by decide) ?_
      refine lv_icmp_ge (tgt := 42) hx hb dX0_countBorders_21 (by decide) (fun c_21 => ?_) (fun c_21 => ?_)
      · skip
        have n_21 := zc_le_t (a := 5) (b := (i + 1)) (by omega) (by omega) c_21
        refine lv_iload_n hx hb dX0_countBorders_42 rfl (lv_at hl 1 rfl) ?_
        have hl9 := hl
        have hP9 := hP
        have hD9 := hD
        have hS9 := hS
        obtain rfl : i = 4 := by omega
        have hl := hl9
        have hP := hP9
        have hD := hD9
        have hS := hS9
        rw [← hQ]
        exact z_iret (W1 := (fun (_ : Unit) => [(hT, .inr (0, [.int bd, .int sb, .int nd, .ref aS, .ref aC, .ref aG])), (aS, .inl (cI, 5, .inl S0)), (aC, .inl (cI, 5, .inl Cr)), (aG, .inl (cI, 5, .inl G0))])) hx hb hr hlocks hP hS () (rfl) (rfl) dX0_countBorders_43
      · skip
        have n_21 := zc_le_f (a := 5) (b := (i + 1)) (by omega) (by omega) c_21
        exact absurd n_21 (by omega)
    | succ n ih_19 =>
      intro i hkn  H locs ls hP hD hS hl
      refine lv_iload_n hx hb dX0_countBorders_19 rfl (lv_at hl 2 rfl) ?_
      refine lv_iconst (v := 5) hx hb dX0_countBorders_20 (by decide) ?_
      refine lv_icmp_ge (tgt := 42) hx hb dX0_countBorders_21 (by decide) (fun c_21 => ?_) (fun c_21 => ?_)
      · skip
        have n_21 := zc_le_t (a := 5) (b := (i + 1)) (by omega) (by omega) c_21
        exact absurd n_21 (by omega)
      · skip
        have n_21 := zc_le_f (a := 5) (b := (i + 1)) (by omega) (by omega) c_21
        refine lv_iload_n hx hb dX0_countBorders_24 rfl (lv_at hl 1 rfl) ?_
        refine lv_aload_n hx hb dX0_countBorders_25 rfl (lv_at hl 0 rfl) ?_
        refine va_get (D := (dC, dI)) (ci := 0) (v := .ref aS) (C := RX0) (T := TX0) (N := 6) hx hb hts iX0_countBorders_X0 hown hK hP 0 rfl rfl 3 (by decide) (hts (.fieldLink RX0 15 "ColourTide$Tide" "sets" "[I") (List.mem_of_getElem? (i := 2) rfl)) (fun _ h9 => h9) rfl dX0_countBorders_26 ?_
        refine lv_iload_n hx hb dX0_countBorders_29 rfl (lv_at hl 2 rfl) ?_
        refine z_iald hx hb hK hP 1 0 rfl rfl (i + 1) (rfl) (by omega) (by decide) dX0_countBorders_30 ?_
        refine z_callSi (As := [.int (S0 (i + 1))]) (rest := [.int (pBo S0 bd i)]) F9 (m_X0_countPairs l dC dI cI cZ cJ cD (S0 (i + 1)) ) (va_cwS 1 hts gX0_countBorders_X0_countPairs rfl rfl rfl (by decide +kernel) ⟨Nat.le_of_ble_eq_true rfl, Nat.le_of_ble_eq_true rfl⟩) hK hN hP hD hS hA rfl hl.1 rfl (Nat.le_of_ble_eq_true rfl) dX0_countBorders_31 ⟨Nat.zero_le _, Nat.zero_le _⟩ (fun r_2 H locs hp_31 hP hS => ?_)
        have hp_31 : r_2 = pPairs (S0 (i + 1)) := hp_31
        refine z_topi (y := pPairs (S0 (i + 1))) hp_31 ?_
        refine lv_isub hx hb dX0_countBorders_34 ?_
        refine z_topi (y := pBo S0 bd (i + 1)) (rfl) ?_
        refine lv_istore_n (lv' := [(1, .int (pBo S0 bd (i + 1))), (0, .ref hT), (2, .int (nI (i + 1)))]) hx hb dX0_countBorders_35 rfl hl (by decide) rfl (fun ls hl => ?_)
        refine lv_iinc (v := nI ((i + 1) + 1)) (lv' := [(2, .int (nI ((i + 1) + 1))), (1, .int (pBo S0 bd (i + 1))), (0, .ref hT)]) hx hb dX0_countBorders_36 hl (k := 2) rfl (nI_1 (i + 1)) (by decide) rfl (fun ls hl => ?_)
        refine lv_goto (tgt := 19) hx hb dX0_countBorders_39 (by decide) ?_
        exact ih_19 (i + 1) (by omega)  _ _ _ hP hD hS (lv_sub hl [2, 1, 0] rfl)
  exact loop_19 4 0 (by omega)  _ _ _ hP hD hS (lv_sub hl [2, 1, 0] rfl)
abbrev rmX0_addGains : Room := { frames := 1, cells := 0, slots := 0, locals := 25 }
set_option maxRecDepth 20000 in
theorem iX0_addGains_X0 : ∀ w ∈ wsX00, w ∈ wsX0_addGains := fun w h => (goodIn_r (big := wsX0_addGains) wsX00 [10, 11, 12, 13, 14, 15] (by decide +kernel) (by decide +kernel) w h).1
set_option maxHeartbeats 4000000 in
set_option maxRecDepth 100000 in
theorem m_X0_addGains (l : Launch) (dC : Nat → ClassId) (dI : Nat → Nat → Nat) (cI cZ cJ cD : ClassId) (hT : Nat) (aS : Nat) (aC : Nat) (aG : Nat) (bd : Int32) (sb : Int32) (nd : Int32) (S0 : Nat → Int32) (Cr : Nat → Int32) (G0 : Nat → Int32) (q0 : Nat) (hq : 1 ≤ q0 ∧ q0 ≤ 4) : zV l (dC, dI) (wT cI cZ cJ cD) yX0_addGains wsX0_addGains rmX0_addGains [(hT, .inr (0, [.int bd, .int sb, .int nd, .ref aS, .ref aC, .ref aG])), (aS, .inl (cI, 5, .inl S0)), (aC, .inl (cI, 5, .inl Cr)), (aG, .inl (cI, 5, .inl G0))] [.ref hT, .int (nI q0)] (fun (_ : Unit) => [(hT, .inr (0, [.int bd, .int sb, .int nd, .ref aS, .ref aC, .ref aG])), (aS, .inl (cI, 5, .inl S0)), (aC, .inl (cI, 5, .inl (zfrom (pCrF S0 q0) Cr 4))), (aG, .inl (cI, 5, .inl (zfrom (pAddF S0 bd sb q0 G0) G0 4)))]) (fun (_ : Unit) => True) := by
  intro sz
  refine Met.ofW (cc := cX0_addGains) (maxL := 5) (ret := none) (by decide) rfl ?_
  intro p e s m args below meth c s₁ B hml hv
  obtain ⟨ha, hsz, hP, hK, hD0, hN⟩ := hv
  have hx := B.exec
  have hb := B.bytes
  have hr := B.returns
  have hts := atoms_spec (ws := wsX0_addGains) B.pre
  have hown : s.vm.findClass RX0 = some m.cls := findClass_of_methodNamed B.named
  have hlocks := B.notSynchronized
  subst hsz
  have hD := hD0.self (sz := s.heap.size)
  generalize hAe : va_A [(hT, .inr (0, [.int bd, .int sb, .int nd, .ref aS, .ref aC, .ref aG])), (aS, .inl (cI, 5, .inl S0)), (aC, .inl (cI, 5, .inl Cr)), (aG, .inl (cI, 5, .inl G0))] s.heap.size = A at hD ⊢
  have hA : ∀ q : Nat, s.heap.size ≤ q → A q := fun q h => by rw [← hAe]; exact Or.inr h
  have hS : va_S A s.heap s.heap [] := va_S.rf
  generalize hQ : MQ below (va_Qv (fun (_ : Unit) => True) (fun u t => va_P (dC, dI) vwCl ((fun (_ : Unit) => [(hT, .inr (0, [.int bd, .int sb, .int nd, .ref aS, .ref aC, .ref aG])), (aS, .inl (cI, 5, .inl S0)), (aC, .inl (cI, 5, .inl (zfrom (pCrF S0 q0) Cr 4))), (aG, .inl (cI, 5, .inl (zfrom (pAddF S0 bd sb q0 G0) G0 4)))]) u) t.heap) A) args s 0 0 A = Q
  have F9 : CallFix p m c cX0_addGains 5 s args wsX0_addGains RX0 := ⟨hx, hb, hml, hown, hts⟩
  refine z_entry (R := rmX0_addGains) ha (Nat.le_of_ble_eq_true rfl) (fun ls hl => ?_)
  have hl : lv_has ls 5 [(0, .ref hT), (1, .int (nI q0))] := hl
  refine lv_iconst (v := 0) hx hb dX0_addGains_0 (by decide) ?_
  refine lv_istore_n (lv' := [(2, .int 0), (0, .ref hT), (1, .int (nI q0))]) hx hb dX0_addGains_1 rfl hl (by decide) rfl (fun ls hl => ?_)
  refine lv_iconst (v := 0) hx hb dX0_addGains_2 (by decide) ?_
  refine lv_istore_n (lv' := [(3, .int 0), (2, .int 0), (0, .ref hT), (1, .int (nI q0))]) hx hb dX0_addGains_3 rfl hl (by decide) rfl (fun ls hl => ?_)
  refine lv_iconst (v := 1) hx hb dX0_addGains_4 (by decide) ?_
  refine lv_istore (lv' := [(4, .int 1), (3, .int 0), (2, .int 0), (0, .ref hT), (1, .int (nI q0))]) hx hb dX0_addGains_5 hl (by decide) rfl (fun ls hl => ?_)
  have loop_7 : ∀ (n : Nat) (i : Nat) (hkn : i + n = 4) (H : Heap) (locs : List Loc) (ls : Array Slot) (hP : va_P (dC, dI) vwCl [(hT, .inr (0, [.int bd, .int sb, .int nd, .ref aS, .ref aC, .ref aG])), (aS, .inl (cI, 5, .inl S0)), (aC, .inl (cI, 5, .inl (zfrom (pCrF S0 q0) Cr i))), (aG, .inl (cI, 5, .inl G0))] H) (hD : va_D A [(hT, .inr (0, [.int bd, .int sb, .int nd, .ref aS, .ref aC, .ref aG])), (aS, .inl (cI, 5, .inl S0)), (aC, .inl (cI, 5, .inl (zfrom (pCrF S0 q0) Cr i))), (aG, .inl (cI, 5, .inl G0))]) (hS : va_S A s.heap H locs) (hl : lv_has ls 5 [(0, .ref hT), (1, .int (nI q0)), (2, .int (pSo S0 q0 i)), (3, .int (pSe S0 q0 i)), (4, .int (nI (i + 1)))]), W p l e rmX0_addGains s m args below meth c H locs 0 0 Q (F0 m 7 ls []) := by
    intro n
    induction n with
    | zero =>
      intro i hkn  H locs ls hP hD hS hl
      refine lv_iload hx hb dX0_addGains_7 (lv_at hl 4 rfl) ?_
      refine lv_iconst (v := 5) hx hb dX0_addGains_9 (by decide) ?_
      refine lv_icmp_ge (tgt := 59) hx hb dX0_addGains_10 (by decide) (fun c_10 => ?_) (fun c_10 => ?_)
      · skip
        have n_10 := zc_le_t (a := 5) (b := (i + 1)) (by omega) (by omega) c_10
        refine lv_iconst (v := 1) hx hb dX0_addGains_59 (by decide) ?_
        refine lv_istore (lv' := [(4, .int 1), (0, .ref hT), (1, .int (nI q0)), (2, .int (pSo S0 q0 i)), (3, .int (pSe S0 q0 i))]) hx hb dX0_addGains_60 hl (by decide) rfl (fun ls hl => ?_)
        have loop_62 : ∀ (n : Nat) (i : Nat) (hkn : i + n = 4) (H : Heap) (locs : List Loc) (ls : Array Slot) (hP : va_P (dC, dI) vwCl [(hT, .inr (0, [.int bd, .int sb, .int nd, .ref aS, .ref aC, .ref aG])), (aS, .inl (cI, 5, .inl S0)), (aC, .inl (cI, 5, .inl (zfrom (pCrF S0 q0) Cr 4))), (aG, .inl (cI, 5, .inl (zfrom (pAddF S0 bd sb q0 G0) G0 i)))] H) (hD : va_D A [(hT, .inr (0, [.int bd, .int sb, .int nd, .ref aS, .ref aC, .ref aG])), (aS, .inl (cI, 5, .inl S0)), (aC, .inl (cI, 5, .inl (zfrom (pCrF S0 q0) Cr 4))), (aG, .inl (cI, 5, .inl (zfrom (pAddF S0 bd sb q0 G0) G0 i)))]) (hS : va_S A s.heap H locs) (hl : lv_has ls 5 [(0, .ref hT), (3, .int (pSe S0 q0 4)), (4, .int (nI (i + 1)))]), W p l e rmX0_addGains s m args below meth c H locs 0 0 Q (F0 m 62 ls []) := by
          intro n
          induction n with
          | zero =>
            intro i hkn  H locs ls hP hD hS hl
            refine lv_iload hx hb dX0_addGains_62 (lv_at hl 2 rfl) ?_
            refine lv_iconst (v := 5) hx hb dX0_addGains_64 (by decide) ?_
            refine lv_icmp_ge (tgt := 107) hx hb dX0_addGains_65 (by decide) (fun c_65 => ?_) (fun c_65 => ?_)
            · skip
              have n_65 := zc_le_t (a := 5) (b := (i + 1)) (by omega) (by omega) c_65
              have hl9 := hl
              have hP9 := hP
              have hD9 := hD
              have hS9 := hS
              obtain rfl : i = 4 := by omega
              have hl := hl9
              have hP := hP9
              have hD := hD9
              have hS := hS9
              rw [← hQ]
              exact z_vret (W1 := (fun (_ : Unit) => [(hT, .inr (0, [.int bd, .int sb, .int nd, .ref aS, .ref aC, .ref aG])), (aS, .inl (cI, 5, .inl S0)), (aC, .inl (cI, 5, .inl (zfrom (pCrF S0 q0) Cr 4))), (aG, .inl (cI, 5, .inl (zfrom (pAddF S0 bd sb q0 G0) G0 4)))])) hx hb hr hlocks hP hS () (rfl) (trivial) dX0_addGains_107
            · skip
              have n_65 := zc_le_f (a := 5) (b := (i + 1)) (by omega) (by omega) c_65
              exact absurd n_65 (by omega)
          | succ n ih_62 =>
            intro i hkn  H locs ls hP hD hS hl
            refine lv_iload hx hb dX0_addGains_62 (lv_at hl 2 rfl) ?_
            refine lv_iconst (v := 5) hx hb dX0_addGains_64 (by decide) ?_
            refine lv_icmp_ge (tgt := 107) hx hb dX0_addGains_65 (by decide) (fun c_65 => ?_) (fun c_65 => ?_)
            · skip
              have n_65 := zc_le_t (a := 5) (b := (i + 1)) (by omega) (by omega) c_65
              exact absurd n_65 (by omega)
            · skip
              have n_65 := zc_le_f (a := 5) (b := (i + 1)) (by omega) (by omega) c_65
              refine lv_aload_n hx hb dX0_addGains_68 rfl (lv_at hl 0 rfl) ?_
              refine va_get (D := (dC, dI)) (ci := 0) (v := .ref aG) (C := RX0) (T := TX0) (N := 6) hx hb hts iX0_addGains_X0 hown hK hP 0 rfl rfl 5 (by decide) (hts (.fieldLink RX0 22 "ColourTide$Tide" "gains" "[I") (List.mem_of_getElem? (i := 3) rfl)) (fun _ h9 => h9) rfl dX0_addGains_69 ?_
              refine lv_iload hx hb dX0_addGains_72 (lv_at hl 2 rfl) ?_
              refine lv_dup2_11 hx hb dX0_addGains_74 rfl rfl ?_
              refine z_iald hx hb hK hP 3 0 rfl rfl (i + 1) (rfl) (by omega) (by decide) dX0_addGains_75 ?_
              refine z_topi (y := G0 (i + 1)) (zfrom_at (Nat.lt_succ_self _)) ?_
              refine lv_aload_n hx hb dX0_addGains_76 rfl (lv_at hl 0 rfl) ?_
              refine va_get (D := (dC, dI)) (ci := 0) (v := .ref aC) (C := RX0) (T := TX0) (N := 6) hx hb hts iX0_addGains_X0 hown hK hP 0 rfl rfl 4 (by decide) (hts (.fieldLink RX0 19 "ColourTide$Tide" "crowds" "[I") (List.mem_of_getElem? (i := 1) rfl)) (fun _ h9 => h9) rfl dX0_addGains_77 ?_
              refine lv_iload hx hb dX0_addGains_80 (lv_at hl 2 rfl) ?_
              refine z_iald hx hb hK hP 2 0 rfl rfl (i + 1) (rfl) (by omega) (by decide) dX0_addGains_82 ?_
              refine z_topi (y := wN (S0 (i + 1)) q0) (zfrom_in (by omega) (by omega)) ?_
              refine lv_iload_n hx hb dX0_addGains_83 rfl (lv_at hl 1 rfl) ?_
              refine lv_iconst (v := (-1)) hx hb dX0_addGains_84 (by decide) ?_
              refine lv_ixor hx hb dX0_addGains_85 ?_
              refine lv_iand hx hb dX0_addGains_86 ?_
              refine lv_aload_n hx hb dX0_addGains_87 rfl (lv_at hl 0 rfl) ?_
              refine va_get (D := (dC, dI)) (ci := 0) (v := .int bd) (C := RX0) (T := TX0) (N := 6) hx hb hts iX0_addGains_X0 hown hK hP 0 rfl rfl 0 (by decide) (hts (.fieldLink RX0 25 "ColourTide$Tide" "board" "I") (List.mem_of_getElem? (i := 4) rfl)) (fun _ h9 => h9) rfl dX0_addGains_88 ?_
              refine lv_iand hx hb dX0_addGains_91 ?_
              refine lv_aload_n hx hb dX0_addGains_92 rfl (lv_at hl 0 rfl) ?_
              refine va_get (D := (dC, dI)) (ci := 0) (v := .int sb) (C := RX0) (T := TX0) (N := 6) hx hb hts iX0_addGains_X0 hown hK hP 0 rfl rfl 1 (by decide) (hts (.fieldLink RX0 32 "ColourTide$Tide" "stubborn" "I") (List.mem_of_getElem? (i := 5) rfl)) (fun _ h9 => h9) rfl dX0_addGains_93 ?_
              refine lv_iconst (v := (-1)) hx hb dX0_addGains_96 (by decide) ?_
              refine lv_ixor hx hb dX0_addGains_97 ?_
              refine lv_iand hx hb dX0_addGains_98 ?_
              refine lv_ior hx hb dX0_addGains_99 ?_
              refine z_topi (y := pAddF S0 bd sb q0 G0 (i + 1)) (rfl) ?_
              refine z_iast hx hb hK hP hD hS 3 0 rfl rfl (i + 1) (rfl) (by omega) (by decide) dX0_addGains_100 (fun H locs hP hD hS => ?_)
              have hP : va_P (dC, dI) vwCl [(hT, .inr (0, [.int bd, .int sb, .int nd, .ref aS, .ref aC, .ref aG])), (aS, .inl (cI, 5, .inl S0)), (aC, .inl (cI, 5, .inl (zfrom (pCrF S0 q0) Cr 4))), (aG, .inl (cI, 5, .inl (upd (zfrom (pAddF S0 bd sb q0 G0) G0 i) (i + 1) (pAddF S0 bd sb q0 G0 (i + 1)))))] H := hP
              have hD : va_D A [(hT, .inr (0, [.int bd, .int sb, .int nd, .ref aS, .ref aC, .ref aG])), (aS, .inl (cI, 5, .inl S0)), (aC, .inl (cI, 5, .inl (zfrom (pCrF S0 q0) Cr 4))), (aG, .inl (cI, 5, .inl (upd (zfrom (pAddF S0 bd sb q0 G0) G0 i) (i + 1) (pAddF S0 bd sb q0 G0 (i + 1)))))] := hD
              have e_100 : upd (zfrom (pAddF S0 bd sb q0 G0) G0 i) (i + 1) (pAddF S0 bd sb q0 G0 (i + 1)) = zfrom (pAddF S0 bd sb q0 G0) G0 (i + 1) := zfrom_succ _ _ _
              rw [e_100] at hP hD
              refine lv_iinc (v := nI ((i + 1) + 1)) (lv' := [(4, .int (nI ((i + 1) + 1))), (0, .ref hT), (3, .int (pSe S0 q0 4))]) hx hb dX0_addGains_101 hl (k := 2) rfl (nI_1 (i + 1)) (by decide) rfl (fun ls hl => ?_)
              refine lv_goto (tgt := 62) hx hb dX0_addGains_104 (by decide) ?_
              exact ih_62 (i + 1) (by omega)  _ _ _ hP hD hS (lv_sub hl [1, 2, 0] rfl)
        have hl9 := hl
        have hP9 := hP
        have hD9 := hD
        have hS9 := hS
        obtain rfl : i = 4 := by omega
        have hl := hl9
        have hP := hP9
        have hD := hD9
        have hS := hS9
        have hP : va_P (dC, dI) vwCl [(hT, .inr (0, [.int bd, .int sb, .int nd, .ref aS, .ref aC, .ref aG])), (aS, .inl (cI, 5, .inl S0)), (aC, .inl (cI, 5, .inl (zfrom (pCrF S0 q0) Cr 4))), (aG, .inl (cI, 5, .inl (zfrom (pAddF S0 bd sb q0 G0) G0 0)))] H := by rw [zfrom_0]; exact hP
        have hD : va_D A [(hT, .inr (0, [.int bd, .int sb, .int nd, .ref aS, .ref aC, .ref aG])), (aS, .inl (cI, 5, .inl S0)), (aC, .inl (cI, 5, .inl (zfrom (pCrF S0 q0) Cr 4))), (aG, .inl (cI, 5, .inl (zfrom (pAddF S0 bd sb q0 G0) G0 0)))] := by rw [zfrom_0]; exact hD
        exact loop_62 4 0 (by omega)  _ _ _ hP hD hS (lv_sub hl [1, 4, 0] rfl)
      · skip
        have n_10 := zc_le_f (a := 5) (b := (i + 1)) (by omega) (by omega) c_10
        exact absurd n_10 (by omega)
    | succ n ih_7 =>
      intro i hkn  H locs ls hP hD hS hl
      refine lv_iload hx hb dX0_addGains_7 (lv_at hl 4 rfl) ?_
      refine lv_iconst (v := 5) hx hb dX0_addGains_9 (by decide) ?_
      refine lv_icmp_ge (tgt := 59) hx hb dX0_addGains_10 (by decide) (fun c_10 => ?_) (fun c_10 => ?_)
      · skip
        have n_10 := zc_le_t (a := 5) (b := (i + 1)) (by omega) (by omega) c_10
        exact absurd n_10 (by omega)
      · skip
        have n_10 := zc_le_f (a := 5) (b := (i + 1)) (by omega) (by omega) c_10
        refine lv_aload_n hx hb dX0_addGains_13 rfl (lv_at hl 0 rfl) ?_
        refine va_get (D := (dC, dI)) (ci := 0) (v := .ref aC) (C := RX0) (T := TX0) (N := 6) hx hb hts iX0_addGains_X0 hown hK hP 0 rfl rfl 4 (by decide) (hts (.fieldLink RX0 19 "ColourTide$Tide" "crowds" "[I") (List.mem_of_getElem? (i := 1) rfl)) (fun _ h9 => h9) rfl dX0_addGains_14 ?_
        refine lv_iload hx hb dX0_addGains_17 (lv_at hl 4 rfl) ?_
        refine lv_aload_n hx hb dX0_addGains_19 rfl (lv_at hl 0 rfl) ?_
        refine va_get (D := (dC, dI)) (ci := 0) (v := .ref aS) (C := RX0) (T := TX0) (N := 6) hx hb hts iX0_addGains_X0 hown hK hP 0 rfl rfl 3 (by decide) (hts (.fieldLink RX0 15 "ColourTide$Tide" "sets" "[I") (List.mem_of_getElem? (i := 2) rfl)) (fun _ h9 => h9) rfl dX0_addGains_20 ?_
        refine lv_iload hx hb dX0_addGains_23 (lv_at hl 4 rfl) ?_
        refine z_iald hx hb hK hP 1 0 rfl rfl (i + 1) (rfl) (by omega) (by decide) dX0_addGains_25 ?_
        refine lv_iload_n hx hb dX0_addGains_26 rfl (lv_at hl 1 rfl) ?_
        refine z_callSi (As := [.int (S0 (i + 1)), .int (nI q0)]) (rest := [.int (nI (i + 1)), .ref aC]) F9 (m_X0_withNeighbours l dC dI cI cZ cJ cD (S0 (i + 1)) q0 (hq)) (va_cwS 2 hts gX0_addGains_X0_withNeighbours rfl rfl rfl (by decide +kernel) ⟨Nat.le_of_ble_eq_true rfl, Nat.le_of_ble_eq_true rfl⟩) hK hN hP hD hS hA rfl hl.1 rfl (Nat.le_of_ble_eq_true rfl) dX0_addGains_27 ⟨Nat.zero_le _, Nat.zero_le _⟩ (fun r_1 H locs hp_27 hP hS => ?_)
        have hp_27 : r_1 = wN (S0 (i + 1)) q0 := hp_27
        refine z_topi (y := wN (S0 (i + 1)) q0) hp_27 ?_
        refine z_iast hx hb hK hP hD hS 2 0 rfl rfl (i + 1) (rfl) (by omega) (by decide) dX0_addGains_30 (fun H locs hP hD hS => ?_)
        have hP : va_P (dC, dI) vwCl [(hT, .inr (0, [.int bd, .int sb, .int nd, .ref aS, .ref aC, .ref aG])), (aS, .inl (cI, 5, .inl S0)), (aC, .inl (cI, 5, .inl (upd (zfrom (pCrF S0 q0) Cr i) (i + 1) (wN (S0 (i + 1)) q0)))), (aG, .inl (cI, 5, .inl G0))] H := hP
        have hD : va_D A [(hT, .inr (0, [.int bd, .int sb, .int nd, .ref aS, .ref aC, .ref aG])), (aS, .inl (cI, 5, .inl S0)), (aC, .inl (cI, 5, .inl (upd (zfrom (pCrF S0 q0) Cr i) (i + 1) (wN (S0 (i + 1)) q0)))), (aG, .inl (cI, 5, .inl G0))] := hD
        have e_30 : upd (zfrom (pCrF S0 q0) Cr i) (i + 1) (wN (S0 (i + 1)) q0) = zfrom (pCrF S0 q0) Cr (i + 1) := zfrom_succ _ _ _
        rw [e_30] at hP hD
        refine lv_iload_n hx hb dX0_addGains_31 rfl (lv_at hl 3 rfl) ?_
        refine lv_iload_n hx hb dX0_addGains_32 rfl (lv_at hl 2 rfl) ?_
        refine lv_aload_n hx hb dX0_addGains_33 rfl (lv_at hl 0 rfl) ?_
        refine va_get (D := (dC, dI)) (ci := 0) (v := .ref aC) (C := RX0) (T := TX0) (N := 6) hx hb hts iX0_addGains_X0 hown hK hP 0 rfl rfl 4 (by decide) (hts (.fieldLink RX0 19 "ColourTide$Tide" "crowds" "[I") (List.mem_of_getElem? (i := 1) rfl)) (fun _ h9 => h9) rfl dX0_addGains_34 ?_
        refine lv_iload hx hb dX0_addGains_37 (lv_at hl 4 rfl) ?_
        refine z_iald hx hb hK hP 2 0 rfl rfl (i + 1) (rfl) (by omega) (by decide) dX0_addGains_39 ?_
        refine z_topi (y := wN (S0 (i + 1)) q0) (zfrom_in (by omega) (Nat.le_refl _)) ?_
        refine lv_iand hx hb dX0_addGains_40 ?_
        refine lv_ior hx hb dX0_addGains_41 ?_
        refine z_topi (y := pSe S0 q0 (i + 1)) (rfl) ?_
        refine lv_istore_n (lv' := [(3, .int (pSe S0 q0 (i + 1))), (0, .ref hT), (1, .int (nI q0)), (2, .int (pSo S0 q0 i)), (4, .int (nI (i + 1)))]) hx hb dX0_addGains_42 rfl hl (by decide) rfl (fun ls hl => ?_)
        refine lv_iload_n hx hb dX0_addGains_43 rfl (lv_at hl 3 rfl) ?_
        refine lv_aload_n hx hb dX0_addGains_44 rfl (lv_at hl 1 rfl) ?_
        refine va_get (D := (dC, dI)) (ci := 0) (v := .ref aC) (C := RX0) (T := TX0) (N := 6) hx hb hts iX0_addGains_X0 hown hK hP 0 rfl rfl 4 (by decide) (hts (.fieldLink RX0 19 "ColourTide$Tide" "crowds" "[I") (List.mem_of_getElem? (i := 1) rfl)) (fun _ h9 => h9) rfl dX0_addGains_45 ?_
        refine lv_iload hx hb dX0_addGains_48 (lv_at hl 4 rfl) ?_
        refine z_iald hx hb hK hP 2 0 rfl rfl (i + 1) (rfl) (by omega) (by decide) dX0_addGains_50 ?_
        refine z_topi (y := wN (S0 (i + 1)) q0) (zfrom_in (by omega) (Nat.le_refl _)) ?_
        refine lv_ior hx hb dX0_addGains_51 ?_
        refine z_topi (y := pSo S0 q0 (i + 1)) (rfl) ?_
        refine lv_istore_n (lv' := [(2, .int (pSo S0 q0 (i + 1))), (3, .int (pSe S0 q0 (i + 1))), (0, .ref hT), (1, .int (nI q0)), (4, .int (nI (i + 1)))]) hx hb dX0_addGains_52 rfl hl (by decide) rfl (fun ls hl => ?_)
        refine lv_iinc (v := nI ((i + 1) + 1)) (lv' := [(4, .int (nI ((i + 1) + 1))), (2, .int (pSo S0 q0 (i + 1))), (3, .int (pSe S0 q0 (i + 1))), (0, .ref hT), (1, .int (nI q0))]) hx hb dX0_addGains_53 hl (k := 4) rfl (nI_1 (i + 1)) (by decide) rfl (fun ls hl => ?_)
        refine lv_goto (tgt := 7) hx hb dX0_addGains_56 (by decide) ?_
        exact ih_7 (i + 1) (by omega)  _ _ _ hP hD hS (lv_sub hl [3, 4, 1, 2, 0] rfl)
  rw [← zfrom_0 (pCrF S0 q0) Cr] at hP hD
  exact loop_7 4 0 (by omega)  _ _ _ hP hD hS (lv_sub hl [3, 4, 2, 1, 0] rfl)
abbrev rmX0_takeGains : Room := { frames := 0, cells := 0, slots := 0, locals := 0 }
set_option maxRecDepth 20000 in
theorem iX0_takeGains_X0 : ∀ w ∈ wsX00, w ∈ wsX0_takeGains := fun w h => (goodIn_r (big := wsX0_takeGains) wsX00 [3, 4, 5, 6, 7, 8] (by decide +kernel) (by decide +kernel) w h).1
set_option maxHeartbeats 4000000 in
set_option maxRecDepth 100000 in
theorem m_X0_takeGains (l : Launch) (dC : Nat → ClassId) (dI : Nat → Nat → Nat) (cI cZ cJ cD : ClassId) (hT : Nat) (aS : Nat) (aC : Nat) (aG : Nat) (bd : Int32) (sb : Int32) (nd : Int32) (S0 : Nat → Int32) (Cr : Nat → Int32) (G0 : Nat → Int32) (ch : Int32)  : zV l (dC, dI) (wT cI cZ cJ cD) yX0_takeGains wsX0_takeGains rmX0_takeGains [(hT, .inr (0, [.int bd, .int sb, .int nd, .ref aS, .ref aC, .ref aG])), (aS, .inl (cI, 5, .inl S0)), (aC, .inl (cI, 5, .inl Cr)), (aG, .inl (cI, 5, .inl G0))] [.ref hT, .int ch] (fun (_ : Unit) => [(hT, .inr (0, [.int bd, .int sb, .int nd, .ref aS, .ref aC, .ref aG])), (aS, .inl (cI, 5, .inl (pTake S0 G0 ch))), (aC, .inl (cI, 5, .inl Cr)), (aG, .inl (cI, 5, .inl G0))]) (fun (_ : Unit) => True) := by
  intro sz
  refine Met.ofW (cc := cX0_takeGains) (maxL := 3) (ret := none) (by decide) rfl ?_
  intro p e s m args below meth c s₁ B hml hv
  obtain ⟨ha, hsz, hP, hK, hD0, hN⟩ := hv
  have hx := B.exec
  have hb := B.bytes
  have hr := B.returns
  have hts := atoms_spec (ws := wsX0_takeGains) B.pre
  have hown : s.vm.findClass RX0 = some m.cls := findClass_of_methodNamed B.named
  have hlocks := B.notSynchronized
  subst hsz
  have hD := hD0.self (sz := s.heap.size)
  generalize hAe : va_A [(hT, .inr (0, [.int bd, .int sb, .int nd, .ref aS, .ref aC, .ref aG])), (aS, .inl (cI, 5, .inl S0)), (aC, .inl (cI, 5, .inl Cr)), (aG, .inl (cI, 5, .inl G0))] s.heap.size = A at hD ⊢
  have hA : ∀ q : Nat, s.heap.size ≤ q → A q := fun q h => by rw [← hAe]; exact Or.inr h
  have hS : va_S A s.heap s.heap [] := va_S.rf
  generalize hQ : MQ below (va_Qv (fun (_ : Unit) => True) (fun u t => va_P (dC, dI) vwCl ((fun (_ : Unit) => [(hT, .inr (0, [.int bd, .int sb, .int nd, .ref aS, .ref aC, .ref aG])), (aS, .inl (cI, 5, .inl (pTake S0 G0 ch))), (aC, .inl (cI, 5, .inl Cr)), (aG, .inl (cI, 5, .inl G0))]) u) t.heap) A) args s 0 0 A = Q
  have F9 : CallFix p m c cX0_takeGains 3 s args wsX0_takeGains RX0 := ⟨hx, hb, hml, hown, hts⟩
  refine z_entry (R := rmX0_takeGains) ha (Nat.le_of_ble_eq_true rfl) (fun ls hl => ?_)
  have hl : lv_has ls 3 [(0, .ref hT), (1, .int ch)] := hl
  refine lv_iconst (v := 0) hx hb dX0_takeGains_0 (by decide) ?_
  refine lv_istore_n (lv' := [(2, .int 0), (0, .ref hT), (1, .int ch)]) hx hb dX0_takeGains_1 rfl hl (by decide) rfl (fun ls hl => ?_)
  have loop_2 : ∀ (n : Nat) (k : Nat) (hkn : k + n = 5) (H : Heap) (locs : List Loc) (ls : Array Slot) (hP : va_P (dC, dI) vwCl [(hT, .inr (0, [.int bd, .int sb, .int nd, .ref aS, .ref aC, .ref aG])), (aS, .inl (cI, 5, .inl (zfill (pTakeF S0 G0 ch) S0 k))), (aC, .inl (cI, 5, .inl Cr)), (aG, .inl (cI, 5, .inl G0))] H) (hD : va_D A [(hT, .inr (0, [.int bd, .int sb, .int nd, .ref aS, .ref aC, .ref aG])), (aS, .inl (cI, 5, .inl (zfill (pTakeF S0 G0 ch) S0 k))), (aC, .inl (cI, 5, .inl Cr)), (aG, .inl (cI, 5, .inl G0))]) (hS : va_S A s.heap H locs) (hl : lv_has ls 3 [(0, .ref hT), (1, .int ch), (2, .int (nI k))]), W p l e rmX0_takeGains s m args below meth c H locs 0 0 Q (F0 m 2 ls []) := by
    intro n
    induction n with
    | zero =>
      intro k hkn  H locs ls hP hD hS hl
      refine lv_iload_n hx hb dX0_takeGains_2 rfl (lv_at hl 2 rfl) ?_
      refine lv_iconst (v := 5) hx hb dX0_takeGains_3 (by decide) ?_
      refine lv_icmp_ge (tgt := 38) hx hb dX0_takeGains_4 (by decide) (fun c_4 => ?_) (fun c_4 => ?_)
      · skip
        have n_4 := zc_le_t (a := 5) (b := k) (by omega) (by omega) c_4
        have hl9 := hl
        have hP9 := hP
        have hD9 := hD
        have hS9 := hS
        obtain rfl : k = 5 := by omega
        have hl := hl9
        have hP := hP9
        have hD := hD9
        have hS := hS9
        rw [← hQ]
        exact z_vret (W1 := (fun (_ : Unit) => [(hT, .inr (0, [.int bd, .int sb, .int nd, .ref aS, .ref aC, .ref aG])), (aS, .inl (cI, 5, .inl (pTake S0 G0 ch))), (aC, .inl (cI, 5, .inl Cr)), (aG, .inl (cI, 5, .inl G0))])) hx hb hr hlocks hP hS () (rfl) (trivial) dX0_takeGains_38
      · skip
        have n_4 := zc_le_f (a := 5) (b := k) (by omega) (by omega) c_4
        exact absurd n_4 (by omega)
    | succ n ih_2 =>
      intro k hkn  H locs ls hP hD hS hl
      refine lv_iload_n hx hb dX0_takeGains_2 rfl (lv_at hl 2 rfl) ?_
      refine lv_iconst (v := 5) hx hb dX0_takeGains_3 (by decide) ?_
      refine lv_icmp_ge (tgt := 38) hx hb dX0_takeGains_4 (by decide) (fun c_4 => ?_) (fun c_4 => ?_)
      · skip
        have n_4 := zc_le_t (a := 5) (b := k) (by omega) (by omega) c_4
        exact absurd n_4 (by omega)
      · skip
        have n_4 := zc_le_f (a := 5) (b := k) (by omega) (by omega) c_4
        refine lv_aload_n hx hb dX0_takeGains_7 rfl (lv_at hl 0 rfl) ?_
        refine va_get (D := (dC, dI)) (ci := 0) (v := .ref aS) (C := RX0) (T := TX0) (N := 6) hx hb hts iX0_takeGains_X0 hown hK hP 0 rfl rfl 3 (by decide) (hts (.fieldLink RX0 15 "ColourTide$Tide" "sets" "[I") (List.mem_of_getElem? (i := 1) rfl)) (fun _ h9 => h9) rfl dX0_takeGains_8 ?_
        refine lv_iload_n hx hb dX0_takeGains_11 rfl (lv_at hl 2 rfl) ?_
        refine lv_aload_n hx hb dX0_takeGains_12 rfl (lv_at hl 0 rfl) ?_
        refine va_get (D := (dC, dI)) (ci := 0) (v := .ref aS) (C := RX0) (T := TX0) (N := 6) hx hb hts iX0_takeGains_X0 hown hK hP 0 rfl rfl 3 (by decide) (hts (.fieldLink RX0 15 "ColourTide$Tide" "sets" "[I") (List.mem_of_getElem? (i := 1) rfl)) (fun _ h9 => h9) rfl dX0_takeGains_13 ?_
        refine lv_iload_n hx hb dX0_takeGains_16 rfl (lv_at hl 2 rfl) ?_
        refine z_iald hx hb hK hP 1 0 rfl rfl k (rfl) (by omega) (by decide) dX0_takeGains_17 ?_
        refine z_topi (y := S0 k) (zfill_at (Nat.le_refl _)) ?_
        refine lv_iload_n hx hb dX0_takeGains_18 rfl (lv_at hl 1 rfl) ?_
        refine lv_iconst (v := (-1)) hx hb dX0_takeGains_19 (by decide) ?_
        refine lv_ixor hx hb dX0_takeGains_20 ?_
        refine lv_iand hx hb dX0_takeGains_21 ?_
        refine lv_aload_n hx hb dX0_takeGains_22 rfl (lv_at hl 0 rfl) ?_
        refine va_get (D := (dC, dI)) (ci := 0) (v := .ref aG) (C := RX0) (T := TX0) (N := 6) hx hb hts iX0_takeGains_X0 hown hK hP 0 rfl rfl 5 (by decide) (hts (.fieldLink RX0 22 "ColourTide$Tide" "gains" "[I") (List.mem_of_getElem? (i := 2) rfl)) (fun _ h9 => h9) rfl dX0_takeGains_23 ?_
        refine lv_iload_n hx hb dX0_takeGains_26 rfl (lv_at hl 2 rfl) ?_
        refine z_iald hx hb hK hP 3 0 rfl rfl k (rfl) (by omega) (by decide) dX0_takeGains_27 ?_
        refine lv_iload_n hx hb dX0_takeGains_28 rfl (lv_at hl 1 rfl) ?_
        refine lv_iand hx hb dX0_takeGains_29 ?_
        refine lv_ior hx hb dX0_takeGains_30 ?_
        refine z_iast hx hb hK hP hD hS 1 0 rfl rfl k (rfl) (by omega) (by decide) dX0_takeGains_31 (fun H locs hP hD hS => ?_)
        have hP : va_P (dC, dI) vwCl [(hT, .inr (0, [.int bd, .int sb, .int nd, .ref aS, .ref aC, .ref aG])), (aS, .inl (cI, 5, .inl (upd (zfill (pTakeF S0 G0 ch) S0 k) k (((S0 k) &&& (ch ^^^ (-1))) ||| ((G0 k) &&& ch))))), (aC, .inl (cI, 5, .inl Cr)), (aG, .inl (cI, 5, .inl G0))] H := hP
        have hD : va_D A [(hT, .inr (0, [.int bd, .int sb, .int nd, .ref aS, .ref aC, .ref aG])), (aS, .inl (cI, 5, .inl (upd (zfill (pTakeF S0 G0 ch) S0 k) k (((S0 k) &&& (ch ^^^ (-1))) ||| ((G0 k) &&& ch))))), (aC, .inl (cI, 5, .inl Cr)), (aG, .inl (cI, 5, .inl G0))] := hD
        have e_31 : upd (zfill (pTakeF S0 G0 ch) S0 k) k (((S0 k) &&& (ch ^^^ (-1))) ||| ((G0 k) &&& ch)) = zfill (pTakeF S0 G0 ch) S0 (k + 1) := zfill_succ _ _ _
        rw [e_31] at hP hD
        refine lv_iinc (v := nI (k + 1)) (lv' := [(2, .int (nI (k + 1))), (0, .ref hT), (1, .int ch)]) hx hb dX0_takeGains_32 hl (k := 2) rfl (nI_1 k) (by decide) rfl (fun ls hl => ?_)
        refine lv_goto (tgt := 2) hx hb dX0_takeGains_35 (by decide) ?_
        exact ih_2 (k + 1) (by omega)  _ _ _ hP hD hS (lv_sub hl [1, 2, 0] rfl)
  rw [← zfill_0 (pTakeF S0 G0 ch) S0] at hP hD
  exact loop_2 5 0 (by omega)  _ _ _ hP hD hS (lv_sub hl [1, 2, 0] rfl)
abbrev rmX0_foresee : Room := { frames := 2, cells := 0, slots := 0, locals := 49 }
set_option maxRecDepth 20000 in
theorem iX0_foresee_X0 : ∀ w ∈ wsX00, w ∈ wsX0_foresee := fun w h => (goodIn_r (big := wsX0_foresee) wsX00 [15, 16, 17, 18, 19, 20] (by decide +kernel) (by decide +kernel) w h).1
set_option maxHeartbeats 4000000 in
set_option maxRecDepth 100000 in
theorem m_X0_foresee (l : Launch) (dC : Nat → ClassId) (dI : Nat → Nat → Nat) (cI cZ cJ cD : ClassId) (hT : Nat) (aS : Nat) (aC : Nat) (aG : Nat) (bd : Int32) (sb : Int32) (nd : Int32) (S0 : Nat → Int32) (Cr : Nat → Int32) (G0 : Nat → Int32) (q0 : Nat) (hq : 1 ≤ q0 ∧ q0 ≤ 4) (hnd : nd = nI q0) : zI l (dC, dI) (wT cI cZ cJ cD) yX0_foresee wsX0_foresee rmX0_foresee [(hT, .inr (0, [.int bd, .int sb, .int nd, .ref aS, .ref aC, .ref aG])), (aS, .inl (cI, 5, .inl S0)), (aC, .inl (cI, 5, .inl Cr)), (aG, .inl (cI, 5, .inl G0))] [.ref hT] (fun (_ : Unit) => [(hT, .inr (0, [.int bd, .int sb, .int nd, .ref aS, .ref aC, .ref aG])), (aS, .inl (cI, 5, .inl S0)), (aC, .inl (cI, 5, .inl (pCs S0 q0 Cr (5 - q0)))), (aG, .inl (cI, 5, .inl (pGf S0 bd sb q0 G0)))]) (fun (r : Int32) (_ : Unit) => r = pC0 S0 bd sb q0) := by
  intro sz
  refine Met.ofW (cc := cX0_foresee) (maxL := 3) (ret := (some .int)) (by decide) rfl ?_
  intro p e s m args below meth c s₁ B hml hv
  obtain ⟨ha, hsz, hP, hK, hD0, hN⟩ := hv
  have hx := B.exec
  have hb := B.bytes
  have hr := B.returns
  have hts := atoms_spec (ws := wsX0_foresee) B.pre
  have hown : s.vm.findClass RX0 = some m.cls := findClass_of_methodNamed B.named
  have hlocks := B.notSynchronized
  subst hsz
  have hD := hD0.self (sz := s.heap.size)
  generalize hAe : va_A [(hT, .inr (0, [.int bd, .int sb, .int nd, .ref aS, .ref aC, .ref aG])), (aS, .inl (cI, 5, .inl S0)), (aC, .inl (cI, 5, .inl Cr)), (aG, .inl (cI, 5, .inl G0))] s.heap.size = A at hD ⊢
  have hA : ∀ q : Nat, s.heap.size ≤ q → A q := fun q h => by rw [← hAe]; exact Or.inr h
  have hS : va_S A s.heap s.heap [] := va_S.rf
  generalize hQ : MQ below (va_Qi (fun (r : Int32) (_ : Unit) => r = pC0 S0 bd sb q0) (fun u t => va_P (dC, dI) vwCl ((fun (_ : Unit) => [(hT, .inr (0, [.int bd, .int sb, .int nd, .ref aS, .ref aC, .ref aG])), (aS, .inl (cI, 5, .inl S0)), (aC, .inl (cI, 5, .inl (pCs S0 q0 Cr (5 - q0)))), (aG, .inl (cI, 5, .inl (pGf S0 bd sb q0 G0)))]) u) t.heap) A) args s 0 0 A = Q
  have F9 : CallFix p m c cX0_foresee 3 s args wsX0_foresee RX0 := ⟨hx, hb, hml, hown, hts⟩
  refine z_entry (R := rmX0_foresee) ha (Nat.le_of_ble_eq_true rfl) (fun ls hl => ?_)
  have hl : lv_has ls 3 [(0, .ref hT)] := hl
  refine lv_iconst (v := 0) hx hb dX0_foresee_0 (by decide) ?_
  refine lv_istore_n (lv' := [(1, .int 0), (0, .ref hT)]) hx hb dX0_foresee_1 rfl hl (by decide) rfl (fun ls hl => ?_)
  have loop_2 : ∀ (n : Nat) (k : Nat) (hkn : k + n = 5) (H : Heap) (locs : List Loc) (ls : Array Slot) (hP : va_P (dC, dI) vwCl [(hT, .inr (0, [.int bd, .int sb, .int nd, .ref aS, .ref aC, .ref aG])), (aS, .inl (cI, 5, .inl S0)), (aC, .inl (cI, 5, .inl Cr)), (aG, .inl (cI, 5, .inl (zfill (fun _ => 0) G0 k)))] H) (hD : va_D A [(hT, .inr (0, [.int bd, .int sb, .int nd, .ref aS, .ref aC, .ref aG])), (aS, .inl (cI, 5, .inl S0)), (aC, .inl (cI, 5, .inl Cr)), (aG, .inl (cI, 5, .inl (zfill (fun _ => 0) G0 k)))]) (hS : va_S A s.heap H locs) (hl : lv_has ls 3 [(0, .ref hT), (1, .int (nI k))]), W p l e rmX0_foresee s m args below meth c H locs 0 0 Q (F0 m 2 ls []) := by
    intro n
    induction n with
    | zero =>
      intro k hkn  H locs ls hP hD hS hl
      refine lv_iload_n hx hb dX0_foresee_2 rfl (lv_at hl 1 rfl) ?_
      refine lv_iconst (v := 5) hx hb dX0_foresee_3 (by decide) ?_
      refine lv_icmp_ge (tgt := 20) hx hb dX0_foresee_4 (by decide) (fun c_4 => ?_) (fun c_4 => ?_)
      · skip
        have n_4 := zc_le_t (a := 5) (b := k) (by omega) (by omega) c_4
        refine lv_aload_n hx hb dX0_foresee_20 rfl (lv_at hl 0 rfl) ?_
        refine va_get (D := (dC, dI)) (ci := 0) (v := .int nd) (C := RX0) (T := TX0) (N := 6) hx hb hts iX0_foresee_X0 hown hK hP 0 rfl rfl 2 (by decide) (hts (.fieldLink RX0 9 "ColourTide$Tide" "need" "I") (List.mem_of_getElem? (i := 2) rfl)) (fun _ h9 => h9) rfl dX0_foresee_21 ?_
        refine z_topi (y := nI (q0 + 0)) (hnd) ?_
        refine lv_istore_n (lv' := [(1, .int (nI (q0 + 0))), (0, .ref hT)]) hx hb dX0_foresee_24 rfl hl (by decide) rfl (fun ls hl => ?_)
        have loop_25 : ∀ (n : Nat) (i : Nat) (hkn : i + n = 5 - q0) (H : Heap) (locs : List Loc) (ls : Array Slot) (hP : va_P (dC, dI) vwCl [(hT, .inr (0, [.int bd, .int sb, .int nd, .ref aS, .ref aC, .ref aG])), (aS, .inl (cI, 5, .inl S0)), (aC, .inl (cI, 5, .inl (pCs S0 q0 Cr i))), (aG, .inl (cI, 5, .inl (pGs S0 bd sb q0 (zfill (fun _ => 0) G0 5) i)))] H) (hD : va_D A [(hT, .inr (0, [.int bd, .int sb, .int nd, .ref aS, .ref aC, .ref aG])), (aS, .inl (cI, 5, .inl S0)), (aC, .inl (cI, 5, .inl (pCs S0 q0 Cr i))), (aG, .inl (cI, 5, .inl (pGs S0 bd sb q0 (zfill (fun _ => 0) G0 5) i)))]) (hS : va_S A s.heap H locs) (hl : lv_has ls 3 [(0, .ref hT), (1, .int (nI (q0 + i)))]), W p l e rmX0_foresee s m args below meth c H locs 0 0 Q (F0 m 25 ls []) := by
          intro n
          induction n with
          | zero =>
            intro i hkn  H locs ls hP hD hS hl
            refine lv_iload_n hx hb dX0_foresee_25 rfl (lv_at hl 1 rfl) ?_
            refine lv_iconst (v := 4) hx hb dX0_foresee_26 (by decide) ?_
            refine lv_icmp_gt (tgt := 41) hx hb dX0_foresee_27 (by decide) (fun c_27 => ?_) (fun c_27 => ?_)
            · skip
              have n_27 := zc_lt_t (a := 4) (b := (q0 + i)) (by omega) (by omega) c_27
              refine lv_iconst (v := 0) hx hb dX0_foresee_41 (by decide) ?_
              refine lv_istore_n (lv' := [(1, .int 0), (0, .ref hT)]) hx hb dX0_foresee_42 rfl hl (by decide) rfl (fun ls hl => ?_)
              refine lv_iconst (v := 1) hx hb dX0_foresee_43 (by decide) ?_
              refine lv_istore_n (lv' := [(2, .int 1), (1, .int 0), (0, .ref hT)]) hx hb dX0_foresee_44 rfl hl (by decide) rfl (fun ls hl => ?_)
              have loop_45 : ∀ (n : Nat) (i2 : Nat) (hkn : i2 + n = 4) (H : Heap) (locs : List Loc) (ls : Array Slot) (hP : va_P (dC, dI) vwCl [(hT, .inr (0, [.int bd, .int sb, .int nd, .ref aS, .ref aC, .ref aG])), (aS, .inl (cI, 5, .inl S0)), (aC, .inl (cI, 5, .inl (pCs S0 q0 Cr (5 - q0)))), (aG, .inl (cI, 5, .inl (pGf S0 bd sb q0 G0)))] H) (hD : va_D A [(hT, .inr (0, [.int bd, .int sb, .int nd, .ref aS, .ref aC, .ref aG])), (aS, .inl (cI, 5, .inl S0)), (aC, .inl (cI, 5, .inl (pCs S0 q0 Cr (5 - q0)))), (aG, .inl (cI, 5, .inl (pGf S0 bd sb q0 G0)))]) (hS : va_S A s.heap H locs) (hl : lv_has ls 3 [(0, .ref hT), (1, .int (pCh S0 (pGf S0 bd sb q0 G0) i2)), (2, .int (nI (i2 + 1)))]), W p l e rmX0_foresee s m args below meth c H locs 0 0 Q (F0 m 45 ls []) := by
                intro n
                induction n with
                | zero =>
                  intro i2 hkn  H locs ls hP hD hS hl
                  refine lv_iload_n hx hb dX0_foresee_45 rfl (lv_at hl 2 rfl) ?_
                  refine lv_iconst (v := 5) hx hb dX0_foresee_46 (by decide) ?_
                  refine lv_icmp_ge (tgt := 74) hx hb dX0_foresee_47 (by decide) (fun c_47 => ?_) (fun c_47 => ?_)
                  · skip
                    have n_47 := zc_le_t (a := 5) (b := (i2 + 1)) (by omega) (by omega) c_47
                    refine lv_iload_n hx hb dX0_foresee_74 rfl (lv_at hl 1 rfl) ?_
                    have hl9 := hl
                    have hP9 := hP
                    have hD9 := hD
                    have hS9 := hS
                    obtain rfl : i2 = 4 := by omega
                    have hl := hl9
                    have hP := hP9
                    have hD := hD9
                    have hS := hS9
                    rw [← hQ]
                    exact z_iret (W1 := (fun (_ : Unit) => [(hT, .inr (0, [.int bd, .int sb, .int nd, .ref aS, .ref aC, .ref aG])), (aS, .inl (cI, 5, .inl S0)), (aC, .inl (cI, 5, .inl (pCs S0 q0 Cr (5 - q0)))), (aG, .inl (cI, 5, .inl (pGf S0 bd sb q0 G0)))])) hx hb hr hlocks hP hS () (rfl) (pChg_0 S0 bd sb q0 G0) dX0_foresee_75
                  · skip
                    have n_47 := zc_le_f (a := 5) (b := (i2 + 1)) (by omega) (by omega) c_47
                    exact absurd n_47 (by omega)
                | succ n ih_45 =>
                  intro i2 hkn  H locs ls hP hD hS hl
                  refine lv_iload_n hx hb dX0_foresee_45 rfl (lv_at hl 2 rfl) ?_
                  refine lv_iconst (v := 5) hx hb dX0_foresee_46 (by decide) ?_
                  refine lv_icmp_ge (tgt := 74) hx hb dX0_foresee_47 (by decide) (fun c_47 => ?_) (fun c_47 => ?_)
                  · skip
                    have n_47 := zc_le_t (a := 5) (b := (i2 + 1)) (by omega) (by omega) c_47
                    exact absurd n_47 (by omega)
                  · skip
                    have n_47 := zc_le_f (a := 5) (b := (i2 + 1)) (by omega) (by omega) c_47
                    refine lv_iload_n hx hb dX0_foresee_50 rfl (lv_at hl 1 rfl) ?_
                    refine lv_aload_n hx hb dX0_foresee_51 rfl (lv_at hl 0 rfl) ?_
                    refine va_get (D := (dC, dI)) (ci := 0) (v := .ref aG) (C := RX0) (T := TX0) (N := 6) hx hb hts iX0_foresee_X0 hown hK hP 0 rfl rfl 5 (by decide) (hts (.fieldLink RX0 22 "ColourTide$Tide" "gains" "[I") (List.mem_of_getElem? (i := 1) rfl)) (fun _ h9 => h9) rfl dX0_foresee_52 ?_
                    refine lv_iload_n hx hb dX0_foresee_55 rfl (lv_at hl 2 rfl) ?_
                    refine z_iald hx hb hK hP 3 0 rfl rfl (i2 + 1) (rfl) (by omega) (by decide) dX0_foresee_56 ?_
                    refine lv_aload_n hx hb dX0_foresee_57 rfl (lv_at hl 0 rfl) ?_
                    refine va_get (D := (dC, dI)) (ci := 0) (v := .ref aS) (C := RX0) (T := TX0) (N := 6) hx hb hts iX0_foresee_X0 hown hK hP 0 rfl rfl 3 (by decide) (hts (.fieldLink RX0 15 "ColourTide$Tide" "sets" "[I") (List.mem_of_getElem? (i := 3) rfl)) (fun _ h9 => h9) rfl dX0_foresee_58 ?_
                    refine lv_iload_n hx hb dX0_foresee_61 rfl (lv_at hl 2 rfl) ?_
                    refine z_iald hx hb hK hP 1 0 rfl rfl (i2 + 1) (rfl) (by omega) (by decide) dX0_foresee_62 ?_
                    refine lv_iconst (v := (-1)) hx hb dX0_foresee_63 (by decide) ?_
                    refine lv_ixor hx hb dX0_foresee_64 ?_
                    refine lv_iand hx hb dX0_foresee_65 ?_
                    refine lv_ior hx hb dX0_foresee_66 ?_
                    refine z_topi (y := pCh S0 (pGf S0 bd sb q0 G0) (i2 + 1)) (rfl) ?_
                    refine lv_istore_n (lv' := [(1, .int (pCh S0 (pGf S0 bd sb q0 G0) (i2 + 1))), (0, .ref hT), (2, .int (nI (i2 + 1)))]) hx hb dX0_foresee_67 rfl hl (by decide) rfl (fun ls hl => ?_)
                    refine lv_iinc (v := nI ((i2 + 1) + 1)) (lv' := [(2, .int (nI ((i2 + 1) + 1))), (1, .int (pCh S0 (pGf S0 bd sb q0 G0) (i2 + 1))), (0, .ref hT)]) hx hb dX0_foresee_68 hl (k := 2) rfl (nI_1 (i2 + 1)) (by decide) rfl (fun ls hl => ?_)
                    refine lv_goto (tgt := 45) hx hb dX0_foresee_71 (by decide) ?_
                    exact ih_45 (i2 + 1) (by omega)  _ _ _ hP hD hS (lv_sub hl [2, 1, 0] rfl)
              have hl9 := hl
              have hP9 := hP
              have hD9 := hD
              have hS9 := hS
              obtain rfl : i = 5 - q0 := by omega
              have hl := hl9
              have hP := hP9
              have hD := hD9
              have hS := hS9
              exact loop_45 4 0 (by omega)  _ _ _ hP hD hS (lv_sub hl [2, 1, 0] rfl)
            · skip
              have n_27 := zc_lt_f (a := 4) (b := (q0 + i)) (by omega) (by omega) c_27
              exact absurd n_27 (by omega)
          | succ n ih_25 =>
            intro i hkn  H locs ls hP hD hS hl
            refine lv_iload_n hx hb dX0_foresee_25 rfl (lv_at hl 1 rfl) ?_
            refine lv_iconst (v := 4) hx hb dX0_foresee_26 (by decide) ?_
            refine lv_icmp_gt (tgt := 41) hx hb dX0_foresee_27 (by decide) (fun c_27 => ?_) (fun c_27 => ?_)
            · skip
              have n_27 := zc_lt_t (a := 4) (b := (q0 + i)) (by omega) (by omega) c_27
              exact absurd n_27 (by omega)
            · skip
              have n_27 := zc_lt_f (a := 4) (b := (q0 + i)) (by omega) (by omega) c_27
              refine lv_aload_n hx hb dX0_foresee_30 rfl (lv_at hl 0 rfl) ?_
              refine lv_iload_n hx hb dX0_foresee_31 rfl (lv_at hl 1 rfl) ?_
              refine z_callVv (As := [.int (nI (q0 + i))]) (rest := []) F9 (m_X0_addGains l dC dI cI cZ cJ cD hT aS aC aG bd sb nd S0 (pCs S0 q0 Cr i) (pGs S0 bd sb q0 (zfill (fun _ => 0) G0 5) i) (q0 + i) (by omega)) (cwV 1 hts gX0_foresee_X0_addGains rfl rfl rfl (by decide +kernel) ⟨Nat.le_of_ble_eq_true rfl, Nat.le_of_ble_eq_true rfl⟩) hK hN hP hD hS hA [0, 1, 2, 3] rfl rfl (fun _ => rfl) 0 (ci := 0) rfl rfl rfl rfl hl.1 rfl (Nat.le_of_ble_eq_true rfl) dX0_foresee_32 ⟨Nat.zero_le _, Nat.zero_le _⟩ (fun u H locs hp_32 hP hD hS => ?_)
              have hP : va_P (dC, dI) vwCl [(hT, .inr (0, [.int bd, .int sb, .int nd, .ref aS, .ref aC, .ref aG])), (aS, .inl (cI, 5, .inl S0)), (aC, .inl (cI, 5, .inl (zfrom (pCrF S0 (q0 + i)) (pCs S0 q0 Cr i) 4))), (aG, .inl (cI, 5, .inl (zfrom (pAddF S0 bd sb (q0 + i) (pGs S0 bd sb q0 (zfill (fun _ => 0) G0 5) i)) (pGs S0 bd sb q0 (zfill (fun _ => 0) G0 5) i) 4)))] H := hP
              have hD : va_D A [(hT, .inr (0, [.int bd, .int sb, .int nd, .ref aS, .ref aC, .ref aG])), (aS, .inl (cI, 5, .inl S0)), (aC, .inl (cI, 5, .inl (zfrom (pCrF S0 (q0 + i)) (pCs S0 q0 Cr i) 4))), (aG, .inl (cI, 5, .inl (zfrom (pAddF S0 bd sb (q0 + i) (pGs S0 bd sb q0 (zfill (fun _ => 0) G0 5) i)) (pGs S0 bd sb q0 (zfill (fun _ => 0) G0 5) i) 4)))] := hD
              refine lv_iinc (v := nI ((q0 + i) + 1)) (lv' := [(1, .int (nI ((q0 + i) + 1))), (0, .ref hT)]) hx hb dX0_foresee_35 hl (k := 1) rfl (nI_1 (q0 + i)) (by decide) rfl (fun ls hl => ?_)
              refine lv_goto (tgt := 25) hx hb dX0_foresee_38 (by decide) ?_
              exact ih_25 (i + 1) (by omega)  _ _ _ hP hD hS (lv_sub hl [1, 0] rfl)
        have hl9 := hl
        have hP9 := hP
        have hD9 := hD
        have hS9 := hS
        obtain rfl : k = 5 := by omega
        have hl := hl9
        have hP := hP9
        have hD := hD9
        have hS := hS9
        exact loop_25 (5 - q0) 0 (by omega)  _ _ _ hP hD hS (lv_sub hl [1, 0] rfl)
      · skip
        have n_4 := zc_le_f (a := 5) (b := k) (by omega) (by omega) c_4
        exact absurd n_4 (by omega)
    | succ n ih_2 =>
      intro k hkn  H locs ls hP hD hS hl
      refine lv_iload_n hx hb dX0_foresee_2 rfl (lv_at hl 1 rfl) ?_
      refine lv_iconst (v := 5) hx hb dX0_foresee_3 (by decide) ?_
      refine lv_icmp_ge (tgt := 20) hx hb dX0_foresee_4 (by decide) (fun c_4 => ?_) (fun c_4 => ?_)
      · skip
        have n_4 := zc_le_t (a := 5) (b := k) (by omega) (by omega) c_4
        exact absurd n_4 (by omega)
      · skip
        have n_4 := zc_le_f (a := 5) (b := k) (by omega) (by omega) c_4
        refine lv_aload_n hx hb dX0_foresee_7 rfl (lv_at hl 0 rfl) ?_
        refine va_get (D := (dC, dI)) (ci := 0) (v := .ref aG) (C := RX0) (T := TX0) (N := 6) hx hb hts iX0_foresee_X0 hown hK hP 0 rfl rfl 5 (by decide) (hts (.fieldLink RX0 22 "ColourTide$Tide" "gains" "[I") (List.mem_of_getElem? (i := 1) rfl)) (fun _ h9 => h9) rfl dX0_foresee_8 ?_
        refine lv_iload_n hx hb dX0_foresee_11 rfl (lv_at hl 1 rfl) ?_
        refine lv_iconst (v := 0) hx hb dX0_foresee_12 (by decide) ?_
        refine z_iast hx hb hK hP hD hS 3 0 rfl rfl k (rfl) (by omega) (by decide) dX0_foresee_13 (fun H locs hP hD hS => ?_)
        have hP : va_P (dC, dI) vwCl [(hT, .inr (0, [.int bd, .int sb, .int nd, .ref aS, .ref aC, .ref aG])), (aS, .inl (cI, 5, .inl S0)), (aC, .inl (cI, 5, .inl Cr)), (aG, .inl (cI, 5, .inl (upd (zfill (fun _ => 0) G0 k) k 0)))] H := hP
        have hD : va_D A [(hT, .inr (0, [.int bd, .int sb, .int nd, .ref aS, .ref aC, .ref aG])), (aS, .inl (cI, 5, .inl S0)), (aC, .inl (cI, 5, .inl Cr)), (aG, .inl (cI, 5, .inl (upd (zfill (fun _ => 0) G0 k) k 0)))] := hD
        have e_13 : upd (zfill (fun _ => 0) G0 k) k 0 = zfill (fun _ => 0) G0 (k + 1) := zfill_succ _ _ _
        rw [e_13] at hP hD
        refine lv_iinc (v := nI (k + 1)) (lv' := [(1, .int (nI (k + 1))), (0, .ref hT)]) hx hb dX0_foresee_14 hl (k := 1) rfl (nI_1 k) (by decide) rfl (fun ls hl => ?_)
        refine lv_goto (tgt := 2) hx hb dX0_foresee_17 (by decide) ?_
        exact ih_2 (k + 1) (by omega)  _ _ _ hP hD hS (lv_sub hl [1, 0] rfl)
  rw [← zfill_0 (fun _ => 0) G0] at hP hD
  exact loop_2 5 0 (by omega)  _ _ _ hP hD hS (lv_sub hl [1, 0] rfl)
abbrev rmX0_foreseenColourOf : Room := { frames := 2, cells := 0, slots := 0, locals := 43 }
set_option maxRecDepth 20000 in
theorem iX0_foreseenColourOf_X0 : ∀ w ∈ wsX00, w ∈ wsX0_foreseenColourOf := fun w h => (goodIn_r (big := wsX0_foreseenColourOf) wsX00 [11, 12, 13, 14, 15, 16] (by decide +kernel) (by decide +kernel) w h).1
set_option maxHeartbeats 4000000 in
set_option maxRecDepth 100000 in
theorem m_X0_foreseenColourOf (l : Launch) (dC : Nat → ClassId) (dI : Nat → Nat → Nat) (cI cZ cJ cD : ClassId) (hT : Nat) (aS : Nat) (aC : Nat) (aG : Nat) (bd : Int32) (sb : Int32) (nd : Int32) (S0 : Nat → Int32) (Cr : Nat → Int32) (G0 : Nat → Int32) (z0 : Int32)  : zI l (dC, dI) (wT cI cZ cJ cD) yX0_foreseenColourOf wsX0_foreseenColourOf rmX0_foreseenColourOf [(hT, .inr (0, [.int bd, .int sb, .int nd, .ref aS, .ref aC, .ref aG])), (aS, .inl (cI, 5, .inl S0)), (aC, .inl (cI, 5, .inl Cr)), (aG, .inl (cI, 5, .inl G0))] [.ref hT, .int z0] (fun (_ : Unit) => [(hT, .inr (0, [.int bd, .int sb, .int nd, .ref aS, .ref aC, .ref aG])), (aS, .inl (cI, 5, .inl S0)), (aC, .inl (cI, 5, .inl Cr)), (aG, .inl (cI, 5, .inl G0))]) (fun (r : Int32) (_ : Unit) => r = pFore S0 G0 z0) := by
  intro sz
  refine Met.ofW (cc := cX0_foreseenColourOf) (maxL := 3) (ret := (some .int)) (by decide) rfl ?_
  intro p e s m args below meth c s₁ B hml hv
  obtain ⟨ha, hsz, hP, hK, hD0, hN⟩ := hv
  have hx := B.exec
  have hb := B.bytes
  have hr := B.returns
  have hts := atoms_spec (ws := wsX0_foreseenColourOf) B.pre
  have hown : s.vm.findClass RX0 = some m.cls := findClass_of_methodNamed B.named
  have hlocks := B.notSynchronized
  subst hsz
  have hD := hD0.self (sz := s.heap.size)
  generalize hAe : va_A [(hT, .inr (0, [.int bd, .int sb, .int nd, .ref aS, .ref aC, .ref aG])), (aS, .inl (cI, 5, .inl S0)), (aC, .inl (cI, 5, .inl Cr)), (aG, .inl (cI, 5, .inl G0))] s.heap.size = A at hD ⊢
  have hA : ∀ q : Nat, s.heap.size ≤ q → A q := fun q h => by rw [← hAe]; exact Or.inr h
  have hS : va_S A s.heap s.heap [] := va_S.rf
  generalize hQ : MQ below (va_Qi (fun (r : Int32) (_ : Unit) => r = pFore S0 G0 z0) (fun u t => va_P (dC, dI) vwCl ((fun (_ : Unit) => [(hT, .inr (0, [.int bd, .int sb, .int nd, .ref aS, .ref aC, .ref aG])), (aS, .inl (cI, 5, .inl S0)), (aC, .inl (cI, 5, .inl Cr)), (aG, .inl (cI, 5, .inl G0))]) u) t.heap) A) args s 0 0 A = Q
  have F9 : CallFix p m c cX0_foreseenColourOf 3 s args wsX0_foreseenColourOf RX0 := ⟨hx, hb, hml, hown, hts⟩
  refine z_entry (R := rmX0_foreseenColourOf) ha (Nat.le_of_ble_eq_true rfl) (fun ls hl => ?_)
  have hl : lv_has ls 3 [(0, .ref hT), (1, .int z0)] := hl
  refine lv_iload_n hx hb dX0_foreseenColourOf_0 rfl (lv_at hl 1 rfl) ?_
  refine lv_aload_n hx hb dX0_foreseenColourOf_1 rfl (lv_at hl 0 rfl) ?_
  refine va_get (D := (dC, dI)) (ci := 0) (v := .ref aG) (C := RX0) (T := TX0) (N := 6) hx hb hts iX0_foreseenColourOf_X0 hown hK hP 0 rfl rfl 5 (by decide) (hts (.fieldLink RX0 22 "ColourTide$Tide" "gains" "[I") (List.mem_of_getElem? (i := 1) rfl)) (fun _ h9 => h9) rfl dX0_foreseenColourOf_2 ?_
  refine z_callSWi (As := [.int z0, .ref aG]) (rest := []) F9 (m_X0_firstColourWith l dC dI cI cZ cJ cD aG G0 z0 ) (va_cwS 2 hts gX0_foreseenColourOf_X0_firstColourWith rfl rfl rfl (by decide +kernel) ⟨Nat.le_of_ble_eq_true rfl, Nat.le_of_ble_eq_true rfl⟩) hK hN hP hD hS hA [3] rfl rfl (fun _ => rfl) rfl hl.1 rfl (Nat.le_of_ble_eq_true rfl) dX0_foreseenColourOf_5 ⟨Nat.zero_le _, Nat.zero_le _⟩ (fun r_1 u H locs hp_5 hP hD hS => ?_)
  have hP : va_P (dC, dI) vwCl [(hT, .inr (0, [.int bd, .int sb, .int nd, .ref aS, .ref aC, .ref aG])), (aS, .inl (cI, 5, .inl S0)), (aC, .inl (cI, 5, .inl Cr)), (aG, .inl (cI, 5, .inl G0))] H := hP
  have hD : va_D A [(hT, .inr (0, [.int bd, .int sb, .int nd, .ref aS, .ref aC, .ref aG])), (aS, .inl (cI, 5, .inl S0)), (aC, .inl (cI, 5, .inl Cr)), (aG, .inl (cI, 5, .inl G0))] := hD
  have hp_5 : r_1 = pFirst G0 z0 := hp_5
  refine z_topi (y := pFirst G0 z0) hp_5 ?_
  refine lv_istore_n (lv' := [(2, .int (pFirst G0 z0)), (0, .ref hT), (1, .int z0)]) hx hb dX0_foreseenColourOf_8 rfl hl (by decide) rfl (fun ls hl => ?_)
  refine lv_iload_n hx hb dX0_foreseenColourOf_9 rfl (lv_at hl 0 rfl) ?_
  refine lv_if_ne (tgt := 21) hx hb dX0_foreseenColourOf_10 (by decide) (fun c_10 => ?_) (fun c_10 => ?_)
  · skip
    refine lv_iload_n hx hb dX0_foreseenColourOf_21 rfl (lv_at hl 0 rfl) ?_
    rw [← hQ]
    exact z_iret (W1 := (fun (_ : Unit) => [(hT, .inr (0, [.int bd, .int sb, .int nd, .ref aS, .ref aC, .ref aG])), (aS, .inl (cI, 5, .inl S0)), (aC, .inl (cI, 5, .inl Cr)), (aG, .inl (cI, 5, .inl G0))])) hx hb hr hlocks hP hS () (rfl) (by unfold pFore; simp [c_10]) dX0_foreseenColourOf_22
  · skip
    refine lv_aload_n hx hb dX0_foreseenColourOf_13 rfl (lv_at hl 1 rfl) ?_
    refine lv_iload_n hx hb dX0_foreseenColourOf_14 rfl (lv_at hl 2 rfl) ?_
    refine z_callVi (As := [.int z0]) (rest := []) F9 (m_X0_colourOf l dC dI cI cZ cJ cD hT aS aC aG bd sb nd S0 Cr G0 z0 ) (cwV 1 hts gX0_foreseenColourOf_X0_colourOf rfl rfl rfl (by decide +kernel) ⟨Nat.le_of_ble_eq_true rfl, Nat.le_of_ble_eq_true rfl⟩) hK hN hP hD hS hA [0, 1, 2, 3] rfl rfl (fun _ => rfl) 0 (ci := 0) rfl rfl rfl rfl hl.1 rfl (Nat.le_of_ble_eq_true rfl) dX0_foreseenColourOf_15 ⟨Nat.zero_le _, Nat.zero_le _⟩ (fun r_2 u H locs hp_15 hP hD hS => ?_)
    have hP : va_P (dC, dI) vwCl [(hT, .inr (0, [.int bd, .int sb, .int nd, .ref aS, .ref aC, .ref aG])), (aS, .inl (cI, 5, .inl S0)), (aC, .inl (cI, 5, .inl Cr)), (aG, .inl (cI, 5, .inl G0))] H := hP
    have hD : va_D A [(hT, .inr (0, [.int bd, .int sb, .int nd, .ref aS, .ref aC, .ref aG])), (aS, .inl (cI, 5, .inl S0)), (aC, .inl (cI, 5, .inl Cr)), (aG, .inl (cI, 5, .inl G0))] := hD
    have hp_15 : r_2 = pFirst S0 z0 := hp_15
    refine z_topi (y := pFirst S0 z0) hp_15 ?_
    refine lv_goto (tgt := 22) hx hb dX0_foreseenColourOf_18 (by decide) ?_
    rw [← hQ]
    exact z_iret (W1 := (fun (_ : Unit) => [(hT, .inr (0, [.int bd, .int sb, .int nd, .ref aS, .ref aC, .ref aG])), (aS, .inl (cI, 5, .inl S0)), (aC, .inl (cI, 5, .inl Cr)), (aG, .inl (cI, 5, .inl G0))])) hx hb hr hlocks hP hS () (rfl) (by unfold pFore; simp [c_10]) dX0_foreseenColourOf_22
abbrev rmX0_copyFrom : Room := { frames := 0, cells := 0, slots := 0, locals := 0 }
set_option maxRecDepth 20000 in
theorem iX0_copyFrom_X0 : ∀ w ∈ wsX00, w ∈ wsX0_copyFrom := fun w h => (goodIn_r (big := wsX0_copyFrom) wsX00 [5, 6, 7, 8, 9, 10] (by decide +kernel) (by decide +kernel) w h).1
set_option maxHeartbeats 4000000 in
set_option maxRecDepth 100000 in
theorem m_X0_copyFrom (l : Launch) (dC : Nat → ClassId) (dI : Nat → Nat → Nat) (cI cZ cJ cD : ClassId) (hT : Nat) (aS : Nat) (aC : Nat) (aG : Nat) (bd : Int32) (sb : Int32) (nd : Int32) (S0 : Nat → Int32) (Cr : Nat → Int32) (G0 : Nat → Int32) (h2 : Nat) (a2 : Nat) (c2 : Nat) (g2 : Nat) (bd2 : Int32) (sb2 : Int32) (nd2 : Int32) (S2 : Nat → Int32) (Cr2 : Nat → Int32) (G2 : Nat → Int32)  : zV l (dC, dI) (wT cI cZ cJ cD) yX0_copyFrom wsX0_copyFrom rmX0_copyFrom [(hT, .inr (0, [.int bd, .int sb, .int nd, .ref aS, .ref aC, .ref aG])), (aS, .inl (cI, 5, .inl S0)), (aC, .inl (cI, 5, .inl Cr)), (aG, .inl (cI, 5, .inl G0)), (h2, .inr (0, [.int bd2, .int sb2, .int nd2, .ref a2, .ref c2, .ref g2])), (a2, .inl (cI, 5, .inl S2)), (c2, .inl (cI, 5, .inl Cr2)), (g2, .inl (cI, 5, .inl G2))] [.ref hT, .ref h2] (fun (_ : Unit) => [(hT, .inr (0, [.int bd2, .int sb2, .int nd2, .ref aS, .ref aC, .ref aG])), (aS, .inl (cI, 5, .inl (zfill S2 S0 5))), (aC, .inl (cI, 5, .inl Cr)), (aG, .inl (cI, 5, .inl G0)), (h2, .inr (0, [.int bd2, .int sb2, .int nd2, .ref a2, .ref c2, .ref g2])), (a2, .inl (cI, 5, .inl S2)), (c2, .inl (cI, 5, .inl Cr2)), (g2, .inl (cI, 5, .inl G2))]) (fun (_ : Unit) => True) := by
  intro sz
  refine Met.ofW (cc := cX0_copyFrom) (maxL := 3) (ret := none) (by decide) rfl ?_
  intro p e s m args below meth c s₁ B hml hv
  obtain ⟨ha, hsz, hP, hK, hD0, hN⟩ := hv
  have hx := B.exec
  have hb := B.bytes
  have hr := B.returns
  have hts := atoms_spec (ws := wsX0_copyFrom) B.pre
  have hown : s.vm.findClass RX0 = some m.cls := findClass_of_methodNamed B.named
  have hlocks := B.notSynchronized
  subst hsz
  have hD := hD0.self (sz := s.heap.size)
  generalize hAe : va_A [(hT, .inr (0, [.int bd, .int sb, .int nd, .ref aS, .ref aC, .ref aG])), (aS, .inl (cI, 5, .inl S0)), (aC, .inl (cI, 5, .inl Cr)), (aG, .inl (cI, 5, .inl G0)), (h2, .inr (0, [.int bd2, .int sb2, .int nd2, .ref a2, .ref c2, .ref g2])), (a2, .inl (cI, 5, .inl S2)), (c2, .inl (cI, 5, .inl Cr2)), (g2, .inl (cI, 5, .inl G2))] s.heap.size = A at hD ⊢
  have hA : ∀ q : Nat, s.heap.size ≤ q → A q := fun q h => by rw [← hAe]; exact Or.inr h
  have hS : va_S A s.heap s.heap [] := va_S.rf
  generalize hQ : MQ below (va_Qv (fun (_ : Unit) => True) (fun u t => va_P (dC, dI) vwCl ((fun (_ : Unit) => [(hT, .inr (0, [.int bd2, .int sb2, .int nd2, .ref aS, .ref aC, .ref aG])), (aS, .inl (cI, 5, .inl (zfill S2 S0 5))), (aC, .inl (cI, 5, .inl Cr)), (aG, .inl (cI, 5, .inl G0)), (h2, .inr (0, [.int bd2, .int sb2, .int nd2, .ref a2, .ref c2, .ref g2])), (a2, .inl (cI, 5, .inl S2)), (c2, .inl (cI, 5, .inl Cr2)), (g2, .inl (cI, 5, .inl G2))]) u) t.heap) A) args s 0 0 A = Q
  have F9 : CallFix p m c cX0_copyFrom 3 s args wsX0_copyFrom RX0 := ⟨hx, hb, hml, hown, hts⟩
  refine z_entry (R := rmX0_copyFrom) ha (Nat.le_of_ble_eq_true rfl) (fun ls hl => ?_)
  have hl : lv_has ls 3 [(0, .ref hT), (1, .ref h2)] := hl
  refine lv_aload_n hx hb dX0_copyFrom_0 rfl (lv_at hl 0 rfl) ?_
  refine lv_aload_n hx hb dX0_copyFrom_1 rfl (lv_at hl 1 rfl) ?_
  refine va_get (D := (dC, dI)) (ci := 0) (v := .int bd2) (C := RX0) (T := TX0) (N := 6) hx hb hts iX0_copyFrom_X0 hown hK hP 4 rfl rfl 0 (by decide) (hts (.fieldLink RX0 25 "ColourTide$Tide" "board" "I") (List.mem_of_getElem? (i := 1) rfl)) (fun _ h9 => h9) rfl dX0_copyFrom_2 ?_
  refine va_put (D := (dC, dI)) (ci := 0) (v := .int bd2) (ty := .int) (C := RX0) (T := TX0) (N := 6) hx hb hts iX0_copyFrom_X0 tyX0 tyX0_ok nmX0 hown hK hP hD hS 0 rfl rfl 0 (by decide) (hts (.fieldLink RX0 25 "ColourTide$Tide" "board" "I") (List.mem_of_getElem? (i := 1) rfl)) (fun _ h9 => h9) rfl (by decide +kernel) rfl rfl (Nat.le_of_ble_eq_true rfl) dX0_copyFrom_5 (fun H locs hP hD hS => ?_)
  have hP : va_P (dC, dI) vwCl [(hT, .inr (0, [.int bd2, .int sb, .int nd, .ref aS, .ref aC, .ref aG])), (aS, .inl (cI, 5, .inl S0)), (aC, .inl (cI, 5, .inl Cr)), (aG, .inl (cI, 5, .inl G0)), (h2, .inr (0, [.int bd2, .int sb2, .int nd2, .ref a2, .ref c2, .ref g2])), (a2, .inl (cI, 5, .inl S2)), (c2, .inl (cI, 5, .inl Cr2)), (g2, .inl (cI, 5, .inl G2))] H := hP
  have hD : va_D A [(hT, .inr (0, [.int bd2, .int sb, .int nd, .ref aS, .ref aC, .ref aG])), (aS, .inl (cI, 5, .inl S0)), (aC, .inl (cI, 5, .inl Cr)), (aG, .inl (cI, 5, .inl G0)), (h2, .inr (0, [.int bd2, .int sb2, .int nd2, .ref a2, .ref c2, .ref g2])), (a2, .inl (cI, 5, .inl S2)), (c2, .inl (cI, 5, .inl Cr2)), (g2, .inl (cI, 5, .inl G2))] := hD
  refine lv_aload_n hx hb dX0_copyFrom_8 rfl (lv_at hl 0 rfl) ?_
  refine lv_aload_n hx hb dX0_copyFrom_9 rfl (lv_at hl 1 rfl) ?_
  refine va_get (D := (dC, dI)) (ci := 0) (v := .int sb2) (C := RX0) (T := TX0) (N := 6) hx hb hts iX0_copyFrom_X0 hown hK hP 4 rfl rfl 1 (by decide) (hts (.fieldLink RX0 32 "ColourTide$Tide" "stubborn" "I") (List.mem_of_getElem? (i := 2) rfl)) (fun _ h9 => h9) rfl dX0_copyFrom_10 ?_
  refine va_put (D := (dC, dI)) (ci := 0) (v := .int sb2) (ty := .int) (C := RX0) (T := TX0) (N := 6) hx hb hts iX0_copyFrom_X0 tyX0 tyX0_ok nmX0 hown hK hP hD hS 0 rfl rfl 1 (by decide) (hts (.fieldLink RX0 32 "ColourTide$Tide" "stubborn" "I") (List.mem_of_getElem? (i := 2) rfl)) (fun _ h9 => h9) rfl (by decide +kernel) rfl rfl (Nat.le_of_ble_eq_true rfl) dX0_copyFrom_13 (fun H locs hP hD hS => ?_)
  have hP : va_P (dC, dI) vwCl [(hT, .inr (0, [.int bd2, .int sb2, .int nd, .ref aS, .ref aC, .ref aG])), (aS, .inl (cI, 5, .inl S0)), (aC, .inl (cI, 5, .inl Cr)), (aG, .inl (cI, 5, .inl G0)), (h2, .inr (0, [.int bd2, .int sb2, .int nd2, .ref a2, .ref c2, .ref g2])), (a2, .inl (cI, 5, .inl S2)), (c2, .inl (cI, 5, .inl Cr2)), (g2, .inl (cI, 5, .inl G2))] H := hP
  have hD : va_D A [(hT, .inr (0, [.int bd2, .int sb2, .int nd, .ref aS, .ref aC, .ref aG])), (aS, .inl (cI, 5, .inl S0)), (aC, .inl (cI, 5, .inl Cr)), (aG, .inl (cI, 5, .inl G0)), (h2, .inr (0, [.int bd2, .int sb2, .int nd2, .ref a2, .ref c2, .ref g2])), (a2, .inl (cI, 5, .inl S2)), (c2, .inl (cI, 5, .inl Cr2)), (g2, .inl (cI, 5, .inl G2))] := hD
  refine lv_aload_n hx hb dX0_copyFrom_16 rfl (lv_at hl 0 rfl) ?_
  refine lv_aload_n hx hb dX0_copyFrom_17 rfl (lv_at hl 1 rfl) ?_
  refine va_get (D := (dC, dI)) (ci := 0) (v := .int nd2) (C := RX0) (T := TX0) (N := 6) hx hb hts iX0_copyFrom_X0 hown hK hP 4 rfl rfl 2 (by decide) (hts (.fieldLink RX0 9 "ColourTide$Tide" "need" "I") (List.mem_of_getElem? (i := 3) rfl)) (fun _ h9 => h9) rfl dX0_copyFrom_18 ?_
  refine va_put (D := (dC, dI)) (ci := 0) (v := .int nd2) (ty := .int) (C := RX0) (T := TX0) (N := 6) hx hb hts iX0_copyFrom_X0 tyX0 tyX0_ok nmX0 hown hK hP hD hS 0 rfl rfl 2 (by decide) (hts (.fieldLink RX0 9 "ColourTide$Tide" "need" "I") (List.mem_of_getElem? (i := 3) rfl)) (fun _ h9 => h9) rfl (by decide +kernel) rfl rfl (Nat.le_of_ble_eq_true rfl) dX0_copyFrom_21 (fun H locs hP hD hS => ?_)
  have hP : va_P (dC, dI) vwCl [(hT, .inr (0, [.int bd2, .int sb2, .int nd2, .ref aS, .ref aC, .ref aG])), (aS, .inl (cI, 5, .inl S0)), (aC, .inl (cI, 5, .inl Cr)), (aG, .inl (cI, 5, .inl G0)), (h2, .inr (0, [.int bd2, .int sb2, .int nd2, .ref a2, .ref c2, .ref g2])), (a2, .inl (cI, 5, .inl S2)), (c2, .inl (cI, 5, .inl Cr2)), (g2, .inl (cI, 5, .inl G2))] H := hP
  have hD : va_D A [(hT, .inr (0, [.int bd2, .int sb2, .int nd2, .ref aS, .ref aC, .ref aG])), (aS, .inl (cI, 5, .inl S0)), (aC, .inl (cI, 5, .inl Cr)), (aG, .inl (cI, 5, .inl G0)), (h2, .inr (0, [.int bd2, .int sb2, .int nd2, .ref a2, .ref c2, .ref g2])), (a2, .inl (cI, 5, .inl S2)), (c2, .inl (cI, 5, .inl Cr2)), (g2, .inl (cI, 5, .inl G2))] := hD
  refine lv_iconst (v := 0) hx hb dX0_copyFrom_24 (by decide) ?_
  refine lv_istore_n (lv' := [(2, .int 0), (0, .ref hT), (1, .ref h2)]) hx hb dX0_copyFrom_25 rfl hl (by decide) rfl (fun ls hl => ?_)
  have loop_26 : ∀ (n : Nat) (k : Nat) (hkn : k + n = 5) (H : Heap) (locs : List Loc) (ls : Array Slot) (hP : va_P (dC, dI) vwCl [(hT, .inr (0, [.int bd2, .int sb2, .int nd2, .ref aS, .ref aC, .ref aG])), (aS, .inl (cI, 5, .inl (zfill S2 S0 k))), (aC, .inl (cI, 5, .inl Cr)), (aG, .inl (cI, 5, .inl G0)), (h2, .inr (0, [.int bd2, .int sb2, .int nd2, .ref a2, .ref c2, .ref g2])), (a2, .inl (cI, 5, .inl S2)), (c2, .inl (cI, 5, .inl Cr2)), (g2, .inl (cI, 5, .inl G2))] H) (hD : va_D A [(hT, .inr (0, [.int bd2, .int sb2, .int nd2, .ref aS, .ref aC, .ref aG])), (aS, .inl (cI, 5, .inl (zfill S2 S0 k))), (aC, .inl (cI, 5, .inl Cr)), (aG, .inl (cI, 5, .inl G0)), (h2, .inr (0, [.int bd2, .int sb2, .int nd2, .ref a2, .ref c2, .ref g2])), (a2, .inl (cI, 5, .inl S2)), (c2, .inl (cI, 5, .inl Cr2)), (g2, .inl (cI, 5, .inl G2))]) (hS : va_S A s.heap H locs) (hl : lv_has ls 3 [(0, .ref hT), (1, .ref h2), (2, .int (nI k))]), W p l e rmX0_copyFrom s m args below meth c H locs 0 0 Q (F0 m 26 ls []) := by
    intro n
    induction n with
    | zero =>
      intro k hkn  H locs ls hP hD hS hl
      refine lv_iload_n hx hb dX0_copyFrom_26 rfl (lv_at hl 2 rfl) ?_
      refine lv_iconst (v := 5) hx hb dX0_copyFrom_27 (by decide) ?_
      refine lv_icmp_ge (tgt := 49) hx hb dX0_copyFrom_28 (by decide) (fun c_28 => ?_) (fun c_28 => ?_)
      · skip
        have n_28 := zc_le_t (a := 5) (b := k) (by omega) (by omega) c_28
        have hl9 := hl
        have hP9 := hP
        have hD9 := hD
        have hS9 := hS
        obtain rfl : k = 5 := by omega
        have hl := hl9
        have hP := hP9
        have hD := hD9
        have hS := hS9
        rw [← hQ]
        exact z_vret (W1 := (fun (_ : Unit) => [(hT, .inr (0, [.int bd2, .int sb2, .int nd2, .ref aS, .ref aC, .ref aG])), (aS, .inl (cI, 5, .inl (zfill S2 S0 5))), (aC, .inl (cI, 5, .inl Cr)), (aG, .inl (cI, 5, .inl G0)), (h2, .inr (0, [.int bd2, .int sb2, .int nd2, .ref a2, .ref c2, .ref g2])), (a2, .inl (cI, 5, .inl S2)), (c2, .inl (cI, 5, .inl Cr2)), (g2, .inl (cI, 5, .inl G2))])) hx hb hr hlocks hP hS () (rfl) (trivial) dX0_copyFrom_49
      · skip
        have n_28 := zc_le_f (a := 5) (b := k) (by omega) (by omega) c_28
        exact absurd n_28 (by omega)
    | succ n ih_26 =>
      intro k hkn  H locs ls hP hD hS hl
      refine lv_iload_n hx hb dX0_copyFrom_26 rfl (lv_at hl 2 rfl) ?_
      refine lv_iconst (v := 5) hx hb dX0_copyFrom_27 (by decide) ?_
      refine lv_icmp_ge (tgt := 49) hx hb dX0_copyFrom_28 (by decide) (fun c_28 => ?_) (fun c_28 => ?_)
      · skip
        have n_28 := zc_le_t (a := 5) (b := k) (by omega) (by omega) c_28
        exact absurd n_28 (by omega)
      · skip
        have n_28 := zc_le_f (a := 5) (b := k) (by omega) (by omega) c_28
        refine lv_aload_n hx hb dX0_copyFrom_31 rfl (lv_at hl 0 rfl) ?_
        refine va_get (D := (dC, dI)) (ci := 0) (v := .ref aS) (C := RX0) (T := TX0) (N := 6) hx hb hts iX0_copyFrom_X0 hown hK hP 0 rfl rfl 3 (by decide) (hts (.fieldLink RX0 15 "ColourTide$Tide" "sets" "[I") (List.mem_of_getElem? (i := 4) rfl)) (fun _ h9 => h9) rfl dX0_copyFrom_32 ?_
        refine lv_iload_n hx hb dX0_copyFrom_35 rfl (lv_at hl 2 rfl) ?_
        refine lv_aload_n hx hb dX0_copyFrom_36 rfl (lv_at hl 1 rfl) ?_
        refine va_get (D := (dC, dI)) (ci := 0) (v := .ref a2) (C := RX0) (T := TX0) (N := 6) hx hb hts iX0_copyFrom_X0 hown hK hP 4 rfl rfl 3 (by decide) (hts (.fieldLink RX0 15 "ColourTide$Tide" "sets" "[I") (List.mem_of_getElem? (i := 4) rfl)) (fun _ h9 => h9) rfl dX0_copyFrom_37 ?_
        refine lv_iload_n hx hb dX0_copyFrom_40 rfl (lv_at hl 2 rfl) ?_
        refine z_iald hx hb hK hP 5 0 rfl rfl k (rfl) (by omega) (by decide) dX0_copyFrom_41 ?_
        refine z_iast hx hb hK hP hD hS 1 0 rfl rfl k (rfl) (by omega) (by decide) dX0_copyFrom_42 (fun H locs hP hD hS => ?_)
        have hP : va_P (dC, dI) vwCl [(hT, .inr (0, [.int bd2, .int sb2, .int nd2, .ref aS, .ref aC, .ref aG])), (aS, .inl (cI, 5, .inl (upd (zfill S2 S0 k) k (S2 k)))), (aC, .inl (cI, 5, .inl Cr)), (aG, .inl (cI, 5, .inl G0)), (h2, .inr (0, [.int bd2, .int sb2, .int nd2, .ref a2, .ref c2, .ref g2])), (a2, .inl (cI, 5, .inl S2)), (c2, .inl (cI, 5, .inl Cr2)), (g2, .inl (cI, 5, .inl G2))] H := hP
        have hD : va_D A [(hT, .inr (0, [.int bd2, .int sb2, .int nd2, .ref aS, .ref aC, .ref aG])), (aS, .inl (cI, 5, .inl (upd (zfill S2 S0 k) k (S2 k)))), (aC, .inl (cI, 5, .inl Cr)), (aG, .inl (cI, 5, .inl G0)), (h2, .inr (0, [.int bd2, .int sb2, .int nd2, .ref a2, .ref c2, .ref g2])), (a2, .inl (cI, 5, .inl S2)), (c2, .inl (cI, 5, .inl Cr2)), (g2, .inl (cI, 5, .inl G2))] := hD
        have e_42 : upd (zfill S2 S0 k) k (S2 k) = zfill S2 S0 (k + 1) := zfill_succ _ _ _
        rw [e_42] at hP hD
        refine lv_iinc (v := nI (k + 1)) (lv' := [(2, .int (nI (k + 1))), (0, .ref hT), (1, .ref h2)]) hx hb dX0_copyFrom_43 hl (k := 2) rfl (nI_1 k) (by decide) rfl (fun ls hl => ?_)
        refine lv_goto (tgt := 26) hx hb dX0_copyFrom_46 (by decide) ?_
        exact ih_26 (k + 1) (by omega)  _ _ _ hP hD hS (lv_sub hl [1, 2, 0] rfl)
  rw [← zfill_0 S2 S0] at hP hD
  exact loop_26 5 0 (by omega)  _ _ _ hP hD hS (lv_sub hl [1, 2, 0] rfl)
abbrev rmX0_surge : Room := { frames := 3, cells := 0, slots := 0, locals := 71 }
set_option maxRecDepth 20000 in
theorem iX0_surge_X0 : ∀ w ∈ wsX00, w ∈ wsX0_surge := fun w h => (goodIn_r (big := wsX0_surge) wsX00 [23, 24, 25, 26, 27, 28] (by decide +kernel) (by decide +kernel) w h).1
set_option maxHeartbeats 4000000 in
set_option maxRecDepth 100000 in
theorem m_X0_surge (l : Launch) (dC : Nat → ClassId) (dI : Nat → Nat → Nat) (cI cZ cJ cD : ClassId) (hT : Nat) (aS : Nat) (aC : Nat) (aG : Nat) (bd : Int32) (sb : Int32) (nd : Int32) (S0 : Nat → Int32) (Cr : Nat → Int32) (G0 : Nat → Int32) (q0 : Nat) (nw : Nat) (hq : 1 ≤ q0 ∧ q0 ≤ 4) (hnd : nd = nI q0) (hnw : nw < 1000) : zI l (dC, dI) (wT cI cZ cJ cD) yX0_surge wsX0_surge rmX0_surge [(hT, .inr (0, [.int bd, .int sb, .int nd, .ref aS, .ref aC, .ref aG])), (aS, .inl (cI, 5, .inl S0)), (aC, .inl (cI, 5, .inl Cr)), (aG, .inl (cI, 5, .inl G0))] [.ref hT, .int (nI nw)] (fun (u : (Nat → Int32) × (Nat → Int32)) => [(hT, .inr (0, [.int bd, .int sb, .int nd, .ref aS, .ref aC, .ref aG])), (aS, .inl (cI, 5, .inl (pIt bd sb q0 S0 nw))), (aC, .inl (cI, 5, .inl u.1)), (aG, .inl (cI, 5, .inl u.2))]) (fun (r : Int32) (u : (Nat → Int32) × (Nat → Int32)) => r = pLast bd sb q0 S0 nw) := by
  intro sz
  refine Met.ofW (cc := cX0_surge) (maxL := 4) (ret := (some .int)) (by decide) rfl ?_
  intro p e s m args below meth c s₁ B hml hv
  obtain ⟨ha, hsz, hP, hK, hD0, hN⟩ := hv
  have hx := B.exec
  have hb := B.bytes
  have hr := B.returns
  have hts := atoms_spec (ws := wsX0_surge) B.pre
  have hown : s.vm.findClass RX0 = some m.cls := findClass_of_methodNamed B.named
  have hlocks := B.notSynchronized
  subst hsz
  have hD := hD0.self (sz := s.heap.size)
  generalize hAe : va_A [(hT, .inr (0, [.int bd, .int sb, .int nd, .ref aS, .ref aC, .ref aG])), (aS, .inl (cI, 5, .inl S0)), (aC, .inl (cI, 5, .inl Cr)), (aG, .inl (cI, 5, .inl G0))] s.heap.size = A at hD ⊢
  have hA : ∀ q : Nat, s.heap.size ≤ q → A q := fun q h => by rw [← hAe]; exact Or.inr h
  have hS : va_S A s.heap s.heap [] := va_S.rf
  generalize hQ : MQ below (va_Qi (fun (r : Int32) (u : (Nat → Int32) × (Nat → Int32)) => r = pLast bd sb q0 S0 nw) (fun u t => va_P (dC, dI) vwCl ((fun (u : (Nat → Int32) × (Nat → Int32)) => [(hT, .inr (0, [.int bd, .int sb, .int nd, .ref aS, .ref aC, .ref aG])), (aS, .inl (cI, 5, .inl (pIt bd sb q0 S0 nw))), (aC, .inl (cI, 5, .inl u.1)), (aG, .inl (cI, 5, .inl u.2))]) u) t.heap) A) args s 0 0 A = Q
  have F9 : CallFix p m c cX0_surge 4 s args wsX0_surge RX0 := ⟨hx, hb, hml, hown, hts⟩
  refine z_entry (R := rmX0_surge) ha (Nat.le_of_ble_eq_true rfl) (fun ls hl => ?_)
  have hl : lv_has ls 4 [(0, .ref hT), (1, .int (nI nw))] := hl
  refine lv_iconst (v := 0) hx hb dX0_surge_0 (by decide) ?_
  refine lv_istore_n (lv' := [(2, .int 0), (0, .ref hT), (1, .int (nI nw))]) hx hb dX0_surge_1 rfl hl (by decide) rfl (fun ls hl => ?_)
  refine lv_iconst (v := 0) hx hb dX0_surge_2 (by decide) ?_
  refine lv_istore_n (lv' := [(3, .int 0), (2, .int 0), (0, .ref hT), (1, .int (nI nw))]) hx hb dX0_surge_3 rfl hl (by decide) rfl (fun ls hl => ?_)
  have loop_4 : ∀ (n : Nat) (k : Nat) (Crk : Nat → Int32) (Gk : Nat → Int32) (hkn : k + n = nw) (H : Heap) (locs : List Loc) (ls : Array Slot) (hP : va_P (dC, dI) vwCl [(hT, .inr (0, [.int bd, .int sb, .int nd, .ref aS, .ref aC, .ref aG])), (aS, .inl (cI, 5, .inl (pIt bd sb q0 S0 k))), (aC, .inl (cI, 5, .inl Crk)), (aG, .inl (cI, 5, .inl Gk))] H) (hD : va_D A [(hT, .inr (0, [.int bd, .int sb, .int nd, .ref aS, .ref aC, .ref aG])), (aS, .inl (cI, 5, .inl (pIt bd sb q0 S0 k))), (aC, .inl (cI, 5, .inl Crk)), (aG, .inl (cI, 5, .inl Gk))]) (hS : va_S A s.heap H locs) (hl : lv_has ls 4 [(0, .ref hT), (1, .int (nI nw)), (2, .int (pLast bd sb q0 S0 k)), (3, .int (nI k))]), W p l e rmX0_surge s m args below meth c H locs 0 0 Q (F0 m 4 ls []) := by
    intro n
    induction n with
    | zero =>
      intro k Crk Gk hkn  H locs ls hP hD hS hl
      refine lv_iload_n hx hb dX0_surge_4 rfl (lv_at hl 3 rfl) ?_
      refine lv_iload_n hx hb dX0_surge_5 rfl (lv_at hl 1 rfl) ?_
      refine lv_icmp_ge (tgt := 31) hx hb dX0_surge_6 (by decide) (fun c_6 => ?_) (fun c_6 => ?_)
      · skip
        have n_6 := zc_le_t (a := nw) (b := k) (by omega) (by omega) c_6
        refine lv_iload_n hx hb dX0_surge_31 rfl (lv_at hl 2 rfl) ?_
        have hl9 := hl
        have hP9 := hP
        have hD9 := hD
        have hS9 := hS
        obtain rfl : nw = k := by omega
        have hl := hl9
        have hP := hP9
        have hD := hD9
        have hS := hS9
        rw [← hQ]
        exact z_iret (W1 := (fun (u : (Nat → Int32) × (Nat → Int32)) => [(hT, .inr (0, [.int bd, .int sb, .int nd, .ref aS, .ref aC, .ref aG])), (aS, .inl (cI, 5, .inl (pIt bd sb q0 S0 nw))), (aC, .inl (cI, 5, .inl u.1)), (aG, .inl (cI, 5, .inl u.2))])) hx hb hr hlocks hP hS (Crk, Gk) (rfl) (rfl) dX0_surge_32
      · skip
        have n_6 := zc_le_f (a := nw) (b := k) (by omega) (by omega) c_6
        exact absurd n_6 (by omega)
    | succ n ih_4 =>
      intro k Crk Gk hkn  H locs ls hP hD hS hl
      refine lv_iload_n hx hb dX0_surge_4 rfl (lv_at hl 3 rfl) ?_
      refine lv_iload_n hx hb dX0_surge_5 rfl (lv_at hl 1 rfl) ?_
      refine lv_icmp_ge (tgt := 31) hx hb dX0_surge_6 (by decide) (fun c_6 => ?_) (fun c_6 => ?_)
      · skip
        have n_6 := zc_le_t (a := nw) (b := k) (by omega) (by omega) c_6
        exact absurd n_6 (by omega)
      · skip
        have n_6 := zc_le_f (a := nw) (b := k) (by omega) (by omega) c_6
        refine lv_aload_n hx hb dX0_surge_9 rfl (lv_at hl 0 rfl) ?_
        refine z_callVi (As := []) (rest := []) F9 (m_X0_foresee l dC dI cI cZ cJ cD hT aS aC aG bd sb nd (pIt bd sb q0 S0 k) Crk Gk q0 (hq) (hnd)) (cwV 0 hts gX0_surge_X0_foresee rfl rfl rfl (by decide +kernel) ⟨Nat.le_of_ble_eq_true rfl, Nat.le_of_ble_eq_true rfl⟩) hK hN hP hD hS hA [0, 1, 2, 3] rfl rfl (fun _ => rfl) 0 (ci := 0) rfl rfl rfl rfl hl.1 rfl (Nat.le_of_ble_eq_true rfl) dX0_surge_10 ⟨Nat.zero_le _, Nat.zero_le _⟩ (fun r_1 u H locs hp_10 hP hD hS => ?_)
        have hP : va_P (dC, dI) vwCl [(hT, .inr (0, [.int bd, .int sb, .int nd, .ref aS, .ref aC, .ref aG])), (aS, .inl (cI, 5, .inl (pIt bd sb q0 S0 k))), (aC, .inl (cI, 5, .inl (pCs (pIt bd sb q0 S0 k) q0 Crk (5 - q0)))), (aG, .inl (cI, 5, .inl (pGf (pIt bd sb q0 S0 k) bd sb q0 Gk)))] H := hP
        have hD : va_D A [(hT, .inr (0, [.int bd, .int sb, .int nd, .ref aS, .ref aC, .ref aG])), (aS, .inl (cI, 5, .inl (pIt bd sb q0 S0 k))), (aC, .inl (cI, 5, .inl (pCs (pIt bd sb q0 S0 k) q0 Crk (5 - q0)))), (aG, .inl (cI, 5, .inl (pGf (pIt bd sb q0 S0 k) bd sb q0 Gk)))] := hD
        have hp_10 : r_1 = pC0 (pIt bd sb q0 S0 k) bd sb q0 := hp_10
        refine z_topi (y := pC0 (pIt bd sb q0 S0 k) bd sb q0) hp_10 ?_
        refine z_topi (y := pLast bd sb q0 S0 (k + 1)) (rfl) ?_
        refine lv_istore_n (lv' := [(2, .int (pLast bd sb q0 S0 (k + 1))), (0, .ref hT), (1, .int (nI nw)), (3, .int (nI k))]) hx hb dX0_surge_13 rfl hl (by decide) rfl (fun ls hl => ?_)
        refine lv_iload_n hx hb dX0_surge_14 rfl (lv_at hl 0 rfl) ?_
        refine lv_if_ne (tgt := 20) hx hb dX0_surge_15 (by decide) (fun c_15 => ?_) (fun c_15 => ?_)
        · skip
          refine lv_aload_n hx hb dX0_surge_20 rfl (lv_at hl 1 rfl) ?_
          refine lv_iload_n hx hb dX0_surge_21 rfl (lv_at hl 0 rfl) ?_
          refine z_callVv (As := [.int (pLast bd sb q0 S0 (k + 1))]) (rest := []) F9 (m_X0_takeGains l dC dI cI cZ cJ cD hT aS aC aG bd sb nd (pIt bd sb q0 S0 k) (pCs (pIt bd sb q0 S0 k) q0 Crk (5 - q0)) (pGf (pIt bd sb q0 S0 k) bd sb q0 Gk) (pLast bd sb q0 S0 (k + 1)) ) (cwV 1 hts gX0_surge_X0_takeGains rfl rfl rfl (by decide +kernel) ⟨Nat.le_of_ble_eq_true rfl, Nat.le_of_ble_eq_true rfl⟩) hK hN hP hD hS hA [0, 1, 2, 3] rfl rfl (fun _ => rfl) 0 (ci := 0) rfl rfl rfl rfl hl.1 rfl (Nat.le_of_ble_eq_true rfl) dX0_surge_22 ⟨Nat.zero_le _, Nat.zero_le _⟩ (fun u H locs hp_22 hP hD hS => ?_)
          have hP : va_P (dC, dI) vwCl [(hT, .inr (0, [.int bd, .int sb, .int nd, .ref aS, .ref aC, .ref aG])), (aS, .inl (cI, 5, .inl (pTake (pIt bd sb q0 S0 k) (pGf (pIt bd sb q0 S0 k) bd sb q0 Gk) (pLast bd sb q0 S0 (k + 1))))), (aC, .inl (cI, 5, .inl (pCs (pIt bd sb q0 S0 k) q0 Crk (5 - q0)))), (aG, .inl (cI, 5, .inl (pGf (pIt bd sb q0 S0 k) bd sb q0 Gk)))] H := hP
          have hD : va_D A [(hT, .inr (0, [.int bd, .int sb, .int nd, .ref aS, .ref aC, .ref aG])), (aS, .inl (cI, 5, .inl (pTake (pIt bd sb q0 S0 k) (pGf (pIt bd sb q0 S0 k) bd sb q0 Gk) (pLast bd sb q0 S0 (k + 1))))), (aC, .inl (cI, 5, .inl (pCs (pIt bd sb q0 S0 k) q0 Crk (5 - q0)))), (aG, .inl (cI, 5, .inl (pGf (pIt bd sb q0 S0 k) bd sb q0 Gk)))] := hD
          have e_22 : pTake (pIt bd sb q0 S0 k) (pGf (pIt bd sb q0 S0 k) bd sb q0 Gk) (pLast bd sb q0 S0 (k + 1)) = pIt bd sb q0 S0 (k + 1) := by rw [pIt, if_neg (show ¬ pC0 (pIt bd sb q0 S0 k) bd sb q0 = 0 from c_15)]; exact pTake_in _ _ (fun j hj => pGf_in _ _ _ _ _ hj)
          rw [e_22] at hP hD
          refine lv_iinc (v := nI (k + 1)) (lv' := [(3, .int (nI (k + 1))), (2, .int (pLast bd sb q0 S0 (k + 1))), (0, .ref hT), (1, .int (nI nw))]) hx hb dX0_surge_25 hl (k := 3) rfl (nI_1 k) (by decide) rfl (fun ls hl => ?_)
          refine lv_goto (tgt := 4) hx hb dX0_surge_28 (by decide) ?_
          exact ih_4 (k + 1) (pCs (pIt bd sb q0 S0 k) q0 Crk (5 - q0)) (pGf (pIt bd sb q0 S0 k) bd sb q0 Gk) (by omega)  _ _ _ hP hD hS (lv_sub hl [2, 3, 1, 0] rfl)
        · skip
          refine lv_iconst (v := 0) hx hb dX0_surge_18 (by decide) ?_
          rw [← hQ]
          exact z_iret (W1 := (fun (u : (Nat → Int32) × (Nat → Int32)) => [(hT, .inr (0, [.int bd, .int sb, .int nd, .ref aS, .ref aC, .ref aG])), (aS, .inl (cI, 5, .inl (pIt bd sb q0 S0 nw))), (aC, .inl (cI, 5, .inl u.1)), (aG, .inl (cI, 5, .inl u.2))])) hx hb hr hlocks hP hS (pCs (pIt bd sb q0 S0 k) q0 Crk (5 - q0), pGf (pIt bd sb q0 S0 k) bd sb q0 Gk) (by rw [← (pIt_end (k := k) (N := nw) c_15 (by omega)).1]) ((pIt_end (k := k) (N := nw) c_15 (by omega)).2) dX0_surge_19
  exact loop_4 nw 0 Cr G0 (by omega)  _ _ _ hP hD hS (lv_sub hl [2, 3, 1, 0] rfl)
abbrev rmX0_clear : Room := { frames := 1, cells := 0, slots := 0, locals := 21 }
set_option maxRecDepth 20000 in
theorem iX0_clear_X0 : ∀ w ∈ wsX00, w ∈ wsX0_clear := fun w h => (goodIn_r (big := wsX0_clear) wsX00 [7, 8, 9, 10, 11, 12] (by decide +kernel) (by decide +kernel) w h).1
set_option maxHeartbeats 4000000 in
set_option maxRecDepth 100000 in
theorem m_X0_clear (l : Launch) (dC : Nat → ClassId) (dI : Nat → Nat → Nat) (cI cZ cJ cD : ClassId) (hT : Nat) (aS : Nat) (aC : Nat) (aG : Nat) (bd : Int32) (sb : Int32) (nd : Int32) (S0 : Nat → Int32) (Cr : Nat → Int32) (G0 : Nat → Int32) (wn : Nat) (hn : Nat) (hw : wn ≤ 5) (hh : hn ≤ 5) : zV l (dC, dI) (wT cI cZ cJ cD) yX0_clear wsX0_clear rmX0_clear [(hT, .inr (0, [.int bd, .int sb, .int nd, .ref aS, .ref aC, .ref aG])), (aS, .inl (cI, 5, .inl S0)), (aC, .inl (cI, 5, .inl Cr)), (aG, .inl (cI, 5, .inl G0))] [.ref hT, .int (nI wn), .int (nI hn)] (fun (_ : Unit) => [(hT, .inr (0, [.int (pBrd wn hn), .int 0, .int nd, .ref aS, .ref aC, .ref aG])), (aS, .inl (cI, 5, .inl (zfill (pClrF (pBrd wn hn)) S0 5))), (aC, .inl (cI, 5, .inl Cr)), (aG, .inl (cI, 5, .inl G0))]) (fun (_ : Unit) => True) := by
  intro sz
  refine Met.ofW (cc := cX0_clear) (maxL := 5) (ret := none) (by decide) rfl ?_
  intro p e s m args below meth c s₁ B hml hv
  obtain ⟨ha, hsz, hP, hK, hD0, hN⟩ := hv
  have hx := B.exec
  have hb := B.bytes
  have hr := B.returns
  have hts := atoms_spec (ws := wsX0_clear) B.pre
  have hown : s.vm.findClass RX0 = some m.cls := findClass_of_methodNamed B.named
  have hlocks := B.notSynchronized
  subst hsz
  have hD := hD0.self (sz := s.heap.size)
  generalize hAe : va_A [(hT, .inr (0, [.int bd, .int sb, .int nd, .ref aS, .ref aC, .ref aG])), (aS, .inl (cI, 5, .inl S0)), (aC, .inl (cI, 5, .inl Cr)), (aG, .inl (cI, 5, .inl G0))] s.heap.size = A at hD ⊢
  have hA : ∀ q : Nat, s.heap.size ≤ q → A q := fun q h => by rw [← hAe]; exact Or.inr h
  have hS : va_S A s.heap s.heap [] := va_S.rf
  generalize hQ : MQ below (va_Qv (fun (_ : Unit) => True) (fun u t => va_P (dC, dI) vwCl ((fun (_ : Unit) => [(hT, .inr (0, [.int (pBrd wn hn), .int 0, .int nd, .ref aS, .ref aC, .ref aG])), (aS, .inl (cI, 5, .inl (zfill (pClrF (pBrd wn hn)) S0 5))), (aC, .inl (cI, 5, .inl Cr)), (aG, .inl (cI, 5, .inl G0))]) u) t.heap) A) args s 0 0 A = Q
  have F9 : CallFix p m c cX0_clear 5 s args wsX0_clear RX0 := ⟨hx, hb, hml, hown, hts⟩
  refine z_entry (R := rmX0_clear) ha (Nat.le_of_ble_eq_true rfl) (fun ls hl => ?_)
  have hl : lv_has ls 5 [(0, .ref hT), (1, .int (nI wn)), (2, .int (nI hn))] := hl
  refine lv_aload_n hx hb dX0_clear_0 rfl (lv_at hl 0 rfl) ?_
  refine lv_iconst (v := 0) hx hb dX0_clear_1 (by decide) ?_
  refine va_put (D := (dC, dI)) (ci := 0) (v := .int 0) (ty := .int) (C := RX0) (T := TX0) (N := 6) hx hb hts iX0_clear_X0 tyX0 tyX0_ok nmX0 hown hK hP hD hS 0 rfl rfl 0 (by decide) (hts (.fieldLink RX0 25 "ColourTide$Tide" "board" "I") (List.mem_of_getElem? (i := 1) rfl)) (fun _ h9 => h9) rfl (by decide +kernel) rfl rfl (Nat.le_of_ble_eq_true rfl) dX0_clear_2 (fun H locs hP hD hS => ?_)
  have hP : va_P (dC, dI) vwCl [(hT, .inr (0, [.int 0, .int sb, .int nd, .ref aS, .ref aC, .ref aG])), (aS, .inl (cI, 5, .inl S0)), (aC, .inl (cI, 5, .inl Cr)), (aG, .inl (cI, 5, .inl G0))] H := hP
  have hD : va_D A [(hT, .inr (0, [.int 0, .int sb, .int nd, .ref aS, .ref aC, .ref aG])), (aS, .inl (cI, 5, .inl S0)), (aC, .inl (cI, 5, .inl Cr)), (aG, .inl (cI, 5, .inl G0))] := hD
  refine lv_iconst (v := 0) hx hb dX0_clear_5 (by decide) ?_
  refine lv_istore_n (lv' := [(3, .int 0), (0, .ref hT), (1, .int (nI wn)), (2, .int (nI hn))]) hx hb dX0_clear_6 rfl hl (by decide) rfl (fun ls hl => ?_)
  have loop_7 : ∀ (n : Nat) (y : Nat) (hkn : y + n = hn) (H : Heap) (locs : List Loc) (ls : Array Slot) (hP : va_P (dC, dI) vwCl [(hT, .inr (0, [.int (pBrd wn y), .int sb, .int nd, .ref aS, .ref aC, .ref aG])), (aS, .inl (cI, 5, .inl S0)), (aC, .inl (cI, 5, .inl Cr)), (aG, .inl (cI, 5, .inl G0))] H) (hD : va_D A [(hT, .inr (0, [.int (pBrd wn y), .int sb, .int nd, .ref aS, .ref aC, .ref aG])), (aS, .inl (cI, 5, .inl S0)), (aC, .inl (cI, 5, .inl Cr)), (aG, .inl (cI, 5, .inl G0))]) (hS : va_S A s.heap H locs) (hl : lv_has ls 5 [(0, .ref hT), (1, .int (nI wn)), (2, .int (nI hn)), (3, .int (nI y))]), W p l e rmX0_clear s m args below meth c H locs 0 0 Q (F0 m 7 ls []) := by
    intro n
    induction n with
    | zero =>
      intro y hkn  H locs ls hP hD hS hl
      refine lv_iload_n hx hb dX0_clear_7 rfl (lv_at hl 3 rfl) ?_
      refine lv_iload_n hx hb dX0_clear_8 rfl (lv_at hl 2 rfl) ?_
      refine lv_icmp_ge (tgt := 48) hx hb dX0_clear_9 (by decide) (fun c_9 => ?_) (fun c_9 => ?_)
      · skip
        have n_9 := zc_le_t (a := hn) (b := y) (by omega) (by omega) c_9
        refine lv_aload_n hx hb dX0_clear_48 rfl (lv_at hl 0 rfl) ?_
        refine lv_iconst (v := 0) hx hb dX0_clear_49 (by decide) ?_
        refine va_put (D := (dC, dI)) (ci := 0) (v := .int 0) (ty := .int) (C := RX0) (T := TX0) (N := 6) hx hb hts iX0_clear_X0 tyX0 tyX0_ok nmX0 hown hK hP hD hS 0 rfl rfl 1 (by decide) (hts (.fieldLink RX0 32 "ColourTide$Tide" "stubborn" "I") (List.mem_of_getElem? (i := 2) rfl)) (fun _ h9 => h9) rfl (by decide +kernel) rfl rfl (Nat.le_of_ble_eq_true rfl) dX0_clear_50 (fun H locs hP hD hS => ?_)
        have hP : va_P (dC, dI) vwCl [(hT, .inr (0, [.int (pBrd wn y), .int 0, .int nd, .ref aS, .ref aC, .ref aG])), (aS, .inl (cI, 5, .inl S0)), (aC, .inl (cI, 5, .inl Cr)), (aG, .inl (cI, 5, .inl G0))] H := hP
        have hD : va_D A [(hT, .inr (0, [.int (pBrd wn y), .int 0, .int nd, .ref aS, .ref aC, .ref aG])), (aS, .inl (cI, 5, .inl S0)), (aC, .inl (cI, 5, .inl Cr)), (aG, .inl (cI, 5, .inl G0))] := hD
        refine lv_iconst (v := 0) hx hb dX0_clear_53 (by decide) ?_
        refine lv_istore_n (lv' := [(3, .int 0), (0, .ref hT), (1, .int (nI wn)), (2, .int (nI hn))]) hx hb dX0_clear_54 rfl hl (by decide) rfl (fun ls hl => ?_)
        have loop_55 : ∀ (n : Nat) (k : Nat) (hkn : k + n = 5) (H : Heap) (locs : List Loc) (ls : Array Slot) (hP : va_P (dC, dI) vwCl [(hT, .inr (0, [.int (pBrd wn hn), .int 0, .int nd, .ref aS, .ref aC, .ref aG])), (aS, .inl (cI, 5, .inl (zfill (pClrF (pBrd wn hn)) S0 k))), (aC, .inl (cI, 5, .inl Cr)), (aG, .inl (cI, 5, .inl G0))] H) (hD : va_D A [(hT, .inr (0, [.int (pBrd wn hn), .int 0, .int nd, .ref aS, .ref aC, .ref aG])), (aS, .inl (cI, 5, .inl (zfill (pClrF (pBrd wn hn)) S0 k))), (aC, .inl (cI, 5, .inl Cr)), (aG, .inl (cI, 5, .inl G0))]) (hS : va_S A s.heap H locs) (hl : lv_has ls 5 [(0, .ref hT), (3, .int (nI k))]), W p l e rmX0_clear s m args below meth c H locs 0 0 Q (F0 m 55 ls []) := by
          intro n
          induction n with
          | zero =>
            intro k hkn  H locs ls hP hD hS hl
            refine lv_iload_n hx hb dX0_clear_55 rfl (lv_at hl 1 rfl) ?_
            refine lv_iconst (v := 5) hx hb dX0_clear_56 (by decide) ?_
            refine lv_icmp_ge (tgt := 84) hx hb dX0_clear_57 (by decide) (fun c_57 => ?_) (fun c_57 => ?_)
            · skip
              have n_57 := zc_le_t (a := 5) (b := k) (by omega) (by omega) c_57
              have hl9 := hl
              have hP9 := hP
              have hD9 := hD
              have hS9 := hS
              obtain rfl : k = 5 := by omega
              have hl := hl9
              have hP := hP9
              have hD := hD9
              have hS := hS9
              rw [← hQ]
              exact z_vret (W1 := (fun (_ : Unit) => [(hT, .inr (0, [.int (pBrd wn hn), .int 0, .int nd, .ref aS, .ref aC, .ref aG])), (aS, .inl (cI, 5, .inl (zfill (pClrF (pBrd wn hn)) S0 5))), (aC, .inl (cI, 5, .inl Cr)), (aG, .inl (cI, 5, .inl G0))])) hx hb hr hlocks hP hS () (rfl) (trivial) dX0_clear_84
            · skip
              have n_57 := zc_le_f (a := 5) (b := k) (by omega) (by omega) c_57
              exact absurd n_57 (by omega)
          | succ n ih_55 =>
            intro k hkn  H locs ls hP hD hS hl
            refine lv_iload_n hx hb dX0_clear_55 rfl (lv_at hl 1 rfl) ?_
            refine lv_iconst (v := 5) hx hb dX0_clear_56 (by decide) ?_
            refine lv_icmp_ge (tgt := 84) hx hb dX0_clear_57 (by decide) (fun c_57 => ?_) (fun c_57 => ?_)
            · skip
              have n_57 := zc_le_t (a := 5) (b := k) (by omega) (by omega) c_57
              exact absurd n_57 (by omega)
            · skip
              have n_57 := zc_le_f (a := 5) (b := k) (by omega) (by omega) c_57
              refine lv_aload_n hx hb dX0_clear_60 rfl (lv_at hl 0 rfl) ?_
              refine va_get (D := (dC, dI)) (ci := 0) (v := .ref aS) (C := RX0) (T := TX0) (N := 6) hx hb hts iX0_clear_X0 hown hK hP 0 rfl rfl 3 (by decide) (hts (.fieldLink RX0 15 "ColourTide$Tide" "sets" "[I") (List.mem_of_getElem? (i := 3) rfl)) (fun _ h9 => h9) rfl dX0_clear_61 ?_
              refine lv_iload_n hx hb dX0_clear_64 rfl (lv_at hl 1 rfl) ?_
              refine lv_iload_n hx hb dX0_clear_65 rfl (lv_at hl 1 rfl) ?_
              suffices j_77 : ∀ v_77 : Int32, v_77 = (if nI k = 0 then pBrd wn hn else 0) → W p l e rmX0_clear s m args below meth c H locs 0 0 Q (F0 m 77 ls [.int v_77, .int (nI k), .ref aS]) by
                refine lv_if_ne (tgt := 76) hx hb dX0_clear_66 (by decide) (fun c_66 => ?_) (fun c_66 => ?_)
                · skip
                  have n_66 := zc_eq_f (a := k) (b := 0) (by omega) (by omega) c_66
                  refine lv_iconst (v := 0) hx hb dX0_clear_76 (by decide) ?_
                  exact j_77 _ (by rw [if_neg c_66])
                · skip
                  have n_66 := zc_eq_t (a := k) (b := 0) (by omega) (by omega) c_66
                  refine lv_aload_n hx hb dX0_clear_69 rfl (lv_at hl 0 rfl) ?_
                  refine va_get (D := (dC, dI)) (ci := 0) (v := .int (pBrd wn hn)) (C := RX0) (T := TX0) (N := 6) hx hb hts iX0_clear_X0 hown hK hP 0 rfl rfl 0 (by decide) (hts (.fieldLink RX0 25 "ColourTide$Tide" "board" "I") (List.mem_of_getElem? (i := 1) rfl)) (fun _ h9 => h9) rfl dX0_clear_70 ?_
                  refine lv_goto (tgt := 77) hx hb dX0_clear_73 (by decide) ?_
                  exact j_77 _ (by rw [if_pos c_66])
              intro v_77 h_v_77
              refine z_iast hx hb hK hP hD hS 1 0 rfl rfl k (rfl) (by omega) (by decide) dX0_clear_77 (fun H locs hP hD hS => ?_)
              have hP : va_P (dC, dI) vwCl [(hT, .inr (0, [.int (pBrd wn hn), .int 0, .int nd, .ref aS, .ref aC, .ref aG])), (aS, .inl (cI, 5, .inl (upd (zfill (pClrF (pBrd wn hn)) S0 k) k v_77))), (aC, .inl (cI, 5, .inl Cr)), (aG, .inl (cI, 5, .inl G0))] H := hP
              have hD : va_D A [(hT, .inr (0, [.int (pBrd wn hn), .int 0, .int nd, .ref aS, .ref aC, .ref aG])), (aS, .inl (cI, 5, .inl (upd (zfill (pClrF (pBrd wn hn)) S0 k) k v_77))), (aC, .inl (cI, 5, .inl Cr)), (aG, .inl (cI, 5, .inl G0))] := hD
              have e_77 : upd (zfill (pClrF (pBrd wn hn)) S0 k) k v_77 = zfill (pClrF (pBrd wn hn)) S0 (k + 1) := by rw [h_v_77]; exact zfill_succ _ _ _
              rw [e_77] at hP hD
              refine lv_iinc (v := nI (k + 1)) (lv' := [(3, .int (nI (k + 1))), (0, .ref hT)]) hx hb dX0_clear_78 hl (k := 1) rfl (nI_1 k) (by decide) rfl (fun ls hl => ?_)
              refine lv_goto (tgt := 55) hx hb dX0_clear_81 (by decide) ?_
              exact ih_55 (k + 1) (by omega)  _ _ _ hP hD hS (lv_sub hl [1, 0] rfl)
        have hl9 := hl
        have hP9 := hP
        have hD9 := hD
        have hS9 := hS
        obtain rfl : hn = y := by omega
        have hl := hl9
        have hP := hP9
        have hD := hD9
        have hS := hS9
        rw [← zfill_0 (pClrF (pBrd wn hn)) S0] at hP hD
        exact loop_55 5 0 (by omega)  _ _ _ hP hD hS (lv_sub hl [1, 0] rfl)
      · skip
        have n_9 := zc_le_f (a := hn) (b := y) (by omega) (by omega) c_9
        exact absurd n_9 (by omega)
    | succ n ih_7 =>
      intro y hkn  H locs ls hP hD hS hl
      refine lv_iload_n hx hb dX0_clear_7 rfl (lv_at hl 3 rfl) ?_
      refine lv_iload_n hx hb dX0_clear_8 rfl (lv_at hl 2 rfl) ?_
      refine lv_icmp_ge (tgt := 48) hx hb dX0_clear_9 (by decide) (fun c_9 => ?_) (fun c_9 => ?_)
      · skip
        have n_9 := zc_le_t (a := hn) (b := y) (by omega) (by omega) c_9
        exact absurd n_9 (by omega)
      · skip
        have n_9 := zc_le_f (a := hn) (b := y) (by omega) (by omega) c_9
        refine lv_iconst (v := 0) hx hb dX0_clear_12 (by decide) ?_
        refine lv_istore (lv' := [(4, .int 0), (0, .ref hT), (1, .int (nI wn)), (2, .int (nI hn)), (3, .int (nI y))]) hx hb dX0_clear_13 hl (by decide) rfl (fun ls hl => ?_)
        have loop_15 : ∀ (n : Nat) (x : Nat) (hkn : x + n = wn) (H : Heap) (locs : List Loc) (ls : Array Slot) (hP : va_P (dC, dI) vwCl [(hT, .inr (0, [.int (pRow y (pBrd wn y) x), .int sb, .int nd, .ref aS, .ref aC, .ref aG])), (aS, .inl (cI, 5, .inl S0)), (aC, .inl (cI, 5, .inl Cr)), (aG, .inl (cI, 5, .inl G0))] H) (hD : va_D A [(hT, .inr (0, [.int (pRow y (pBrd wn y) x), .int sb, .int nd, .ref aS, .ref aC, .ref aG])), (aS, .inl (cI, 5, .inl S0)), (aC, .inl (cI, 5, .inl Cr)), (aG, .inl (cI, 5, .inl G0))]) (hS : va_S A s.heap H locs) (hl : lv_has ls 5 [(0, .ref hT), (1, .int (nI wn)), (2, .int (nI hn)), (3, .int (nI y)), (4, .int (nI x))]), W p l e rmX0_clear s m args below meth c H locs 0 0 Q (F0 m 15 ls []) := by
          intro n
          induction n with
          | zero =>
            intro x hkn  H locs ls hP hD hS hl
            refine lv_iload hx hb dX0_clear_15 (lv_at hl 4 rfl) ?_
            refine lv_iload_n hx hb dX0_clear_17 rfl (lv_at hl 1 rfl) ?_
            refine lv_icmp_ge (tgt := 42) hx hb dX0_clear_18 (by decide) (fun c_18 => ?_) (fun c_18 => ?_)
            · skip
              have n_18 := zc_le_t (a := wn) (b := x) (by omega) (by omega) c_18
              refine lv_iinc (v := nI (y + 1)) (lv' := [(3, .int (nI (y + 1))), (0, .ref hT), (1, .int (nI wn)), (2, .int (nI hn)), (4, .int (nI x))]) hx hb dX0_clear_42 hl (k := 3) rfl (nI_1 y) (by decide) rfl (fun ls hl => ?_)
              refine lv_goto (tgt := 7) hx hb dX0_clear_45 (by decide) ?_
              have hl9 := hl
              have hP9 := hP
              have hD9 := hD
              have hS9 := hS
              obtain rfl : wn = x := by omega
              have hl := hl9
              have hP := hP9
              have hD := hD9
              have hS := hS9
              exact ih_7 (y + 1) (by omega)  _ _ _ hP hD hS (lv_sub hl [1, 2, 3, 0] rfl)
            · skip
              have n_18 := zc_le_f (a := wn) (b := x) (by omega) (by omega) c_18
              exact absurd n_18 (by omega)
          | succ n ih_15 =>
            intro x hkn  H locs ls hP hD hS hl
            refine lv_iload hx hb dX0_clear_15 (lv_at hl 4 rfl) ?_
            refine lv_iload_n hx hb dX0_clear_17 rfl (lv_at hl 1 rfl) ?_
            refine lv_icmp_ge (tgt := 42) hx hb dX0_clear_18 (by decide) (fun c_18 => ?_) (fun c_18 => ?_)
            · skip
              have n_18 := zc_le_t (a := wn) (b := x) (by omega) (by omega) c_18
              exact absurd n_18 (by omega)
            · skip
              have n_18 := zc_le_f (a := wn) (b := x) (by omega) (by omega) c_18
              refine lv_aload_n hx hb dX0_clear_21 rfl (lv_at hl 0 rfl) ?_
              refine lv_dup hx hb dX0_clear_22 rfl ?_
              refine va_get (D := (dC, dI)) (ci := 0) (v := .int (pRow y (pBrd wn y) x)) (C := RX0) (T := TX0) (N := 6) hx hb hts iX0_clear_X0 hown hK hP 0 rfl rfl 0 (by decide) (hts (.fieldLink RX0 25 "ColourTide$Tide" "board" "I") (List.mem_of_getElem? (i := 1) rfl)) (fun _ h9 => h9) rfl dX0_clear_23 ?_
              refine lv_iload hx hb dX0_clear_26 (lv_at hl 4 rfl) ?_
              refine lv_iload_n hx hb dX0_clear_28 rfl (lv_at hl 3 rfl) ?_
              refine z_callNi (As := [.int (nI x), .int (nI y)]) (rest := [.int (pRow y (pBrd wn y) x), .ref hT]) (host := RX1) F9 (m_X1_cell l dC dI cI cZ cJ cD (nI x) (nI y) ) ⟨va_cnB 2 hts gX0_clear_X1_cell_n28 rfl rfl rfl hN.1 (hts (.initialized RX1) (List.mem_of_getElem? (i := 5) rfl)) (by decide +kernel) ⟨Nat.le_of_ble_eq_true rfl, Nat.le_of_ble_eq_true rfl⟩, (hts (.static yX1_cell) (List.mem_of_getElem? (i := 4) rfl)), trivial⟩ hK hN hP hD hS hA rfl hl.1 rfl (Nat.le_of_ble_eq_true rfl) dX0_clear_29 ⟨Nat.zero_le _, Nat.zero_le _⟩ (fun r_1 H locs hp_29 hP hS => ?_)
              have hp_29 : r_1 = pCell (nI x) (nI y) := hp_29
              refine z_topi (y := pCell (nI x) (nI y)) hp_29 ?_
              refine lv_ior hx hb dX0_clear_32 ?_
              refine va_put (D := (dC, dI)) (ci := 0) (v := .int ((pRow y (pBrd wn y) x) ||| (pCell (nI x) (nI y)))) (ty := .int) (C := RX0) (T := TX0) (N := 6) hx hb hts iX0_clear_X0 tyX0 tyX0_ok nmX0 hown hK hP hD hS 0 rfl rfl 0 (by decide) (hts (.fieldLink RX0 25 "ColourTide$Tide" "board" "I") (List.mem_of_getElem? (i := 1) rfl)) (fun _ h9 => h9) rfl (by decide +kernel) rfl rfl (Nat.le_of_ble_eq_true rfl) dX0_clear_33 (fun H locs hP hD hS => ?_)
              have hP : va_P (dC, dI) vwCl [(hT, .inr (0, [.int ((pRow y (pBrd wn y) x) ||| (pCell (nI x) (nI y))), .int sb, .int nd, .ref aS, .ref aC, .ref aG])), (aS, .inl (cI, 5, .inl S0)), (aC, .inl (cI, 5, .inl Cr)), (aG, .inl (cI, 5, .inl G0))] H := hP
              have hD : va_D A [(hT, .inr (0, [.int ((pRow y (pBrd wn y) x) ||| (pCell (nI x) (nI y))), .int sb, .int nd, .ref aS, .ref aC, .ref aG])), (aS, .inl (cI, 5, .inl S0)), (aC, .inl (cI, 5, .inl Cr)), (aG, .inl (cI, 5, .inl G0))] := hD
              have e_33 : ((pRow y (pBrd wn y) x) ||| (pCell (nI x) (nI y))) = pRow y (pBrd wn y) (x + 1) := rfl
              rw [e_33] at hP hD
              refine lv_iinc (v := nI (x + 1)) (lv' := [(4, .int (nI (x + 1))), (0, .ref hT), (1, .int (nI wn)), (2, .int (nI hn)), (3, .int (nI y))]) hx hb dX0_clear_36 hl (k := 4) rfl (nI_1 x) (by decide) rfl (fun ls hl => ?_)
              refine lv_goto (tgt := 15) hx hb dX0_clear_39 (by decide) ?_
              exact ih_15 (x + 1) (by omega)  _ _ _ hP hD hS (lv_sub hl [1, 2, 3, 4, 0] rfl)
        exact loop_15 wn 0 (by omega)  _ _ _ hP hD hS (lv_sub hl [1, 2, 3, 4, 0] rfl)
  exact loop_7 hn 0 (by omega)  _ _ _ hP hD hS (lv_sub hl [1, 2, 3, 0] rfl)
end
section
/-! the class's methods as pure functions, continued -/
theorem z_if0 {P : Prop} [Decidable P] (h : (if P then (1 : Int32) else 0) = 0) : ¬ P := fun q => by rw [if_pos q] at h; exact absurd h (by decide)
theorem z_if1 {P : Prop} [Decidable P] (h : ¬ (if P then (1 : Int32) else 0) = 0) : P := by
  by_cases q : P
  · exact q
  · rw [if_neg q] at h; exact absurd rfl h
theorem z_narif {P : Prop} [Decidable P] : narrow .boolean (.int (if P then 1 else 0)) = .int (if P then 1 else 0) := by
  by_cases q : P
  · rw [if_pos q]; decide +kernel
  · rw [if_neg q]; decide +kernel
abbrev pOn (x y wd hg : Int32) : Prop := ¬ x < 0 ∧ ¬ wd ≤ x ∧ ¬ y < 0 ∧ ¬ hg ≤ y
abbrev pSide (x : Int32) : Prop := ¬ x < 2 ∧ ¬ 5 < x
abbrev pCol (x : Int32) : Prop := ¬ x < 1 ∧ ¬ 4 < x
abbrev pAny (x : Int32) : Prop := x = 0 ∨ pCol x
def pm (d : Int64) (x : Int32) : Int64 := d * 31 + x.toInt64
def pLm (S : Nat → Int32) : Nat → Int32
  | 0 => 0
  | i + 1 => if pBC (pCW S (nI (i + 1))) ≤ pLm S i then pLm S i else pBC (pCW S (nI (i + 1)))
def pLb (S : Nat → Int32) : Nat → Nat
  | 0 => 0
  | i + 1 => if pBC (pCW S (nI (i + 1))) ≤ pLm S i then pLb S i else i + 1
def pWr (S : Nat → Int32) (bd : Int32) : Int32 := if pCW S (nI 1) = bd then 1 else if pCW S (nI 2) = bd then 2 else if pCW S (nI 3) = bd then 3 else if pCW S (nI 4) = bd then 4 else 0
theorem pWr_at {S : Nat → Int32} {bd : Int32} {k : Nat} (h1 : 1 ≤ k) (hk : k < 5) (hz : ∀ j, 1 ≤ j → j < k → ¬ pCW S (nI j) = bd) (hn : pCW S (nI k) = bd) : nI k = pWr S bd := by
  rcases (show k = 1 ∨ k = 2 ∨ k = 3 ∨ k = 4 by omega) with rfl | rfl | rfl | rfl
  · rw [pWr, if_pos hn]; rfl
  · rw [pWr, if_neg (hz 1 (by omega) (by omega)), if_pos hn]; rfl
  · rw [pWr, if_neg (hz 1 (by omega) (by omega)), if_neg (hz 2 (by omega) (by omega)), if_pos hn]; rfl
  · rw [pWr, if_neg (hz 1 (by omega) (by omega)), if_neg (hz 2 (by omega) (by omega)), if_neg (hz 3 (by omega) (by omega)), if_pos hn]; rfl
theorem pWr_no {S : Nat → Int32} {bd : Int32} (hz : ∀ j, 1 ≤ j → j < 5 → ¬ pCW S (nI j) = bd) : 0 = pWr S bd := by
  rw [pWr, if_neg (hz 1 (by omega) (by omega)), if_neg (hz 2 (by omega) (by omega)), if_neg (hz 3 (by omega) (by omega)), if_neg (hz 4 (by omega) (by omega))]
def pMc (d : Int64) (S : Nat → Int32) (sb : Int32) (G : Nat → Int32) (c : Int32) : Int64 := pm (pm (pm (pm d (pFirst S c)) (if sb &&& c = 0 then 0 else 1)) (pFore S G c)) (pSoR S c)
def pDm (wd hg nd wv bd sb : Int32) (q0 : Nat) (S : Nat → Int32) : Int64 := pm (pm (pm (pm (pm (pm (pm (pm (pm 1871 wd) hg) nd) wv) (pBC sb)) (pBo S bd 4)) (nI (pLb S 4))) (if pC0 S bd sb q0 = 0 then 1 else 0)) (pWr S bd)
def pDc (d : Int64) (S : Nat → Int32) : Nat → Int64
  | 0 => d
  | k + 1 => pm (pm (pm (pDc d S k) (pBC (pCW S (nI (k + 1))))) (nI (pCR 25 (pCW S (nI (k + 1))) 0))) (pGR 25 (pCW S (nI (k + 1))) 0)
def pDz (d : Int64) (w : Nat) (S : Nat → Int32) (sb : Int32) (G : Nat → Int32) : Nat → Int64
  | 0 => d
  | c + 1 => pMc (pDz d w S sb G c) S sb G (pCell (nI (c % w)) (nI (c / w)))
def pDi (wn hn : Nat) (nd wv bd sb : Int32) (q0 : Nat) (S : Nat → Int32) : Int64 := pDz (pDc (pDm (nI wn) (nI hn) nd wv bd sb q0 S) S 4) wn S sb (pG0 S bd sb q0) (wn * hn)
theorem wy_mod {w x : Nat} (y : Nat) (h : x < w) : (w * y + x) % w = x ∧ (w * y + x) / w = y := by
  have hw : 0 < w := by omega
  rw [Nat.mul_add_mod, Nat.mod_eq_of_lt h, Nat.mul_add_div hw, Nat.div_eq_of_lt h]
  exact ⟨rfl, rfl⟩
theorem pFirst_in {A B : Nat → Int32} (h : ∀ j, j < 5 → A j = B j) (c : Int32) : pFirst A c = pFirst B c := by
  unfold pFirst
  rw [h 1 (by omega), h 2 (by omega), h 3 (by omega), h 4 (by omega)]
theorem pMc_in (d : Int64) (S : Nat → Int32) (bd sb : Int32) (q0 : Nat) (G : Nat → Int32) (c : Int32) : pMc d S sb (pGf S bd sb q0 G) c = pMc d S sb (pG0 S bd sb q0) c := by
  have e : pFore S (pGf S bd sb q0 G) c = pFore S (pG0 S bd sb q0) c := by
    unfold pFore
    rw [pFirst_in (fun j hj => pGf_in S bd sb q0 G hj) c]
  unfold pMc
  rw [e]
theorem pDz_step {d : Int64} {w : Nat} {S : Nat → Int32} {bd sb : Int32} {q0 : Nat} {G : Nat → Int32} {x : Nat} (y : Nat) (h : x < w) : pMc (pDz d w S sb (pG0 S bd sb q0) (w * y + x)) S sb (pGf S bd sb q0 G) (pCell (nI x) (nI y)) = pDz d w S sb (pG0 S bd sb q0) (w * y + (x + 1)) := by
  show _ = pMc (pDz d w S sb (pG0 S bd sb q0) (w * y + x)) S sb (pG0 S bd sb q0) (pCell (nI ((w * y + x) % w)) (nI ((w * y + x) / w)))
  rw [(wy_mod y h).1, (wy_mod y h).2, pMc_in]
/-- only the five sets count -/
theorem pSo_inS {S S2 : Nat → Int32} (h : ∀ j, j < 5 → S j = S2 j) (q : Nat) : ∀ i, i ≤ 4 → pSo S q i = pSo S2 q i
  | 0, _ => rfl
  | i + 1, hi => by rw [pSo, pSo, pSo_inS h q i (by omega), h (i + 1) (by omega)]
theorem pSe_inS {S S2 : Nat → Int32} (h : ∀ j, j < 5 → S j = S2 j) (q : Nat) : ∀ i, i ≤ 4 → pSe S q i = pSe S2 q i
  | 0, _ => rfl
  | i + 1, hi => by rw [pSe, pSe, pSe_inS h q i (by omega), pSo_inS h q i (by omega), h (i + 1) (by omega)]
theorem pGs_inS {S S2 : Nat → Int32} (h : ∀ j, j < 5 → S j = S2 j) (bd sb : Int32) (q0 : Nat) (G : Nat → Int32) : ∀ i j, j < 5 → pGs S bd sb q0 G i j = pGs S2 bd sb q0 G i j
  | 0, j, hj => rfl
  | i + 1, j, hj => by
    have ih := pGs_inS h bd sb q0 G i j hj
    show zfrom _ _ 4 j = zfrom _ _ 4 j
    unfold zfrom pAddF
    rw [ih, h j hj, pSe_inS h _ 4 (Nat.le_refl 4)]
theorem pG0_inS {S S2 : Nat → Int32} (h : ∀ j, j < 5 → S j = S2 j) (bd sb : Int32) (q0 : Nat) {j : Nat} (hj : j < 5) : pG0 S bd sb q0 j = pG0 S2 bd sb q0 j := pGs_inS h bd sb q0 _ _ j hj
theorem pC0_inS {S S2 : Nat → Int32} (h : ∀ j, j < 5 → S j = S2 j) (bd sb : Int32) (q0 : Nat) : pC0 S bd sb q0 = pC0 S2 bd sb q0 := by
  have : ∀ i, i ≤ 4 → pCh S (pG0 S bd sb q0) i = pCh S2 (pG0 S2 bd sb q0) i := by
    intro i
    induction i with
    | zero => intro _; rfl
    | succ i ih =>
      intro hi
      rw [pCh, pCh, ih (by omega), h (i + 1) (by omega), pG0_inS h bd sb q0 (show i + 1 < 5 by omega)]
  exact this 4 (Nat.le_refl 4)
theorem pIt_inS {S S2 : Nat → Int32} (h : ∀ j, j < 5 → S j = S2 j) (bd sb : Int32) (q0 : Nat) : ∀ n j, j < 5 → pIt bd sb q0 S n j = pIt bd sb q0 S2 n j
  | 0, j, hj => h j hj
  | n + 1, j, hj => by
    have ih := pIt_inS h bd sb q0 n
    rw [pIt, pIt, pC0_inS ih bd sb q0]
    split
    · exact ih j hj
    · unfold pTake
      rw [zfill_in hj, zfill_in hj]
      unfold pTakeF
      rw [ih j hj, pG0_inS ih bd sb q0 hj]
theorem pCW_inS {S S2 : Nat → Int32} (h : ∀ j, j < 5 → S j = S2 j) (col : Int32) : pCW S col = pCW S2 col := by
  unfold pCW
  rw [h 0 (by omega), h 1 (by omega), h 2 (by omega), h 3 (by omega), h 4 (by omega)]
theorem pDye_inS {S S2 : Nat → Int32} (h : ∀ j, j < 5 → S j = S2 j) (z col : Int32) : ∀ j, j < 5 → pDye S z col j = pDye S2 z col j := fun j hj => by
  unfold pDye
  rw [zfill_in hj, zfill_in hj]
  unfold pDyeF
  rw [h j hj]
theorem copy_in (S S2 : Nat → Int32) : ∀ j, j < 5 → zfill S S2 5 j = S j := fun j hj => zfill_in hj
def pAft (S : Nat → Int32) (bd sb : Int32) (q0 : Nat) (z col : Int32) (n : Nat) : Int32 := pBC (pCW (pIt bd sb q0 (pDye S z col) n) col)
abbrev pWin (S : Nat → Int32) (bd sb : Int32) (q0 : Nat) (z col : Int32) : Prop := pCW (pIt bd sb q0 (pDye S z col) 8) col = bd
theorem pTr_CW (S S2 : Nat → Int32) (bd sb : Int32) (q0 : Nat) (z col : Int32) (n : Nat) : pCW (pIt bd sb q0 (pDye (zfill S S2 5) z col) n) col = pCW (pIt bd sb q0 (pDye S z col) n) col := pCW_inS (pIt_inS (pDye_inS (copy_in S S2) z col) bd sb q0 n) col
def pSd (p : Nat) : Int32 := (1 : Int32) <<< (nI p &&& 31)
def pBb (F : Nat → Int32) : Nat → Int32
  | 0 => -1
  | c + 1 => if F c ≤ pBb F c then pBb F c else F c
def pBi (F : Nat → Int32) : Nat → Nat
  | 0 => 0
  | c + 1 => if F c ≤ pBb F c then pBi F c else c
def pBF (S : Nat → Int32) (bd sb : Int32) (q0 w : Nat) (col : Int32) (n : Nat) : Nat → Int32 := fun c => pAft S bd sb q0 (pCell (nI (c % w)) (nI (c / w))) col n
end
section
abbrev rmX1_isOnMap : Room := { frames := 0, cells := 0, slots := 0, locals := 0 }
set_option maxRecDepth 20000 in
theorem iX1_isOnMap_X1 : ∀ w ∈ wsX10, w ∈ wsX1_isOnMap := fun w h => (goodIn_r (big := wsX1_isOnMap) wsX10 [3, 4, 5, 6, 7] (by decide +kernel) (by decide +kernel) w h).1
set_option maxHeartbeats 4000000 in
set_option maxRecDepth 100000 in
theorem m_X1_isOnMap (l : Launch) (dC : Nat → ClassId) (dI : Nat → Nat → Nat) (cI cZ cJ cD : ClassId) (h0 : Nat) (hM : Nat) (aS : Nat) (aC : Nat) (aG : Nat) (hV : Nat) (bS : Nat) (bC : Nat) (bG : Nat) (wd : Int32) (hg : Int32) (wv : Int32) (bd : Int32) (sb : Int32) (nd : Int32) (S0 : Nat → Int32) (Cr : Nat → Int32) (G0 : Nat → Int32) (bd2 : Int32) (sb2 : Int32) (nd2 : Int32) (S2 : Nat → Int32) (Cr2 : Nat → Int32) (G2 : Nat → Int32) (x0 : Int32) (y0 : Int32)  : zI l (dC, dI) (wT cI cZ cJ cD) yX1_isOnMap wsX1_isOnMap rmX1_isOnMap [(h0, .inr (1, [.ref hM, .ref hV, .int wd, .int hg, .int wv])), (hM, .inr (0, [.int bd, .int sb, .int nd, .ref aS, .ref aC, .ref aG])), (aS, .inl (cI, 5, .inl S0)), (aC, .inl (cI, 5, .inl Cr)), (aG, .inl (cI, 5, .inl G0)), (hV, .inr (0, [.int bd2, .int sb2, .int nd2, .ref bS, .ref bC, .ref bG])), (bS, .inl (cI, 5, .inl S2)), (bC, .inl (cI, 5, .inl Cr2)), (bG, .inl (cI, 5, .inl G2))] [.ref h0, .int x0, .int y0] (fun (_ : Unit) => [(h0, .inr (1, [.ref hM, .ref hV, .int wd, .int hg, .int wv])), (hM, .inr (0, [.int bd, .int sb, .int nd, .ref aS, .ref aC, .ref aG])), (aS, .inl (cI, 5, .inl S0)), (aC, .inl (cI, 5, .inl Cr)), (aG, .inl (cI, 5, .inl G0)), (hV, .inr (0, [.int bd2, .int sb2, .int nd2, .ref bS, .ref bC, .ref bG])), (bS, .inl (cI, 5, .inl S2)), (bC, .inl (cI, 5, .inl Cr2)), (bG, .inl (cI, 5, .inl G2))]) (fun (r : Int32) (_ : Unit) => r = if pOn x0 y0 wd hg then 1 else 0) := by
  intro sz
  refine Met.ofW (cc := cX1_isOnMap) (maxL := 3) (ret := (some .boolean)) (by decide) rfl ?_
  intro p e s m args below meth c s₁ B hml hv
  obtain ⟨ha, hsz, hP, hK, hD0, hN⟩ := hv
  have hx := B.exec
  have hb := B.bytes
  have hr := B.returns
  have hts := atoms_spec (ws := wsX1_isOnMap) B.pre
  have hown : s.vm.findClass RX1 = some m.cls := findClass_of_methodNamed B.named
  have hlocks := B.notSynchronized
  subst hsz
  have hD := hD0.self (sz := s.heap.size)
  generalize hAe : va_A [(h0, .inr (1, [.ref hM, .ref hV, .int wd, .int hg, .int wv])), (hM, .inr (0, [.int bd, .int sb, .int nd, .ref aS, .ref aC, .ref aG])), (aS, .inl (cI, 5, .inl S0)), (aC, .inl (cI, 5, .inl Cr)), (aG, .inl (cI, 5, .inl G0)), (hV, .inr (0, [.int bd2, .int sb2, .int nd2, .ref bS, .ref bC, .ref bG])), (bS, .inl (cI, 5, .inl S2)), (bC, .inl (cI, 5, .inl Cr2)), (bG, .inl (cI, 5, .inl G2))] s.heap.size = A at hD ⊢
  have hA : ∀ q : Nat, s.heap.size ≤ q → A q := fun q h => by rw [← hAe]; exact Or.inr h
  have hS : va_S A s.heap s.heap [] := va_S.rf
  generalize hQ : MQ below (va_Qi (fun (r : Int32) (_ : Unit) => r = if pOn x0 y0 wd hg then 1 else 0) (fun u t => va_P (dC, dI) vwCl ((fun (_ : Unit) => [(h0, .inr (1, [.ref hM, .ref hV, .int wd, .int hg, .int wv])), (hM, .inr (0, [.int bd, .int sb, .int nd, .ref aS, .ref aC, .ref aG])), (aS, .inl (cI, 5, .inl S0)), (aC, .inl (cI, 5, .inl Cr)), (aG, .inl (cI, 5, .inl G0)), (hV, .inr (0, [.int bd2, .int sb2, .int nd2, .ref bS, .ref bC, .ref bG])), (bS, .inl (cI, 5, .inl S2)), (bC, .inl (cI, 5, .inl Cr2)), (bG, .inl (cI, 5, .inl G2))]) u) t.heap) A) args s 0 0 A = Q
  have F9 : CallFix p m c cX1_isOnMap 3 s args wsX1_isOnMap RX1 := ⟨hx, hb, hml, hown, hts⟩
  refine z_entry (R := rmX1_isOnMap) ha (Nat.le_of_ble_eq_true rfl) (fun ls hl => ?_)
  have hl : lv_has ls 3 [(0, .ref h0), (1, .int x0), (2, .int y0)] := hl
  refine lv_iload_n hx hb dX1_isOnMap_0 rfl (lv_at hl 1 rfl) ?_
  refine lv_if_lt (tgt := 28) hx hb dX1_isOnMap_1 (by decide) (fun c_1 => ?_) (fun c_1 => ?_)
  · skip
    refine lv_iconst (v := 0) hx hb dX1_isOnMap_28 (by decide) ?_
    rw [← hQ]
    exact z_zret (W1 := (fun (_ : Unit) => [(h0, .inr (1, [.ref hM, .ref hV, .int wd, .int hg, .int wv])), (hM, .inr (0, [.int bd, .int sb, .int nd, .ref aS, .ref aC, .ref aG])), (aS, .inl (cI, 5, .inl S0)), (aC, .inl (cI, 5, .inl Cr)), (aG, .inl (cI, 5, .inl G0)), (hV, .inr (0, [.int bd2, .int sb2, .int nd2, .ref bS, .ref bC, .ref bG])), (bS, .inl (cI, 5, .inl S2)), (bC, .inl (cI, 5, .inl Cr2)), (bG, .inl (cI, 5, .inl G2))])) hx hb hr hlocks (by decide +kernel) hP hS () (rfl) (by rw [if_neg (fun q => q.1 c_1)]) dX1_isOnMap_29
  · skip
    refine lv_iload_n hx hb dX1_isOnMap_4 rfl (lv_at hl 1 rfl) ?_
    refine lv_aload_n hx hb dX1_isOnMap_5 rfl (lv_at hl 0 rfl) ?_
    refine va_get (D := (dC, dI)) (ci := 1) (v := .int wd) (C := RX1) (T := TX1) (N := 5) hx hb hts iX1_isOnMap_X1 hown hK hP 0 rfl rfl 2 (by decide) (hts (.fieldLink RX1 19 "ColourTide" "width" "I") (List.mem_of_getElem? (i := 1) rfl)) (fun _ h9 => h9) rfl dX1_isOnMap_6 ?_
    refine lv_icmp_ge (tgt := 28) hx hb dX1_isOnMap_9 (by decide) (fun c_9 => ?_) (fun c_9 => ?_)
    · skip
      refine lv_iconst (v := 0) hx hb dX1_isOnMap_28 (by decide) ?_
      rw [← hQ]
      exact z_zret (W1 := (fun (_ : Unit) => [(h0, .inr (1, [.ref hM, .ref hV, .int wd, .int hg, .int wv])), (hM, .inr (0, [.int bd, .int sb, .int nd, .ref aS, .ref aC, .ref aG])), (aS, .inl (cI, 5, .inl S0)), (aC, .inl (cI, 5, .inl Cr)), (aG, .inl (cI, 5, .inl G0)), (hV, .inr (0, [.int bd2, .int sb2, .int nd2, .ref bS, .ref bC, .ref bG])), (bS, .inl (cI, 5, .inl S2)), (bC, .inl (cI, 5, .inl Cr2)), (bG, .inl (cI, 5, .inl G2))])) hx hb hr hlocks (by decide +kernel) hP hS () (rfl) (by rw [if_neg (fun q => q.2.1 c_9)]) dX1_isOnMap_29
    · skip
      refine lv_iload_n hx hb dX1_isOnMap_12 rfl (lv_at hl 2 rfl) ?_
      refine lv_if_lt (tgt := 28) hx hb dX1_isOnMap_13 (by decide) (fun c_13 => ?_) (fun c_13 => ?_)
      · skip
        refine lv_iconst (v := 0) hx hb dX1_isOnMap_28 (by decide) ?_
        rw [← hQ]
        exact z_zret (W1 := (fun (_ : Unit) => [(h0, .inr (1, [.ref hM, .ref hV, .int wd, .int hg, .int wv])), (hM, .inr (0, [.int bd, .int sb, .int nd, .ref aS, .ref aC, .ref aG])), (aS, .inl (cI, 5, .inl S0)), (aC, .inl (cI, 5, .inl Cr)), (aG, .inl (cI, 5, .inl G0)), (hV, .inr (0, [.int bd2, .int sb2, .int nd2, .ref bS, .ref bC, .ref bG])), (bS, .inl (cI, 5, .inl S2)), (bC, .inl (cI, 5, .inl Cr2)), (bG, .inl (cI, 5, .inl G2))])) hx hb hr hlocks (by decide +kernel) hP hS () (rfl) (by rw [if_neg (fun q => q.2.2.1 c_13)]) dX1_isOnMap_29
      · skip
        refine lv_iload_n hx hb dX1_isOnMap_16 rfl (lv_at hl 2 rfl) ?_
        refine lv_aload_n hx hb dX1_isOnMap_17 rfl (lv_at hl 0 rfl) ?_
        refine va_get (D := (dC, dI)) (ci := 1) (v := .int hg) (C := RX1) (T := TX1) (N := 5) hx hb hts iX1_isOnMap_X1 hown hK hP 0 rfl rfl 3 (by decide) (hts (.fieldLink RX1 23 "ColourTide" "height" "I") (List.mem_of_getElem? (i := 2) rfl)) (fun _ h9 => h9) rfl dX1_isOnMap_18 ?_
        refine lv_icmp_ge (tgt := 28) hx hb dX1_isOnMap_21 (by decide) (fun c_21 => ?_) (fun c_21 => ?_)
        · skip
          refine lv_iconst (v := 0) hx hb dX1_isOnMap_28 (by decide) ?_
          rw [← hQ]
          exact z_zret (W1 := (fun (_ : Unit) => [(h0, .inr (1, [.ref hM, .ref hV, .int wd, .int hg, .int wv])), (hM, .inr (0, [.int bd, .int sb, .int nd, .ref aS, .ref aC, .ref aG])), (aS, .inl (cI, 5, .inl S0)), (aC, .inl (cI, 5, .inl Cr)), (aG, .inl (cI, 5, .inl G0)), (hV, .inr (0, [.int bd2, .int sb2, .int nd2, .ref bS, .ref bC, .ref bG])), (bS, .inl (cI, 5, .inl S2)), (bC, .inl (cI, 5, .inl Cr2)), (bG, .inl (cI, 5, .inl G2))])) hx hb hr hlocks (by decide +kernel) hP hS () (rfl) (by rw [if_neg (fun q => q.2.2.2 c_21)]) dX1_isOnMap_29
        · skip
          refine lv_iconst (v := 1) hx hb dX1_isOnMap_24 (by decide) ?_
          refine lv_goto (tgt := 29) hx hb dX1_isOnMap_25 (by decide) ?_
          rw [← hQ]
          exact z_zret (W1 := (fun (_ : Unit) => [(h0, .inr (1, [.ref hM, .ref hV, .int wd, .int hg, .int wv])), (hM, .inr (0, [.int bd, .int sb, .int nd, .ref aS, .ref aC, .ref aG])), (aS, .inl (cI, 5, .inl S0)), (aC, .inl (cI, 5, .inl Cr)), (aG, .inl (cI, 5, .inl G0)), (hV, .inr (0, [.int bd2, .int sb2, .int nd2, .ref bS, .ref bC, .ref bG])), (bS, .inl (cI, 5, .inl S2)), (bC, .inl (cI, 5, .inl Cr2)), (bG, .inl (cI, 5, .inl G2))])) hx hb hr hlocks (by decide +kernel) hP hS () (rfl) (by rw [if_pos ⟨c_1, c_9, c_13, c_21⟩]) dX1_isOnMap_29
abbrev rmX1_isSide : Room := { frames := 0, cells := 0, slots := 0, locals := 0 }
set_option maxHeartbeats 4000000 in
set_option maxRecDepth 100000 in
theorem m_X1_isSide (l : Launch) (dC : Nat → ClassId) (dI : Nat → Nat → Nat) (cI cZ cJ cD : ClassId) (x0 : Int32)  : zI l (dC, dI) (wT cI cZ cJ cD) yX1_isSide wsX1_isSide rmX1_isSide [] [.int x0] (fun (_ : Unit) => []) (fun (r : Int32) (_ : Unit) => r = if pSide x0 then 1 else 0) := by
  intro sz
  refine Met.ofW (cc := cX1_isSide) (maxL := 1) (ret := (some .boolean)) (by decide) rfl ?_
  intro p e s m args below meth c s₁ B hml hv
  obtain ⟨ha, hsz, hP, hK, hD0, hN⟩ := hv
  have hx := B.exec
  have hb := B.bytes
  have hr := B.returns
  have hts := atoms_spec (ws := wsX1_isSide) B.pre
  have hown : s.vm.findClass RX1 = some m.cls := findClass_of_methodNamed B.named
  have hlocks := B.notSynchronized
  subst hsz
  have hD := hD0.self (sz := s.heap.size)
  generalize hAe : va_A [] s.heap.size = A at hD ⊢
  have hA : ∀ q : Nat, s.heap.size ≤ q → A q := fun q h => by rw [← hAe]; exact Or.inr h
  have hS : va_S A s.heap s.heap [] := va_S.rf
  generalize hQ : MQ below (va_Qi (fun (r : Int32) (_ : Unit) => r = if pSide x0 then 1 else 0) (fun u t => va_P (dC, dI) vwCl ((fun (_ : Unit) => []) u) t.heap) A) args s 0 0 A = Q
  have F9 : CallFix p m c cX1_isSide 1 s args wsX1_isSide RX1 := ⟨hx, hb, hml, hown, hts⟩
  refine z_entry (R := rmX1_isSide) ha (Nat.le_of_ble_eq_true rfl) (fun ls hl => ?_)
  have hl : lv_has ls 1 [(0, .int x0)] := hl
  refine lv_iload_n hx hb dX1_isSide_0 rfl (lv_at hl 0 rfl) ?_
  refine lv_iconst (v := 2) hx hb dX1_isSide_1 (by decide) ?_
  refine lv_icmp_lt (tgt := 14) hx hb dX1_isSide_2 (by decide) (fun c_2 => ?_) (fun c_2 => ?_)
  · skip
    refine lv_iconst (v := 0) hx hb dX1_isSide_14 (by decide) ?_
    rw [← hQ]
    exact z_zret (W1 := (fun (_ : Unit) => [])) hx hb hr hlocks (by decide +kernel) hP hS () (rfl) (by rw [if_neg (fun q => q.1 c_2)]) dX1_isSide_15
  · skip
    refine lv_iload_n hx hb dX1_isSide_5 rfl (lv_at hl 0 rfl) ?_
    refine lv_iconst (v := 5) hx hb dX1_isSide_6 (by decide) ?_
    refine lv_icmp_gt (tgt := 14) hx hb dX1_isSide_7 (by decide) (fun c_7 => ?_) (fun c_7 => ?_)
    · skip
      refine lv_iconst (v := 0) hx hb dX1_isSide_14 (by decide) ?_
      rw [← hQ]
      exact z_zret (W1 := (fun (_ : Unit) => [])) hx hb hr hlocks (by decide +kernel) hP hS () (rfl) (by rw [if_neg (fun q => q.2 c_7)]) dX1_isSide_15
    · skip
      refine lv_iconst (v := 1) hx hb dX1_isSide_10 (by decide) ?_
      refine lv_goto (tgt := 15) hx hb dX1_isSide_11 (by decide) ?_
      rw [← hQ]
      exact z_zret (W1 := (fun (_ : Unit) => [])) hx hb hr hlocks (by decide +kernel) hP hS () (rfl) (by rw [if_pos ⟨c_2, c_7⟩]) dX1_isSide_15
abbrev rmX1_isColour : Room := { frames := 0, cells := 0, slots := 0, locals := 0 }
set_option maxHeartbeats 4000000 in
set_option maxRecDepth 100000 in
theorem m_X1_isColour (l : Launch) (dC : Nat → ClassId) (dI : Nat → Nat → Nat) (cI cZ cJ cD : ClassId) (x0 : Int32)  : zI l (dC, dI) (wT cI cZ cJ cD) yX1_isColour wsX1_isColour rmX1_isColour [] [.int x0] (fun (_ : Unit) => []) (fun (r : Int32) (_ : Unit) => r = if pCol x0 then 1 else 0) := by
  intro sz
  refine Met.ofW (cc := cX1_isColour) (maxL := 1) (ret := (some .boolean)) (by decide) rfl ?_
  intro p e s m args below meth c s₁ B hml hv
  obtain ⟨ha, hsz, hP, hK, hD0, hN⟩ := hv
  have hx := B.exec
  have hb := B.bytes
  have hr := B.returns
  have hts := atoms_spec (ws := wsX1_isColour) B.pre
  have hown : s.vm.findClass RX1 = some m.cls := findClass_of_methodNamed B.named
  have hlocks := B.notSynchronized
  subst hsz
  have hD := hD0.self (sz := s.heap.size)
  generalize hAe : va_A [] s.heap.size = A at hD ⊢
  have hA : ∀ q : Nat, s.heap.size ≤ q → A q := fun q h => by rw [← hAe]; exact Or.inr h
  have hS : va_S A s.heap s.heap [] := va_S.rf
  generalize hQ : MQ below (va_Qi (fun (r : Int32) (_ : Unit) => r = if pCol x0 then 1 else 0) (fun u t => va_P (dC, dI) vwCl ((fun (_ : Unit) => []) u) t.heap) A) args s 0 0 A = Q
  have F9 : CallFix p m c cX1_isColour 1 s args wsX1_isColour RX1 := ⟨hx, hb, hml, hown, hts⟩
  refine z_entry (R := rmX1_isColour) ha (Nat.le_of_ble_eq_true rfl) (fun ls hl => ?_)
  have hl : lv_has ls 1 [(0, .int x0)] := hl
  refine lv_iload_n hx hb dX1_isColour_0 rfl (lv_at hl 0 rfl) ?_
  refine lv_iconst (v := 1) hx hb dX1_isColour_1 (by decide) ?_
  refine lv_icmp_lt (tgt := 14) hx hb dX1_isColour_2 (by decide) (fun c_2 => ?_) (fun c_2 => ?_)
  · skip
    refine lv_iconst (v := 0) hx hb dX1_isColour_14 (by decide) ?_
    rw [← hQ]
    exact z_zret (W1 := (fun (_ : Unit) => [])) hx hb hr hlocks (by decide +kernel) hP hS () (rfl) (by rw [if_neg (fun q => q.1 c_2)]) dX1_isColour_15
  · skip
    refine lv_iload_n hx hb dX1_isColour_5 rfl (lv_at hl 0 rfl) ?_
    refine lv_iconst (v := 4) hx hb dX1_isColour_6 (by decide) ?_
    refine lv_icmp_gt (tgt := 14) hx hb dX1_isColour_7 (by decide) (fun c_7 => ?_) (fun c_7 => ?_)
    · skip
      refine lv_iconst (v := 0) hx hb dX1_isColour_14 (by decide) ?_
      rw [← hQ]
      exact z_zret (W1 := (fun (_ : Unit) => [])) hx hb hr hlocks (by decide +kernel) hP hS () (rfl) (by rw [if_neg (fun q => q.2 c_7)]) dX1_isColour_15
    · skip
      refine lv_iconst (v := 1) hx hb dX1_isColour_10 (by decide) ?_
      refine lv_goto (tgt := 15) hx hb dX1_isColour_11 (by decide) ?_
      rw [← hQ]
      exact z_zret (W1 := (fun (_ : Unit) => [])) hx hb hr hlocks (by decide +kernel) hP hS () (rfl) (by rw [if_pos ⟨c_2, c_7⟩]) dX1_isColour_15
abbrev rmX1_isColourOrBare : Room := { frames := 1, cells := 0, slots := 0, locals := 20 }
set_option maxHeartbeats 4000000 in
set_option maxRecDepth 100000 in
theorem m_X1_isColourOrBare (l : Launch) (dC : Nat → ClassId) (dI : Nat → Nat → Nat) (cI cZ cJ cD : ClassId) (x0 : Int32)  : zI l (dC, dI) (wT cI cZ cJ cD) yX1_isColourOrBare wsX1_isColourOrBare rmX1_isColourOrBare [] [.int x0] (fun (_ : Unit) => []) (fun (r : Int32) (_ : Unit) => r = if pAny x0 then 1 else 0) := by
  intro sz
  refine Met.ofW (cc := cX1_isColourOrBare) (maxL := 1) (ret := (some .boolean)) (by decide) rfl ?_
  intro p e s m args below meth c s₁ B hml hv
  obtain ⟨ha, hsz, hP, hK, hD0, hN⟩ := hv
  have hx := B.exec
  have hb := B.bytes
  have hr := B.returns
  have hts := atoms_spec (ws := wsX1_isColourOrBare) B.pre
  have hown : s.vm.findClass RX1 = some m.cls := findClass_of_methodNamed B.named
  have hlocks := B.notSynchronized
  subst hsz
  have hD := hD0.self (sz := s.heap.size)
  generalize hAe : va_A [] s.heap.size = A at hD ⊢
  have hA : ∀ q : Nat, s.heap.size ≤ q → A q := fun q h => by rw [← hAe]; exact Or.inr h
  have hS : va_S A s.heap s.heap [] := va_S.rf
  generalize hQ : MQ below (va_Qi (fun (r : Int32) (_ : Unit) => r = if pAny x0 then 1 else 0) (fun u t => va_P (dC, dI) vwCl ((fun (_ : Unit) => []) u) t.heap) A) args s 0 0 A = Q
  have F9 : CallFix p m c cX1_isColourOrBare 1 s args wsX1_isColourOrBare RX1 := ⟨hx, hb, hml, hown, hts⟩
  refine z_entry (R := rmX1_isColourOrBare) ha (Nat.le_of_ble_eq_true rfl) (fun ls hl => ?_)
  have hl : lv_has ls 1 [(0, .int x0)] := hl
  refine lv_iload_n hx hb dX1_isColourOrBare_0 rfl (lv_at hl 0 rfl) ?_
  refine lv_if_eq (tgt := 11) hx hb dX1_isColourOrBare_1 (by decide) (fun c_1 => ?_) (fun c_1 => ?_)
  · skip
    refine lv_iconst (v := 1) hx hb dX1_isColourOrBare_11 (by decide) ?_
    refine lv_goto (tgt := 16) hx hb dX1_isColourOrBare_12 (by decide) ?_
    rw [← hQ]
    exact z_zret (W1 := (fun (_ : Unit) => [])) hx hb hr hlocks (by decide +kernel) hP hS () (rfl) (by rw [if_pos (Or.inl c_1)]) dX1_isColourOrBare_16
  · skip
    refine lv_iload_n hx hb dX1_isColourOrBare_4 rfl (lv_at hl 0 rfl) ?_
    refine z_callSi (As := [.int x0]) (rest := []) F9 (m_X1_isColour l dC dI cI cZ cJ cD x0 ) (va_cwS 1 hts gX1_isColourOrBare_X1_isColour rfl rfl rfl (by decide +kernel) ⟨Nat.le_of_ble_eq_true rfl, Nat.le_of_ble_eq_true rfl⟩) hK hN hP hD hS hA rfl hl.1 rfl (Nat.le_of_ble_eq_true rfl) dX1_isColourOrBare_5 ⟨Nat.zero_le _, Nat.zero_le _⟩ (fun r_1 H locs hp_5 hP hS => ?_)
    have hp_5 : r_1 = if pCol x0 then 1 else 0 := hp_5
    refine z_topi (y := if pCol x0 then 1 else 0) hp_5 ?_
    refine lv_if_eq (tgt := 15) hx hb dX1_isColourOrBare_8 (by decide) (fun c_8 => ?_) (fun c_8 => ?_)
    · skip
      refine lv_iconst (v := 0) hx hb dX1_isColourOrBare_15 (by decide) ?_
      rw [← hQ]
      exact z_zret (W1 := (fun (_ : Unit) => [])) hx hb hr hlocks (by decide +kernel) hP hS () (rfl) (by rw [if_neg (fun q => q.elim c_1 (z_if0 c_8))]) dX1_isColourOrBare_16
    · skip
      refine lv_iconst (v := 1) hx hb dX1_isColourOrBare_11 (by decide) ?_
      refine lv_goto (tgt := 16) hx hb dX1_isColourOrBare_12 (by decide) ?_
      rw [← hQ]
      exact z_zret (W1 := (fun (_ : Unit) => [])) hx hb hr hlocks (by decide +kernel) hP hS () (rfl) (by rw [if_pos (Or.inr (z_if1 c_8))]) dX1_isColourOrBare_16
abbrev rmX1_mix : Room := { frames := 0, cells := 0, slots := 0, locals := 0 }
set_option maxHeartbeats 4000000 in
set_option maxRecDepth 100000 in
theorem m_X1_mix (l : Launch) (dC : Nat → ClassId) (dI : Nat → Nat → Nat) (cI cZ cJ cD : ClassId) (d0 : Int64) (x0 : Int32)  : zL l (dC, dI) (wT cI cZ cJ cD) yX1_mix wsX1_mix rmX1_mix [] [.long d0, .int x0] (fun (_ : Unit) => []) (fun (r : Int64) (_ : Unit) => r = pm d0 x0) := by
  intro sz
  refine Met.ofW (cc := cX1_mix) (maxL := 3) (ret := (some .long)) (by decide) rfl ?_
  intro p e s m args below meth c s₁ B hml hv
  obtain ⟨ha, hsz, hP, hK, hD0, hN⟩ := hv
  have hx := B.exec
  have hb := B.bytes
  have hr := B.returns
  have hts := atoms_spec (ws := wsX1_mix) B.pre
  have hown : s.vm.findClass RX1 = some m.cls := findClass_of_methodNamed B.named
  have hlocks := B.notSynchronized
  subst hsz
  have hD := hD0.self (sz := s.heap.size)
  generalize hAe : va_A [] s.heap.size = A at hD ⊢
  have hA : ∀ q : Nat, s.heap.size ≤ q → A q := fun q h => by rw [← hAe]; exact Or.inr h
  have hS : va_S A s.heap s.heap [] := va_S.rf
  generalize hQ : MQ below (va_Ql (fun (r : Int64) (_ : Unit) => r = pm d0 x0) (fun u t => va_P (dC, dI) vwCl ((fun (_ : Unit) => []) u) t.heap) A) args s 0 0 A = Q
  have F9 : CallFix p m c cX1_mix 3 s args wsX1_mix RX1 := ⟨hx, hb, hml, hown, hts⟩
  refine z_entry (R := rmX1_mix) ha (Nat.le_of_ble_eq_true rfl) (fun ls hl => ?_)
  have hl : lv_has ls 3 [(0, .long d0), (2, .int x0)] := hl
  refine lv_lload_n hx hb dX1_mix_0 rfl (lv_at hl 0 rfl) ?_
  refine lv_ldc2 hx hb hown (hts (.constantLong RX1 171 (31)) (List.mem_of_getElem? (i := 1) rfl)) dX1_mix_1 ?_
  refine lv_lmul hx hb dX1_mix_4 ?_
  refine lv_iload_n hx hb dX1_mix_5 rfl (lv_at hl 1 rfl) ?_
  refine lv_i2l (v := x0.toInt64) hx hb dX1_mix_6 rfl ?_
  refine lv_ladd hx hb dX1_mix_7 ?_
  rw [← hQ]
  exact z_lret (W1 := (fun (_ : Unit) => [])) hx hb hr hlocks hP hS () (rfl) (rfl) dX1_mix_8
abbrev rmX1_width : Room := { frames := 0, cells := 0, slots := 0, locals := 0 }
set_option maxRecDepth 20000 in
theorem iX1_width_X1 : ∀ w ∈ wsX10, w ∈ wsX1_width := fun w h => (goodIn_r (big := wsX1_width) wsX10 [2, 3, 4, 5, 6] (by decide +kernel) (by decide +kernel) w h).1
set_option maxHeartbeats 4000000 in
set_option maxRecDepth 100000 in
theorem m_X1_width (l : Launch) (dC : Nat → ClassId) (dI : Nat → Nat → Nat) (cI cZ cJ cD : ClassId) (h0 : Nat) (hM : Nat) (aS : Nat) (aC : Nat) (aG : Nat) (hV : Nat) (bS : Nat) (bC : Nat) (bG : Nat) (wd : Int32) (hg : Int32) (wv : Int32) (bd : Int32) (sb : Int32) (nd : Int32) (S0 : Nat → Int32) (Cr : Nat → Int32) (G0 : Nat → Int32) (bd2 : Int32) (sb2 : Int32) (nd2 : Int32) (S2 : Nat → Int32) (Cr2 : Nat → Int32) (G2 : Nat → Int32)  : zI l (dC, dI) (wT cI cZ cJ cD) yX1_width wsX1_width rmX1_width [(h0, .inr (1, [.ref hM, .ref hV, .int wd, .int hg, .int wv])), (hM, .inr (0, [.int bd, .int sb, .int nd, .ref aS, .ref aC, .ref aG])), (aS, .inl (cI, 5, .inl S0)), (aC, .inl (cI, 5, .inl Cr)), (aG, .inl (cI, 5, .inl G0)), (hV, .inr (0, [.int bd2, .int sb2, .int nd2, .ref bS, .ref bC, .ref bG])), (bS, .inl (cI, 5, .inl S2)), (bC, .inl (cI, 5, .inl Cr2)), (bG, .inl (cI, 5, .inl G2))] [.ref h0] (fun (_ : Unit) => [(h0, .inr (1, [.ref hM, .ref hV, .int wd, .int hg, .int wv])), (hM, .inr (0, [.int bd, .int sb, .int nd, .ref aS, .ref aC, .ref aG])), (aS, .inl (cI, 5, .inl S0)), (aC, .inl (cI, 5, .inl Cr)), (aG, .inl (cI, 5, .inl G0)), (hV, .inr (0, [.int bd2, .int sb2, .int nd2, .ref bS, .ref bC, .ref bG])), (bS, .inl (cI, 5, .inl S2)), (bC, .inl (cI, 5, .inl Cr2)), (bG, .inl (cI, 5, .inl G2))]) (fun (r : Int32) (_ : Unit) => r = wd) := by
  intro sz
  refine Met.ofW (cc := cX1_width) (maxL := 1) (ret := (some .int)) (by decide) rfl ?_
  intro p e s m args below meth c s₁ B hml hv
  obtain ⟨ha, hsz, hP, hK, hD0, hN⟩ := hv
  have hx := B.exec
  have hb := B.bytes
  have hr := B.returns
  have hts := atoms_spec (ws := wsX1_width) B.pre
  have hown : s.vm.findClass RX1 = some m.cls := findClass_of_methodNamed B.named
  have hlocks := B.notSynchronized
  subst hsz
  have hD := hD0.self (sz := s.heap.size)
  generalize hAe : va_A [(h0, .inr (1, [.ref hM, .ref hV, .int wd, .int hg, .int wv])), (hM, .inr (0, [.int bd, .int sb, .int nd, .ref aS, .ref aC, .ref aG])), (aS, .inl (cI, 5, .inl S0)), (aC, .inl (cI, 5, .inl Cr)), (aG, .inl (cI, 5, .inl G0)), (hV, .inr (0, [.int bd2, .int sb2, .int nd2, .ref bS, .ref bC, .ref bG])), (bS, .inl (cI, 5, .inl S2)), (bC, .inl (cI, 5, .inl Cr2)), (bG, .inl (cI, 5, .inl G2))] s.heap.size = A at hD ⊢
  have hA : ∀ q : Nat, s.heap.size ≤ q → A q := fun q h => by rw [← hAe]; exact Or.inr h
  have hS : va_S A s.heap s.heap [] := va_S.rf
  generalize hQ : MQ below (va_Qi (fun (r : Int32) (_ : Unit) => r = wd) (fun u t => va_P (dC, dI) vwCl ((fun (_ : Unit) => [(h0, .inr (1, [.ref hM, .ref hV, .int wd, .int hg, .int wv])), (hM, .inr (0, [.int bd, .int sb, .int nd, .ref aS, .ref aC, .ref aG])), (aS, .inl (cI, 5, .inl S0)), (aC, .inl (cI, 5, .inl Cr)), (aG, .inl (cI, 5, .inl G0)), (hV, .inr (0, [.int bd2, .int sb2, .int nd2, .ref bS, .ref bC, .ref bG])), (bS, .inl (cI, 5, .inl S2)), (bC, .inl (cI, 5, .inl Cr2)), (bG, .inl (cI, 5, .inl G2))]) u) t.heap) A) args s 0 0 A = Q
  have F9 : CallFix p m c cX1_width 1 s args wsX1_width RX1 := ⟨hx, hb, hml, hown, hts⟩
  refine z_entry (R := rmX1_width) ha (Nat.le_of_ble_eq_true rfl) (fun ls hl => ?_)
  have hl : lv_has ls 1 [(0, .ref h0)] := hl
  refine lv_aload_n hx hb dX1_width_0 rfl (lv_at hl 0 rfl) ?_
  refine va_get (D := (dC, dI)) (ci := 1) (v := .int wd) (C := RX1) (T := TX1) (N := 5) hx hb hts iX1_width_X1 hown hK hP 0 rfl rfl 2 (by decide) (hts (.fieldLink RX1 19 "ColourTide" "width" "I") (List.mem_of_getElem? (i := 1) rfl)) (fun _ h9 => h9) rfl dX1_width_1 ?_
  rw [← hQ]
  exact z_iret (W1 := (fun (_ : Unit) => [(h0, .inr (1, [.ref hM, .ref hV, .int wd, .int hg, .int wv])), (hM, .inr (0, [.int bd, .int sb, .int nd, .ref aS, .ref aC, .ref aG])), (aS, .inl (cI, 5, .inl S0)), (aC, .inl (cI, 5, .inl Cr)), (aG, .inl (cI, 5, .inl G0)), (hV, .inr (0, [.int bd2, .int sb2, .int nd2, .ref bS, .ref bC, .ref bG])), (bS, .inl (cI, 5, .inl S2)), (bC, .inl (cI, 5, .inl Cr2)), (bG, .inl (cI, 5, .inl G2))])) hx hb hr hlocks hP hS () (rfl) (rfl) dX1_width_4
abbrev rmX1_height : Room := { frames := 0, cells := 0, slots := 0, locals := 0 }
set_option maxRecDepth 20000 in
theorem iX1_height_X1 : ∀ w ∈ wsX10, w ∈ wsX1_height := fun w h => (goodIn_r (big := wsX1_height) wsX10 [2, 3, 4, 5, 6] (by decide +kernel) (by decide +kernel) w h).1
set_option maxHeartbeats 4000000 in
set_option maxRecDepth 100000 in
theorem m_X1_height (l : Launch) (dC : Nat → ClassId) (dI : Nat → Nat → Nat) (cI cZ cJ cD : ClassId) (h0 : Nat) (hM : Nat) (aS : Nat) (aC : Nat) (aG : Nat) (hV : Nat) (bS : Nat) (bC : Nat) (bG : Nat) (wd : Int32) (hg : Int32) (wv : Int32) (bd : Int32) (sb : Int32) (nd : Int32) (S0 : Nat → Int32) (Cr : Nat → Int32) (G0 : Nat → Int32) (bd2 : Int32) (sb2 : Int32) (nd2 : Int32) (S2 : Nat → Int32) (Cr2 : Nat → Int32) (G2 : Nat → Int32)  : zI l (dC, dI) (wT cI cZ cJ cD) yX1_height wsX1_height rmX1_height [(h0, .inr (1, [.ref hM, .ref hV, .int wd, .int hg, .int wv])), (hM, .inr (0, [.int bd, .int sb, .int nd, .ref aS, .ref aC, .ref aG])), (aS, .inl (cI, 5, .inl S0)), (aC, .inl (cI, 5, .inl Cr)), (aG, .inl (cI, 5, .inl G0)), (hV, .inr (0, [.int bd2, .int sb2, .int nd2, .ref bS, .ref bC, .ref bG])), (bS, .inl (cI, 5, .inl S2)), (bC, .inl (cI, 5, .inl Cr2)), (bG, .inl (cI, 5, .inl G2))] [.ref h0] (fun (_ : Unit) => [(h0, .inr (1, [.ref hM, .ref hV, .int wd, .int hg, .int wv])), (hM, .inr (0, [.int bd, .int sb, .int nd, .ref aS, .ref aC, .ref aG])), (aS, .inl (cI, 5, .inl S0)), (aC, .inl (cI, 5, .inl Cr)), (aG, .inl (cI, 5, .inl G0)), (hV, .inr (0, [.int bd2, .int sb2, .int nd2, .ref bS, .ref bC, .ref bG])), (bS, .inl (cI, 5, .inl S2)), (bC, .inl (cI, 5, .inl Cr2)), (bG, .inl (cI, 5, .inl G2))]) (fun (r : Int32) (_ : Unit) => r = hg) := by
  intro sz
  refine Met.ofW (cc := cX1_height) (maxL := 1) (ret := (some .int)) (by decide) rfl ?_
  intro p e s m args below meth c s₁ B hml hv
  obtain ⟨ha, hsz, hP, hK, hD0, hN⟩ := hv
  have hx := B.exec
  have hb := B.bytes
  have hr := B.returns
  have hts := atoms_spec (ws := wsX1_height) B.pre
  have hown : s.vm.findClass RX1 = some m.cls := findClass_of_methodNamed B.named
  have hlocks := B.notSynchronized
  subst hsz
  have hD := hD0.self (sz := s.heap.size)
  generalize hAe : va_A [(h0, .inr (1, [.ref hM, .ref hV, .int wd, .int hg, .int wv])), (hM, .inr (0, [.int bd, .int sb, .int nd, .ref aS, .ref aC, .ref aG])), (aS, .inl (cI, 5, .inl S0)), (aC, .inl (cI, 5, .inl Cr)), (aG, .inl (cI, 5, .inl G0)), (hV, .inr (0, [.int bd2, .int sb2, .int nd2, .ref bS, .ref bC, .ref bG])), (bS, .inl (cI, 5, .inl S2)), (bC, .inl (cI, 5, .inl Cr2)), (bG, .inl (cI, 5, .inl G2))] s.heap.size = A at hD ⊢
  have hA : ∀ q : Nat, s.heap.size ≤ q → A q := fun q h => by rw [← hAe]; exact Or.inr h
  have hS : va_S A s.heap s.heap [] := va_S.rf
  generalize hQ : MQ below (va_Qi (fun (r : Int32) (_ : Unit) => r = hg) (fun u t => va_P (dC, dI) vwCl ((fun (_ : Unit) => [(h0, .inr (1, [.ref hM, .ref hV, .int wd, .int hg, .int wv])), (hM, .inr (0, [.int bd, .int sb, .int nd, .ref aS, .ref aC, .ref aG])), (aS, .inl (cI, 5, .inl S0)), (aC, .inl (cI, 5, .inl Cr)), (aG, .inl (cI, 5, .inl G0)), (hV, .inr (0, [.int bd2, .int sb2, .int nd2, .ref bS, .ref bC, .ref bG])), (bS, .inl (cI, 5, .inl S2)), (bC, .inl (cI, 5, .inl Cr2)), (bG, .inl (cI, 5, .inl G2))]) u) t.heap) A) args s 0 0 A = Q
  have F9 : CallFix p m c cX1_height 1 s args wsX1_height RX1 := ⟨hx, hb, hml, hown, hts⟩
  refine z_entry (R := rmX1_height) ha (Nat.le_of_ble_eq_true rfl) (fun ls hl => ?_)
  have hl : lv_has ls 1 [(0, .ref h0)] := hl
  refine lv_aload_n hx hb dX1_height_0 rfl (lv_at hl 0 rfl) ?_
  refine va_get (D := (dC, dI)) (ci := 1) (v := .int hg) (C := RX1) (T := TX1) (N := 5) hx hb hts iX1_height_X1 hown hK hP 0 rfl rfl 3 (by decide) (hts (.fieldLink RX1 23 "ColourTide" "height" "I") (List.mem_of_getElem? (i := 1) rfl)) (fun _ h9 => h9) rfl dX1_height_1 ?_
  rw [← hQ]
  exact z_iret (W1 := (fun (_ : Unit) => [(h0, .inr (1, [.ref hM, .ref hV, .int wd, .int hg, .int wv])), (hM, .inr (0, [.int bd, .int sb, .int nd, .ref aS, .ref aC, .ref aG])), (aS, .inl (cI, 5, .inl S0)), (aC, .inl (cI, 5, .inl Cr)), (aG, .inl (cI, 5, .inl G0)), (hV, .inr (0, [.int bd2, .int sb2, .int nd2, .ref bS, .ref bC, .ref bG])), (bS, .inl (cI, 5, .inl S2)), (bC, .inl (cI, 5, .inl Cr2)), (bG, .inl (cI, 5, .inl G2))])) hx hb hr hlocks hP hS () (rfl) (rfl) dX1_height_4
abbrev rmX1_need : Room := { frames := 0, cells := 0, slots := 0, locals := 0 }
set_option maxRecDepth 20000 in
theorem iX1_need_X0 : ∀ w ∈ wsX00, w ∈ wsX1_need := fun w h => (goodIn_r (big := wsX1_need) wsX00 [8, 9, 10, 11, 12, 13] (by decide +kernel) (by decide +kernel) w h).1
set_option maxRecDepth 20000 in
theorem iX1_need_X1 : ∀ w ∈ wsX10, w ∈ wsX1_need := fun w h => (goodIn_r (big := wsX1_need) wsX10 [3, 4, 5, 6, 7] (by decide +kernel) (by decide +kernel) w h).1
set_option maxHeartbeats 4000000 in
set_option maxRecDepth 100000 in
theorem m_X1_need (l : Launch) (dC : Nat → ClassId) (dI : Nat → Nat → Nat) (cI cZ cJ cD : ClassId) (h0 : Nat) (hM : Nat) (aS : Nat) (aC : Nat) (aG : Nat) (hV : Nat) (bS : Nat) (bC : Nat) (bG : Nat) (wd : Int32) (hg : Int32) (wv : Int32) (bd : Int32) (sb : Int32) (nd : Int32) (S0 : Nat → Int32) (Cr : Nat → Int32) (G0 : Nat → Int32) (bd2 : Int32) (sb2 : Int32) (nd2 : Int32) (S2 : Nat → Int32) (Cr2 : Nat → Int32) (G2 : Nat → Int32)  : zI l (dC, dI) (wT cI cZ cJ cD) yX1_need wsX1_need rmX1_need [(h0, .inr (1, [.ref hM, .ref hV, .int wd, .int hg, .int wv])), (hM, .inr (0, [.int bd, .int sb, .int nd, .ref aS, .ref aC, .ref aG])), (aS, .inl (cI, 5, .inl S0)), (aC, .inl (cI, 5, .inl Cr)), (aG, .inl (cI, 5, .inl G0)), (hV, .inr (0, [.int bd2, .int sb2, .int nd2, .ref bS, .ref bC, .ref bG])), (bS, .inl (cI, 5, .inl S2)), (bC, .inl (cI, 5, .inl Cr2)), (bG, .inl (cI, 5, .inl G2))] [.ref h0] (fun (_ : Unit) => [(h0, .inr (1, [.ref hM, .ref hV, .int wd, .int hg, .int wv])), (hM, .inr (0, [.int bd, .int sb, .int nd, .ref aS, .ref aC, .ref aG])), (aS, .inl (cI, 5, .inl S0)), (aC, .inl (cI, 5, .inl Cr)), (aG, .inl (cI, 5, .inl G0)), (hV, .inr (0, [.int bd2, .int sb2, .int nd2, .ref bS, .ref bC, .ref bG])), (bS, .inl (cI, 5, .inl S2)), (bC, .inl (cI, 5, .inl Cr2)), (bG, .inl (cI, 5, .inl G2))]) (fun (r : Int32) (_ : Unit) => r = nd) := by
  intro sz
  refine Met.ofW (cc := cX1_need) (maxL := 1) (ret := (some .int)) (by decide) rfl ?_
  intro p e s m args below meth c s₁ B hml hv
  obtain ⟨ha, hsz, hP, hK, hD0, hN⟩ := hv
  have hx := B.exec
  have hb := B.bytes
  have hr := B.returns
  have hts := atoms_spec (ws := wsX1_need) B.pre
  have hown : s.vm.findClass RX1 = some m.cls := findClass_of_methodNamed B.named
  have hlocks := B.notSynchronized
  subst hsz
  have hD := hD0.self (sz := s.heap.size)
  generalize hAe : va_A [(h0, .inr (1, [.ref hM, .ref hV, .int wd, .int hg, .int wv])), (hM, .inr (0, [.int bd, .int sb, .int nd, .ref aS, .ref aC, .ref aG])), (aS, .inl (cI, 5, .inl S0)), (aC, .inl (cI, 5, .inl Cr)), (aG, .inl (cI, 5, .inl G0)), (hV, .inr (0, [.int bd2, .int sb2, .int nd2, .ref bS, .ref bC, .ref bG])), (bS, .inl (cI, 5, .inl S2)), (bC, .inl (cI, 5, .inl Cr2)), (bG, .inl (cI, 5, .inl G2))] s.heap.size = A at hD ⊢
  have hA : ∀ q : Nat, s.heap.size ≤ q → A q := fun q h => by rw [← hAe]; exact Or.inr h
  have hS : va_S A s.heap s.heap [] := va_S.rf
  generalize hQ : MQ below (va_Qi (fun (r : Int32) (_ : Unit) => r = nd) (fun u t => va_P (dC, dI) vwCl ((fun (_ : Unit) => [(h0, .inr (1, [.ref hM, .ref hV, .int wd, .int hg, .int wv])), (hM, .inr (0, [.int bd, .int sb, .int nd, .ref aS, .ref aC, .ref aG])), (aS, .inl (cI, 5, .inl S0)), (aC, .inl (cI, 5, .inl Cr)), (aG, .inl (cI, 5, .inl G0)), (hV, .inr (0, [.int bd2, .int sb2, .int nd2, .ref bS, .ref bC, .ref bG])), (bS, .inl (cI, 5, .inl S2)), (bC, .inl (cI, 5, .inl Cr2)), (bG, .inl (cI, 5, .inl G2))]) u) t.heap) A) args s 0 0 A = Q
  have F9 : CallFix p m c cX1_need 1 s args wsX1_need RX1 := ⟨hx, hb, hml, hown, hts⟩
  refine z_entry (R := rmX1_need) ha (Nat.le_of_ble_eq_true rfl) (fun ls hl => ?_)
  have hl : lv_has ls 1 [(0, .ref h0)] := hl
  refine lv_aload_n hx hb dX1_need_0 rfl (lv_at hl 0 rfl) ?_
  refine va_get (D := (dC, dI)) (ci := 1) (v := .ref hM) (C := RX1) (T := TX1) (N := 5) hx hb hts iX1_need_X1 hown hK hP 0 rfl rfl 0 (by decide) (hts (.fieldLink RX1 12 "ColourTide" "map" "LColourTide$Tide;") (List.mem_of_getElem? (i := 1) rfl)) (fun _ h9 => h9) rfl dX1_need_1 ?_
  refine va_get (D := (dC, dI)) (ci := 0) (v := .int nd) (C := RX0) (T := TX0) (N := 6) hx hb hts iX1_need_X0 hown hK hP 1 rfl rfl 2 (by decide) (hts (.fieldLink RX1 74 "ColourTide$Tide" "need" "I") (List.mem_of_getElem? (i := 2) rfl)) (fun _ h9 => h9) rfl dX1_need_4 ?_
  rw [← hQ]
  exact z_iret (W1 := (fun (_ : Unit) => [(h0, .inr (1, [.ref hM, .ref hV, .int wd, .int hg, .int wv])), (hM, .inr (0, [.int bd, .int sb, .int nd, .ref aS, .ref aC, .ref aG])), (aS, .inl (cI, 5, .inl S0)), (aC, .inl (cI, 5, .inl Cr)), (aG, .inl (cI, 5, .inl G0)), (hV, .inr (0, [.int bd2, .int sb2, .int nd2, .ref bS, .ref bC, .ref bG])), (bS, .inl (cI, 5, .inl S2)), (bC, .inl (cI, 5, .inl Cr2)), (bG, .inl (cI, 5, .inl G2))])) hx hb hr hlocks hP hS () (rfl) (rfl) dX1_need_7
abbrev rmX1_waves : Room := { frames := 0, cells := 0, slots := 0, locals := 0 }
set_option maxRecDepth 20000 in
theorem iX1_waves_X1 : ∀ w ∈ wsX10, w ∈ wsX1_waves := fun w h => (goodIn_r (big := wsX1_waves) wsX10 [2, 3, 4, 5, 6] (by decide +kernel) (by decide +kernel) w h).1
set_option maxHeartbeats 4000000 in
set_option maxRecDepth 100000 in
theorem m_X1_waves (l : Launch) (dC : Nat → ClassId) (dI : Nat → Nat → Nat) (cI cZ cJ cD : ClassId) (h0 : Nat) (hM : Nat) (aS : Nat) (aC : Nat) (aG : Nat) (hV : Nat) (bS : Nat) (bC : Nat) (bG : Nat) (wd : Int32) (hg : Int32) (wv : Int32) (bd : Int32) (sb : Int32) (nd : Int32) (S0 : Nat → Int32) (Cr : Nat → Int32) (G0 : Nat → Int32) (bd2 : Int32) (sb2 : Int32) (nd2 : Int32) (S2 : Nat → Int32) (Cr2 : Nat → Int32) (G2 : Nat → Int32)  : zI l (dC, dI) (wT cI cZ cJ cD) yX1_waves wsX1_waves rmX1_waves [(h0, .inr (1, [.ref hM, .ref hV, .int wd, .int hg, .int wv])), (hM, .inr (0, [.int bd, .int sb, .int nd, .ref aS, .ref aC, .ref aG])), (aS, .inl (cI, 5, .inl S0)), (aC, .inl (cI, 5, .inl Cr)), (aG, .inl (cI, 5, .inl G0)), (hV, .inr (0, [.int bd2, .int sb2, .int nd2, .ref bS, .ref bC, .ref bG])), (bS, .inl (cI, 5, .inl S2)), (bC, .inl (cI, 5, .inl Cr2)), (bG, .inl (cI, 5, .inl G2))] [.ref h0] (fun (_ : Unit) => [(h0, .inr (1, [.ref hM, .ref hV, .int wd, .int hg, .int wv])), (hM, .inr (0, [.int bd, .int sb, .int nd, .ref aS, .ref aC, .ref aG])), (aS, .inl (cI, 5, .inl S0)), (aC, .inl (cI, 5, .inl Cr)), (aG, .inl (cI, 5, .inl G0)), (hV, .inr (0, [.int bd2, .int sb2, .int nd2, .ref bS, .ref bC, .ref bG])), (bS, .inl (cI, 5, .inl S2)), (bC, .inl (cI, 5, .inl Cr2)), (bG, .inl (cI, 5, .inl G2))]) (fun (r : Int32) (_ : Unit) => r = wv) := by
  intro sz
  refine Met.ofW (cc := cX1_waves) (maxL := 1) (ret := (some .int)) (by decide) rfl ?_
  intro p e s m args below meth c s₁ B hml hv
  obtain ⟨ha, hsz, hP, hK, hD0, hN⟩ := hv
  have hx := B.exec
  have hb := B.bytes
  have hr := B.returns
  have hts := atoms_spec (ws := wsX1_waves) B.pre
  have hown : s.vm.findClass RX1 = some m.cls := findClass_of_methodNamed B.named
  have hlocks := B.notSynchronized
  subst hsz
  have hD := hD0.self (sz := s.heap.size)
  generalize hAe : va_A [(h0, .inr (1, [.ref hM, .ref hV, .int wd, .int hg, .int wv])), (hM, .inr (0, [.int bd, .int sb, .int nd, .ref aS, .ref aC, .ref aG])), (aS, .inl (cI, 5, .inl S0)), (aC, .inl (cI, 5, .inl Cr)), (aG, .inl (cI, 5, .inl G0)), (hV, .inr (0, [.int bd2, .int sb2, .int nd2, .ref bS, .ref bC, .ref bG])), (bS, .inl (cI, 5, .inl S2)), (bC, .inl (cI, 5, .inl Cr2)), (bG, .inl (cI, 5, .inl G2))] s.heap.size = A at hD ⊢
  have hA : ∀ q : Nat, s.heap.size ≤ q → A q := fun q h => by rw [← hAe]; exact Or.inr h
  have hS : va_S A s.heap s.heap [] := va_S.rf
  generalize hQ : MQ below (va_Qi (fun (r : Int32) (_ : Unit) => r = wv) (fun u t => va_P (dC, dI) vwCl ((fun (_ : Unit) => [(h0, .inr (1, [.ref hM, .ref hV, .int wd, .int hg, .int wv])), (hM, .inr (0, [.int bd, .int sb, .int nd, .ref aS, .ref aC, .ref aG])), (aS, .inl (cI, 5, .inl S0)), (aC, .inl (cI, 5, .inl Cr)), (aG, .inl (cI, 5, .inl G0)), (hV, .inr (0, [.int bd2, .int sb2, .int nd2, .ref bS, .ref bC, .ref bG])), (bS, .inl (cI, 5, .inl S2)), (bC, .inl (cI, 5, .inl Cr2)), (bG, .inl (cI, 5, .inl G2))]) u) t.heap) A) args s 0 0 A = Q
  have F9 : CallFix p m c cX1_waves 1 s args wsX1_waves RX1 := ⟨hx, hb, hml, hown, hts⟩
  refine z_entry (R := rmX1_waves) ha (Nat.le_of_ble_eq_true rfl) (fun ls hl => ?_)
  have hl : lv_has ls 1 [(0, .ref h0)] := hl
  refine lv_aload_n hx hb dX1_waves_0 rfl (lv_at hl 0 rfl) ?_
  refine va_get (D := (dC, dI)) (ci := 1) (v := .int wv) (C := RX1) (T := TX1) (N := 5) hx hb hts iX1_waves_X1 hown hK hP 0 rfl rfl 4 (by decide) (hts (.fieldLink RX1 26 "ColourTide" "waves" "I") (List.mem_of_getElem? (i := 1) rfl)) (fun _ h9 => h9) rfl dX1_waves_1 ?_
  rw [← hQ]
  exact z_iret (W1 := (fun (_ : Unit) => [(h0, .inr (1, [.ref hM, .ref hV, .int wd, .int hg, .int wv])), (hM, .inr (0, [.int bd, .int sb, .int nd, .ref aS, .ref aC, .ref aG])), (aS, .inl (cI, 5, .inl S0)), (aC, .inl (cI, 5, .inl Cr)), (aG, .inl (cI, 5, .inl G0)), (hV, .inr (0, [.int bd2, .int sb2, .int nd2, .ref bS, .ref bC, .ref bG])), (bS, .inl (cI, 5, .inl S2)), (bC, .inl (cI, 5, .inl Cr2)), (bG, .inl (cI, 5, .inl G2))])) hx hb hr hlocks hP hS () (rfl) (rfl) dX1_waves_4
abbrev rmX1_stubbornCells : Room := { frames := 1, cells := 0, slots := 0, locals := 20 }
set_option maxRecDepth 20000 in
theorem iX1_stubbornCells_X0 : ∀ w ∈ wsX00, w ∈ wsX1_stubbornCells := fun w h => (goodIn_r (big := wsX1_stubbornCells) wsX00 [15, 16, 17, 18, 19, 20] (by decide +kernel) (by decide +kernel) w h).1
set_option maxRecDepth 20000 in
theorem iX1_stubbornCells_X1 : ∀ w ∈ wsX10, w ∈ wsX1_stubbornCells := fun w h => (goodIn_r (big := wsX1_stubbornCells) wsX10 [10, 11, 12, 13, 14] (by decide +kernel) (by decide +kernel) w h).1
set_option maxHeartbeats 4000000 in
set_option maxRecDepth 100000 in
theorem m_X1_stubbornCells (l : Launch) (dC : Nat → ClassId) (dI : Nat → Nat → Nat) (cI cZ cJ cD : ClassId) (h0 : Nat) (hM : Nat) (aS : Nat) (aC : Nat) (aG : Nat) (hV : Nat) (bS : Nat) (bC : Nat) (bG : Nat) (wd : Int32) (hg : Int32) (wv : Int32) (bd : Int32) (sb : Int32) (nd : Int32) (S0 : Nat → Int32) (Cr : Nat → Int32) (G0 : Nat → Int32) (bd2 : Int32) (sb2 : Int32) (nd2 : Int32) (S2 : Nat → Int32) (Cr2 : Nat → Int32) (G2 : Nat → Int32)  : zI l (dC, dI) (wT cI cZ cJ cD) yX1_stubbornCells wsX1_stubbornCells rmX1_stubbornCells [(h0, .inr (1, [.ref hM, .ref hV, .int wd, .int hg, .int wv])), (hM, .inr (0, [.int bd, .int sb, .int nd, .ref aS, .ref aC, .ref aG])), (aS, .inl (cI, 5, .inl S0)), (aC, .inl (cI, 5, .inl Cr)), (aG, .inl (cI, 5, .inl G0)), (hV, .inr (0, [.int bd2, .int sb2, .int nd2, .ref bS, .ref bC, .ref bG])), (bS, .inl (cI, 5, .inl S2)), (bC, .inl (cI, 5, .inl Cr2)), (bG, .inl (cI, 5, .inl G2))] [.ref h0] (fun (_ : Unit) => [(h0, .inr (1, [.ref hM, .ref hV, .int wd, .int hg, .int wv])), (hM, .inr (0, [.int bd, .int sb, .int nd, .ref aS, .ref aC, .ref aG])), (aS, .inl (cI, 5, .inl S0)), (aC, .inl (cI, 5, .inl Cr)), (aG, .inl (cI, 5, .inl G0)), (hV, .inr (0, [.int bd2, .int sb2, .int nd2, .ref bS, .ref bC, .ref bG])), (bS, .inl (cI, 5, .inl S2)), (bC, .inl (cI, 5, .inl Cr2)), (bG, .inl (cI, 5, .inl G2))]) (fun (r : Int32) (_ : Unit) => r = pBC sb) := by
  intro sz
  refine Met.ofW (cc := cX1_stubbornCells) (maxL := 1) (ret := (some .int)) (by decide) rfl ?_
  intro p e s m args below meth c s₁ B hml hv
  obtain ⟨ha, hsz, hP, hK, hD0, hN⟩ := hv
  have hx := B.exec
  have hb := B.bytes
  have hr := B.returns
  have hts := atoms_spec (ws := wsX1_stubbornCells) B.pre
  have hown : s.vm.findClass RX1 = some m.cls := findClass_of_methodNamed B.named
  have hlocks := B.notSynchronized
  subst hsz
  have hD := hD0.self (sz := s.heap.size)
  generalize hAe : va_A [(h0, .inr (1, [.ref hM, .ref hV, .int wd, .int hg, .int wv])), (hM, .inr (0, [.int bd, .int sb, .int nd, .ref aS, .ref aC, .ref aG])), (aS, .inl (cI, 5, .inl S0)), (aC, .inl (cI, 5, .inl Cr)), (aG, .inl (cI, 5, .inl G0)), (hV, .inr (0, [.int bd2, .int sb2, .int nd2, .ref bS, .ref bC, .ref bG])), (bS, .inl (cI, 5, .inl S2)), (bC, .inl (cI, 5, .inl Cr2)), (bG, .inl (cI, 5, .inl G2))] s.heap.size = A at hD ⊢
  have hA : ∀ q : Nat, s.heap.size ≤ q → A q := fun q h => by rw [← hAe]; exact Or.inr h
  have hS : va_S A s.heap s.heap [] := va_S.rf
  generalize hQ : MQ below (va_Qi (fun (r : Int32) (_ : Unit) => r = pBC sb) (fun u t => va_P (dC, dI) vwCl ((fun (_ : Unit) => [(h0, .inr (1, [.ref hM, .ref hV, .int wd, .int hg, .int wv])), (hM, .inr (0, [.int bd, .int sb, .int nd, .ref aS, .ref aC, .ref aG])), (aS, .inl (cI, 5, .inl S0)), (aC, .inl (cI, 5, .inl Cr)), (aG, .inl (cI, 5, .inl G0)), (hV, .inr (0, [.int bd2, .int sb2, .int nd2, .ref bS, .ref bC, .ref bG])), (bS, .inl (cI, 5, .inl S2)), (bC, .inl (cI, 5, .inl Cr2)), (bG, .inl (cI, 5, .inl G2))]) u) t.heap) A) args s 0 0 A = Q
  have F9 : CallFix p m c cX1_stubbornCells 1 s args wsX1_stubbornCells RX1 := ⟨hx, hb, hml, hown, hts⟩
  refine z_entry (R := rmX1_stubbornCells) ha (Nat.le_of_ble_eq_true rfl) (fun ls hl => ?_)
  have hl : lv_has ls 1 [(0, .ref h0)] := hl
  refine lv_aload_n hx hb dX1_stubbornCells_0 rfl (lv_at hl 0 rfl) ?_
  refine va_get (D := (dC, dI)) (ci := 1) (v := .ref hM) (C := RX1) (T := TX1) (N := 5) hx hb hts iX1_stubbornCells_X1 hown hK hP 0 rfl rfl 0 (by decide) (hts (.fieldLink RX1 12 "ColourTide" "map" "LColourTide$Tide;") (List.mem_of_getElem? (i := 1) rfl)) (fun _ h9 => h9) rfl dX1_stubbornCells_1 ?_
  refine va_get (D := (dC, dI)) (ci := 0) (v := .int sb) (C := RX0) (T := TX0) (N := 6) hx hb hts iX1_stubbornCells_X0 hown hK hP 1 rfl rfl 1 (by decide) (hts (.fieldLink RX1 69 "ColourTide$Tide" "stubborn" "I") (List.mem_of_getElem? (i := 2) rfl)) (fun _ h9 => h9) rfl dX1_stubbornCells_4 ?_
  refine z_callSi (As := [.int sb]) (rest := []) F9 (m_J6_bitCount_0f7a4 l dC dI cI cZ cJ cD sb ) (va_cwS 1 hts gX1_stubbornCells_J6_bitCount_0f7a4 rfl rfl rfl (by decide +kernel) ⟨Nat.le_of_ble_eq_true rfl, Nat.le_of_ble_eq_true rfl⟩) hK hN hP hD hS hA rfl hl.1 rfl (Nat.le_of_ble_eq_true rfl) dX1_stubbornCells_7 ⟨Nat.zero_le _, Nat.zero_le _⟩ (fun r_1 H locs hp_7 hP hS => ?_)
  have hp_7 : r_1 = pBC sb := hp_7
  refine z_topi (y := pBC sb) hp_7 ?_
  rw [← hQ]
  exact z_iret (W1 := (fun (_ : Unit) => [(h0, .inr (1, [.ref hM, .ref hV, .int wd, .int hg, .int wv])), (hM, .inr (0, [.int bd, .int sb, .int nd, .ref aS, .ref aC, .ref aG])), (aS, .inl (cI, 5, .inl S0)), (aC, .inl (cI, 5, .inl Cr)), (aG, .inl (cI, 5, .inl G0)), (hV, .inr (0, [.int bd2, .int sb2, .int nd2, .ref bS, .ref bC, .ref bG])), (bS, .inl (cI, 5, .inl S2)), (bC, .inl (cI, 5, .inl Cr2)), (bG, .inl (cI, 5, .inl G2))])) hx hb hr hlocks hP hS () (rfl) (rfl) dX1_stubbornCells_10
abbrev rmX1_borders : Room := { frames := 3, cells := 0, slots := 0, locals := 62 }
set_option maxRecDepth 20000 in
theorem iX1_borders_X0 : ∀ w ∈ wsX00, w ∈ wsX1_borders := fun w h => (goodIn_r (big := wsX1_borders) wsX00 [24, 25, 26, 27, 28, 29] (by decide +kernel) (by decide +kernel) w h).1
set_option maxRecDepth 20000 in
theorem iX1_borders_X1 : ∀ w ∈ wsX10, w ∈ wsX1_borders := fun w h => (goodIn_r (big := wsX1_borders) wsX10 [19, 20, 21, 22, 23] (by decide +kernel) (by decide +kernel) w h).1
set_option maxHeartbeats 4000000 in
set_option maxRecDepth 100000 in
theorem m_X1_borders (l : Launch) (dC : Nat → ClassId) (dI : Nat → Nat → Nat) (cI cZ cJ cD : ClassId) (h0 : Nat) (hM : Nat) (aS : Nat) (aC : Nat) (aG : Nat) (hV : Nat) (bS : Nat) (bC : Nat) (bG : Nat) (wd : Int32) (hg : Int32) (wv : Int32) (bd : Int32) (sb : Int32) (nd : Int32) (S0 : Nat → Int32) (Cr : Nat → Int32) (G0 : Nat → Int32) (bd2 : Int32) (sb2 : Int32) (nd2 : Int32) (S2 : Nat → Int32) (Cr2 : Nat → Int32) (G2 : Nat → Int32)  : zI l (dC, dI) (wT cI cZ cJ cD) yX1_borders wsX1_borders rmX1_borders [(h0, .inr (1, [.ref hM, .ref hV, .int wd, .int hg, .int wv])), (hM, .inr (0, [.int bd, .int sb, .int nd, .ref aS, .ref aC, .ref aG])), (aS, .inl (cI, 5, .inl S0)), (aC, .inl (cI, 5, .inl Cr)), (aG, .inl (cI, 5, .inl G0)), (hV, .inr (0, [.int bd2, .int sb2, .int nd2, .ref bS, .ref bC, .ref bG])), (bS, .inl (cI, 5, .inl S2)), (bC, .inl (cI, 5, .inl Cr2)), (bG, .inl (cI, 5, .inl G2))] [.ref h0] (fun (_ : Unit) => [(h0, .inr (1, [.ref hM, .ref hV, .int wd, .int hg, .int wv])), (hM, .inr (0, [.int bd, .int sb, .int nd, .ref aS, .ref aC, .ref aG])), (aS, .inl (cI, 5, .inl S0)), (aC, .inl (cI, 5, .inl Cr)), (aG, .inl (cI, 5, .inl G0)), (hV, .inr (0, [.int bd2, .int sb2, .int nd2, .ref bS, .ref bC, .ref bG])), (bS, .inl (cI, 5, .inl S2)), (bC, .inl (cI, 5, .inl Cr2)), (bG, .inl (cI, 5, .inl G2))]) (fun (r : Int32) (_ : Unit) => r = pBo S0 bd 4) := by
  intro sz
  refine Met.ofW (cc := cX1_borders) (maxL := 1) (ret := (some .int)) (by decide) rfl ?_
  intro p e s m args below meth c s₁ B hml hv
  obtain ⟨ha, hsz, hP, hK, hD0, hN⟩ := hv
  have hx := B.exec
  have hb := B.bytes
  have hr := B.returns
  have hts := atoms_spec (ws := wsX1_borders) B.pre
  have hown : s.vm.findClass RX1 = some m.cls := findClass_of_methodNamed B.named
  have hlocks := B.notSynchronized
  subst hsz
  have hD := hD0.self (sz := s.heap.size)
  generalize hAe : va_A [(h0, .inr (1, [.ref hM, .ref hV, .int wd, .int hg, .int wv])), (hM, .inr (0, [.int bd, .int sb, .int nd, .ref aS, .ref aC, .ref aG])), (aS, .inl (cI, 5, .inl S0)), (aC, .inl (cI, 5, .inl Cr)), (aG, .inl (cI, 5, .inl G0)), (hV, .inr (0, [.int bd2, .int sb2, .int nd2, .ref bS, .ref bC, .ref bG])), (bS, .inl (cI, 5, .inl S2)), (bC, .inl (cI, 5, .inl Cr2)), (bG, .inl (cI, 5, .inl G2))] s.heap.size = A at hD ⊢
  have hA : ∀ q : Nat, s.heap.size ≤ q → A q := fun q h => by rw [← hAe]; exact Or.inr h
  have hS : va_S A s.heap s.heap [] := va_S.rf
  generalize hQ : MQ below (va_Qi (fun (r : Int32) (_ : Unit) => r = pBo S0 bd 4) (fun u t => va_P (dC, dI) vwCl ((fun (_ : Unit) => [(h0, .inr (1, [.ref hM, .ref hV, .int wd, .int hg, .int wv])), (hM, .inr (0, [.int bd, .int sb, .int nd, .ref aS, .ref aC, .ref aG])), (aS, .inl (cI, 5, .inl S0)), (aC, .inl (cI, 5, .inl Cr)), (aG, .inl (cI, 5, .inl G0)), (hV, .inr (0, [.int bd2, .int sb2, .int nd2, .ref bS, .ref bC, .ref bG])), (bS, .inl (cI, 5, .inl S2)), (bC, .inl (cI, 5, .inl Cr2)), (bG, .inl (cI, 5, .inl G2))]) u) t.heap) A) args s 0 0 A = Q
  have F9 : CallFix p m c cX1_borders 1 s args wsX1_borders RX1 := ⟨hx, hb, hml, hown, hts⟩
  refine z_entry (R := rmX1_borders) ha (Nat.le_of_ble_eq_true rfl) (fun ls hl => ?_)
  have hl : lv_has ls 1 [(0, .ref h0)] := hl
  refine lv_aload_n hx hb dX1_borders_0 rfl (lv_at hl 0 rfl) ?_
  refine va_get (D := (dC, dI)) (ci := 1) (v := .ref hM) (C := RX1) (T := TX1) (N := 5) hx hb hts iX1_borders_X1 hown hK hP 0 rfl rfl 0 (by decide) (hts (.fieldLink RX1 12 "ColourTide" "map" "LColourTide$Tide;") (List.mem_of_getElem? (i := 1) rfl)) (fun _ h9 => h9) rfl dX1_borders_1 ?_
  refine z_callVi (As := []) (rest := []) F9 (m_X0_countBorders l dC dI cI cZ cJ cD hM aS aC aG bd sb nd S0 Cr G0 ) (cwV 0 hts gX1_borders_X0_countBorders rfl rfl rfl (by decide +kernel) ⟨Nat.le_of_ble_eq_true rfl, Nat.le_of_ble_eq_true rfl⟩) hK hN hP hD hS hA [1, 2, 3, 4] rfl rfl (fun _ => rfl) 1 (ci := 0) rfl rfl rfl rfl hl.1 rfl (Nat.le_of_ble_eq_true rfl) dX1_borders_4 ⟨Nat.zero_le _, Nat.zero_le _⟩ (fun r_1 u H locs hp_4 hP hD hS => ?_)
  have hP : va_P (dC, dI) vwCl [(h0, .inr (1, [.ref hM, .ref hV, .int wd, .int hg, .int wv])), (hM, .inr (0, [.int bd, .int sb, .int nd, .ref aS, .ref aC, .ref aG])), (aS, .inl (cI, 5, .inl S0)), (aC, .inl (cI, 5, .inl Cr)), (aG, .inl (cI, 5, .inl G0)), (hV, .inr (0, [.int bd2, .int sb2, .int nd2, .ref bS, .ref bC, .ref bG])), (bS, .inl (cI, 5, .inl S2)), (bC, .inl (cI, 5, .inl Cr2)), (bG, .inl (cI, 5, .inl G2))] H := hP
  have hD : va_D A [(h0, .inr (1, [.ref hM, .ref hV, .int wd, .int hg, .int wv])), (hM, .inr (0, [.int bd, .int sb, .int nd, .ref aS, .ref aC, .ref aG])), (aS, .inl (cI, 5, .inl S0)), (aC, .inl (cI, 5, .inl Cr)), (aG, .inl (cI, 5, .inl G0)), (hV, .inr (0, [.int bd2, .int sb2, .int nd2, .ref bS, .ref bC, .ref bG])), (bS, .inl (cI, 5, .inl S2)), (bC, .inl (cI, 5, .inl Cr2)), (bG, .inl (cI, 5, .inl G2))] := hD
  have hp_4 : r_1 = pBo S0 bd 4 := hp_4
  refine z_topi (y := pBo S0 bd 4) hp_4 ?_
  rw [← hQ]
  exact z_iret (W1 := (fun (_ : Unit) => [(h0, .inr (1, [.ref hM, .ref hV, .int wd, .int hg, .int wv])), (hM, .inr (0, [.int bd, .int sb, .int nd, .ref aS, .ref aC, .ref aG])), (aS, .inl (cI, 5, .inl S0)), (aC, .inl (cI, 5, .inl Cr)), (aG, .inl (cI, 5, .inl G0)), (hV, .inr (0, [.int bd2, .int sb2, .int nd2, .ref bS, .ref bC, .ref bG])), (bS, .inl (cI, 5, .inl S2)), (bC, .inl (cI, 5, .inl Cr2)), (bG, .inl (cI, 5, .inl G2))])) hx hb hr hlocks hP hS () (rfl) (rfl) dX1_borders_7
abbrev rmX1_leader : Room := { frames := 2, cells := 0, slots := 0, locals := 42 }
set_option maxRecDepth 20000 in
theorem iX1_leader_X0 : ∀ w ∈ wsX00, w ∈ wsX1_leader := fun w h => (goodIn_r (big := wsX1_leader) wsX00 [24, 25, 26, 27, 28, 29] (by decide +kernel) (by decide +kernel) w h).1
set_option maxRecDepth 20000 in
theorem iX1_leader_X1 : ∀ w ∈ wsX10, w ∈ wsX1_leader := fun w h => (goodIn_r (big := wsX1_leader) wsX10 [19, 20, 21, 22, 23] (by decide +kernel) (by decide +kernel) w h).1
set_option maxHeartbeats 4000000 in
set_option maxRecDepth 100000 in
theorem m_X1_leader (l : Launch) (dC : Nat → ClassId) (dI : Nat → Nat → Nat) (cI cZ cJ cD : ClassId) (h0 : Nat) (hM : Nat) (aS : Nat) (aC : Nat) (aG : Nat) (hV : Nat) (bS : Nat) (bC : Nat) (bG : Nat) (wd : Int32) (hg : Int32) (wv : Int32) (bd : Int32) (sb : Int32) (nd : Int32) (S0 : Nat → Int32) (Cr : Nat → Int32) (G0 : Nat → Int32) (bd2 : Int32) (sb2 : Int32) (nd2 : Int32) (S2 : Nat → Int32) (Cr2 : Nat → Int32) (G2 : Nat → Int32)  : zI l (dC, dI) (wT cI cZ cJ cD) yX1_leader wsX1_leader rmX1_leader [(h0, .inr (1, [.ref hM, .ref hV, .int wd, .int hg, .int wv])), (hM, .inr (0, [.int bd, .int sb, .int nd, .ref aS, .ref aC, .ref aG])), (aS, .inl (cI, 5, .inl S0)), (aC, .inl (cI, 5, .inl Cr)), (aG, .inl (cI, 5, .inl G0)), (hV, .inr (0, [.int bd2, .int sb2, .int nd2, .ref bS, .ref bC, .ref bG])), (bS, .inl (cI, 5, .inl S2)), (bC, .inl (cI, 5, .inl Cr2)), (bG, .inl (cI, 5, .inl G2))] [.ref h0] (fun (_ : Unit) => [(h0, .inr (1, [.ref hM, .ref hV, .int wd, .int hg, .int wv])), (hM, .inr (0, [.int bd, .int sb, .int nd, .ref aS, .ref aC, .ref aG])), (aS, .inl (cI, 5, .inl S0)), (aC, .inl (cI, 5, .inl Cr)), (aG, .inl (cI, 5, .inl G0)), (hV, .inr (0, [.int bd2, .int sb2, .int nd2, .ref bS, .ref bC, .ref bG])), (bS, .inl (cI, 5, .inl S2)), (bC, .inl (cI, 5, .inl Cr2)), (bG, .inl (cI, 5, .inl G2))]) (fun (r : Int32) (_ : Unit) => r = nI (pLb S0 4)) := by
  intro sz
  refine Met.ofW (cc := cX1_leader) (maxL := 5) (ret := (some .int)) (by decide) rfl ?_
  intro p e s m args below meth c s₁ B hml hv
  obtain ⟨ha, hsz, hP, hK, hD0, hN⟩ := hv
  have hx := B.exec
  have hb := B.bytes
  have hr := B.returns
  have hts := atoms_spec (ws := wsX1_leader) B.pre
  have hown : s.vm.findClass RX1 = some m.cls := findClass_of_methodNamed B.named
  have hlocks := B.notSynchronized
  subst hsz
  have hD := hD0.self (sz := s.heap.size)
  generalize hAe : va_A [(h0, .inr (1, [.ref hM, .ref hV, .int wd, .int hg, .int wv])), (hM, .inr (0, [.int bd, .int sb, .int nd, .ref aS, .ref aC, .ref aG])), (aS, .inl (cI, 5, .inl S0)), (aC, .inl (cI, 5, .inl Cr)), (aG, .inl (cI, 5, .inl G0)), (hV, .inr (0, [.int bd2, .int sb2, .int nd2, .ref bS, .ref bC, .ref bG])), (bS, .inl (cI, 5, .inl S2)), (bC, .inl (cI, 5, .inl Cr2)), (bG, .inl (cI, 5, .inl G2))] s.heap.size = A at hD ⊢
  have hA : ∀ q : Nat, s.heap.size ≤ q → A q := fun q h => by rw [← hAe]; exact Or.inr h
  have hS : va_S A s.heap s.heap [] := va_S.rf
  generalize hQ : MQ below (va_Qi (fun (r : Int32) (_ : Unit) => r = nI (pLb S0 4)) (fun u t => va_P (dC, dI) vwCl ((fun (_ : Unit) => [(h0, .inr (1, [.ref hM, .ref hV, .int wd, .int hg, .int wv])), (hM, .inr (0, [.int bd, .int sb, .int nd, .ref aS, .ref aC, .ref aG])), (aS, .inl (cI, 5, .inl S0)), (aC, .inl (cI, 5, .inl Cr)), (aG, .inl (cI, 5, .inl G0)), (hV, .inr (0, [.int bd2, .int sb2, .int nd2, .ref bS, .ref bC, .ref bG])), (bS, .inl (cI, 5, .inl S2)), (bC, .inl (cI, 5, .inl Cr2)), (bG, .inl (cI, 5, .inl G2))]) u) t.heap) A) args s 0 0 A = Q
  have F9 : CallFix p m c cX1_leader 5 s args wsX1_leader RX1 := ⟨hx, hb, hml, hown, hts⟩
  refine z_entry (R := rmX1_leader) ha (Nat.le_of_ble_eq_true rfl) (fun ls hl => ?_)
  have hl : lv_has ls 5 [(0, .ref h0)] := hl
  refine lv_iconst (v := 0) hx hb dX1_leader_0 (by decide) ?_
  refine lv_istore_n (lv' := [(1, .int 0), (0, .ref h0)]) hx hb dX1_leader_1 rfl hl (by decide) rfl (fun ls hl => ?_)
  refine lv_iconst (v := 0) hx hb dX1_leader_2 (by decide) ?_
  refine lv_istore_n (lv' := [(2, .int 0), (1, .int 0), (0, .ref h0)]) hx hb dX1_leader_3 rfl hl (by decide) rfl (fun ls hl => ?_)
  refine lv_iconst (v := 1) hx hb dX1_leader_4 (by decide) ?_
  refine lv_istore_n (lv' := [(3, .int 1), (2, .int 0), (1, .int 0), (0, .ref h0)]) hx hb dX1_leader_5 rfl hl (by decide) rfl (fun ls hl => ?_)
  have loop_6 : ∀ (n : Nat) (i : Nat) (lb : Nat) (lm : Int32) (hkn : i + n = 4) (e1 : lb = pLb S0 i) (e2 : lm = pLm S0 i) (H : Heap) (locs : List Loc) (ls : Array Slot) (hP : va_P (dC, dI) vwCl [(h0, .inr (1, [.ref hM, .ref hV, .int wd, .int hg, .int wv])), (hM, .inr (0, [.int bd, .int sb, .int nd, .ref aS, .ref aC, .ref aG])), (aS, .inl (cI, 5, .inl S0)), (aC, .inl (cI, 5, .inl Cr)), (aG, .inl (cI, 5, .inl G0)), (hV, .inr (0, [.int bd2, .int sb2, .int nd2, .ref bS, .ref bC, .ref bG])), (bS, .inl (cI, 5, .inl S2)), (bC, .inl (cI, 5, .inl Cr2)), (bG, .inl (cI, 5, .inl G2))] H) (hD : va_D A [(h0, .inr (1, [.ref hM, .ref hV, .int wd, .int hg, .int wv])), (hM, .inr (0, [.int bd, .int sb, .int nd, .ref aS, .ref aC, .ref aG])), (aS, .inl (cI, 5, .inl S0)), (aC, .inl (cI, 5, .inl Cr)), (aG, .inl (cI, 5, .inl G0)), (hV, .inr (0, [.int bd2, .int sb2, .int nd2, .ref bS, .ref bC, .ref bG])), (bS, .inl (cI, 5, .inl S2)), (bC, .inl (cI, 5, .inl Cr2)), (bG, .inl (cI, 5, .inl G2))]) (hS : va_S A s.heap H locs) (hl : lv_has ls 5 [(0, .ref h0), (1, .int (nI lb)), (2, .int lm), (3, .int (nI (i + 1)))]), W p l e rmX1_leader s m args below meth c H locs 0 0 Q (F0 m 6 ls []) := by
    intro n
    induction n with
    | zero =>
      intro i lb lm hkn e1 e2 H locs ls hP hD hS hl
      refine lv_iload_n hx hb dX1_leader_6 rfl (lv_at hl 3 rfl) ?_
      refine lv_iconst (v := 4) hx hb dX1_leader_7 (by decide) ?_
      refine lv_icmp_gt (tgt := 38) hx hb dX1_leader_8 (by decide) (fun c_8 => ?_) (fun c_8 => ?_)
      · skip
        have n_8 := zc_lt_t (a := 4) (b := (i + 1)) (by omega) (by omega) c_8
        refine lv_iload_n hx hb dX1_leader_38 rfl (lv_at hl 1 rfl) ?_
        rw [← hQ]
        exact z_iret (W1 := (fun (_ : Unit) => [(h0, .inr (1, [.ref hM, .ref hV, .int wd, .int hg, .int wv])), (hM, .inr (0, [.int bd, .int sb, .int nd, .ref aS, .ref aC, .ref aG])), (aS, .inl (cI, 5, .inl S0)), (aC, .inl (cI, 5, .inl Cr)), (aG, .inl (cI, 5, .inl G0)), (hV, .inr (0, [.int bd2, .int sb2, .int nd2, .ref bS, .ref bC, .ref bG])), (bS, .inl (cI, 5, .inl S2)), (bC, .inl (cI, 5, .inl Cr2)), (bG, .inl (cI, 5, .inl G2))])) hx hb hr hlocks hP hS () (rfl) (by rw [e1, show i = 4 by omega]) dX1_leader_39
      · skip
        have n_8 := zc_lt_f (a := 4) (b := (i + 1)) (by omega) (by omega) c_8
        exact absurd n_8 (by omega)
    | succ n ih_6 =>
      intro i lb lm hkn e1 e2 H locs ls hP hD hS hl
      refine lv_iload_n hx hb dX1_leader_6 rfl (lv_at hl 3 rfl) ?_
      refine lv_iconst (v := 4) hx hb dX1_leader_7 (by decide) ?_
      refine lv_icmp_gt (tgt := 38) hx hb dX1_leader_8 (by decide) (fun c_8 => ?_) (fun c_8 => ?_)
      · skip
        have n_8 := zc_lt_t (a := 4) (b := (i + 1)) (by omega) (by omega) c_8
        exact absurd n_8 (by omega)
      · skip
        have n_8 := zc_lt_f (a := 4) (b := (i + 1)) (by omega) (by omega) c_8
        refine lv_aload_n hx hb dX1_leader_11 rfl (lv_at hl 0 rfl) ?_
        refine va_get (D := (dC, dI)) (ci := 1) (v := .ref hM) (C := RX1) (T := TX1) (N := 5) hx hb hts iX1_leader_X1 hown hK hP 0 rfl rfl 0 (by decide) (hts (.fieldLink RX1 12 "ColourTide" "map" "LColourTide$Tide;") (List.mem_of_getElem? (i := 1) rfl)) (fun _ h9 => h9) rfl dX1_leader_12 ?_
        refine lv_iload_n hx hb dX1_leader_15 rfl (lv_at hl 3 rfl) ?_
        refine z_callVi (As := [.int (nI (i + 1))]) (rest := []) F9 (m_X0_count l dC dI cI cZ cJ cD hM aS aC aG bd sb nd S0 Cr G0 (nI (i + 1)) ) (cwV 1 hts gX1_leader_X0_count rfl rfl rfl (by decide +kernel) ⟨Nat.le_of_ble_eq_true rfl, Nat.le_of_ble_eq_true rfl⟩) hK hN hP hD hS hA [1, 2, 3, 4] rfl rfl (fun _ => rfl) 1 (ci := 0) rfl rfl rfl rfl hl.1 rfl (Nat.le_of_ble_eq_true rfl) dX1_leader_16 ⟨Nat.zero_le _, Nat.zero_le _⟩ (fun r_1 u H locs hp_16 hP hD hS => ?_)
        have hP : va_P (dC, dI) vwCl [(h0, .inr (1, [.ref hM, .ref hV, .int wd, .int hg, .int wv])), (hM, .inr (0, [.int bd, .int sb, .int nd, .ref aS, .ref aC, .ref aG])), (aS, .inl (cI, 5, .inl S0)), (aC, .inl (cI, 5, .inl Cr)), (aG, .inl (cI, 5, .inl G0)), (hV, .inr (0, [.int bd2, .int sb2, .int nd2, .ref bS, .ref bC, .ref bG])), (bS, .inl (cI, 5, .inl S2)), (bC, .inl (cI, 5, .inl Cr2)), (bG, .inl (cI, 5, .inl G2))] H := hP
        have hD : va_D A [(h0, .inr (1, [.ref hM, .ref hV, .int wd, .int hg, .int wv])), (hM, .inr (0, [.int bd, .int sb, .int nd, .ref aS, .ref aC, .ref aG])), (aS, .inl (cI, 5, .inl S0)), (aC, .inl (cI, 5, .inl Cr)), (aG, .inl (cI, 5, .inl G0)), (hV, .inr (0, [.int bd2, .int sb2, .int nd2, .ref bS, .ref bC, .ref bG])), (bS, .inl (cI, 5, .inl S2)), (bC, .inl (cI, 5, .inl Cr2)), (bG, .inl (cI, 5, .inl G2))] := hD
        have hp_16 : r_1 = pBC (pCW S0 (nI (i + 1))) := hp_16
        refine z_topi (y := pBC (pCW S0 (nI (i + 1)))) hp_16 ?_
        refine lv_istore (lv' := [(4, .int (pBC (pCW S0 (nI (i + 1))))), (0, .ref h0), (1, .int (nI lb)), (2, .int lm), (3, .int (nI (i + 1)))]) hx hb dX1_leader_19 hl (by decide) rfl (fun ls hl => ?_)
        refine lv_iload hx hb dX1_leader_21 (lv_at hl 0 rfl) ?_
        refine lv_iload_n hx hb dX1_leader_23 rfl (lv_at hl 3 rfl) ?_
        refine lv_icmp_le (tgt := 32) hx hb dX1_leader_24 (by decide) (fun c_24 => ?_) (fun c_24 => ?_)
        · skip
          refine lv_iinc (v := nI ((i + 1) + 1)) (lv' := [(3, .int (nI ((i + 1) + 1))), (4, .int (pBC (pCW S0 (nI (i + 1))))), (0, .ref h0), (1, .int (nI lb)), (2, .int lm)]) hx hb dX1_leader_32 hl (k := 4) rfl (nI_1 (i + 1)) (by decide) rfl (fun ls hl => ?_)
          refine lv_goto (tgt := 6) hx hb dX1_leader_35 (by decide) ?_
          exact ih_6 (i + 1) lb lm (by omega) (by rw [pLb, ← e2, if_pos c_24, e1]) (by rw [pLm, ← e2, if_pos c_24]) _ _ _ hP hD hS (lv_sub hl [2, 3, 4, 0] rfl)
        · skip
          refine lv_iload hx hb dX1_leader_27 (lv_at hl 0 rfl) ?_
          refine lv_istore_n (lv' := [(2, .int (pBC (pCW S0 (nI (i + 1))))), (4, .int (pBC (pCW S0 (nI (i + 1))))), (0, .ref h0), (1, .int (nI lb)), (3, .int (nI (i + 1)))]) hx hb dX1_leader_29 rfl hl (by decide) rfl (fun ls hl => ?_)
          refine lv_iload_n hx hb dX1_leader_30 rfl (lv_at hl 4 rfl) ?_
          refine lv_istore_n (lv' := [(1, .int (nI (i + 1))), (2, .int (pBC (pCW S0 (nI (i + 1))))), (4, .int (pBC (pCW S0 (nI (i + 1))))), (0, .ref h0), (3, .int (nI (i + 1)))]) hx hb dX1_leader_31 rfl hl (by decide) rfl (fun ls hl => ?_)
          refine lv_iinc (v := nI ((i + 1) + 1)) (lv' := [(3, .int (nI ((i + 1) + 1))), (1, .int (nI (i + 1))), (2, .int (pBC (pCW S0 (nI (i + 1))))), (4, .int (pBC (pCW S0 (nI (i + 1))))), (0, .ref h0)]) hx hb dX1_leader_32 hl (k := 4) rfl (nI_1 (i + 1)) (by decide) rfl (fun ls hl => ?_)
          refine lv_goto (tgt := 6) hx hb dX1_leader_35 (by decide) ?_
          exact ih_6 (i + 1) (i + 1) (pBC (pCW S0 (nI (i + 1)))) (by omega) (by rw [pLb, ← e2, if_neg c_24]) (by rw [pLm, ← e2, if_neg c_24]) _ _ _ hP hD hS (lv_sub hl [4, 1, 2, 0] rfl)
  exact loop_6 4 0 0 0 (by omega) (rfl) (rfl) _ _ _ hP hD hS (lv_sub hl [3, 2, 1, 0] rfl)
abbrev rmX1_isStill : Room := { frames := 3, cells := 0, slots := 0, locals := 71 }
set_option maxRecDepth 20000 in
theorem iX1_isStill_X0 : ∀ w ∈ wsX00, w ∈ wsX1_isStill := fun w h => (goodIn_r (big := wsX1_isStill) wsX00 [25, 26, 27, 28, 29, 30] (by decide +kernel) (by decide +kernel) w h).1
set_option maxRecDepth 20000 in
theorem iX1_isStill_X1 : ∀ w ∈ wsX10, w ∈ wsX1_isStill := fun w h => (goodIn_r (big := wsX1_isStill) wsX10 [20, 21, 22, 23, 24] (by decide +kernel) (by decide +kernel) w h).1
set_option maxHeartbeats 4000000 in
set_option maxRecDepth 100000 in
theorem m_X1_isStill (l : Launch) (dC : Nat → ClassId) (dI : Nat → Nat → Nat) (cI cZ cJ cD : ClassId) (h0 : Nat) (hM : Nat) (aS : Nat) (aC : Nat) (aG : Nat) (hV : Nat) (bS : Nat) (bC : Nat) (bG : Nat) (wd : Int32) (hg : Int32) (wv : Int32) (bd : Int32) (sb : Int32) (nd : Int32) (S0 : Nat → Int32) (Cr : Nat → Int32) (G0 : Nat → Int32) (bd2 : Int32) (sb2 : Int32) (nd2 : Int32) (S2 : Nat → Int32) (Cr2 : Nat → Int32) (G2 : Nat → Int32) (q0 : Nat) (hq : 1 ≤ q0 ∧ q0 ≤ 4) (hnd : nd = nI q0) : zI l (dC, dI) (wT cI cZ cJ cD) yX1_isStill wsX1_isStill rmX1_isStill [(h0, .inr (1, [.ref hM, .ref hV, .int wd, .int hg, .int wv])), (hM, .inr (0, [.int bd, .int sb, .int nd, .ref aS, .ref aC, .ref aG])), (aS, .inl (cI, 5, .inl S0)), (aC, .inl (cI, 5, .inl Cr)), (aG, .inl (cI, 5, .inl G0)), (hV, .inr (0, [.int bd2, .int sb2, .int nd2, .ref bS, .ref bC, .ref bG])), (bS, .inl (cI, 5, .inl S2)), (bC, .inl (cI, 5, .inl Cr2)), (bG, .inl (cI, 5, .inl G2))] [.ref h0] (fun (u : (Nat → Int32) × (Nat → Int32)) => [(h0, .inr (1, [.ref hM, .ref hV, .int wd, .int hg, .int wv])), (hM, .inr (0, [.int bd, .int sb, .int nd, .ref aS, .ref aC, .ref aG])), (aS, .inl (cI, 5, .inl S0)), (aC, .inl (cI, 5, .inl u.1)), (aG, .inl (cI, 5, .inl u.2)), (hV, .inr (0, [.int bd2, .int sb2, .int nd2, .ref bS, .ref bC, .ref bG])), (bS, .inl (cI, 5, .inl S2)), (bC, .inl (cI, 5, .inl Cr2)), (bG, .inl (cI, 5, .inl G2))]) (fun (r : Int32) (u : (Nat → Int32) × (Nat → Int32)) => r = if pC0 S0 bd sb q0 = 0 then 1 else 0) := by
  intro sz
  refine Met.ofW (cc := cX1_isStill) (maxL := 1) (ret := (some .boolean)) (by decide) rfl ?_
  intro p e s m args below meth c s₁ B hml hv
  obtain ⟨ha, hsz, hP, hK, hD0, hN⟩ := hv
  have hx := B.exec
  have hb := B.bytes
  have hr := B.returns
  have hts := atoms_spec (ws := wsX1_isStill) B.pre
  have hown : s.vm.findClass RX1 = some m.cls := findClass_of_methodNamed B.named
  have hlocks := B.notSynchronized
  subst hsz
  have hD := hD0.self (sz := s.heap.size)
  generalize hAe : va_A [(h0, .inr (1, [.ref hM, .ref hV, .int wd, .int hg, .int wv])), (hM, .inr (0, [.int bd, .int sb, .int nd, .ref aS, .ref aC, .ref aG])), (aS, .inl (cI, 5, .inl S0)), (aC, .inl (cI, 5, .inl Cr)), (aG, .inl (cI, 5, .inl G0)), (hV, .inr (0, [.int bd2, .int sb2, .int nd2, .ref bS, .ref bC, .ref bG])), (bS, .inl (cI, 5, .inl S2)), (bC, .inl (cI, 5, .inl Cr2)), (bG, .inl (cI, 5, .inl G2))] s.heap.size = A at hD ⊢
  have hA : ∀ q : Nat, s.heap.size ≤ q → A q := fun q h => by rw [← hAe]; exact Or.inr h
  have hS : va_S A s.heap s.heap [] := va_S.rf
  generalize hQ : MQ below (va_Qi (fun (r : Int32) (u : (Nat → Int32) × (Nat → Int32)) => r = if pC0 S0 bd sb q0 = 0 then 1 else 0) (fun u t => va_P (dC, dI) vwCl ((fun (u : (Nat → Int32) × (Nat → Int32)) => [(h0, .inr (1, [.ref hM, .ref hV, .int wd, .int hg, .int wv])), (hM, .inr (0, [.int bd, .int sb, .int nd, .ref aS, .ref aC, .ref aG])), (aS, .inl (cI, 5, .inl S0)), (aC, .inl (cI, 5, .inl u.1)), (aG, .inl (cI, 5, .inl u.2)), (hV, .inr (0, [.int bd2, .int sb2, .int nd2, .ref bS, .ref bC, .ref bG])), (bS, .inl (cI, 5, .inl S2)), (bC, .inl (cI, 5, .inl Cr2)), (bG, .inl (cI, 5, .inl G2))]) u) t.heap) A) args s 0 0 A = Q
  have F9 : CallFix p m c cX1_isStill 1 s args wsX1_isStill RX1 := ⟨hx, hb, hml, hown, hts⟩
  refine z_entry (R := rmX1_isStill) ha (Nat.le_of_ble_eq_true rfl) (fun ls hl => ?_)
  have hl : lv_has ls 1 [(0, .ref h0)] := hl
  refine lv_aload_n hx hb dX1_isStill_0 rfl (lv_at hl 0 rfl) ?_
  refine va_get (D := (dC, dI)) (ci := 1) (v := .ref hM) (C := RX1) (T := TX1) (N := 5) hx hb hts iX1_isStill_X1 hown hK hP 0 rfl rfl 0 (by decide) (hts (.fieldLink RX1 12 "ColourTide" "map" "LColourTide$Tide;") (List.mem_of_getElem? (i := 1) rfl)) (fun _ h9 => h9) rfl dX1_isStill_1 ?_
  refine z_callVi (As := []) (rest := []) F9 (m_X0_foresee l dC dI cI cZ cJ cD hM aS aC aG bd sb nd S0 Cr G0 q0 (hq) (hnd)) (cwV 0 hts gX1_isStill_X0_foresee rfl rfl rfl (by decide +kernel) ⟨Nat.le_of_ble_eq_true rfl, Nat.le_of_ble_eq_true rfl⟩) hK hN hP hD hS hA [1, 2, 3, 4] rfl rfl (fun _ => rfl) 1 (ci := 0) rfl rfl rfl rfl hl.1 rfl (Nat.le_of_ble_eq_true rfl) dX1_isStill_4 ⟨Nat.zero_le _, Nat.zero_le _⟩ (fun r_1 u H locs hp_4 hP hD hS => ?_)
  have hP : va_P (dC, dI) vwCl [(h0, .inr (1, [.ref hM, .ref hV, .int wd, .int hg, .int wv])), (hM, .inr (0, [.int bd, .int sb, .int nd, .ref aS, .ref aC, .ref aG])), (aS, .inl (cI, 5, .inl S0)), (aC, .inl (cI, 5, .inl (pCs S0 q0 Cr (5 - q0)))), (aG, .inl (cI, 5, .inl (pGf S0 bd sb q0 G0))), (hV, .inr (0, [.int bd2, .int sb2, .int nd2, .ref bS, .ref bC, .ref bG])), (bS, .inl (cI, 5, .inl S2)), (bC, .inl (cI, 5, .inl Cr2)), (bG, .inl (cI, 5, .inl G2))] H := hP
  have hD : va_D A [(h0, .inr (1, [.ref hM, .ref hV, .int wd, .int hg, .int wv])), (hM, .inr (0, [.int bd, .int sb, .int nd, .ref aS, .ref aC, .ref aG])), (aS, .inl (cI, 5, .inl S0)), (aC, .inl (cI, 5, .inl (pCs S0 q0 Cr (5 - q0)))), (aG, .inl (cI, 5, .inl (pGf S0 bd sb q0 G0))), (hV, .inr (0, [.int bd2, .int sb2, .int nd2, .ref bS, .ref bC, .ref bG])), (bS, .inl (cI, 5, .inl S2)), (bC, .inl (cI, 5, .inl Cr2)), (bG, .inl (cI, 5, .inl G2))] := hD
  have hp_4 : r_1 = pC0 S0 bd sb q0 := hp_4
  refine z_topi (y := pC0 S0 bd sb q0) hp_4 ?_
  refine lv_if_ne (tgt := 14) hx hb dX1_isStill_7 (by decide) (fun c_7 => ?_) (fun c_7 => ?_)
  · skip
    refine lv_iconst (v := 0) hx hb dX1_isStill_14 (by decide) ?_
    rw [← hQ]
    exact z_zret (W1 := (fun (u : (Nat → Int32) × (Nat → Int32)) => [(h0, .inr (1, [.ref hM, .ref hV, .int wd, .int hg, .int wv])), (hM, .inr (0, [.int bd, .int sb, .int nd, .ref aS, .ref aC, .ref aG])), (aS, .inl (cI, 5, .inl S0)), (aC, .inl (cI, 5, .inl u.1)), (aG, .inl (cI, 5, .inl u.2)), (hV, .inr (0, [.int bd2, .int sb2, .int nd2, .ref bS, .ref bC, .ref bG])), (bS, .inl (cI, 5, .inl S2)), (bC, .inl (cI, 5, .inl Cr2)), (bG, .inl (cI, 5, .inl G2))])) hx hb hr hlocks (by decide +kernel) hP hS ((pCs S0 q0 Cr (5 - q0)), (pGf S0 bd sb q0 G0)) (rfl) (by rw [if_neg c_7]) dX1_isStill_15
  · skip
    refine lv_iconst (v := 1) hx hb dX1_isStill_10 (by decide) ?_
    refine lv_goto (tgt := 15) hx hb dX1_isStill_11 (by decide) ?_
    rw [← hQ]
    exact z_zret (W1 := (fun (u : (Nat → Int32) × (Nat → Int32)) => [(h0, .inr (1, [.ref hM, .ref hV, .int wd, .int hg, .int wv])), (hM, .inr (0, [.int bd, .int sb, .int nd, .ref aS, .ref aC, .ref aG])), (aS, .inl (cI, 5, .inl S0)), (aC, .inl (cI, 5, .inl u.1)), (aG, .inl (cI, 5, .inl u.2)), (hV, .inr (0, [.int bd2, .int sb2, .int nd2, .ref bS, .ref bC, .ref bG])), (bS, .inl (cI, 5, .inl S2)), (bC, .inl (cI, 5, .inl Cr2)), (bG, .inl (cI, 5, .inl G2))])) hx hb hr hlocks (by decide +kernel) hP hS ((pCs S0 q0 Cr (5 - q0)), (pGf S0 bd sb q0 G0)) (rfl) (by rw [if_pos c_7]) dX1_isStill_15
abbrev rmX1_winner : Room := { frames := 2, cells := 0, slots := 0, locals := 42 }
set_option maxRecDepth 20000 in
theorem iX1_winner_X0 : ∀ w ∈ wsX00, w ∈ wsX1_winner := fun w h => (goodIn_r (big := wsX1_winner) wsX00 [18, 19, 20, 21, 22, 23] (by decide +kernel) (by decide +kernel) w h).1
set_option maxRecDepth 20000 in
theorem iX1_winner_X1 : ∀ w ∈ wsX10, w ∈ wsX1_winner := fun w h => (goodIn_r (big := wsX1_winner) wsX10 [13, 14, 15, 16, 17] (by decide +kernel) (by decide +kernel) w h).1
set_option maxHeartbeats 4000000 in
set_option maxRecDepth 100000 in
theorem m_X1_winner (l : Launch) (dC : Nat → ClassId) (dI : Nat → Nat → Nat) (cI cZ cJ cD : ClassId) (h0 : Nat) (hM : Nat) (aS : Nat) (aC : Nat) (aG : Nat) (hV : Nat) (bS : Nat) (bC : Nat) (bG : Nat) (wd : Int32) (hg : Int32) (wv : Int32) (bd : Int32) (sb : Int32) (nd : Int32) (S0 : Nat → Int32) (Cr : Nat → Int32) (G0 : Nat → Int32) (bd2 : Int32) (sb2 : Int32) (nd2 : Int32) (S2 : Nat → Int32) (Cr2 : Nat → Int32) (G2 : Nat → Int32)  : zI l (dC, dI) (wT cI cZ cJ cD) yX1_winner wsX1_winner rmX1_winner [(h0, .inr (1, [.ref hM, .ref hV, .int wd, .int hg, .int wv])), (hM, .inr (0, [.int bd, .int sb, .int nd, .ref aS, .ref aC, .ref aG])), (aS, .inl (cI, 5, .inl S0)), (aC, .inl (cI, 5, .inl Cr)), (aG, .inl (cI, 5, .inl G0)), (hV, .inr (0, [.int bd2, .int sb2, .int nd2, .ref bS, .ref bC, .ref bG])), (bS, .inl (cI, 5, .inl S2)), (bC, .inl (cI, 5, .inl Cr2)), (bG, .inl (cI, 5, .inl G2))] [.ref h0] (fun (_ : Unit) => [(h0, .inr (1, [.ref hM, .ref hV, .int wd, .int hg, .int wv])), (hM, .inr (0, [.int bd, .int sb, .int nd, .ref aS, .ref aC, .ref aG])), (aS, .inl (cI, 5, .inl S0)), (aC, .inl (cI, 5, .inl Cr)), (aG, .inl (cI, 5, .inl G0)), (hV, .inr (0, [.int bd2, .int sb2, .int nd2, .ref bS, .ref bC, .ref bG])), (bS, .inl (cI, 5, .inl S2)), (bC, .inl (cI, 5, .inl Cr2)), (bG, .inl (cI, 5, .inl G2))]) (fun (r : Int32) (_ : Unit) => r = pWr S0 bd) := by
  intro sz
  refine Met.ofW (cc := cX1_winner) (maxL := 2) (ret := (some .int)) (by decide) rfl ?_
  intro p e s m args below meth c s₁ B hml hv
  obtain ⟨ha, hsz, hP, hK, hD0, hN⟩ := hv
  have hx := B.exec
  have hb := B.bytes
  have hr := B.returns
  have hts := atoms_spec (ws := wsX1_winner) B.pre
  have hown : s.vm.findClass RX1 = some m.cls := findClass_of_methodNamed B.named
  have hlocks := B.notSynchronized
  subst hsz
  have hD := hD0.self (sz := s.heap.size)
  generalize hAe : va_A [(h0, .inr (1, [.ref hM, .ref hV, .int wd, .int hg, .int wv])), (hM, .inr (0, [.int bd, .int sb, .int nd, .ref aS, .ref aC, .ref aG])), (aS, .inl (cI, 5, .inl S0)), (aC, .inl (cI, 5, .inl Cr)), (aG, .inl (cI, 5, .inl G0)), (hV, .inr (0, [.int bd2, .int sb2, .int nd2, .ref bS, .ref bC, .ref bG])), (bS, .inl (cI, 5, .inl S2)), (bC, .inl (cI, 5, .inl Cr2)), (bG, .inl (cI, 5, .inl G2))] s.heap.size = A at hD ⊢
  have hA : ∀ q : Nat, s.heap.size ≤ q → A q := fun q h => by rw [← hAe]; exact Or.inr h
  have hS : va_S A s.heap s.heap [] := va_S.rf
  generalize hQ : MQ below (va_Qi (fun (r : Int32) (_ : Unit) => r = pWr S0 bd) (fun u t => va_P (dC, dI) vwCl ((fun (_ : Unit) => [(h0, .inr (1, [.ref hM, .ref hV, .int wd, .int hg, .int wv])), (hM, .inr (0, [.int bd, .int sb, .int nd, .ref aS, .ref aC, .ref aG])), (aS, .inl (cI, 5, .inl S0)), (aC, .inl (cI, 5, .inl Cr)), (aG, .inl (cI, 5, .inl G0)), (hV, .inr (0, [.int bd2, .int sb2, .int nd2, .ref bS, .ref bC, .ref bG])), (bS, .inl (cI, 5, .inl S2)), (bC, .inl (cI, 5, .inl Cr2)), (bG, .inl (cI, 5, .inl G2))]) u) t.heap) A) args s 0 0 A = Q
  have F9 : CallFix p m c cX1_winner 2 s args wsX1_winner RX1 := ⟨hx, hb, hml, hown, hts⟩
  refine z_entry (R := rmX1_winner) ha (Nat.le_of_ble_eq_true rfl) (fun ls hl => ?_)
  have hl : lv_has ls 2 [(0, .ref h0)] := hl
  refine lv_iconst (v := 1) hx hb dX1_winner_0 (by decide) ?_
  refine lv_istore_n (lv' := [(1, .int 1), (0, .ref h0)]) hx hb dX1_winner_1 rfl hl (by decide) rfl (fun ls hl => ?_)
  have loop_2 : ∀ (n : Nat) (k : Nat) (hkn : k + n = 5) (h1 : 1 ≤ k) (hz : ∀ j, 1 ≤ j → j < k → ¬ pCW S0 (nI j) = bd) (H : Heap) (locs : List Loc) (ls : Array Slot) (hP : va_P (dC, dI) vwCl [(h0, .inr (1, [.ref hM, .ref hV, .int wd, .int hg, .int wv])), (hM, .inr (0, [.int bd, .int sb, .int nd, .ref aS, .ref aC, .ref aG])), (aS, .inl (cI, 5, .inl S0)), (aC, .inl (cI, 5, .inl Cr)), (aG, .inl (cI, 5, .inl G0)), (hV, .inr (0, [.int bd2, .int sb2, .int nd2, .ref bS, .ref bC, .ref bG])), (bS, .inl (cI, 5, .inl S2)), (bC, .inl (cI, 5, .inl Cr2)), (bG, .inl (cI, 5, .inl G2))] H) (hD : va_D A [(h0, .inr (1, [.ref hM, .ref hV, .int wd, .int hg, .int wv])), (hM, .inr (0, [.int bd, .int sb, .int nd, .ref aS, .ref aC, .ref aG])), (aS, .inl (cI, 5, .inl S0)), (aC, .inl (cI, 5, .inl Cr)), (aG, .inl (cI, 5, .inl G0)), (hV, .inr (0, [.int bd2, .int sb2, .int nd2, .ref bS, .ref bC, .ref bG])), (bS, .inl (cI, 5, .inl S2)), (bC, .inl (cI, 5, .inl Cr2)), (bG, .inl (cI, 5, .inl G2))]) (hS : va_S A s.heap H locs) (hl : lv_has ls 2 [(0, .ref h0), (1, .int (nI k))]), W p l e rmX1_winner s m args below meth c H locs 0 0 Q (F0 m 2 ls []) := by
    intro n
    induction n with
    | zero =>
      intro k hkn h1 hz H locs ls hP hD hS hl
      refine lv_iload_n hx hb dX1_winner_2 rfl (lv_at hl 1 rfl) ?_
      refine lv_iconst (v := 4) hx hb dX1_winner_3 (by decide) ?_
      refine lv_icmp_gt (tgt := 26) hx hb dX1_winner_4 (by decide) (fun c_4 => ?_) (fun c_4 => ?_)
      · skip
        have n_4 := zc_lt_t (a := 4) (b := k) (by omega) (by omega) c_4
        refine lv_iconst (v := 0) hx hb dX1_winner_26 (by decide) ?_
        rw [← hQ]
        exact z_iret (W1 := (fun (_ : Unit) => [(h0, .inr (1, [.ref hM, .ref hV, .int wd, .int hg, .int wv])), (hM, .inr (0, [.int bd, .int sb, .int nd, .ref aS, .ref aC, .ref aG])), (aS, .inl (cI, 5, .inl S0)), (aC, .inl (cI, 5, .inl Cr)), (aG, .inl (cI, 5, .inl G0)), (hV, .inr (0, [.int bd2, .int sb2, .int nd2, .ref bS, .ref bC, .ref bG])), (bS, .inl (cI, 5, .inl S2)), (bC, .inl (cI, 5, .inl Cr2)), (bG, .inl (cI, 5, .inl G2))])) hx hb hr hlocks hP hS () (rfl) (pWr_no (fun j h1 h2 => hz j h1 (by omega))) dX1_winner_27
      · skip
        have n_4 := zc_lt_f (a := 4) (b := k) (by omega) (by omega) c_4
        exact absurd n_4 (by omega)
    | succ n ih_2 =>
      intro k hkn h1 hz H locs ls hP hD hS hl
      refine lv_iload_n hx hb dX1_winner_2 rfl (lv_at hl 1 rfl) ?_
      refine lv_iconst (v := 4) hx hb dX1_winner_3 (by decide) ?_
      refine lv_icmp_gt (tgt := 26) hx hb dX1_winner_4 (by decide) (fun c_4 => ?_) (fun c_4 => ?_)
      · skip
        have n_4 := zc_lt_t (a := 4) (b := k) (by omega) (by omega) c_4
        exact absurd n_4 (by omega)
      · skip
        have n_4 := zc_lt_f (a := 4) (b := k) (by omega) (by omega) c_4
        refine lv_aload_n hx hb dX1_winner_7 rfl (lv_at hl 0 rfl) ?_
        refine va_get (D := (dC, dI)) (ci := 1) (v := .ref hM) (C := RX1) (T := TX1) (N := 5) hx hb hts iX1_winner_X1 hown hK hP 0 rfl rfl 0 (by decide) (hts (.fieldLink RX1 12 "ColourTide" "map" "LColourTide$Tide;") (List.mem_of_getElem? (i := 1) rfl)) (fun _ h9 => h9) rfl dX1_winner_8 ?_
        refine lv_iload_n hx hb dX1_winner_11 rfl (lv_at hl 1 rfl) ?_
        refine z_callVi (As := [.int (nI k)]) (rest := []) F9 (m_X0_isAll l dC dI cI cZ cJ cD hM aS aC aG bd sb nd S0 Cr G0 (nI k) ) (cwV 1 hts gX1_winner_X0_isAll rfl rfl rfl (by decide +kernel) ⟨Nat.le_of_ble_eq_true rfl, Nat.le_of_ble_eq_true rfl⟩) hK hN hP hD hS hA [1, 2, 3, 4] rfl rfl (fun _ => rfl) 1 (ci := 0) rfl rfl rfl rfl hl.1 rfl (Nat.le_of_ble_eq_true rfl) dX1_winner_12 ⟨Nat.zero_le _, Nat.zero_le _⟩ (fun r_1 u H locs hp_12 hP hD hS => ?_)
        have hP : va_P (dC, dI) vwCl [(h0, .inr (1, [.ref hM, .ref hV, .int wd, .int hg, .int wv])), (hM, .inr (0, [.int bd, .int sb, .int nd, .ref aS, .ref aC, .ref aG])), (aS, .inl (cI, 5, .inl S0)), (aC, .inl (cI, 5, .inl Cr)), (aG, .inl (cI, 5, .inl G0)), (hV, .inr (0, [.int bd2, .int sb2, .int nd2, .ref bS, .ref bC, .ref bG])), (bS, .inl (cI, 5, .inl S2)), (bC, .inl (cI, 5, .inl Cr2)), (bG, .inl (cI, 5, .inl G2))] H := hP
        have hD : va_D A [(h0, .inr (1, [.ref hM, .ref hV, .int wd, .int hg, .int wv])), (hM, .inr (0, [.int bd, .int sb, .int nd, .ref aS, .ref aC, .ref aG])), (aS, .inl (cI, 5, .inl S0)), (aC, .inl (cI, 5, .inl Cr)), (aG, .inl (cI, 5, .inl G0)), (hV, .inr (0, [.int bd2, .int sb2, .int nd2, .ref bS, .ref bC, .ref bG])), (bS, .inl (cI, 5, .inl S2)), (bC, .inl (cI, 5, .inl Cr2)), (bG, .inl (cI, 5, .inl G2))] := hD
        have hp_12 : r_1 = if pCW S0 (nI k) = bd then 1 else 0 := hp_12
        refine z_topi (y := if pCW S0 (nI k) = bd then 1 else 0) hp_12 ?_
        refine lv_if_eq (tgt := 20) hx hb dX1_winner_15 (by decide) (fun c_15 => ?_) (fun c_15 => ?_)
        · skip
          refine lv_iinc (v := nI (k + 1)) (lv' := [(1, .int (nI (k + 1))), (0, .ref h0)]) hx hb dX1_winner_20 hl (k := 1) rfl (nI_1 k) (by decide) rfl (fun ls hl => ?_)
          refine lv_goto (tgt := 2) hx hb dX1_winner_23 (by decide) ?_
          exact ih_2 (k + 1) (by omega) (by omega) (fun j h1 h2 => by rcases Nat.lt_succ_iff_lt_or_eq.mp h2 with h | rfl; exact hz j h1 h; exact z_if0 c_15) _ _ _ hP hD hS (lv_sub hl [1, 0] rfl)
        · skip
          refine lv_iload_n hx hb dX1_winner_18 rfl (lv_at hl 1 rfl) ?_
          rw [← hQ]
          exact z_iret (W1 := (fun (_ : Unit) => [(h0, .inr (1, [.ref hM, .ref hV, .int wd, .int hg, .int wv])), (hM, .inr (0, [.int bd, .int sb, .int nd, .ref aS, .ref aC, .ref aG])), (aS, .inl (cI, 5, .inl S0)), (aC, .inl (cI, 5, .inl Cr)), (aG, .inl (cI, 5, .inl G0)), (hV, .inr (0, [.int bd2, .int sb2, .int nd2, .ref bS, .ref bC, .ref bG])), (bS, .inl (cI, 5, .inl S2)), (bC, .inl (cI, 5, .inl Cr2)), (bG, .inl (cI, 5, .inl G2))])) hx hb hr hlocks hP hS () (rfl) (pWr_at h1 (by omega) hz (z_if1 c_15)) dX1_winner_19
  exact loop_2 4 1 (by omega) (Nat.le_refl 1) (fun j h1 h2 => absurd h2 (by omega)) _ _ _ hP hD hS (lv_sub hl [1, 0] rfl)
abbrev rmX1_mixCell : Room := { frames := 3, cells := 0, slots := 0, locals := 66 }
set_option maxRecDepth 20000 in
theorem iX1_mixCell_X0 : ∀ w ∈ wsX00, w ∈ wsX1_mixCell := fun w h => (goodIn_r (big := wsX1_mixCell) wsX00 [48, 49, 50, 51, 52, 53] (by decide +kernel) (by decide +kernel) w h).1
set_option maxRecDepth 20000 in
theorem iX1_mixCell_X1 : ∀ w ∈ wsX10, w ∈ wsX1_mixCell := fun w h => (goodIn_r (big := wsX1_mixCell) wsX10 [43, 44, 45, 46, 47] (by decide +kernel) (by decide +kernel) w h).1
set_option maxHeartbeats 4000000 in
set_option maxRecDepth 100000 in
theorem m_X1_mixCell (l : Launch) (dC : Nat → ClassId) (dI : Nat → Nat → Nat) (cI cZ cJ cD : ClassId) (h0 : Nat) (hM : Nat) (aS : Nat) (aC : Nat) (aG : Nat) (hV : Nat) (bS : Nat) (bC : Nat) (bG : Nat) (wd : Int32) (hg : Int32) (wv : Int32) (bd : Int32) (sb : Int32) (nd : Int32) (S0 : Nat → Int32) (Cr : Nat → Int32) (G0 : Nat → Int32) (bd2 : Int32) (sb2 : Int32) (nd2 : Int32) (S2 : Nat → Int32) (Cr2 : Nat → Int32) (G2 : Nat → Int32) (d0 : Int64) (z0 : Int32)  : zL l (dC, dI) (wT cI cZ cJ cD) yX1_mixCell wsX1_mixCell rmX1_mixCell [(h0, .inr (1, [.ref hM, .ref hV, .int wd, .int hg, .int wv])), (hM, .inr (0, [.int bd, .int sb, .int nd, .ref aS, .ref aC, .ref aG])), (aS, .inl (cI, 5, .inl S0)), (aC, .inl (cI, 5, .inl Cr)), (aG, .inl (cI, 5, .inl G0)), (hV, .inr (0, [.int bd2, .int sb2, .int nd2, .ref bS, .ref bC, .ref bG])), (bS, .inl (cI, 5, .inl S2)), (bC, .inl (cI, 5, .inl Cr2)), (bG, .inl (cI, 5, .inl G2))] [.ref h0, .long d0, .int z0] (fun (_ : Unit) => [(h0, .inr (1, [.ref hM, .ref hV, .int wd, .int hg, .int wv])), (hM, .inr (0, [.int bd, .int sb, .int nd, .ref aS, .ref aC, .ref aG])), (aS, .inl (cI, 5, .inl S0)), (aC, .inl (cI, 5, .inl Cr)), (aG, .inl (cI, 5, .inl G0)), (hV, .inr (0, [.int bd2, .int sb2, .int nd2, .ref bS, .ref bC, .ref bG])), (bS, .inl (cI, 5, .inl S2)), (bC, .inl (cI, 5, .inl Cr2)), (bG, .inl (cI, 5, .inl G2))]) (fun (r : Int64) (_ : Unit) => r = pMc d0 S0 sb G0 z0) := by
  intro sz
  refine Met.ofW (cc := cX1_mixCell) (maxL := 6) (ret := (some .long)) (by decide) rfl ?_
  intro p e s m args below meth c s₁ B hml hv
  obtain ⟨ha, hsz, hP, hK, hD0, hN⟩ := hv
  have hx := B.exec
  have hb := B.bytes
  have hr := B.returns
  have hts := atoms_spec (ws := wsX1_mixCell) B.pre
  have hown : s.vm.findClass RX1 = some m.cls := findClass_of_methodNamed B.named
  have hlocks := B.notSynchronized
  subst hsz
  have hD := hD0.self (sz := s.heap.size)
  generalize hAe : va_A [(h0, .inr (1, [.ref hM, .ref hV, .int wd, .int hg, .int wv])), (hM, .inr (0, [.int bd, .int sb, .int nd, .ref aS, .ref aC, .ref aG])), (aS, .inl (cI, 5, .inl S0)), (aC, .inl (cI, 5, .inl Cr)), (aG, .inl (cI, 5, .inl G0)), (hV, .inr (0, [.int bd2, .int sb2, .int nd2, .ref bS, .ref bC, .ref bG])), (bS, .inl (cI, 5, .inl S2)), (bC, .inl (cI, 5, .inl Cr2)), (bG, .inl (cI, 5, .inl G2))] s.heap.size = A at hD ⊢
  have hA : ∀ q : Nat, s.heap.size ≤ q → A q := fun q h => by rw [← hAe]; exact Or.inr h
  have hS : va_S A s.heap s.heap [] := va_S.rf
  generalize hQ : MQ below (va_Ql (fun (r : Int64) (_ : Unit) => r = pMc d0 S0 sb G0 z0) (fun u t => va_P (dC, dI) vwCl ((fun (_ : Unit) => [(h0, .inr (1, [.ref hM, .ref hV, .int wd, .int hg, .int wv])), (hM, .inr (0, [.int bd, .int sb, .int nd, .ref aS, .ref aC, .ref aG])), (aS, .inl (cI, 5, .inl S0)), (aC, .inl (cI, 5, .inl Cr)), (aG, .inl (cI, 5, .inl G0)), (hV, .inr (0, [.int bd2, .int sb2, .int nd2, .ref bS, .ref bC, .ref bG])), (bS, .inl (cI, 5, .inl S2)), (bC, .inl (cI, 5, .inl Cr2)), (bG, .inl (cI, 5, .inl G2))]) u) t.heap) A) args s 0 0 A = Q
  have F9 : CallFix p m c cX1_mixCell 6 s args wsX1_mixCell RX1 := ⟨hx, hb, hml, hown, hts⟩
  refine z_entry (R := rmX1_mixCell) ha (Nat.le_of_ble_eq_true rfl) (fun ls hl => ?_)
  have hl : lv_has ls 6 [(0, .ref h0), (1, .long d0), (3, .int z0)] := hl
  refine lv_lload_n hx hb dX1_mixCell_0 rfl (lv_at hl 1 rfl) ?_
  refine lv_aload_n hx hb dX1_mixCell_1 rfl (lv_at hl 0 rfl) ?_
  refine va_get (D := (dC, dI)) (ci := 1) (v := .ref hM) (C := RX1) (T := TX1) (N := 5) hx hb hts iX1_mixCell_X1 hown hK hP 0 rfl rfl 0 (by decide) (hts (.fieldLink RX1 12 "ColourTide" "map" "LColourTide$Tide;") (List.mem_of_getElem? (i := 1) rfl)) (fun _ h9 => h9) rfl dX1_mixCell_2 ?_
  refine lv_iload_n hx hb dX1_mixCell_5 rfl (lv_at hl 2 rfl) ?_
  refine z_callVi (As := [.int z0]) (rest := [.long d0]) F9 (m_X0_colourOf l dC dI cI cZ cJ cD hM aS aC aG bd sb nd S0 Cr G0 z0 ) (cwV 1 hts gX1_mixCell_X0_colourOf rfl rfl rfl (by decide +kernel) ⟨Nat.le_of_ble_eq_true rfl, Nat.le_of_ble_eq_true rfl⟩) hK hN hP hD hS hA [1, 2, 3, 4] rfl rfl (fun _ => rfl) 1 (ci := 0) rfl rfl rfl rfl hl.1 rfl (Nat.le_of_ble_eq_true rfl) dX1_mixCell_6 ⟨Nat.zero_le _, Nat.zero_le _⟩ (fun r_1 u H locs hp_6 hP hD hS => ?_)
  have hP : va_P (dC, dI) vwCl [(h0, .inr (1, [.ref hM, .ref hV, .int wd, .int hg, .int wv])), (hM, .inr (0, [.int bd, .int sb, .int nd, .ref aS, .ref aC, .ref aG])), (aS, .inl (cI, 5, .inl S0)), (aC, .inl (cI, 5, .inl Cr)), (aG, .inl (cI, 5, .inl G0)), (hV, .inr (0, [.int bd2, .int sb2, .int nd2, .ref bS, .ref bC, .ref bG])), (bS, .inl (cI, 5, .inl S2)), (bC, .inl (cI, 5, .inl Cr2)), (bG, .inl (cI, 5, .inl G2))] H := hP
  have hD : va_D A [(h0, .inr (1, [.ref hM, .ref hV, .int wd, .int hg, .int wv])), (hM, .inr (0, [.int bd, .int sb, .int nd, .ref aS, .ref aC, .ref aG])), (aS, .inl (cI, 5, .inl S0)), (aC, .inl (cI, 5, .inl Cr)), (aG, .inl (cI, 5, .inl G0)), (hV, .inr (0, [.int bd2, .int sb2, .int nd2, .ref bS, .ref bC, .ref bG])), (bS, .inl (cI, 5, .inl S2)), (bC, .inl (cI, 5, .inl Cr2)), (bG, .inl (cI, 5, .inl G2))] := hD
  have hp_6 : r_1 = pFirst S0 z0 := hp_6
  refine z_topi (y := pFirst S0 z0) hp_6 ?_
  refine z_callSl (As := [.long d0, .int (pFirst S0 z0)]) (rest := []) F9 (m_X1_mix l dC dI cI cZ cJ cD d0 (pFirst S0 z0) ) (va_cwS 2 hts gX1_mixCell_X1_mix rfl rfl rfl (by decide +kernel) ⟨Nat.le_of_ble_eq_true rfl, Nat.le_of_ble_eq_true rfl⟩) hK hN hP hD hS hA rfl hl.1 rfl (Nat.le_of_ble_eq_true rfl) dX1_mixCell_9 ⟨Nat.zero_le _, Nat.zero_le _⟩ (fun r_2 H locs hp_9 hP hS => ?_)
  have hp_9 : r_2 = pm d0 (pFirst S0 z0) := hp_9
  refine z_topl (y := pm d0 (pFirst S0 z0)) hp_9 ?_
  refine lv_lstore (lv' := [(4, .long (pm d0 (pFirst S0 z0))), (0, .ref h0), (1, .long d0), (3, .int z0)]) hx hb dX1_mixCell_12 hl (by decide) rfl (fun ls hl => ?_)
  refine lv_lload hx hb dX1_mixCell_14 (lv_at hl 0 rfl) ?_
  refine lv_aload_n hx hb dX1_mixCell_16 rfl (lv_at hl 1 rfl) ?_
  refine va_get (D := (dC, dI)) (ci := 1) (v := .ref hM) (C := RX1) (T := TX1) (N := 5) hx hb hts iX1_mixCell_X1 hown hK hP 0 rfl rfl 0 (by decide) (hts (.fieldLink RX1 12 "ColourTide" "map" "LColourTide$Tide;") (List.mem_of_getElem? (i := 1) rfl)) (fun _ h9 => h9) rfl dX1_mixCell_17 ?_
  refine va_get (D := (dC, dI)) (ci := 0) (v := .int sb) (C := RX0) (T := TX0) (N := 6) hx hb hts iX1_mixCell_X0 hown hK hP 1 rfl rfl 1 (by decide) (hts (.fieldLink RX1 69 "ColourTide$Tide" "stubborn" "I") (List.mem_of_getElem? (i := 2) rfl)) (fun _ h9 => h9) rfl dX1_mixCell_20 ?_
  refine lv_iload_n hx hb dX1_mixCell_23 rfl (lv_at hl 3 rfl) ?_
  refine lv_iand hx hb dX1_mixCell_24 ?_
  suffices j_33 : ∀ v_33 : Int32, v_33 = (if sb &&& z0 = 0 then 0 else 1) → W p l e rmX1_mixCell s m args below meth c H locs 0 0 Q (F0 m 33 ls [.int v_33, .long (pm d0 (pFirst S0 z0))]) by
    refine lv_if_eq (tgt := 32) hx hb dX1_mixCell_25 (by decide) (fun c_25 => ?_) (fun c_25 => ?_)
    · skip
      refine lv_iconst (v := 0) hx hb dX1_mixCell_32 (by decide) ?_
      exact j_33 _ (by rw [if_pos c_25])
    · skip
      refine lv_iconst (v := 1) hx hb dX1_mixCell_28 (by decide) ?_
      refine lv_goto (tgt := 33) hx hb dX1_mixCell_29 (by decide) ?_
      exact j_33 _ (by rw [if_neg c_25])
  intro v_33 h_v_33
  refine z_callSl (As := [.long (pm d0 (pFirst S0 z0)), .int v_33]) (rest := []) F9 (m_X1_mix l dC dI cI cZ cJ cD (pm d0 (pFirst S0 z0)) v_33 ) (va_cwS 2 hts gX1_mixCell_X1_mix rfl rfl rfl (by decide +kernel) ⟨Nat.le_of_ble_eq_true rfl, Nat.le_of_ble_eq_true rfl⟩) hK hN hP hD hS hA rfl hl.1 rfl (Nat.le_of_ble_eq_true rfl) dX1_mixCell_33 ⟨Nat.zero_le _, Nat.zero_le _⟩ (fun r_3 H locs hp_33 hP hS => ?_)
  have hp_33 : r_3 = pm (pm d0 (pFirst S0 z0)) v_33 := hp_33
  refine z_topl (y := pm (pm d0 (pFirst S0 z0)) v_33) hp_33 ?_
  refine z_topl (y := pm (pm d0 (pFirst S0 z0)) (if sb &&& z0 = 0 then 0 else 1)) (by rw [h_v_33]) ?_
  refine lv_lstore (lv' := [(4, .long (pm (pm d0 (pFirst S0 z0)) (if sb &&& z0 = 0 then 0 else 1))), (0, .ref h0), (1, .long d0), (3, .int z0)]) hx hb dX1_mixCell_36 hl (by decide) rfl (fun ls hl => ?_)
  refine lv_lload hx hb dX1_mixCell_38 (lv_at hl 0 rfl) ?_
  refine lv_aload_n hx hb dX1_mixCell_40 rfl (lv_at hl 1 rfl) ?_
  refine va_get (D := (dC, dI)) (ci := 1) (v := .ref hM) (C := RX1) (T := TX1) (N := 5) hx hb hts iX1_mixCell_X1 hown hK hP 0 rfl rfl 0 (by decide) (hts (.fieldLink RX1 12 "ColourTide" "map" "LColourTide$Tide;") (List.mem_of_getElem? (i := 1) rfl)) (fun _ h9 => h9) rfl dX1_mixCell_41 ?_
  refine lv_iload_n hx hb dX1_mixCell_44 rfl (lv_at hl 3 rfl) ?_
  refine z_callVi (As := [.int z0]) (rest := [.long (pm (pm d0 (pFirst S0 z0)) (if sb &&& z0 = 0 then 0 else 1))]) F9 (m_X0_foreseenColourOf l dC dI cI cZ cJ cD hM aS aC aG bd sb nd S0 Cr G0 z0 ) (cwV 1 hts gX1_mixCell_X0_foreseenColourOf rfl rfl rfl (by decide +kernel) ⟨Nat.le_of_ble_eq_true rfl, Nat.le_of_ble_eq_true rfl⟩) hK hN hP hD hS hA [1, 2, 3, 4] rfl rfl (fun _ => rfl) 1 (ci := 0) rfl rfl rfl rfl hl.1 rfl (Nat.le_of_ble_eq_true rfl) dX1_mixCell_45 ⟨Nat.zero_le _, Nat.zero_le _⟩ (fun r_4 u H locs hp_45 hP hD hS => ?_)
  have hP : va_P (dC, dI) vwCl [(h0, .inr (1, [.ref hM, .ref hV, .int wd, .int hg, .int wv])), (hM, .inr (0, [.int bd, .int sb, .int nd, .ref aS, .ref aC, .ref aG])), (aS, .inl (cI, 5, .inl S0)), (aC, .inl (cI, 5, .inl Cr)), (aG, .inl (cI, 5, .inl G0)), (hV, .inr (0, [.int bd2, .int sb2, .int nd2, .ref bS, .ref bC, .ref bG])), (bS, .inl (cI, 5, .inl S2)), (bC, .inl (cI, 5, .inl Cr2)), (bG, .inl (cI, 5, .inl G2))] H := hP
  have hD : va_D A [(h0, .inr (1, [.ref hM, .ref hV, .int wd, .int hg, .int wv])), (hM, .inr (0, [.int bd, .int sb, .int nd, .ref aS, .ref aC, .ref aG])), (aS, .inl (cI, 5, .inl S0)), (aC, .inl (cI, 5, .inl Cr)), (aG, .inl (cI, 5, .inl G0)), (hV, .inr (0, [.int bd2, .int sb2, .int nd2, .ref bS, .ref bC, .ref bG])), (bS, .inl (cI, 5, .inl S2)), (bC, .inl (cI, 5, .inl Cr2)), (bG, .inl (cI, 5, .inl G2))] := hD
  have hp_45 : r_4 = pFore S0 G0 z0 := hp_45
  refine z_topi (y := pFore S0 G0 z0) hp_45 ?_
  refine z_callSl (As := [.long (pm (pm d0 (pFirst S0 z0)) (if sb &&& z0 = 0 then 0 else 1)), .int (pFore S0 G0 z0)]) (rest := []) F9 (m_X1_mix l dC dI cI cZ cJ cD (pm (pm d0 (pFirst S0 z0)) (if sb &&& z0 = 0 then 0 else 1)) (pFore S0 G0 z0) ) (va_cwS 2 hts gX1_mixCell_X1_mix rfl rfl rfl (by decide +kernel) ⟨Nat.le_of_ble_eq_true rfl, Nat.le_of_ble_eq_true rfl⟩) hK hN hP hD hS hA rfl hl.1 rfl (Nat.le_of_ble_eq_true rfl) dX1_mixCell_48 ⟨Nat.zero_le _, Nat.zero_le _⟩ (fun r_5 H locs hp_48 hP hS => ?_)
  have hp_48 : r_5 = pm (pm (pm d0 (pFirst S0 z0)) (if sb &&& z0 = 0 then 0 else 1)) (pFore S0 G0 z0) := hp_48
  refine z_topl (y := pm (pm (pm d0 (pFirst S0 z0)) (if sb &&& z0 = 0 then 0 else 1)) (pFore S0 G0 z0)) hp_48 ?_
  refine lv_lstore (lv' := [(4, .long (pm (pm (pm d0 (pFirst S0 z0)) (if sb &&& z0 = 0 then 0 else 1)) (pFore S0 G0 z0))), (0, .ref h0), (1, .long d0), (3, .int z0)]) hx hb dX1_mixCell_51 hl (by decide) rfl (fun ls hl => ?_)
  refine lv_lload hx hb dX1_mixCell_53 (lv_at hl 0 rfl) ?_
  refine lv_aload_n hx hb dX1_mixCell_55 rfl (lv_at hl 1 rfl) ?_
  refine va_get (D := (dC, dI)) (ci := 1) (v := .ref hM) (C := RX1) (T := TX1) (N := 5) hx hb hts iX1_mixCell_X1 hown hK hP 0 rfl rfl 0 (by decide) (hts (.fieldLink RX1 12 "ColourTide" "map" "LColourTide$Tide;") (List.mem_of_getElem? (i := 1) rfl)) (fun _ h9 => h9) rfl dX1_mixCell_56 ?_
  refine lv_iload_n hx hb dX1_mixCell_59 rfl (lv_at hl 3 rfl) ?_
  refine z_callVi (As := [.int z0]) (rest := [.long (pm (pm (pm d0 (pFirst S0 z0)) (if sb &&& z0 = 0 then 0 else 1)) (pFore S0 G0 z0))]) F9 (m_X0_sizeOfRegion l dC dI cI cZ cJ cD hM aS aC aG bd sb nd S0 Cr G0 z0 ) (cwV 1 hts gX1_mixCell_X0_sizeOfRegion rfl rfl rfl (by decide +kernel) ⟨Nat.le_of_ble_eq_true rfl, Nat.le_of_ble_eq_true rfl⟩) hK hN hP hD hS hA [1, 2, 3, 4] rfl rfl (fun _ => rfl) 1 (ci := 0) rfl rfl rfl rfl hl.1 rfl (Nat.le_of_ble_eq_true rfl) dX1_mixCell_60 ⟨Nat.zero_le _, Nat.zero_le _⟩ (fun r_6 u H locs hp_60 hP hD hS => ?_)
  have hP : va_P (dC, dI) vwCl [(h0, .inr (1, [.ref hM, .ref hV, .int wd, .int hg, .int wv])), (hM, .inr (0, [.int bd, .int sb, .int nd, .ref aS, .ref aC, .ref aG])), (aS, .inl (cI, 5, .inl S0)), (aC, .inl (cI, 5, .inl Cr)), (aG, .inl (cI, 5, .inl G0)), (hV, .inr (0, [.int bd2, .int sb2, .int nd2, .ref bS, .ref bC, .ref bG])), (bS, .inl (cI, 5, .inl S2)), (bC, .inl (cI, 5, .inl Cr2)), (bG, .inl (cI, 5, .inl G2))] H := hP
  have hD : va_D A [(h0, .inr (1, [.ref hM, .ref hV, .int wd, .int hg, .int wv])), (hM, .inr (0, [.int bd, .int sb, .int nd, .ref aS, .ref aC, .ref aG])), (aS, .inl (cI, 5, .inl S0)), (aC, .inl (cI, 5, .inl Cr)), (aG, .inl (cI, 5, .inl G0)), (hV, .inr (0, [.int bd2, .int sb2, .int nd2, .ref bS, .ref bC, .ref bG])), (bS, .inl (cI, 5, .inl S2)), (bC, .inl (cI, 5, .inl Cr2)), (bG, .inl (cI, 5, .inl G2))] := hD
  have hp_60 : r_6 = pSoR S0 z0 := hp_60
  refine z_topi (y := pSoR S0 z0) hp_60 ?_
  refine z_callSl (As := [.long (pm (pm (pm d0 (pFirst S0 z0)) (if sb &&& z0 = 0 then 0 else 1)) (pFore S0 G0 z0)), .int (pSoR S0 z0)]) (rest := []) F9 (m_X1_mix l dC dI cI cZ cJ cD (pm (pm (pm d0 (pFirst S0 z0)) (if sb &&& z0 = 0 then 0 else 1)) (pFore S0 G0 z0)) (pSoR S0 z0) ) (va_cwS 2 hts gX1_mixCell_X1_mix rfl rfl rfl (by decide +kernel) ⟨Nat.le_of_ble_eq_true rfl, Nat.le_of_ble_eq_true rfl⟩) hK hN hP hD hS hA rfl hl.1 rfl (Nat.le_of_ble_eq_true rfl) dX1_mixCell_63 ⟨Nat.zero_le _, Nat.zero_le _⟩ (fun r_7 H locs hp_63 hP hS => ?_)
  have hp_63 : r_7 = pm (pm (pm (pm d0 (pFirst S0 z0)) (if sb &&& z0 = 0 then 0 else 1)) (pFore S0 G0 z0)) (pSoR S0 z0) := hp_63
  refine z_topl (y := pm (pm (pm (pm d0 (pFirst S0 z0)) (if sb &&& z0 = 0 then 0 else 1)) (pFore S0 G0 z0)) (pSoR S0 z0)) hp_63 ?_
  rw [← hQ]
  exact z_lret (W1 := (fun (_ : Unit) => [(h0, .inr (1, [.ref hM, .ref hV, .int wd, .int hg, .int wv])), (hM, .inr (0, [.int bd, .int sb, .int nd, .ref aS, .ref aC, .ref aG])), (aS, .inl (cI, 5, .inl S0)), (aC, .inl (cI, 5, .inl Cr)), (aG, .inl (cI, 5, .inl G0)), (hV, .inr (0, [.int bd2, .int sb2, .int nd2, .ref bS, .ref bC, .ref bG])), (bS, .inl (cI, 5, .inl S2)), (bC, .inl (cI, 5, .inl Cr2)), (bG, .inl (cI, 5, .inl G2))])) hx hb hr hlocks hP hS () (rfl) (rfl) dX1_mixCell_66
abbrev rmX1_digestOfMap : Room := { frames := 4, cells := 0, slots := 0, locals := 91 }
set_option maxRecDepth 20000 in
theorem iX1_digestOfMap_X0 : ∀ w ∈ wsX00, w ∈ wsX1_digestOfMap := fun w h => (goodIn_r (big := wsX1_digestOfMap) wsX00 [83, 84, 85, 86, 87, 88] (by decide +kernel) (by decide +kernel) w h).1
set_option maxRecDepth 20000 in
theorem iX1_digestOfMap_X1 : ∀ w ∈ wsX10, w ∈ wsX1_digestOfMap := fun w h => (goodIn_r (big := wsX1_digestOfMap) wsX10 [78, 79, 80, 81, 82] (by decide +kernel) (by decide +kernel) w h).1
set_option maxHeartbeats 4000000 in
set_option maxRecDepth 100000 in
theorem m_X1_digestOfMap (l : Launch) (dC : Nat → ClassId) (dI : Nat → Nat → Nat) (cI cZ cJ cD : ClassId) (h0 : Nat) (hM : Nat) (aS : Nat) (aC : Nat) (aG : Nat) (hV : Nat) (bS : Nat) (bC : Nat) (bG : Nat) (wd : Int32) (hg : Int32) (wv : Int32) (bd : Int32) (sb : Int32) (nd : Int32) (S0 : Nat → Int32) (Cr : Nat → Int32) (G0 : Nat → Int32) (bd2 : Int32) (sb2 : Int32) (nd2 : Int32) (S2 : Nat → Int32) (Cr2 : Nat → Int32) (G2 : Nat → Int32) (q0 : Nat) (hq : 1 ≤ q0 ∧ q0 ≤ 4) (hnd : nd = nI q0) : zL l (dC, dI) (wT cI cZ cJ cD) yX1_digestOfMap wsX1_digestOfMap rmX1_digestOfMap [(h0, .inr (1, [.ref hM, .ref hV, .int wd, .int hg, .int wv])), (hM, .inr (0, [.int bd, .int sb, .int nd, .ref aS, .ref aC, .ref aG])), (aS, .inl (cI, 5, .inl S0)), (aC, .inl (cI, 5, .inl Cr)), (aG, .inl (cI, 5, .inl G0)), (hV, .inr (0, [.int bd2, .int sb2, .int nd2, .ref bS, .ref bC, .ref bG])), (bS, .inl (cI, 5, .inl S2)), (bC, .inl (cI, 5, .inl Cr2)), (bG, .inl (cI, 5, .inl G2))] [.ref h0] (fun (u : (Nat → Int32) × (Nat → Int32)) => [(h0, .inr (1, [.ref hM, .ref hV, .int wd, .int hg, .int wv])), (hM, .inr (0, [.int bd, .int sb, .int nd, .ref aS, .ref aC, .ref aG])), (aS, .inl (cI, 5, .inl S0)), (aC, .inl (cI, 5, .inl u.1)), (aG, .inl (cI, 5, .inl u.2)), (hV, .inr (0, [.int bd2, .int sb2, .int nd2, .ref bS, .ref bC, .ref bG])), (bS, .inl (cI, 5, .inl S2)), (bC, .inl (cI, 5, .inl Cr2)), (bG, .inl (cI, 5, .inl G2))]) (fun (r : Int64) (u : (Nat → Int32) × (Nat → Int32)) => r = pDm wd hg nd wv bd sb q0 S0) := by
  intro sz
  refine Met.ofW (cc := cX1_digestOfMap) (maxL := 3) (ret := (some .long)) (by decide) rfl ?_
  intro p e s m args below meth c s₁ B hml hv
  obtain ⟨ha, hsz, hP, hK, hD0, hN⟩ := hv
  have hx := B.exec
  have hb := B.bytes
  have hr := B.returns
  have hts := atoms_spec (ws := wsX1_digestOfMap) B.pre
  have hown : s.vm.findClass RX1 = some m.cls := findClass_of_methodNamed B.named
  have hlocks := B.notSynchronized
  subst hsz
  have hD := hD0.self (sz := s.heap.size)
  generalize hAe : va_A [(h0, .inr (1, [.ref hM, .ref hV, .int wd, .int hg, .int wv])), (hM, .inr (0, [.int bd, .int sb, .int nd, .ref aS, .ref aC, .ref aG])), (aS, .inl (cI, 5, .inl S0)), (aC, .inl (cI, 5, .inl Cr)), (aG, .inl (cI, 5, .inl G0)), (hV, .inr (0, [.int bd2, .int sb2, .int nd2, .ref bS, .ref bC, .ref bG])), (bS, .inl (cI, 5, .inl S2)), (bC, .inl (cI, 5, .inl Cr2)), (bG, .inl (cI, 5, .inl G2))] s.heap.size = A at hD ⊢
  have hA : ∀ q : Nat, s.heap.size ≤ q → A q := fun q h => by rw [← hAe]; exact Or.inr h
  have hS : va_S A s.heap s.heap [] := va_S.rf
  generalize hQ : MQ below (va_Ql (fun (r : Int64) (u : (Nat → Int32) × (Nat → Int32)) => r = pDm wd hg nd wv bd sb q0 S0) (fun u t => va_P (dC, dI) vwCl ((fun (u : (Nat → Int32) × (Nat → Int32)) => [(h0, .inr (1, [.ref hM, .ref hV, .int wd, .int hg, .int wv])), (hM, .inr (0, [.int bd, .int sb, .int nd, .ref aS, .ref aC, .ref aG])), (aS, .inl (cI, 5, .inl S0)), (aC, .inl (cI, 5, .inl u.1)), (aG, .inl (cI, 5, .inl u.2)), (hV, .inr (0, [.int bd2, .int sb2, .int nd2, .ref bS, .ref bC, .ref bG])), (bS, .inl (cI, 5, .inl S2)), (bC, .inl (cI, 5, .inl Cr2)), (bG, .inl (cI, 5, .inl G2))]) u) t.heap) A) args s 0 0 A = Q
  have F9 : CallFix p m c cX1_digestOfMap 3 s args wsX1_digestOfMap RX1 := ⟨hx, hb, hml, hown, hts⟩
  refine z_entry (R := rmX1_digestOfMap) ha (Nat.le_of_ble_eq_true rfl) (fun ls hl => ?_)
  have hl : lv_has ls 3 [(0, .ref h0)] := hl
  refine lv_ldc2 hx hb hown (hts (.constantLong RX1 153 (1871)) (List.mem_of_getElem? (i := 1) rfl)) dX1_digestOfMap_0 ?_
  refine lv_lstore_n (lv' := [(1, .long 1871), (0, .ref h0)]) hx hb dX1_digestOfMap_3 rfl hl (by decide) rfl (fun ls hl => ?_)
  refine lv_lload_n hx hb dX1_digestOfMap_4 rfl (lv_at hl 0 rfl) ?_
  refine lv_aload_n hx hb dX1_digestOfMap_5 rfl (lv_at hl 1 rfl) ?_
  refine va_get (D := (dC, dI)) (ci := 1) (v := .int wd) (C := RX1) (T := TX1) (N := 5) hx hb hts iX1_digestOfMap_X1 hown hK hP 0 rfl rfl 2 (by decide) (hts (.fieldLink RX1 19 "ColourTide" "width" "I") (List.mem_of_getElem? (i := 2) rfl)) (fun _ h9 => h9) rfl dX1_digestOfMap_6 ?_
  refine z_callSl (As := [.long 1871, .int wd]) (rest := []) F9 (m_X1_mix l dC dI cI cZ cJ cD 1871 wd ) (va_cwS 2 hts gX1_digestOfMap_X1_mix rfl rfl rfl (by decide +kernel) ⟨Nat.le_of_ble_eq_true rfl, Nat.le_of_ble_eq_true rfl⟩) hK hN hP hD hS hA rfl hl.1 rfl (Nat.le_of_ble_eq_true rfl) dX1_digestOfMap_9 ⟨Nat.zero_le _, Nat.zero_le _⟩ (fun r_1 H locs hp_9 hP hS => ?_)
  have hp_9 : r_1 = pm 1871 wd := hp_9
  refine z_topl (y := pm 1871 wd) hp_9 ?_
  refine lv_lstore_n (lv' := [(1, .long (pm 1871 wd)), (0, .ref h0)]) hx hb dX1_digestOfMap_12 rfl hl (by decide) rfl (fun ls hl => ?_)
  refine lv_lload_n hx hb dX1_digestOfMap_13 rfl (lv_at hl 0 rfl) ?_
  refine lv_aload_n hx hb dX1_digestOfMap_14 rfl (lv_at hl 1 rfl) ?_
  refine va_get (D := (dC, dI)) (ci := 1) (v := .int hg) (C := RX1) (T := TX1) (N := 5) hx hb hts iX1_digestOfMap_X1 hown hK hP 0 rfl rfl 3 (by decide) (hts (.fieldLink RX1 23 "ColourTide" "height" "I") (List.mem_of_getElem? (i := 3) rfl)) (fun _ h9 => h9) rfl dX1_digestOfMap_15 ?_
  refine z_callSl (As := [.long (pm 1871 wd), .int hg]) (rest := []) F9 (m_X1_mix l dC dI cI cZ cJ cD (pm 1871 wd) hg ) (va_cwS 2 hts gX1_digestOfMap_X1_mix rfl rfl rfl (by decide +kernel) ⟨Nat.le_of_ble_eq_true rfl, Nat.le_of_ble_eq_true rfl⟩) hK hN hP hD hS hA rfl hl.1 rfl (Nat.le_of_ble_eq_true rfl) dX1_digestOfMap_18 ⟨Nat.zero_le _, Nat.zero_le _⟩ (fun r_2 H locs hp_18 hP hS => ?_)
  have hp_18 : r_2 = pm (pm 1871 wd) hg := hp_18
  refine z_topl (y := pm (pm 1871 wd) hg) hp_18 ?_
  refine lv_lstore_n (lv' := [(1, .long (pm (pm 1871 wd) hg)), (0, .ref h0)]) hx hb dX1_digestOfMap_21 rfl hl (by decide) rfl (fun ls hl => ?_)
  refine lv_lload_n hx hb dX1_digestOfMap_22 rfl (lv_at hl 0 rfl) ?_
  refine lv_aload_n hx hb dX1_digestOfMap_23 rfl (lv_at hl 1 rfl) ?_
  refine va_get (D := (dC, dI)) (ci := 1) (v := .ref hM) (C := RX1) (T := TX1) (N := 5) hx hb hts iX1_digestOfMap_X1 hown hK hP 0 rfl rfl 0 (by decide) (hts (.fieldLink RX1 12 "ColourTide" "map" "LColourTide$Tide;") (List.mem_of_getElem? (i := 4) rfl)) (fun _ h9 => h9) rfl dX1_digestOfMap_24 ?_
  refine va_get (D := (dC, dI)) (ci := 0) (v := .int nd) (C := RX0) (T := TX0) (N := 6) hx hb hts iX1_digestOfMap_X0 hown hK hP 1 rfl rfl 2 (by decide) (hts (.fieldLink RX1 74 "ColourTide$Tide" "need" "I") (List.mem_of_getElem? (i := 5) rfl)) (fun _ h9 => h9) rfl dX1_digestOfMap_27 ?_
  refine z_callSl (As := [.long (pm (pm 1871 wd) hg), .int nd]) (rest := []) F9 (m_X1_mix l dC dI cI cZ cJ cD (pm (pm 1871 wd) hg) nd ) (va_cwS 2 hts gX1_digestOfMap_X1_mix rfl rfl rfl (by decide +kernel) ⟨Nat.le_of_ble_eq_true rfl, Nat.le_of_ble_eq_true rfl⟩) hK hN hP hD hS hA rfl hl.1 rfl (Nat.le_of_ble_eq_true rfl) dX1_digestOfMap_30 ⟨Nat.zero_le _, Nat.zero_le _⟩ (fun r_3 H locs hp_30 hP hS => ?_)
  have hp_30 : r_3 = pm (pm (pm 1871 wd) hg) nd := hp_30
  refine z_topl (y := pm (pm (pm 1871 wd) hg) nd) hp_30 ?_
  refine lv_lstore_n (lv' := [(1, .long (pm (pm (pm 1871 wd) hg) nd)), (0, .ref h0)]) hx hb dX1_digestOfMap_33 rfl hl (by decide) rfl (fun ls hl => ?_)
  refine lv_lload_n hx hb dX1_digestOfMap_34 rfl (lv_at hl 0 rfl) ?_
  refine lv_aload_n hx hb dX1_digestOfMap_35 rfl (lv_at hl 1 rfl) ?_
  refine va_get (D := (dC, dI)) (ci := 1) (v := .int wv) (C := RX1) (T := TX1) (N := 5) hx hb hts iX1_digestOfMap_X1 hown hK hP 0 rfl rfl 4 (by decide) (hts (.fieldLink RX1 26 "ColourTide" "waves" "I") (List.mem_of_getElem? (i := 6) rfl)) (fun _ h9 => h9) rfl dX1_digestOfMap_36 ?_
  refine z_callSl (As := [.long (pm (pm (pm 1871 wd) hg) nd), .int wv]) (rest := []) F9 (m_X1_mix l dC dI cI cZ cJ cD (pm (pm (pm 1871 wd) hg) nd) wv ) (va_cwS 2 hts gX1_digestOfMap_X1_mix rfl rfl rfl (by decide +kernel) ⟨Nat.le_of_ble_eq_true rfl, Nat.le_of_ble_eq_true rfl⟩) hK hN hP hD hS hA rfl hl.1 rfl (Nat.le_of_ble_eq_true rfl) dX1_digestOfMap_39 ⟨Nat.zero_le _, Nat.zero_le _⟩ (fun r_4 H locs hp_39 hP hS => ?_)
  have hp_39 : r_4 = pm (pm (pm (pm 1871 wd) hg) nd) wv := hp_39
  refine z_topl (y := pm (pm (pm (pm 1871 wd) hg) nd) wv) hp_39 ?_
  refine lv_lstore_n (lv' := [(1, .long (pm (pm (pm (pm 1871 wd) hg) nd) wv)), (0, .ref h0)]) hx hb dX1_digestOfMap_42 rfl hl (by decide) rfl (fun ls hl => ?_)
  refine lv_lload_n hx hb dX1_digestOfMap_43 rfl (lv_at hl 0 rfl) ?_
  refine lv_aload_n hx hb dX1_digestOfMap_44 rfl (lv_at hl 1 rfl) ?_
  refine z_callVi (As := []) (rest := [.long (pm (pm (pm (pm 1871 wd) hg) nd) wv)]) F9 (m_X1_stubbornCells l dC dI cI cZ cJ cD h0 hM aS aC aG hV bS bC bG wd hg wv bd sb nd S0 Cr G0 bd2 sb2 nd2 S2 Cr2 G2 ) (cwV 0 hts gX1_digestOfMap_X1_stubbornCells rfl rfl rfl (by decide +kernel) ⟨Nat.le_of_ble_eq_true rfl, Nat.le_of_ble_eq_true rfl⟩) hK hN hP hD hS hA [0, 1, 2, 3, 4, 5, 6, 7, 8] rfl rfl (fun _ => rfl) 0 (ci := 1) rfl rfl rfl rfl hl.1 rfl (Nat.le_of_ble_eq_true rfl) dX1_digestOfMap_45 ⟨Nat.zero_le _, Nat.zero_le _⟩ (fun r_5 u H locs hp_45 hP hD hS => ?_)
  have hP : va_P (dC, dI) vwCl [(h0, .inr (1, [.ref hM, .ref hV, .int wd, .int hg, .int wv])), (hM, .inr (0, [.int bd, .int sb, .int nd, .ref aS, .ref aC, .ref aG])), (aS, .inl (cI, 5, .inl S0)), (aC, .inl (cI, 5, .inl Cr)), (aG, .inl (cI, 5, .inl G0)), (hV, .inr (0, [.int bd2, .int sb2, .int nd2, .ref bS, .ref bC, .ref bG])), (bS, .inl (cI, 5, .inl S2)), (bC, .inl (cI, 5, .inl Cr2)), (bG, .inl (cI, 5, .inl G2))] H := hP
  have hD : va_D A [(h0, .inr (1, [.ref hM, .ref hV, .int wd, .int hg, .int wv])), (hM, .inr (0, [.int bd, .int sb, .int nd, .ref aS, .ref aC, .ref aG])), (aS, .inl (cI, 5, .inl S0)), (aC, .inl (cI, 5, .inl Cr)), (aG, .inl (cI, 5, .inl G0)), (hV, .inr (0, [.int bd2, .int sb2, .int nd2, .ref bS, .ref bC, .ref bG])), (bS, .inl (cI, 5, .inl S2)), (bC, .inl (cI, 5, .inl Cr2)), (bG, .inl (cI, 5, .inl G2))] := hD
  have hp_45 : r_5 = pBC sb := hp_45
  refine z_topi (y := pBC sb) hp_45 ?_
  refine z_callSl (As := [.long (pm (pm (pm (pm 1871 wd) hg) nd) wv), .int (pBC sb)]) (rest := []) F9 (m_X1_mix l dC dI cI cZ cJ cD (pm (pm (pm (pm 1871 wd) hg) nd) wv) (pBC sb) ) (va_cwS 2 hts gX1_digestOfMap_X1_mix rfl rfl rfl (by decide +kernel) ⟨Nat.le_of_ble_eq_true rfl, Nat.le_of_ble_eq_true rfl⟩) hK hN hP hD hS hA rfl hl.1 rfl (Nat.le_of_ble_eq_true rfl) dX1_digestOfMap_48 ⟨Nat.zero_le _, Nat.zero_le _⟩ (fun r_6 H locs hp_48 hP hS => ?_)
  have hp_48 : r_6 = pm (pm (pm (pm (pm 1871 wd) hg) nd) wv) (pBC sb) := hp_48
  refine z_topl (y := pm (pm (pm (pm (pm 1871 wd) hg) nd) wv) (pBC sb)) hp_48 ?_
  refine lv_lstore_n (lv' := [(1, .long (pm (pm (pm (pm (pm 1871 wd) hg) nd) wv) (pBC sb))), (0, .ref h0)]) hx hb dX1_digestOfMap_51 rfl hl (by decide) rfl (fun ls hl => ?_)
  refine lv_lload_n hx hb dX1_digestOfMap_52 rfl (lv_at hl 0 rfl) ?_
  refine lv_aload_n hx hb dX1_digestOfMap_53 rfl (lv_at hl 1 rfl) ?_
  refine z_callVi (As := []) (rest := [.long (pm (pm (pm (pm (pm 1871 wd) hg) nd) wv) (pBC sb))]) F9 (m_X1_borders l dC dI cI cZ cJ cD h0 hM aS aC aG hV bS bC bG wd hg wv bd sb nd S0 Cr G0 bd2 sb2 nd2 S2 Cr2 G2 ) (cwV 0 hts gX1_digestOfMap_X1_borders rfl rfl rfl (by decide +kernel) ⟨Nat.le_of_ble_eq_true rfl, Nat.le_of_ble_eq_true rfl⟩) hK hN hP hD hS hA [0, 1, 2, 3, 4, 5, 6, 7, 8] rfl rfl (fun _ => rfl) 0 (ci := 1) rfl rfl rfl rfl hl.1 rfl (Nat.le_of_ble_eq_true rfl) dX1_digestOfMap_54 ⟨Nat.zero_le _, Nat.zero_le _⟩ (fun r_7 u H locs hp_54 hP hD hS => ?_)
  have hP : va_P (dC, dI) vwCl [(h0, .inr (1, [.ref hM, .ref hV, .int wd, .int hg, .int wv])), (hM, .inr (0, [.int bd, .int sb, .int nd, .ref aS, .ref aC, .ref aG])), (aS, .inl (cI, 5, .inl S0)), (aC, .inl (cI, 5, .inl Cr)), (aG, .inl (cI, 5, .inl G0)), (hV, .inr (0, [.int bd2, .int sb2, .int nd2, .ref bS, .ref bC, .ref bG])), (bS, .inl (cI, 5, .inl S2)), (bC, .inl (cI, 5, .inl Cr2)), (bG, .inl (cI, 5, .inl G2))] H := hP
  have hD : va_D A [(h0, .inr (1, [.ref hM, .ref hV, .int wd, .int hg, .int wv])), (hM, .inr (0, [.int bd, .int sb, .int nd, .ref aS, .ref aC, .ref aG])), (aS, .inl (cI, 5, .inl S0)), (aC, .inl (cI, 5, .inl Cr)), (aG, .inl (cI, 5, .inl G0)), (hV, .inr (0, [.int bd2, .int sb2, .int nd2, .ref bS, .ref bC, .ref bG])), (bS, .inl (cI, 5, .inl S2)), (bC, .inl (cI, 5, .inl Cr2)), (bG, .inl (cI, 5, .inl G2))] := hD
  have hp_54 : r_7 = pBo S0 bd 4 := hp_54
  refine z_topi (y := pBo S0 bd 4) hp_54 ?_
  refine z_callSl (As := [.long (pm (pm (pm (pm (pm 1871 wd) hg) nd) wv) (pBC sb)), .int (pBo S0 bd 4)]) (rest := []) F9 (m_X1_mix l dC dI cI cZ cJ cD (pm (pm (pm (pm (pm 1871 wd) hg) nd) wv) (pBC sb)) (pBo S0 bd 4) ) (va_cwS 2 hts gX1_digestOfMap_X1_mix rfl rfl rfl (by decide +kernel) ⟨Nat.le_of_ble_eq_true rfl, Nat.le_of_ble_eq_true rfl⟩) hK hN hP hD hS hA rfl hl.1 rfl (Nat.le_of_ble_eq_true rfl) dX1_digestOfMap_57 ⟨Nat.zero_le _, Nat.zero_le _⟩ (fun r_8 H locs hp_57 hP hS => ?_)
  have hp_57 : r_8 = pm (pm (pm (pm (pm (pm 1871 wd) hg) nd) wv) (pBC sb)) (pBo S0 bd 4) := hp_57
  refine z_topl (y := pm (pm (pm (pm (pm (pm 1871 wd) hg) nd) wv) (pBC sb)) (pBo S0 bd 4)) hp_57 ?_
  refine lv_lstore_n (lv' := [(1, .long (pm (pm (pm (pm (pm (pm 1871 wd) hg) nd) wv) (pBC sb)) (pBo S0 bd 4))), (0, .ref h0)]) hx hb dX1_digestOfMap_60 rfl hl (by decide) rfl (fun ls hl => ?_)
  refine lv_lload_n hx hb dX1_digestOfMap_61 rfl (lv_at hl 0 rfl) ?_
  refine lv_aload_n hx hb dX1_digestOfMap_62 rfl (lv_at hl 1 rfl) ?_
  refine z_callVi (As := []) (rest := [.long (pm (pm (pm (pm (pm (pm 1871 wd) hg) nd) wv) (pBC sb)) (pBo S0 bd 4))]) F9 (m_X1_leader l dC dI cI cZ cJ cD h0 hM aS aC aG hV bS bC bG wd hg wv bd sb nd S0 Cr G0 bd2 sb2 nd2 S2 Cr2 G2 ) (cwV 0 hts gX1_digestOfMap_X1_leader rfl rfl rfl (by decide +kernel) ⟨Nat.le_of_ble_eq_true rfl, Nat.le_of_ble_eq_true rfl⟩) hK hN hP hD hS hA [0, 1, 2, 3, 4, 5, 6, 7, 8] rfl rfl (fun _ => rfl) 0 (ci := 1) rfl rfl rfl rfl hl.1 rfl (Nat.le_of_ble_eq_true rfl) dX1_digestOfMap_63 ⟨Nat.zero_le _, Nat.zero_le _⟩ (fun r_9 u H locs hp_63 hP hD hS => ?_)
  have hP : va_P (dC, dI) vwCl [(h0, .inr (1, [.ref hM, .ref hV, .int wd, .int hg, .int wv])), (hM, .inr (0, [.int bd, .int sb, .int nd, .ref aS, .ref aC, .ref aG])), (aS, .inl (cI, 5, .inl S0)), (aC, .inl (cI, 5, .inl Cr)), (aG, .inl (cI, 5, .inl G0)), (hV, .inr (0, [.int bd2, .int sb2, .int nd2, .ref bS, .ref bC, .ref bG])), (bS, .inl (cI, 5, .inl S2)), (bC, .inl (cI, 5, .inl Cr2)), (bG, .inl (cI, 5, .inl G2))] H := hP
  have hD : va_D A [(h0, .inr (1, [.ref hM, .ref hV, .int wd, .int hg, .int wv])), (hM, .inr (0, [.int bd, .int sb, .int nd, .ref aS, .ref aC, .ref aG])), (aS, .inl (cI, 5, .inl S0)), (aC, .inl (cI, 5, .inl Cr)), (aG, .inl (cI, 5, .inl G0)), (hV, .inr (0, [.int bd2, .int sb2, .int nd2, .ref bS, .ref bC, .ref bG])), (bS, .inl (cI, 5, .inl S2)), (bC, .inl (cI, 5, .inl Cr2)), (bG, .inl (cI, 5, .inl G2))] := hD
  have hp_63 : r_9 = nI (pLb S0 4) := hp_63
  refine z_topi (y := nI (pLb S0 4)) hp_63 ?_
  refine z_callSl (As := [.long (pm (pm (pm (pm (pm (pm 1871 wd) hg) nd) wv) (pBC sb)) (pBo S0 bd 4)), .int (nI (pLb S0 4))]) (rest := []) F9 (m_X1_mix l dC dI cI cZ cJ cD (pm (pm (pm (pm (pm (pm 1871 wd) hg) nd) wv) (pBC sb)) (pBo S0 bd 4)) (nI (pLb S0 4)) ) (va_cwS 2 hts gX1_digestOfMap_X1_mix rfl rfl rfl (by decide +kernel) ⟨Nat.le_of_ble_eq_true rfl, Nat.le_of_ble_eq_true rfl⟩) hK hN hP hD hS hA rfl hl.1 rfl (Nat.le_of_ble_eq_true rfl) dX1_digestOfMap_66 ⟨Nat.zero_le _, Nat.zero_le _⟩ (fun r_10 H locs hp_66 hP hS => ?_)
  have hp_66 : r_10 = pm (pm (pm (pm (pm (pm (pm 1871 wd) hg) nd) wv) (pBC sb)) (pBo S0 bd 4)) (nI (pLb S0 4)) := hp_66
  refine z_topl (y := pm (pm (pm (pm (pm (pm (pm 1871 wd) hg) nd) wv) (pBC sb)) (pBo S0 bd 4)) (nI (pLb S0 4))) hp_66 ?_
  refine lv_lstore_n (lv' := [(1, .long (pm (pm (pm (pm (pm (pm (pm 1871 wd) hg) nd) wv) (pBC sb)) (pBo S0 bd 4)) (nI (pLb S0 4)))), (0, .ref h0)]) hx hb dX1_digestOfMap_69 rfl hl (by decide) rfl (fun ls hl => ?_)
  refine lv_lload_n hx hb dX1_digestOfMap_70 rfl (lv_at hl 0 rfl) ?_
  refine lv_aload_n hx hb dX1_digestOfMap_71 rfl (lv_at hl 1 rfl) ?_
  refine z_callVi (As := []) (rest := [.long (pm (pm (pm (pm (pm (pm (pm 1871 wd) hg) nd) wv) (pBC sb)) (pBo S0 bd 4)) (nI (pLb S0 4)))]) F9 (m_X1_isStill l dC dI cI cZ cJ cD h0 hM aS aC aG hV bS bC bG wd hg wv bd sb nd S0 Cr G0 bd2 sb2 nd2 S2 Cr2 G2 q0 (hq) (hnd)) (cwV 0 hts gX1_digestOfMap_X1_isStill rfl rfl rfl (by decide +kernel) ⟨Nat.le_of_ble_eq_true rfl, Nat.le_of_ble_eq_true rfl⟩) hK hN hP hD hS hA [0, 1, 2, 3, 4, 5, 6, 7, 8] rfl rfl (fun _ => rfl) 0 (ci := 1) rfl rfl rfl rfl hl.1 rfl (Nat.le_of_ble_eq_true rfl) dX1_digestOfMap_72 ⟨Nat.zero_le _, Nat.zero_le _⟩ (fun r_11 u H locs hp_72 hP hD hS => ?_)
  obtain ⟨Cru_12, Gu_13⟩ := u
  have hP : va_P (dC, dI) vwCl [(h0, .inr (1, [.ref hM, .ref hV, .int wd, .int hg, .int wv])), (hM, .inr (0, [.int bd, .int sb, .int nd, .ref aS, .ref aC, .ref aG])), (aS, .inl (cI, 5, .inl S0)), (aC, .inl (cI, 5, .inl Cru_12)), (aG, .inl (cI, 5, .inl Gu_13)), (hV, .inr (0, [.int bd2, .int sb2, .int nd2, .ref bS, .ref bC, .ref bG])), (bS, .inl (cI, 5, .inl S2)), (bC, .inl (cI, 5, .inl Cr2)), (bG, .inl (cI, 5, .inl G2))] H := hP
  have hD : va_D A [(h0, .inr (1, [.ref hM, .ref hV, .int wd, .int hg, .int wv])), (hM, .inr (0, [.int bd, .int sb, .int nd, .ref aS, .ref aC, .ref aG])), (aS, .inl (cI, 5, .inl S0)), (aC, .inl (cI, 5, .inl Cru_12)), (aG, .inl (cI, 5, .inl Gu_13)), (hV, .inr (0, [.int bd2, .int sb2, .int nd2, .ref bS, .ref bC, .ref bG])), (bS, .inl (cI, 5, .inl S2)), (bC, .inl (cI, 5, .inl Cr2)), (bG, .inl (cI, 5, .inl G2))] := hD
  have hp_72 : r_11 = if pC0 S0 bd sb q0 = 0 then 1 else 0 := hp_72
  refine z_topi (y := if pC0 S0 bd sb q0 = 0 then 1 else 0) hp_72 ?_
  suffices j_83 : ∀ v_83 : Int32, v_83 = (if pC0 S0 bd sb q0 = 0 then 1 else 0) → W p l e rmX1_digestOfMap s m args below meth c H locs 0 0 Q (F0 m 83 ls [.int v_83, .long (pm (pm (pm (pm (pm (pm (pm 1871 wd) hg) nd) wv) (pBC sb)) (pBo S0 bd 4)) (nI (pLb S0 4)))]) by
    refine lv_if_eq (tgt := 82) hx hb dX1_digestOfMap_75 (by decide) (fun c_75 => ?_) (fun c_75 => ?_)
    · skip
      refine lv_iconst (v := 0) hx hb dX1_digestOfMap_82 (by decide) ?_
      exact j_83 _ (by rw [if_neg (z_if0 c_75)])
    · skip
      refine lv_iconst (v := 1) hx hb dX1_digestOfMap_78 (by decide) ?_
      refine lv_goto (tgt := 83) hx hb dX1_digestOfMap_79 (by decide) ?_
      exact j_83 _ (by rw [if_pos (z_if1 c_75)])
  intro v_83 h_v_83
  refine z_callSl (As := [.long (pm (pm (pm (pm (pm (pm (pm 1871 wd) hg) nd) wv) (pBC sb)) (pBo S0 bd 4)) (nI (pLb S0 4))), .int v_83]) (rest := []) F9 (m_X1_mix l dC dI cI cZ cJ cD (pm (pm (pm (pm (pm (pm (pm 1871 wd) hg) nd) wv) (pBC sb)) (pBo S0 bd 4)) (nI (pLb S0 4))) v_83 ) (va_cwS 2 hts gX1_digestOfMap_X1_mix rfl rfl rfl (by decide +kernel) ⟨Nat.le_of_ble_eq_true rfl, Nat.le_of_ble_eq_true rfl⟩) hK hN hP hD hS hA rfl hl.1 rfl (Nat.le_of_ble_eq_true rfl) dX1_digestOfMap_83 ⟨Nat.zero_le _, Nat.zero_le _⟩ (fun r_14 H locs hp_83 hP hS => ?_)
  have hp_83 : r_14 = pm (pm (pm (pm (pm (pm (pm (pm 1871 wd) hg) nd) wv) (pBC sb)) (pBo S0 bd 4)) (nI (pLb S0 4))) v_83 := hp_83
  refine z_topl (y := pm (pm (pm (pm (pm (pm (pm (pm 1871 wd) hg) nd) wv) (pBC sb)) (pBo S0 bd 4)) (nI (pLb S0 4))) v_83) hp_83 ?_
  refine z_topl (y := (pm (pm (pm (pm (pm (pm (pm (pm 1871 wd) hg) nd) wv) (pBC sb)) (pBo S0 bd 4)) (nI (pLb S0 4))) (if pC0 S0 bd sb q0 = 0 then 1 else 0))) (by rw [h_v_83]) ?_
  refine lv_lstore_n (lv' := [(1, .long (pm (pm (pm (pm (pm (pm (pm (pm 1871 wd) hg) nd) wv) (pBC sb)) (pBo S0 bd 4)) (nI (pLb S0 4))) (if pC0 S0 bd sb q0 = 0 then 1 else 0))), (0, .ref h0)]) hx hb dX1_digestOfMap_86 rfl hl (by decide) rfl (fun ls hl => ?_)
  refine lv_lload_n hx hb dX1_digestOfMap_87 rfl (lv_at hl 0 rfl) ?_
  refine lv_aload_n hx hb dX1_digestOfMap_88 rfl (lv_at hl 1 rfl) ?_
  refine z_callVi (As := []) (rest := [.long (pm (pm (pm (pm (pm (pm (pm (pm 1871 wd) hg) nd) wv) (pBC sb)) (pBo S0 bd 4)) (nI (pLb S0 4))) (if pC0 S0 bd sb q0 = 0 then 1 else 0))]) F9 (m_X1_winner l dC dI cI cZ cJ cD h0 hM aS aC aG hV bS bC bG wd hg wv bd sb nd S0 Cru_12 Gu_13 bd2 sb2 nd2 S2 Cr2 G2 ) (cwV 0 hts gX1_digestOfMap_X1_winner rfl rfl rfl (by decide +kernel) ⟨Nat.le_of_ble_eq_true rfl, Nat.le_of_ble_eq_true rfl⟩) hK hN hP hD hS hA [0, 1, 2, 3, 4, 5, 6, 7, 8] rfl rfl (fun _ => rfl) 0 (ci := 1) rfl rfl rfl rfl hl.1 rfl (Nat.le_of_ble_eq_true rfl) dX1_digestOfMap_89 ⟨Nat.zero_le _, Nat.zero_le _⟩ (fun r_15 u H locs hp_89 hP hD hS => ?_)
  have hP : va_P (dC, dI) vwCl [(h0, .inr (1, [.ref hM, .ref hV, .int wd, .int hg, .int wv])), (hM, .inr (0, [.int bd, .int sb, .int nd, .ref aS, .ref aC, .ref aG])), (aS, .inl (cI, 5, .inl S0)), (aC, .inl (cI, 5, .inl Cru_12)), (aG, .inl (cI, 5, .inl Gu_13)), (hV, .inr (0, [.int bd2, .int sb2, .int nd2, .ref bS, .ref bC, .ref bG])), (bS, .inl (cI, 5, .inl S2)), (bC, .inl (cI, 5, .inl Cr2)), (bG, .inl (cI, 5, .inl G2))] H := hP
  have hD : va_D A [(h0, .inr (1, [.ref hM, .ref hV, .int wd, .int hg, .int wv])), (hM, .inr (0, [.int bd, .int sb, .int nd, .ref aS, .ref aC, .ref aG])), (aS, .inl (cI, 5, .inl S0)), (aC, .inl (cI, 5, .inl Cru_12)), (aG, .inl (cI, 5, .inl Gu_13)), (hV, .inr (0, [.int bd2, .int sb2, .int nd2, .ref bS, .ref bC, .ref bG])), (bS, .inl (cI, 5, .inl S2)), (bC, .inl (cI, 5, .inl Cr2)), (bG, .inl (cI, 5, .inl G2))] := hD
  have hp_89 : r_15 = pWr S0 bd := hp_89
  refine z_topi (y := pWr S0 bd) hp_89 ?_
  refine z_callSl (As := [.long (pm (pm (pm (pm (pm (pm (pm (pm 1871 wd) hg) nd) wv) (pBC sb)) (pBo S0 bd 4)) (nI (pLb S0 4))) (if pC0 S0 bd sb q0 = 0 then 1 else 0)), .int (pWr S0 bd)]) (rest := []) F9 (m_X1_mix l dC dI cI cZ cJ cD (pm (pm (pm (pm (pm (pm (pm (pm 1871 wd) hg) nd) wv) (pBC sb)) (pBo S0 bd 4)) (nI (pLb S0 4))) (if pC0 S0 bd sb q0 = 0 then 1 else 0)) (pWr S0 bd) ) (va_cwS 2 hts gX1_digestOfMap_X1_mix rfl rfl rfl (by decide +kernel) ⟨Nat.le_of_ble_eq_true rfl, Nat.le_of_ble_eq_true rfl⟩) hK hN hP hD hS hA rfl hl.1 rfl (Nat.le_of_ble_eq_true rfl) dX1_digestOfMap_92 ⟨Nat.zero_le _, Nat.zero_le _⟩ (fun r_16 H locs hp_92 hP hS => ?_)
  have hp_92 : r_16 = pm (pm (pm (pm (pm (pm (pm (pm (pm 1871 wd) hg) nd) wv) (pBC sb)) (pBo S0 bd 4)) (nI (pLb S0 4))) (if pC0 S0 bd sb q0 = 0 then 1 else 0)) (pWr S0 bd) := hp_92
  refine z_topl (y := pm (pm (pm (pm (pm (pm (pm (pm (pm 1871 wd) hg) nd) wv) (pBC sb)) (pBo S0 bd 4)) (nI (pLb S0 4))) (if pC0 S0 bd sb q0 = 0 then 1 else 0)) (pWr S0 bd)) hp_92 ?_
  rw [← hQ]
  exact z_lret (W1 := (fun (u : (Nat → Int32) × (Nat → Int32)) => [(h0, .inr (1, [.ref hM, .ref hV, .int wd, .int hg, .int wv])), (hM, .inr (0, [.int bd, .int sb, .int nd, .ref aS, .ref aC, .ref aG])), (aS, .inl (cI, 5, .inl S0)), (aC, .inl (cI, 5, .inl u.1)), (aG, .inl (cI, 5, .inl u.2)), (hV, .inr (0, [.int bd2, .int sb2, .int nd2, .ref bS, .ref bC, .ref bG])), (bS, .inl (cI, 5, .inl S2)), (bC, .inl (cI, 5, .inl Cr2)), (bG, .inl (cI, 5, .inl G2))])) hx hb hr hlocks hP hS (Cru_12, Gu_13) (rfl) (rfl) dX1_digestOfMap_95
abbrev rmX1_digest : Room := { frames := 5, cells := 0, slots := 0, locals := 113 }
set_option maxRecDepth 20000 in
theorem iX1_digest_X0 : ∀ w ∈ wsX00, w ∈ wsX1_digest := fun w h => (goodIn_r (big := wsX1_digest) wsX00 [127, 128, 129, 130, 131, 132] (by decide +kernel) (by decide +kernel) w h).1
set_option maxRecDepth 20000 in
theorem iX1_digest_X1 : ∀ w ∈ wsX10, w ∈ wsX1_digest := fun w h => (goodIn_r (big := wsX1_digest) wsX10 [122, 123, 124, 125, 126] (by decide +kernel) (by decide +kernel) w h).1
set_option maxHeartbeats 4000000 in
set_option maxRecDepth 100000 in
theorem m_X1_digest (l : Launch) (dC : Nat → ClassId) (dI : Nat → Nat → Nat) (cI cZ cJ cD : ClassId) (h0 : Nat) (hM : Nat) (aS : Nat) (aC : Nat) (aG : Nat) (hV : Nat) (bS : Nat) (bC : Nat) (bG : Nat) (wn : Nat) (hn : Nat) (wv : Int32) (bd : Int32) (sb : Int32) (nd : Int32) (S0 : Nat → Int32) (Cr : Nat → Int32) (G0 : Nat → Int32) (bd2 : Int32) (sb2 : Int32) (nd2 : Int32) (S2 : Nat → Int32) (Cr2 : Nat → Int32) (G2 : Nat → Int32) (q0 : Nat) (hq : 1 ≤ q0 ∧ q0 ≤ 4) (hnd : nd = nI q0) (hw : 2 ≤ wn ∧ wn ≤ 5) (hh : 2 ≤ hn ∧ hn ≤ 5) : zL l (dC, dI) (wT cI cZ cJ cD) yX1_digest wsX1_digest rmX1_digest [(h0, .inr (1, [.ref hM, .ref hV, .int (nI wn), .int (nI hn), .int wv])), (hM, .inr (0, [.int bd, .int sb, .int nd, .ref aS, .ref aC, .ref aG])), (aS, .inl (cI, 5, .inl S0)), (aC, .inl (cI, 5, .inl Cr)), (aG, .inl (cI, 5, .inl G0)), (hV, .inr (0, [.int bd2, .int sb2, .int nd2, .ref bS, .ref bC, .ref bG])), (bS, .inl (cI, 5, .inl S2)), (bC, .inl (cI, 5, .inl Cr2)), (bG, .inl (cI, 5, .inl G2))] [.ref h0] (fun (u : (Nat → Int32) × (Nat → Int32)) => [(h0, .inr (1, [.ref hM, .ref hV, .int (nI wn), .int (nI hn), .int wv])), (hM, .inr (0, [.int bd, .int sb, .int nd, .ref aS, .ref aC, .ref aG])), (aS, .inl (cI, 5, .inl S0)), (aC, .inl (cI, 5, .inl u.1)), (aG, .inl (cI, 5, .inl u.2)), (hV, .inr (0, [.int bd2, .int sb2, .int nd2, .ref bS, .ref bC, .ref bG])), (bS, .inl (cI, 5, .inl S2)), (bC, .inl (cI, 5, .inl Cr2)), (bG, .inl (cI, 5, .inl G2))]) (fun (r : Int64) (u : (Nat → Int32) × (Nat → Int32)) => r = pDi wn hn nd wv bd sb q0 S0) := by
  intro sz
  refine Met.ofW (cc := cX1_digest) (maxL := 5) (ret := (some .long)) (by decide) rfl ?_
  intro p e s m args below meth c s₁ B hml hv
  obtain ⟨ha, hsz, hP, hK, hD0, hN⟩ := hv
  have hx := B.exec
  have hb := B.bytes
  have hr := B.returns
  have hts := atoms_spec (ws := wsX1_digest) B.pre
  have hown : s.vm.findClass RX1 = some m.cls := findClass_of_methodNamed B.named
  have hlocks := B.notSynchronized
  subst hsz
  have hD := hD0.self (sz := s.heap.size)
  generalize hAe : va_A [(h0, .inr (1, [.ref hM, .ref hV, .int (nI wn), .int (nI hn), .int wv])), (hM, .inr (0, [.int bd, .int sb, .int nd, .ref aS, .ref aC, .ref aG])), (aS, .inl (cI, 5, .inl S0)), (aC, .inl (cI, 5, .inl Cr)), (aG, .inl (cI, 5, .inl G0)), (hV, .inr (0, [.int bd2, .int sb2, .int nd2, .ref bS, .ref bC, .ref bG])), (bS, .inl (cI, 5, .inl S2)), (bC, .inl (cI, 5, .inl Cr2)), (bG, .inl (cI, 5, .inl G2))] s.heap.size = A at hD ⊢
  have hA : ∀ q : Nat, s.heap.size ≤ q → A q := fun q h => by rw [← hAe]; exact Or.inr h
  have hS : va_S A s.heap s.heap [] := va_S.rf
  generalize hQ : MQ below (va_Ql (fun (r : Int64) (u : (Nat → Int32) × (Nat → Int32)) => r = pDi wn hn nd wv bd sb q0 S0) (fun u t => va_P (dC, dI) vwCl ((fun (u : (Nat → Int32) × (Nat → Int32)) => [(h0, .inr (1, [.ref hM, .ref hV, .int (nI wn), .int (nI hn), .int wv])), (hM, .inr (0, [.int bd, .int sb, .int nd, .ref aS, .ref aC, .ref aG])), (aS, .inl (cI, 5, .inl S0)), (aC, .inl (cI, 5, .inl u.1)), (aG, .inl (cI, 5, .inl u.2)), (hV, .inr (0, [.int bd2, .int sb2, .int nd2, .ref bS, .ref bC, .ref bG])), (bS, .inl (cI, 5, .inl S2)), (bC, .inl (cI, 5, .inl Cr2)), (bG, .inl (cI, 5, .inl G2))]) u) t.heap) A) args s 0 0 A = Q
  have F9 : CallFix p m c cX1_digest 5 s args wsX1_digest RX1 := ⟨hx, hb, hml, hown, hts⟩
  refine z_entry (R := rmX1_digest) ha (Nat.le_of_ble_eq_true rfl) (fun ls hl => ?_)
  have hl : lv_has ls 5 [(0, .ref h0)] := hl
  refine lv_aload_n hx hb dX1_digest_0 rfl (lv_at hl 0 rfl) ?_
  refine z_callVl (As := []) (rest := []) F9 (m_X1_digestOfMap l dC dI cI cZ cJ cD h0 hM aS aC aG hV bS bC bG (nI wn) (nI hn) wv bd sb nd S0 Cr G0 bd2 sb2 nd2 S2 Cr2 G2 q0 (hq) (hnd)) (cwV 0 hts gX1_digest_X1_digestOfMap rfl rfl rfl (by decide +kernel) ⟨Nat.le_of_ble_eq_true rfl, Nat.le_of_ble_eq_true rfl⟩) hK hN hP hD hS hA [0, 1, 2, 3, 4, 5, 6, 7, 8] rfl rfl (fun _ => rfl) 0 (ci := 1) rfl rfl rfl rfl hl.1 rfl (Nat.le_of_ble_eq_true rfl) dX1_digest_1 ⟨Nat.zero_le _, Nat.zero_le _⟩ (fun r_1 u H locs hp_1 hP hD hS => ?_)
  obtain ⟨Cru_2, Gu_3⟩ := u
  have hP : va_P (dC, dI) vwCl [(h0, .inr (1, [.ref hM, .ref hV, .int (nI wn), .int (nI hn), .int wv])), (hM, .inr (0, [.int bd, .int sb, .int nd, .ref aS, .ref aC, .ref aG])), (aS, .inl (cI, 5, .inl S0)), (aC, .inl (cI, 5, .inl Cru_2)), (aG, .inl (cI, 5, .inl Gu_3)), (hV, .inr (0, [.int bd2, .int sb2, .int nd2, .ref bS, .ref bC, .ref bG])), (bS, .inl (cI, 5, .inl S2)), (bC, .inl (cI, 5, .inl Cr2)), (bG, .inl (cI, 5, .inl G2))] H := hP
  have hD : va_D A [(h0, .inr (1, [.ref hM, .ref hV, .int (nI wn), .int (nI hn), .int wv])), (hM, .inr (0, [.int bd, .int sb, .int nd, .ref aS, .ref aC, .ref aG])), (aS, .inl (cI, 5, .inl S0)), (aC, .inl (cI, 5, .inl Cru_2)), (aG, .inl (cI, 5, .inl Gu_3)), (hV, .inr (0, [.int bd2, .int sb2, .int nd2, .ref bS, .ref bC, .ref bG])), (bS, .inl (cI, 5, .inl S2)), (bC, .inl (cI, 5, .inl Cr2)), (bG, .inl (cI, 5, .inl G2))] := hD
  have hp_1 : r_1 = pDm (nI wn) (nI hn) nd wv bd sb q0 S0 := hp_1
  refine z_topl (y := pDm (nI wn) (nI hn) nd wv bd sb q0 S0) hp_1 ?_
  refine lv_lstore_n (lv' := [(1, .long (pDm (nI wn) (nI hn) nd wv bd sb q0 S0)), (0, .ref h0)]) hx hb dX1_digest_4 rfl hl (by decide) rfl (fun ls hl => ?_)
  refine lv_iconst (v := 1) hx hb dX1_digest_5 (by decide) ?_
  refine lv_istore_n (lv' := [(3, .int 1), (1, .long (pDm (nI wn) (nI hn) nd wv bd sb q0 S0)), (0, .ref h0)]) hx hb dX1_digest_6 rfl hl (by decide) rfl (fun ls hl => ?_)
  have loop_7 : ∀ (n : Nat) (k : Nat) (Crk : Nat → Int32) (Gk : Nat → Int32) (hkn : k + n = 4) (H : Heap) (locs : List Loc) (ls : Array Slot) (hP : va_P (dC, dI) vwCl [(h0, .inr (1, [.ref hM, .ref hV, .int (nI wn), .int (nI hn), .int wv])), (hM, .inr (0, [.int bd, .int sb, .int nd, .ref aS, .ref aC, .ref aG])), (aS, .inl (cI, 5, .inl S0)), (aC, .inl (cI, 5, .inl Crk)), (aG, .inl (cI, 5, .inl Gk)), (hV, .inr (0, [.int bd2, .int sb2, .int nd2, .ref bS, .ref bC, .ref bG])), (bS, .inl (cI, 5, .inl S2)), (bC, .inl (cI, 5, .inl Cr2)), (bG, .inl (cI, 5, .inl G2))] H) (hD : va_D A [(h0, .inr (1, [.ref hM, .ref hV, .int (nI wn), .int (nI hn), .int wv])), (hM, .inr (0, [.int bd, .int sb, .int nd, .ref aS, .ref aC, .ref aG])), (aS, .inl (cI, 5, .inl S0)), (aC, .inl (cI, 5, .inl Crk)), (aG, .inl (cI, 5, .inl Gk)), (hV, .inr (0, [.int bd2, .int sb2, .int nd2, .ref bS, .ref bC, .ref bG])), (bS, .inl (cI, 5, .inl S2)), (bC, .inl (cI, 5, .inl Cr2)), (bG, .inl (cI, 5, .inl G2))]) (hS : va_S A s.heap H locs) (hl : lv_has ls 5 [(0, .ref h0), (1, .long (pDc (pDm (nI wn) (nI hn) nd wv bd sb q0 S0) S0 k)), (3, .int (nI (k + 1)))]), W p l e rmX1_digest s m args below meth c H locs 0 0 Q (F0 m 7 ls []) := by
    intro n
    induction n with
    | zero =>
      intro k Crk Gk hkn  H locs ls hP hD hS hl
      refine lv_iload_n hx hb dX1_digest_7 rfl (lv_at hl 2 rfl) ?_
      refine lv_iconst (v := 4) hx hb dX1_digest_8 (by decide) ?_
      refine lv_icmp_gt (tgt := 57) hx hb dX1_digest_9 (by decide) (fun c_9 => ?_) (fun c_9 => ?_)
      · skip
        have n_9 := zc_lt_t (a := 4) (b := (k + 1)) (by omega) (by omega) c_9
        refine lv_aload_n hx hb dX1_digest_57 rfl (lv_at hl 0 rfl) ?_
        refine va_get (D := (dC, dI)) (ci := 1) (v := .ref hM) (C := RX1) (T := TX1) (N := 5) hx hb hts iX1_digest_X1 hown hK hP 0 rfl rfl 0 (by decide) (hts (.fieldLink RX1 12 "ColourTide" "map" "LColourTide$Tide;") (List.mem_of_getElem? (i := 1) rfl)) (fun _ h9 => h9) rfl dX1_digest_58 ?_
        refine z_callVi (As := []) (rest := []) F9 (m_X0_foresee l dC dI cI cZ cJ cD hM aS aC aG bd sb nd S0 Crk Gk q0 (hq) (hnd)) (cwV 0 hts gX1_digest_X0_foresee rfl rfl rfl (by decide +kernel) ⟨Nat.le_of_ble_eq_true rfl, Nat.le_of_ble_eq_true rfl⟩) hK hN hP hD hS hA [1, 2, 3, 4] rfl rfl (fun _ => rfl) 1 (ci := 0) rfl rfl rfl rfl hl.1 rfl (Nat.le_of_ble_eq_true rfl) dX1_digest_61 ⟨Nat.zero_le _, Nat.zero_le _⟩ (fun r_4 u H locs hp_61 hP hD hS => ?_)
        have hP : va_P (dC, dI) vwCl [(h0, .inr (1, [.ref hM, .ref hV, .int (nI wn), .int (nI hn), .int wv])), (hM, .inr (0, [.int bd, .int sb, .int nd, .ref aS, .ref aC, .ref aG])), (aS, .inl (cI, 5, .inl S0)), (aC, .inl (cI, 5, .inl (pCs S0 q0 Crk (5 - q0)))), (aG, .inl (cI, 5, .inl (pGf S0 bd sb q0 Gk))), (hV, .inr (0, [.int bd2, .int sb2, .int nd2, .ref bS, .ref bC, .ref bG])), (bS, .inl (cI, 5, .inl S2)), (bC, .inl (cI, 5, .inl Cr2)), (bG, .inl (cI, 5, .inl G2))] H := hP
        have hD : va_D A [(h0, .inr (1, [.ref hM, .ref hV, .int (nI wn), .int (nI hn), .int wv])), (hM, .inr (0, [.int bd, .int sb, .int nd, .ref aS, .ref aC, .ref aG])), (aS, .inl (cI, 5, .inl S0)), (aC, .inl (cI, 5, .inl (pCs S0 q0 Crk (5 - q0)))), (aG, .inl (cI, 5, .inl (pGf S0 bd sb q0 Gk))), (hV, .inr (0, [.int bd2, .int sb2, .int nd2, .ref bS, .ref bC, .ref bG])), (bS, .inl (cI, 5, .inl S2)), (bC, .inl (cI, 5, .inl Cr2)), (bG, .inl (cI, 5, .inl G2))] := hD
        have hp_61 : r_4 = pC0 S0 bd sb q0 := hp_61
        refine z_topi (y := pC0 S0 bd sb q0) hp_61 ?_
        refine lv_pop hx hb dX1_digest_64 rfl ?_
        refine lv_iconst (v := 0) hx hb dX1_digest_65 (by decide) ?_
        refine lv_istore_n (lv' := [(3, .int 0), (0, .ref h0), (1, .long (pDc (pDm (nI wn) (nI hn) nd wv bd sb q0 S0) S0 k))]) hx hb dX1_digest_66 rfl hl (by decide) rfl (fun ls hl => ?_)
        have loop_67 : ∀ (n : Nat) (y : Nat) (hkn : y + n = hn) (H : Heap) (locs : List Loc) (ls : Array Slot) (hP : va_P (dC, dI) vwCl [(h0, .inr (1, [.ref hM, .ref hV, .int (nI wn), .int (nI hn), .int wv])), (hM, .inr (0, [.int bd, .int sb, .int nd, .ref aS, .ref aC, .ref aG])), (aS, .inl (cI, 5, .inl S0)), (aC, .inl (cI, 5, .inl (pCs S0 q0 Crk (5 - q0)))), (aG, .inl (cI, 5, .inl (pGf S0 bd sb q0 Gk))), (hV, .inr (0, [.int bd2, .int sb2, .int nd2, .ref bS, .ref bC, .ref bG])), (bS, .inl (cI, 5, .inl S2)), (bC, .inl (cI, 5, .inl Cr2)), (bG, .inl (cI, 5, .inl G2))] H) (hD : va_D A [(h0, .inr (1, [.ref hM, .ref hV, .int (nI wn), .int (nI hn), .int wv])), (hM, .inr (0, [.int bd, .int sb, .int nd, .ref aS, .ref aC, .ref aG])), (aS, .inl (cI, 5, .inl S0)), (aC, .inl (cI, 5, .inl (pCs S0 q0 Crk (5 - q0)))), (aG, .inl (cI, 5, .inl (pGf S0 bd sb q0 Gk))), (hV, .inr (0, [.int bd2, .int sb2, .int nd2, .ref bS, .ref bC, .ref bG])), (bS, .inl (cI, 5, .inl S2)), (bC, .inl (cI, 5, .inl Cr2)), (bG, .inl (cI, 5, .inl G2))]) (hS : va_S A s.heap H locs) (hl : lv_has ls 5 [(0, .ref h0), (1, .long (pDz (pDc (pDm (nI wn) (nI hn) nd wv bd sb q0 S0) S0 4) wn S0 sb (pG0 S0 bd sb q0) (wn * y))), (3, .int (nI y))]), W p l e rmX1_digest s m args below meth c H locs 0 0 Q (F0 m 67 ls []) := by
          intro n
          induction n with
          | zero =>
            intro y hkn  H locs ls hP hD hS hl
            refine lv_iload_n hx hb dX1_digest_67 rfl (lv_at hl 2 rfl) ?_
            refine lv_aload_n hx hb dX1_digest_68 rfl (lv_at hl 0 rfl) ?_
            refine va_get (D := (dC, dI)) (ci := 1) (v := .int (nI hn)) (C := RX1) (T := TX1) (N := 5) hx hb hts iX1_digest_X1 hown hK hP 0 rfl rfl 3 (by decide) (hts (.fieldLink RX1 23 "ColourTide" "height" "I") (List.mem_of_getElem? (i := 2) rfl)) (fun _ h9 => h9) rfl dX1_digest_69 ?_
            refine lv_icmp_ge (tgt := 111) hx hb dX1_digest_72 (by decide) (fun c_72 => ?_) (fun c_72 => ?_)
            · skip
              have n_72 := zc_le_t (a := hn) (b := y) (by omega) (by omega) c_72
              refine lv_lload_n hx hb dX1_digest_111 rfl (lv_at hl 1 rfl) ?_
              have hl9 := hl
              have hP9 := hP
              have hD9 := hD
              have hS9 := hS
              obtain rfl : hn = y := by omega
              have hl := hl9
              have hP := hP9
              have hD := hD9
              have hS := hS9
              rw [← hQ]
              exact z_lret (W1 := (fun (u : (Nat → Int32) × (Nat → Int32)) => [(h0, .inr (1, [.ref hM, .ref hV, .int (nI wn), .int (nI hn), .int wv])), (hM, .inr (0, [.int bd, .int sb, .int nd, .ref aS, .ref aC, .ref aG])), (aS, .inl (cI, 5, .inl S0)), (aC, .inl (cI, 5, .inl u.1)), (aG, .inl (cI, 5, .inl u.2)), (hV, .inr (0, [.int bd2, .int sb2, .int nd2, .ref bS, .ref bC, .ref bG])), (bS, .inl (cI, 5, .inl S2)), (bC, .inl (cI, 5, .inl Cr2)), (bG, .inl (cI, 5, .inl G2))])) hx hb hr hlocks hP hS ((pCs S0 q0 Crk (5 - q0)), (pGf S0 bd sb q0 Gk)) (rfl) (rfl) dX1_digest_112
            · skip
              have n_72 := zc_le_f (a := hn) (b := y) (by omega) (by omega) c_72
              exact absurd n_72 (by omega)
          | succ n ih_67 =>
            intro y hkn  H locs ls hP hD hS hl
            refine lv_iload_n hx hb dX1_digest_67 rfl (lv_at hl 2 rfl) ?_
            refine lv_aload_n hx hb dX1_digest_68 rfl (lv_at hl 0 rfl) ?_
            refine va_get (D := (dC, dI)) (ci := 1) (v := .int (nI hn)) (C := RX1) (T := TX1) (N := 5) hx hb hts iX1_digest_X1 hown hK hP 0 rfl rfl 3 (by decide) (hts (.fieldLink RX1 23 "ColourTide" "height" "I") (List.mem_of_getElem? (i := 2) rfl)) (fun _ h9 => h9) rfl dX1_digest_69 ?_
            refine lv_icmp_ge (tgt := 111) hx hb dX1_digest_72 (by decide) (fun c_72 => ?_) (fun c_72 => ?_)
            · skip
              have n_72 := zc_le_t (a := hn) (b := y) (by omega) (by omega) c_72
              exact absurd n_72 (by omega)
            · skip
              have n_72 := zc_le_f (a := hn) (b := y) (by omega) (by omega) c_72
              refine lv_iconst (v := 0) hx hb dX1_digest_75 (by decide) ?_
              refine lv_istore (lv' := [(4, .int 0), (0, .ref h0), (1, .long (pDz (pDc (pDm (nI wn) (nI hn) nd wv bd sb q0 S0) S0 4) wn S0 sb (pG0 S0 bd sb q0) (wn * y))), (3, .int (nI y))]) hx hb dX1_digest_76 hl (by decide) rfl (fun ls hl => ?_)
              have loop_78 : ∀ (n : Nat) (x : Nat) (hkn : x + n = wn) (H : Heap) (locs : List Loc) (ls : Array Slot) (hP : va_P (dC, dI) vwCl [(h0, .inr (1, [.ref hM, .ref hV, .int (nI wn), .int (nI hn), .int wv])), (hM, .inr (0, [.int bd, .int sb, .int nd, .ref aS, .ref aC, .ref aG])), (aS, .inl (cI, 5, .inl S0)), (aC, .inl (cI, 5, .inl (pCs S0 q0 Crk (5 - q0)))), (aG, .inl (cI, 5, .inl (pGf S0 bd sb q0 Gk))), (hV, .inr (0, [.int bd2, .int sb2, .int nd2, .ref bS, .ref bC, .ref bG])), (bS, .inl (cI, 5, .inl S2)), (bC, .inl (cI, 5, .inl Cr2)), (bG, .inl (cI, 5, .inl G2))] H) (hD : va_D A [(h0, .inr (1, [.ref hM, .ref hV, .int (nI wn), .int (nI hn), .int wv])), (hM, .inr (0, [.int bd, .int sb, .int nd, .ref aS, .ref aC, .ref aG])), (aS, .inl (cI, 5, .inl S0)), (aC, .inl (cI, 5, .inl (pCs S0 q0 Crk (5 - q0)))), (aG, .inl (cI, 5, .inl (pGf S0 bd sb q0 Gk))), (hV, .inr (0, [.int bd2, .int sb2, .int nd2, .ref bS, .ref bC, .ref bG])), (bS, .inl (cI, 5, .inl S2)), (bC, .inl (cI, 5, .inl Cr2)), (bG, .inl (cI, 5, .inl G2))]) (hS : va_S A s.heap H locs) (hl : lv_has ls 5 [(0, .ref h0), (1, .long (pDz (pDc (pDm (nI wn) (nI hn) nd wv bd sb q0 S0) S0 4) wn S0 sb (pG0 S0 bd sb q0) (wn * y + x))), (3, .int (nI y)), (4, .int (nI x))]), W p l e rmX1_digest s m args below meth c H locs 0 0 Q (F0 m 78 ls []) := by
                intro n
                induction n with
                | zero =>
                  intro x hkn  H locs ls hP hD hS hl
                  refine lv_iload hx hb dX1_digest_78 (lv_at hl 3 rfl) ?_
                  refine lv_aload_n hx hb dX1_digest_80 rfl (lv_at hl 0 rfl) ?_
                  refine va_get (D := (dC, dI)) (ci := 1) (v := .int (nI wn)) (C := RX1) (T := TX1) (N := 5) hx hb hts iX1_digest_X1 hown hK hP 0 rfl rfl 2 (by decide) (hts (.fieldLink RX1 19 "ColourTide" "width" "I") (List.mem_of_getElem? (i := 3) rfl)) (fun _ h9 => h9) rfl dX1_digest_81 ?_
                  refine lv_icmp_ge (tgt := 105) hx hb dX1_digest_84 (by decide) (fun c_84 => ?_) (fun c_84 => ?_)
                  · skip
                    have n_84 := zc_le_t (a := wn) (b := x) (by omega) (by omega) c_84
                    refine lv_iinc (v := nI (y + 1)) (lv' := [(3, .int (nI (y + 1))), (0, .ref h0), (1, .long (pDz (pDc (pDm (nI wn) (nI hn) nd wv bd sb q0 S0) S0 4) wn S0 sb (pG0 S0 bd sb q0) (wn * y + x))), (4, .int (nI x))]) hx hb dX1_digest_105 hl (k := 2) rfl (nI_1 y) (by decide) rfl (fun ls hl => ?_)
                    refine lv_goto (tgt := 67) hx hb dX1_digest_108 (by decide) ?_
                    have hl9 := hl
                    have hP9 := hP
                    have hD9 := hD
                    have hS9 := hS
                    obtain rfl : wn = x := by omega
                    have hl := hl9
                    have hP := hP9
                    have hD := hD9
                    have hS := hS9
                    exact ih_67 (y + 1) (by omega)  _ _ _ hP hD hS (lv_sub hl [1, 2, 0] rfl)
                  · skip
                    have n_84 := zc_le_f (a := wn) (b := x) (by omega) (by omega) c_84
                    exact absurd n_84 (by omega)
                | succ n ih_78 =>
                  intro x hkn  H locs ls hP hD hS hl
                  refine lv_iload hx hb dX1_digest_78 (lv_at hl 3 rfl) ?_
                  refine lv_aload_n hx hb dX1_digest_80 rfl (lv_at hl 0 rfl) ?_
                  refine va_get (D := (dC, dI)) (ci := 1) (v := .int (nI wn)) (C := RX1) (T := TX1) (N := 5) hx hb hts iX1_digest_X1 hown hK hP 0 rfl rfl 2 (by decide) (hts (.fieldLink RX1 19 "ColourTide" "width" "I") (List.mem_of_getElem? (i := 3) rfl)) (fun _ h9 => h9) rfl dX1_digest_81 ?_
                  refine lv_icmp_ge (tgt := 105) hx hb dX1_digest_84 (by decide) (fun c_84 => ?_) (fun c_84 => ?_)
                  · skip
                    have n_84 := zc_le_t (a := wn) (b := x) (by omega) (by omega) c_84
                    exact absurd n_84 (by omega)
                  · skip
                    have n_84 := zc_le_f (a := wn) (b := x) (by omega) (by omega) c_84
                    refine lv_aload_n hx hb dX1_digest_87 rfl (lv_at hl 0 rfl) ?_
                    refine lv_lload_n hx hb dX1_digest_88 rfl (lv_at hl 1 rfl) ?_
                    refine lv_iload hx hb dX1_digest_89 (lv_at hl 3 rfl) ?_
                    refine lv_iload_n hx hb dX1_digest_91 rfl (lv_at hl 2 rfl) ?_
                    refine z_callSi (As := [.int (nI x), .int (nI y)]) (rest := [.long (pDz (pDc (pDm (nI wn) (nI hn) nd wv bd sb q0 S0) S0 4) wn S0 sb (pG0 S0 bd sb q0) (wn * y + x)), .ref h0]) F9 (m_X1_cell l dC dI cI cZ cJ cD (nI x) (nI y) ) (va_cwS 2 hts gX1_digest_X1_cell rfl rfl rfl (by decide +kernel) ⟨Nat.le_of_ble_eq_true rfl, Nat.le_of_ble_eq_true rfl⟩) hK hN hP hD hS hA rfl hl.1 rfl (Nat.le_of_ble_eq_true rfl) dX1_digest_92 ⟨Nat.zero_le _, Nat.zero_le _⟩ (fun r_5 H locs hp_92 hP hS => ?_)
                    have hp_92 : r_5 = pCell (nI x) (nI y) := hp_92
                    refine z_topi (y := pCell (nI x) (nI y)) hp_92 ?_
                    refine z_callVl (As := [.long (pDz (pDc (pDm (nI wn) (nI hn) nd wv bd sb q0 S0) S0 4) wn S0 sb (pG0 S0 bd sb q0) (wn * y + x)), .int (pCell (nI x) (nI y))]) (rest := []) F9 (m_X1_mixCell l dC dI cI cZ cJ cD h0 hM aS aC aG hV bS bC bG (nI wn) (nI hn) wv bd sb nd S0 (pCs S0 q0 Crk (5 - q0)) (pGf S0 bd sb q0 Gk) bd2 sb2 nd2 S2 Cr2 G2 (pDz (pDc (pDm (nI wn) (nI hn) nd wv bd sb q0 S0) S0 4) wn S0 sb (pG0 S0 bd sb q0) (wn * y + x)) (pCell (nI x) (nI y)) ) (cwV 2 hts gX1_digest_X1_mixCell rfl rfl rfl (by decide +kernel) ⟨Nat.le_of_ble_eq_true rfl, Nat.le_of_ble_eq_true rfl⟩) hK hN hP hD hS hA [0, 1, 2, 3, 4, 5, 6, 7, 8] rfl rfl (fun _ => rfl) 0 (ci := 1) rfl rfl rfl rfl hl.1 rfl (Nat.le_of_ble_eq_true rfl) dX1_digest_95 ⟨Nat.zero_le _, Nat.zero_le _⟩ (fun r_6 u H locs hp_95 hP hD hS => ?_)
                    have hP : va_P (dC, dI) vwCl [(h0, .inr (1, [.ref hM, .ref hV, .int (nI wn), .int (nI hn), .int wv])), (hM, .inr (0, [.int bd, .int sb, .int nd, .ref aS, .ref aC, .ref aG])), (aS, .inl (cI, 5, .inl S0)), (aC, .inl (cI, 5, .inl (pCs S0 q0 Crk (5 - q0)))), (aG, .inl (cI, 5, .inl (pGf S0 bd sb q0 Gk))), (hV, .inr (0, [.int bd2, .int sb2, .int nd2, .ref bS, .ref bC, .ref bG])), (bS, .inl (cI, 5, .inl S2)), (bC, .inl (cI, 5, .inl Cr2)), (bG, .inl (cI, 5, .inl G2))] H := hP
                    have hD : va_D A [(h0, .inr (1, [.ref hM, .ref hV, .int (nI wn), .int (nI hn), .int wv])), (hM, .inr (0, [.int bd, .int sb, .int nd, .ref aS, .ref aC, .ref aG])), (aS, .inl (cI, 5, .inl S0)), (aC, .inl (cI, 5, .inl (pCs S0 q0 Crk (5 - q0)))), (aG, .inl (cI, 5, .inl (pGf S0 bd sb q0 Gk))), (hV, .inr (0, [.int bd2, .int sb2, .int nd2, .ref bS, .ref bC, .ref bG])), (bS, .inl (cI, 5, .inl S2)), (bC, .inl (cI, 5, .inl Cr2)), (bG, .inl (cI, 5, .inl G2))] := hD
                    have hp_95 : r_6 = pMc (pDz (pDc (pDm (nI wn) (nI hn) nd wv bd sb q0 S0) S0 4) wn S0 sb (pG0 S0 bd sb q0) (wn * y + x)) S0 sb (pGf S0 bd sb q0 Gk) (pCell (nI x) (nI y)) := hp_95
                    refine z_topl (y := pMc (pDz (pDc (pDm (nI wn) (nI hn) nd wv bd sb q0 S0) S0 4) wn S0 sb (pG0 S0 bd sb q0) (wn * y + x)) S0 sb (pGf S0 bd sb q0 Gk) (pCell (nI x) (nI y))) hp_95 ?_
                    refine z_topl (y := pDz (pDc (pDm (nI wn) (nI hn) nd wv bd sb q0 S0) S0 4) wn S0 sb (pG0 S0 bd sb q0) (wn * y + (x + 1))) (pDz_step y (by omega)) ?_
                    refine lv_lstore_n (lv' := [(1, .long (pDz (pDc (pDm (nI wn) (nI hn) nd wv bd sb q0 S0) S0 4) wn S0 sb (pG0 S0 bd sb q0) (wn * y + (x + 1)))), (0, .ref h0), (3, .int (nI y)), (4, .int (nI x))]) hx hb dX1_digest_98 rfl hl (by decide) rfl (fun ls hl => ?_)
                    refine lv_iinc (v := nI (x + 1)) (lv' := [(4, .int (nI (x + 1))), (1, .long (pDz (pDc (pDm (nI wn) (nI hn) nd wv bd sb q0 S0) S0 4) wn S0 sb (pG0 S0 bd sb q0) (wn * y + (x + 1)))), (0, .ref h0), (3, .int (nI y))]) hx hb dX1_digest_99 hl (k := 3) rfl (nI_1 x) (by decide) rfl (fun ls hl => ?_)
                    refine lv_goto (tgt := 78) hx hb dX1_digest_102 (by decide) ?_
                    exact ih_78 (x + 1) (by omega)  _ _ _ hP hD hS (lv_sub hl [2, 1, 3, 0] rfl)
              exact loop_78 wn 0 (by omega)  _ _ _ hP hD hS (lv_sub hl [1, 2, 3, 0] rfl)
        have hl9 := hl
        have hP9 := hP
        have hD9 := hD
        have hS9 := hS
        obtain rfl : k = 4 := by omega
        have hl := hl9
        have hP := hP9
        have hD := hD9
        have hS := hS9
        exact loop_67 hn 0 (by omega)  _ _ _ hP hD hS (lv_sub hl [1, 2, 0] rfl)
      · skip
        have n_9 := zc_lt_f (a := 4) (b := (k + 1)) (by omega) (by omega) c_9
        exact absurd n_9 (by omega)
    | succ n ih_7 =>
      intro k Crk Gk hkn  H locs ls hP hD hS hl
      refine lv_iload_n hx hb dX1_digest_7 rfl (lv_at hl 2 rfl) ?_
      refine lv_iconst (v := 4) hx hb dX1_digest_8 (by decide) ?_
      refine lv_icmp_gt (tgt := 57) hx hb dX1_digest_9 (by decide) (fun c_9 => ?_) (fun c_9 => ?_)
      · skip
        have n_9 := zc_lt_t (a := 4) (b := (k + 1)) (by omega) (by omega) c_9
        exact absurd n_9 (by omega)
      · skip
        have n_9 := zc_lt_f (a := 4) (b := (k + 1)) (by omega) (by omega) c_9
        refine lv_lload_n hx hb dX1_digest_12 rfl (lv_at hl 1 rfl) ?_
        refine lv_aload_n hx hb dX1_digest_13 rfl (lv_at hl 0 rfl) ?_
        refine va_get (D := (dC, dI)) (ci := 1) (v := .ref hM) (C := RX1) (T := TX1) (N := 5) hx hb hts iX1_digest_X1 hown hK hP 0 rfl rfl 0 (by decide) (hts (.fieldLink RX1 12 "ColourTide" "map" "LColourTide$Tide;") (List.mem_of_getElem? (i := 1) rfl)) (fun _ h9 => h9) rfl dX1_digest_14 ?_
        refine lv_iload_n hx hb dX1_digest_17 rfl (lv_at hl 2 rfl) ?_
        refine z_callVi (As := [.int (nI (k + 1))]) (rest := [.long (pDc (pDm (nI wn) (nI hn) nd wv bd sb q0 S0) S0 k)]) F9 (m_X0_count l dC dI cI cZ cJ cD hM aS aC aG bd sb nd S0 Crk Gk (nI (k + 1)) ) (cwV 1 hts gX1_digest_X0_count rfl rfl rfl (by decide +kernel) ⟨Nat.le_of_ble_eq_true rfl, Nat.le_of_ble_eq_true rfl⟩) hK hN hP hD hS hA [1, 2, 3, 4] rfl rfl (fun _ => rfl) 1 (ci := 0) rfl rfl rfl rfl hl.1 rfl (Nat.le_of_ble_eq_true rfl) dX1_digest_18 ⟨Nat.zero_le _, Nat.zero_le _⟩ (fun r_7 u H locs hp_18 hP hD hS => ?_)
        have hP : va_P (dC, dI) vwCl [(h0, .inr (1, [.ref hM, .ref hV, .int (nI wn), .int (nI hn), .int wv])), (hM, .inr (0, [.int bd, .int sb, .int nd, .ref aS, .ref aC, .ref aG])), (aS, .inl (cI, 5, .inl S0)), (aC, .inl (cI, 5, .inl Crk)), (aG, .inl (cI, 5, .inl Gk)), (hV, .inr (0, [.int bd2, .int sb2, .int nd2, .ref bS, .ref bC, .ref bG])), (bS, .inl (cI, 5, .inl S2)), (bC, .inl (cI, 5, .inl Cr2)), (bG, .inl (cI, 5, .inl G2))] H := hP
        have hD : va_D A [(h0, .inr (1, [.ref hM, .ref hV, .int (nI wn), .int (nI hn), .int wv])), (hM, .inr (0, [.int bd, .int sb, .int nd, .ref aS, .ref aC, .ref aG])), (aS, .inl (cI, 5, .inl S0)), (aC, .inl (cI, 5, .inl Crk)), (aG, .inl (cI, 5, .inl Gk)), (hV, .inr (0, [.int bd2, .int sb2, .int nd2, .ref bS, .ref bC, .ref bG])), (bS, .inl (cI, 5, .inl S2)), (bC, .inl (cI, 5, .inl Cr2)), (bG, .inl (cI, 5, .inl G2))] := hD
        have hp_18 : r_7 = pBC (pCW S0 (nI (k + 1))) := hp_18
        refine z_topi (y := pBC (pCW S0 (nI (k + 1)))) hp_18 ?_
        refine z_callSl (As := [.long (pDc (pDm (nI wn) (nI hn) nd wv bd sb q0 S0) S0 k), .int (pBC (pCW S0 (nI (k + 1))))]) (rest := []) F9 (m_X1_mix l dC dI cI cZ cJ cD (pDc (pDm (nI wn) (nI hn) nd wv bd sb q0 S0) S0 k) (pBC (pCW S0 (nI (k + 1)))) ) (va_cwS 2 hts gX1_digest_X1_mix rfl rfl rfl (by decide +kernel) ⟨Nat.le_of_ble_eq_true rfl, Nat.le_of_ble_eq_true rfl⟩) hK hN hP hD hS hA rfl hl.1 rfl (Nat.le_of_ble_eq_true rfl) dX1_digest_21 ⟨Nat.zero_le _, Nat.zero_le _⟩ (fun r_8 H locs hp_21 hP hS => ?_)
        have hp_21 : r_8 = pm (pDc (pDm (nI wn) (nI hn) nd wv bd sb q0 S0) S0 k) (pBC (pCW S0 (nI (k + 1)))) := hp_21
        refine z_topl (y := pm (pDc (pDm (nI wn) (nI hn) nd wv bd sb q0 S0) S0 k) (pBC (pCW S0 (nI (k + 1))))) hp_21 ?_
        refine lv_lstore_n (lv' := [(1, .long (pm (pDc (pDm (nI wn) (nI hn) nd wv bd sb q0 S0) S0 k) (pBC (pCW S0 (nI (k + 1)))))), (0, .ref h0), (3, .int (nI (k + 1)))]) hx hb dX1_digest_24 rfl hl (by decide) rfl (fun ls hl => ?_)
        refine lv_lload_n hx hb dX1_digest_25 rfl (lv_at hl 0 rfl) ?_
        refine lv_aload_n hx hb dX1_digest_26 rfl (lv_at hl 1 rfl) ?_
        refine va_get (D := (dC, dI)) (ci := 1) (v := .ref hM) (C := RX1) (T := TX1) (N := 5) hx hb hts iX1_digest_X1 hown hK hP 0 rfl rfl 0 (by decide) (hts (.fieldLink RX1 12 "ColourTide" "map" "LColourTide$Tide;") (List.mem_of_getElem? (i := 1) rfl)) (fun _ h9 => h9) rfl dX1_digest_27 ?_
        refine lv_iload_n hx hb dX1_digest_30 rfl (lv_at hl 2 rfl) ?_
        refine z_callVi (As := [.int (nI (k + 1))]) (rest := [.long (pm (pDc (pDm (nI wn) (nI hn) nd wv bd sb q0 S0) S0 k) (pBC (pCW S0 (nI (k + 1)))))]) F9 (m_X0_countRegions l dC dI cI cZ cJ cD hM aS aC aG bd sb nd S0 Crk Gk (nI (k + 1)) ) (cwV 1 hts gX1_digest_X0_countRegions rfl rfl rfl (by decide +kernel) ⟨Nat.le_of_ble_eq_true rfl, Nat.le_of_ble_eq_true rfl⟩) hK hN hP hD hS hA [1, 2, 3, 4] rfl rfl (fun _ => rfl) 1 (ci := 0) rfl rfl rfl rfl hl.1 rfl (Nat.le_of_ble_eq_true rfl) dX1_digest_31 ⟨Nat.zero_le _, Nat.zero_le _⟩ (fun r_9 u H locs hp_31 hP hD hS => ?_)
        have hP : va_P (dC, dI) vwCl [(h0, .inr (1, [.ref hM, .ref hV, .int (nI wn), .int (nI hn), .int wv])), (hM, .inr (0, [.int bd, .int sb, .int nd, .ref aS, .ref aC, .ref aG])), (aS, .inl (cI, 5, .inl S0)), (aC, .inl (cI, 5, .inl Crk)), (aG, .inl (cI, 5, .inl Gk)), (hV, .inr (0, [.int bd2, .int sb2, .int nd2, .ref bS, .ref bC, .ref bG])), (bS, .inl (cI, 5, .inl S2)), (bC, .inl (cI, 5, .inl Cr2)), (bG, .inl (cI, 5, .inl G2))] H := hP
        have hD : va_D A [(h0, .inr (1, [.ref hM, .ref hV, .int (nI wn), .int (nI hn), .int wv])), (hM, .inr (0, [.int bd, .int sb, .int nd, .ref aS, .ref aC, .ref aG])), (aS, .inl (cI, 5, .inl S0)), (aC, .inl (cI, 5, .inl Crk)), (aG, .inl (cI, 5, .inl Gk)), (hV, .inr (0, [.int bd2, .int sb2, .int nd2, .ref bS, .ref bC, .ref bG])), (bS, .inl (cI, 5, .inl S2)), (bC, .inl (cI, 5, .inl Cr2)), (bG, .inl (cI, 5, .inl G2))] := hD
        have hp_31 : r_9 = nI (pCR 25 (pCW S0 (nI (k + 1))) 0) := hp_31
        refine z_topi (y := nI (pCR 25 (pCW S0 (nI (k + 1))) 0)) hp_31 ?_
        refine z_callSl (As := [.long (pm (pDc (pDm (nI wn) (nI hn) nd wv bd sb q0 S0) S0 k) (pBC (pCW S0 (nI (k + 1))))), .int (nI (pCR 25 (pCW S0 (nI (k + 1))) 0))]) (rest := []) F9 (m_X1_mix l dC dI cI cZ cJ cD (pm (pDc (pDm (nI wn) (nI hn) nd wv bd sb q0 S0) S0 k) (pBC (pCW S0 (nI (k + 1))))) (nI (pCR 25 (pCW S0 (nI (k + 1))) 0)) ) (va_cwS 2 hts gX1_digest_X1_mix rfl rfl rfl (by decide +kernel) ⟨Nat.le_of_ble_eq_true rfl, Nat.le_of_ble_eq_true rfl⟩) hK hN hP hD hS hA rfl hl.1 rfl (Nat.le_of_ble_eq_true rfl) dX1_digest_34 ⟨Nat.zero_le _, Nat.zero_le _⟩ (fun r_10 H locs hp_34 hP hS => ?_)
        have hp_34 : r_10 = pm (pm (pDc (pDm (nI wn) (nI hn) nd wv bd sb q0 S0) S0 k) (pBC (pCW S0 (nI (k + 1))))) (nI (pCR 25 (pCW S0 (nI (k + 1))) 0)) := hp_34
        refine z_topl (y := pm (pm (pDc (pDm (nI wn) (nI hn) nd wv bd sb q0 S0) S0 k) (pBC (pCW S0 (nI (k + 1))))) (nI (pCR 25 (pCW S0 (nI (k + 1))) 0))) hp_34 ?_
        refine lv_lstore_n (lv' := [(1, .long (pm (pm (pDc (pDm (nI wn) (nI hn) nd wv bd sb q0 S0) S0 k) (pBC (pCW S0 (nI (k + 1))))) (nI (pCR 25 (pCW S0 (nI (k + 1))) 0)))), (0, .ref h0), (3, .int (nI (k + 1)))]) hx hb dX1_digest_37 rfl hl (by decide) rfl (fun ls hl => ?_)
        refine lv_lload_n hx hb dX1_digest_38 rfl (lv_at hl 0 rfl) ?_
        refine lv_aload_n hx hb dX1_digest_39 rfl (lv_at hl 1 rfl) ?_
        refine va_get (D := (dC, dI)) (ci := 1) (v := .ref hM) (C := RX1) (T := TX1) (N := 5) hx hb hts iX1_digest_X1 hown hK hP 0 rfl rfl 0 (by decide) (hts (.fieldLink RX1 12 "ColourTide" "map" "LColourTide$Tide;") (List.mem_of_getElem? (i := 1) rfl)) (fun _ h9 => h9) rfl dX1_digest_40 ?_
        refine lv_iload_n hx hb dX1_digest_43 rfl (lv_at hl 2 rfl) ?_
        refine z_callVi (As := [.int (nI (k + 1))]) (rest := [.long (pm (pm (pDc (pDm (nI wn) (nI hn) nd wv bd sb q0 S0) S0 k) (pBC (pCW S0 (nI (k + 1))))) (nI (pCR 25 (pCW S0 (nI (k + 1))) 0)))]) F9 (m_X0_sizeOfGreatestRegion l dC dI cI cZ cJ cD hM aS aC aG bd sb nd S0 Crk Gk (nI (k + 1)) ) (cwV 1 hts gX1_digest_X0_sizeOfGreatestRegion rfl rfl rfl (by decide +kernel) ⟨Nat.le_of_ble_eq_true rfl, Nat.le_of_ble_eq_true rfl⟩) hK hN hP hD hS hA [1, 2, 3, 4] rfl rfl (fun _ => rfl) 1 (ci := 0) rfl rfl rfl rfl hl.1 rfl (Nat.le_of_ble_eq_true rfl) dX1_digest_44 ⟨Nat.zero_le _, Nat.zero_le _⟩ (fun r_11 u H locs hp_44 hP hD hS => ?_)
        have hP : va_P (dC, dI) vwCl [(h0, .inr (1, [.ref hM, .ref hV, .int (nI wn), .int (nI hn), .int wv])), (hM, .inr (0, [.int bd, .int sb, .int nd, .ref aS, .ref aC, .ref aG])), (aS, .inl (cI, 5, .inl S0)), (aC, .inl (cI, 5, .inl Crk)), (aG, .inl (cI, 5, .inl Gk)), (hV, .inr (0, [.int bd2, .int sb2, .int nd2, .ref bS, .ref bC, .ref bG])), (bS, .inl (cI, 5, .inl S2)), (bC, .inl (cI, 5, .inl Cr2)), (bG, .inl (cI, 5, .inl G2))] H := hP
        have hD : va_D A [(h0, .inr (1, [.ref hM, .ref hV, .int (nI wn), .int (nI hn), .int wv])), (hM, .inr (0, [.int bd, .int sb, .int nd, .ref aS, .ref aC, .ref aG])), (aS, .inl (cI, 5, .inl S0)), (aC, .inl (cI, 5, .inl Crk)), (aG, .inl (cI, 5, .inl Gk)), (hV, .inr (0, [.int bd2, .int sb2, .int nd2, .ref bS, .ref bC, .ref bG])), (bS, .inl (cI, 5, .inl S2)), (bC, .inl (cI, 5, .inl Cr2)), (bG, .inl (cI, 5, .inl G2))] := hD
        have hp_44 : r_11 = pGR 25 (pCW S0 (nI (k + 1))) 0 := hp_44
        refine z_topi (y := pGR 25 (pCW S0 (nI (k + 1))) 0) hp_44 ?_
        refine z_callSl (As := [.long (pm (pm (pDc (pDm (nI wn) (nI hn) nd wv bd sb q0 S0) S0 k) (pBC (pCW S0 (nI (k + 1))))) (nI (pCR 25 (pCW S0 (nI (k + 1))) 0))), .int (pGR 25 (pCW S0 (nI (k + 1))) 0)]) (rest := []) F9 (m_X1_mix l dC dI cI cZ cJ cD (pm (pm (pDc (pDm (nI wn) (nI hn) nd wv bd sb q0 S0) S0 k) (pBC (pCW S0 (nI (k + 1))))) (nI (pCR 25 (pCW S0 (nI (k + 1))) 0))) (pGR 25 (pCW S0 (nI (k + 1))) 0) ) (va_cwS 2 hts gX1_digest_X1_mix rfl rfl rfl (by decide +kernel) ⟨Nat.le_of_ble_eq_true rfl, Nat.le_of_ble_eq_true rfl⟩) hK hN hP hD hS hA rfl hl.1 rfl (Nat.le_of_ble_eq_true rfl) dX1_digest_47 ⟨Nat.zero_le _, Nat.zero_le _⟩ (fun r_12 H locs hp_47 hP hS => ?_)
        have hp_47 : r_12 = pm (pm (pm (pDc (pDm (nI wn) (nI hn) nd wv bd sb q0 S0) S0 k) (pBC (pCW S0 (nI (k + 1))))) (nI (pCR 25 (pCW S0 (nI (k + 1))) 0))) (pGR 25 (pCW S0 (nI (k + 1))) 0) := hp_47
        refine z_topl (y := pm (pm (pm (pDc (pDm (nI wn) (nI hn) nd wv bd sb q0 S0) S0 k) (pBC (pCW S0 (nI (k + 1))))) (nI (pCR 25 (pCW S0 (nI (k + 1))) 0))) (pGR 25 (pCW S0 (nI (k + 1))) 0)) hp_47 ?_
        refine z_topl (y := pDc (pDm (nI wn) (nI hn) nd wv bd sb q0 S0) S0 (k + 1)) (rfl) ?_
        refine lv_lstore_n (lv' := [(1, .long (pDc (pDm (nI wn) (nI hn) nd wv bd sb q0 S0) S0 (k + 1))), (0, .ref h0), (3, .int (nI (k + 1)))]) hx hb dX1_digest_50 rfl hl (by decide) rfl (fun ls hl => ?_)
        refine lv_iinc (v := nI ((k + 1) + 1)) (lv' := [(3, .int (nI ((k + 1) + 1))), (1, .long (pDc (pDm (nI wn) (nI hn) nd wv bd sb q0 S0) S0 (k + 1))), (0, .ref h0)]) hx hb dX1_digest_51 hl (k := 2) rfl (nI_1 (k + 1)) (by decide) rfl (fun ls hl => ?_)
        refine lv_goto (tgt := 7) hx hb dX1_digest_54 (by decide) ?_
        exact ih_7 (k + 1) Crk Gk (by omega)  _ _ _ hP hD hS (lv_sub hl [2, 1, 0] rfl)
  exact loop_7 4 0 Cru_2 Gu_3 (by omega)  _ _ _ hP hD hS (lv_sub hl [2, 1, 0] rfl)
abbrev rmX1_countAfter : Room := { frames := 4, cells := 0, slots := 0, locals := 94 }
set_option maxRecDepth 20000 in
theorem iX1_countAfter_X0 : ∀ w ∈ wsX00, w ∈ wsX1_countAfter := fun w h => (goodIn_r (big := wsX1_countAfter) wsX00 [57, 58, 59, 60, 61, 62] (by decide +kernel) (by decide +kernel) w h).1
set_option maxRecDepth 20000 in
theorem iX1_countAfter_X1 : ∀ w ∈ wsX10, w ∈ wsX1_countAfter := fun w h => (goodIn_r (big := wsX1_countAfter) wsX10 [52, 53, 54, 55, 56] (by decide +kernel) (by decide +kernel) w h).1
set_option maxHeartbeats 4000000 in
set_option maxRecDepth 100000 in
theorem m_X1_countAfter (l : Launch) (dC : Nat → ClassId) (dI : Nat → Nat → Nat) (cI cZ cJ cD : ClassId) (h0 : Nat) (hM : Nat) (aS : Nat) (aC : Nat) (aG : Nat) (hV : Nat) (bS : Nat) (bC : Nat) (bG : Nat) (wd : Int32) (hg : Int32) (wv : Int32) (bd : Int32) (sb : Int32) (nd : Int32) (S0 : Nat → Int32) (Cr : Nat → Int32) (G0 : Nat → Int32) (bd2 : Int32) (sb2 : Int32) (nd2 : Int32) (S2 : Nat → Int32) (Cr2 : Nat → Int32) (G2 : Nat → Int32) (q0 : Nat) (z0 : Int32) (col : Int32) (nw : Nat) (hq : 1 ≤ q0 ∧ q0 ≤ 4) (hnd : nd = nI q0) (hnw : nw < 1000) : zI l (dC, dI) (wT cI cZ cJ cD) yX1_countAfter wsX1_countAfter rmX1_countAfter [(h0, .inr (1, [.ref hM, .ref hV, .int wd, .int hg, .int wv])), (hM, .inr (0, [.int bd, .int sb, .int nd, .ref aS, .ref aC, .ref aG])), (aS, .inl (cI, 5, .inl S0)), (aC, .inl (cI, 5, .inl Cr)), (aG, .inl (cI, 5, .inl G0)), (hV, .inr (0, [.int bd2, .int sb2, .int nd2, .ref bS, .ref bC, .ref bG])), (bS, .inl (cI, 5, .inl S2)), (bC, .inl (cI, 5, .inl Cr2)), (bG, .inl (cI, 5, .inl G2))] [.ref h0, .int z0, .int col, .int (nI nw)] (fun (u : Int32 × Int32 × Int32 × (Nat → Int32) × (Nat → Int32) × (Nat → Int32)) => [(h0, .inr (1, [.ref hM, .ref hV, .int wd, .int hg, .int wv])), (hM, .inr (0, [.int bd, .int sb, .int nd, .ref aS, .ref aC, .ref aG])), (aS, .inl (cI, 5, .inl S0)), (aC, .inl (cI, 5, .inl Cr)), (aG, .inl (cI, 5, .inl G0)), (hV, .inr (0, [.int u.1, .int u.2.1, .int u.2.2.1, .ref bS, .ref bC, .ref bG])), (bS, .inl (cI, 5, .inl u.2.2.2.1)), (bC, .inl (cI, 5, .inl u.2.2.2.2.1)), (bG, .inl (cI, 5, .inl u.2.2.2.2.2))]) (fun (r : Int32) (u : Int32 × Int32 × Int32 × (Nat → Int32) × (Nat → Int32) × (Nat → Int32)) => r = pAft S0 bd sb q0 z0 col nw) := by
  intro sz
  refine Met.ofW (cc := cX1_countAfter) (maxL := 4) (ret := (some .int)) (by decide) rfl ?_
  intro p e s m args below meth c s₁ B hml hv
  obtain ⟨ha, hsz, hP, hK, hD0, hN⟩ := hv
  have hx := B.exec
  have hb := B.bytes
  have hr := B.returns
  have hts := atoms_spec (ws := wsX1_countAfter) B.pre
  have hown : s.vm.findClass RX1 = some m.cls := findClass_of_methodNamed B.named
  have hlocks := B.notSynchronized
  subst hsz
  have hD := hD0.self (sz := s.heap.size)
  generalize hAe : va_A [(h0, .inr (1, [.ref hM, .ref hV, .int wd, .int hg, .int wv])), (hM, .inr (0, [.int bd, .int sb, .int nd, .ref aS, .ref aC, .ref aG])), (aS, .inl (cI, 5, .inl S0)), (aC, .inl (cI, 5, .inl Cr)), (aG, .inl (cI, 5, .inl G0)), (hV, .inr (0, [.int bd2, .int sb2, .int nd2, .ref bS, .ref bC, .ref bG])), (bS, .inl (cI, 5, .inl S2)), (bC, .inl (cI, 5, .inl Cr2)), (bG, .inl (cI, 5, .inl G2))] s.heap.size = A at hD ⊢
  have hA : ∀ q : Nat, s.heap.size ≤ q → A q := fun q h => by rw [← hAe]; exact Or.inr h
  have hS : va_S A s.heap s.heap [] := va_S.rf
  generalize hQ : MQ below (va_Qi (fun (r : Int32) (u : Int32 × Int32 × Int32 × (Nat → Int32) × (Nat → Int32) × (Nat → Int32)) => r = pAft S0 bd sb q0 z0 col nw) (fun u t => va_P (dC, dI) vwCl ((fun (u : Int32 × Int32 × Int32 × (Nat → Int32) × (Nat → Int32) × (Nat → Int32)) => [(h0, .inr (1, [.ref hM, .ref hV, .int wd, .int hg, .int wv])), (hM, .inr (0, [.int bd, .int sb, .int nd, .ref aS, .ref aC, .ref aG])), (aS, .inl (cI, 5, .inl S0)), (aC, .inl (cI, 5, .inl Cr)), (aG, .inl (cI, 5, .inl G0)), (hV, .inr (0, [.int u.1, .int u.2.1, .int u.2.2.1, .ref bS, .ref bC, .ref bG])), (bS, .inl (cI, 5, .inl u.2.2.2.1)), (bC, .inl (cI, 5, .inl u.2.2.2.2.1)), (bG, .inl (cI, 5, .inl u.2.2.2.2.2))]) u) t.heap) A) args s 0 0 A = Q
  have F9 : CallFix p m c cX1_countAfter 4 s args wsX1_countAfter RX1 := ⟨hx, hb, hml, hown, hts⟩
  refine z_entry (R := rmX1_countAfter) ha (Nat.le_of_ble_eq_true rfl) (fun ls hl => ?_)
  have hl : lv_has ls 4 [(0, .ref h0), (1, .int z0), (2, .int col), (3, .int (nI nw))] := hl
  refine lv_aload_n hx hb dX1_countAfter_0 rfl (lv_at hl 0 rfl) ?_
  refine va_get (D := (dC, dI)) (ci := 1) (v := .ref hV) (C := RX1) (T := TX1) (N := 5) hx hb hts iX1_countAfter_X1 hown hK hP 0 rfl rfl 1 (by decide) (hts (.fieldLink RX1 16 "ColourTide" "trial" "LColourTide$Tide;") (List.mem_of_getElem? (i := 1) rfl)) (fun _ h9 => h9) rfl dX1_countAfter_1 ?_
  refine lv_aload_n hx hb dX1_countAfter_4 rfl (lv_at hl 0 rfl) ?_
  refine va_get (D := (dC, dI)) (ci := 1) (v := .ref hM) (C := RX1) (T := TX1) (N := 5) hx hb hts iX1_countAfter_X1 hown hK hP 0 rfl rfl 0 (by decide) (hts (.fieldLink RX1 12 "ColourTide" "map" "LColourTide$Tide;") (List.mem_of_getElem? (i := 2) rfl)) (fun _ h9 => h9) rfl dX1_countAfter_5 ?_
  refine z_callVv (As := [.ref hM]) (rest := []) F9 (m_X0_copyFrom l dC dI cI cZ cJ cD hV bS bC bG bd2 sb2 nd2 S2 Cr2 G2 hM aS aC aG bd sb nd S0 Cr G0 ) (cwV 1 hts gX1_countAfter_X0_copyFrom rfl rfl rfl (by decide +kernel) ⟨Nat.le_of_ble_eq_true rfl, Nat.le_of_ble_eq_true rfl⟩) hK hN hP hD hS hA [5, 6, 7, 8, 1, 2, 3, 4] rfl rfl (fun _ => rfl) 5 (ci := 0) rfl rfl rfl rfl hl.1 rfl (Nat.le_of_ble_eq_true rfl) dX1_countAfter_8 ⟨Nat.zero_le _, Nat.zero_le _⟩ (fun u H locs hp_8 hP hD hS => ?_)
  have hP : va_P (dC, dI) vwCl [(h0, .inr (1, [.ref hM, .ref hV, .int wd, .int hg, .int wv])), (hM, .inr (0, [.int bd, .int sb, .int nd, .ref aS, .ref aC, .ref aG])), (aS, .inl (cI, 5, .inl S0)), (aC, .inl (cI, 5, .inl Cr)), (aG, .inl (cI, 5, .inl G0)), (hV, .inr (0, [.int bd, .int sb, .int nd, .ref bS, .ref bC, .ref bG])), (bS, .inl (cI, 5, .inl (zfill S0 S2 5))), (bC, .inl (cI, 5, .inl Cr2)), (bG, .inl (cI, 5, .inl G2))] H := hP
  have hD : va_D A [(h0, .inr (1, [.ref hM, .ref hV, .int wd, .int hg, .int wv])), (hM, .inr (0, [.int bd, .int sb, .int nd, .ref aS, .ref aC, .ref aG])), (aS, .inl (cI, 5, .inl S0)), (aC, .inl (cI, 5, .inl Cr)), (aG, .inl (cI, 5, .inl G0)), (hV, .inr (0, [.int bd, .int sb, .int nd, .ref bS, .ref bC, .ref bG])), (bS, .inl (cI, 5, .inl (zfill S0 S2 5))), (bC, .inl (cI, 5, .inl Cr2)), (bG, .inl (cI, 5, .inl G2))] := hD
  refine lv_aload_n hx hb dX1_countAfter_11 rfl (lv_at hl 0 rfl) ?_
  refine va_get (D := (dC, dI)) (ci := 1) (v := .ref hV) (C := RX1) (T := TX1) (N := 5) hx hb hts iX1_countAfter_X1 hown hK hP 0 rfl rfl 1 (by decide) (hts (.fieldLink RX1 16 "ColourTide" "trial" "LColourTide$Tide;") (List.mem_of_getElem? (i := 1) rfl)) (fun _ h9 => h9) rfl dX1_countAfter_12 ?_
  refine lv_iload_n hx hb dX1_countAfter_15 rfl (lv_at hl 1 rfl) ?_
  refine lv_iload_n hx hb dX1_countAfter_16 rfl (lv_at hl 2 rfl) ?_
  refine z_callVv (As := [.int z0, .int col]) (rest := []) F9 (m_X0_dye l dC dI cI cZ cJ cD hV bS bC bG bd sb nd (zfill S0 S2 5) Cr2 G2 z0 col ) (cwV 2 hts gX1_countAfter_X0_dye rfl rfl rfl (by decide +kernel) ⟨Nat.le_of_ble_eq_true rfl, Nat.le_of_ble_eq_true rfl⟩) hK hN hP hD hS hA [5, 6, 7, 8] rfl rfl (fun _ => rfl) 5 (ci := 0) rfl rfl rfl rfl hl.1 rfl (Nat.le_of_ble_eq_true rfl) dX1_countAfter_17 ⟨Nat.zero_le _, Nat.zero_le _⟩ (fun u H locs hp_17 hP hD hS => ?_)
  have hP : va_P (dC, dI) vwCl [(h0, .inr (1, [.ref hM, .ref hV, .int wd, .int hg, .int wv])), (hM, .inr (0, [.int bd, .int sb, .int nd, .ref aS, .ref aC, .ref aG])), (aS, .inl (cI, 5, .inl S0)), (aC, .inl (cI, 5, .inl Cr)), (aG, .inl (cI, 5, .inl G0)), (hV, .inr (0, [.int bd, .int sb, .int nd, .ref bS, .ref bC, .ref bG])), (bS, .inl (cI, 5, .inl (pDye (zfill S0 S2 5) z0 col))), (bC, .inl (cI, 5, .inl Cr2)), (bG, .inl (cI, 5, .inl G2))] H := hP
  have hD : va_D A [(h0, .inr (1, [.ref hM, .ref hV, .int wd, .int hg, .int wv])), (hM, .inr (0, [.int bd, .int sb, .int nd, .ref aS, .ref aC, .ref aG])), (aS, .inl (cI, 5, .inl S0)), (aC, .inl (cI, 5, .inl Cr)), (aG, .inl (cI, 5, .inl G0)), (hV, .inr (0, [.int bd, .int sb, .int nd, .ref bS, .ref bC, .ref bG])), (bS, .inl (cI, 5, .inl (pDye (zfill S0 S2 5) z0 col))), (bC, .inl (cI, 5, .inl Cr2)), (bG, .inl (cI, 5, .inl G2))] := hD
  refine lv_aload_n hx hb dX1_countAfter_20 rfl (lv_at hl 0 rfl) ?_
  refine va_get (D := (dC, dI)) (ci := 1) (v := .ref hV) (C := RX1) (T := TX1) (N := 5) hx hb hts iX1_countAfter_X1 hown hK hP 0 rfl rfl 1 (by decide) (hts (.fieldLink RX1 16 "ColourTide" "trial" "LColourTide$Tide;") (List.mem_of_getElem? (i := 1) rfl)) (fun _ h9 => h9) rfl dX1_countAfter_21 ?_
  refine lv_iload_n hx hb dX1_countAfter_24 rfl (lv_at hl 3 rfl) ?_
  refine z_callVi (As := [.int (nI nw)]) (rest := []) F9 (m_X0_surge l dC dI cI cZ cJ cD hV bS bC bG bd sb nd (pDye (zfill S0 S2 5) z0 col) Cr2 G2 q0 nw (hq) (hnd) (hnw)) (cwV 1 hts gX1_countAfter_X0_surge rfl rfl rfl (by decide +kernel) ⟨Nat.le_of_ble_eq_true rfl, Nat.le_of_ble_eq_true rfl⟩) hK hN hP hD hS hA [5, 6, 7, 8] rfl rfl (fun _ => rfl) 5 (ci := 0) rfl rfl rfl rfl hl.1 rfl (Nat.le_of_ble_eq_true rfl) dX1_countAfter_25 ⟨Nat.zero_le _, Nat.zero_le _⟩ (fun r_3 u H locs hp_25 hP hD hS => ?_)
  obtain ⟨Cr1_4, G1_5⟩ := u
  have hP : va_P (dC, dI) vwCl [(h0, .inr (1, [.ref hM, .ref hV, .int wd, .int hg, .int wv])), (hM, .inr (0, [.int bd, .int sb, .int nd, .ref aS, .ref aC, .ref aG])), (aS, .inl (cI, 5, .inl S0)), (aC, .inl (cI, 5, .inl Cr)), (aG, .inl (cI, 5, .inl G0)), (hV, .inr (0, [.int bd, .int sb, .int nd, .ref bS, .ref bC, .ref bG])), (bS, .inl (cI, 5, .inl (pIt bd sb q0 (pDye (zfill S0 S2 5) z0 col) nw))), (bC, .inl (cI, 5, .inl Cr1_4)), (bG, .inl (cI, 5, .inl G1_5))] H := hP
  have hD : va_D A [(h0, .inr (1, [.ref hM, .ref hV, .int wd, .int hg, .int wv])), (hM, .inr (0, [.int bd, .int sb, .int nd, .ref aS, .ref aC, .ref aG])), (aS, .inl (cI, 5, .inl S0)), (aC, .inl (cI, 5, .inl Cr)), (aG, .inl (cI, 5, .inl G0)), (hV, .inr (0, [.int bd, .int sb, .int nd, .ref bS, .ref bC, .ref bG])), (bS, .inl (cI, 5, .inl (pIt bd sb q0 (pDye (zfill S0 S2 5) z0 col) nw))), (bC, .inl (cI, 5, .inl Cr1_4)), (bG, .inl (cI, 5, .inl G1_5))] := hD
  have hp_25 : r_3 = pLast bd sb q0 (pDye (zfill S0 S2 5) z0 col) nw := hp_25
  refine z_topi (y := pLast bd sb q0 (pDye (zfill S0 S2 5) z0 col) nw) hp_25 ?_
  refine lv_pop hx hb dX1_countAfter_28 rfl ?_
  refine lv_aload_n hx hb dX1_countAfter_29 rfl (lv_at hl 0 rfl) ?_
  refine va_get (D := (dC, dI)) (ci := 1) (v := .ref hV) (C := RX1) (T := TX1) (N := 5) hx hb hts iX1_countAfter_X1 hown hK hP 0 rfl rfl 1 (by decide) (hts (.fieldLink RX1 16 "ColourTide" "trial" "LColourTide$Tide;") (List.mem_of_getElem? (i := 1) rfl)) (fun _ h9 => h9) rfl dX1_countAfter_30 ?_
  refine lv_iload_n hx hb dX1_countAfter_33 rfl (lv_at hl 2 rfl) ?_
  refine z_callVi (As := [.int col]) (rest := []) F9 (m_X0_count l dC dI cI cZ cJ cD hV bS bC bG bd sb nd (pIt bd sb q0 (pDye (zfill S0 S2 5) z0 col) nw) Cr1_4 G1_5 col ) (cwV 1 hts gX1_countAfter_X0_count rfl rfl rfl (by decide +kernel) ⟨Nat.le_of_ble_eq_true rfl, Nat.le_of_ble_eq_true rfl⟩) hK hN hP hD hS hA [5, 6, 7, 8] rfl rfl (fun _ => rfl) 5 (ci := 0) rfl rfl rfl rfl hl.1 rfl (Nat.le_of_ble_eq_true rfl) dX1_countAfter_34 ⟨Nat.zero_le _, Nat.zero_le _⟩ (fun r_6 u H locs hp_34 hP hD hS => ?_)
  have hP : va_P (dC, dI) vwCl [(h0, .inr (1, [.ref hM, .ref hV, .int wd, .int hg, .int wv])), (hM, .inr (0, [.int bd, .int sb, .int nd, .ref aS, .ref aC, .ref aG])), (aS, .inl (cI, 5, .inl S0)), (aC, .inl (cI, 5, .inl Cr)), (aG, .inl (cI, 5, .inl G0)), (hV, .inr (0, [.int bd, .int sb, .int nd, .ref bS, .ref bC, .ref bG])), (bS, .inl (cI, 5, .inl (pIt bd sb q0 (pDye (zfill S0 S2 5) z0 col) nw))), (bC, .inl (cI, 5, .inl Cr1_4)), (bG, .inl (cI, 5, .inl G1_5))] H := hP
  have hD : va_D A [(h0, .inr (1, [.ref hM, .ref hV, .int wd, .int hg, .int wv])), (hM, .inr (0, [.int bd, .int sb, .int nd, .ref aS, .ref aC, .ref aG])), (aS, .inl (cI, 5, .inl S0)), (aC, .inl (cI, 5, .inl Cr)), (aG, .inl (cI, 5, .inl G0)), (hV, .inr (0, [.int bd, .int sb, .int nd, .ref bS, .ref bC, .ref bG])), (bS, .inl (cI, 5, .inl (pIt bd sb q0 (pDye (zfill S0 S2 5) z0 col) nw))), (bC, .inl (cI, 5, .inl Cr1_4)), (bG, .inl (cI, 5, .inl G1_5))] := hD
  have hp_34 : r_6 = pBC (pCW (pIt bd sb q0 (pDye (zfill S0 S2 5) z0 col) nw) col) := hp_34
  refine z_topi (y := pBC (pCW (pIt bd sb q0 (pDye (zfill S0 S2 5) z0 col) nw) col)) hp_34 ?_
  rw [← hQ]
  exact z_iret (W1 := (fun (u : Int32 × Int32 × Int32 × (Nat → Int32) × (Nat → Int32) × (Nat → Int32)) => [(h0, .inr (1, [.ref hM, .ref hV, .int wd, .int hg, .int wv])), (hM, .inr (0, [.int bd, .int sb, .int nd, .ref aS, .ref aC, .ref aG])), (aS, .inl (cI, 5, .inl S0)), (aC, .inl (cI, 5, .inl Cr)), (aG, .inl (cI, 5, .inl G0)), (hV, .inr (0, [.int u.1, .int u.2.1, .int u.2.2.1, .ref bS, .ref bC, .ref bG])), (bS, .inl (cI, 5, .inl u.2.2.2.1)), (bC, .inl (cI, 5, .inl u.2.2.2.2.1)), (bG, .inl (cI, 5, .inl u.2.2.2.2.2))])) hx hb hr hlocks hP hS (bd, sb, nd, (pIt bd sb q0 (pDye (zfill S0 S2 5) z0 col) nw), Cr1_4, G1_5) (rfl) (by rw [pTr_CW]; rfl) dX1_countAfter_37
abbrev rmX1_winsWith : Room := { frames := 4, cells := 0, slots := 0, locals := 94 }
set_option maxRecDepth 20000 in
theorem iX1_winsWith_X0 : ∀ w ∈ wsX00, w ∈ wsX1_winsWith := fun w h => (goodIn_r (big := wsX1_winsWith) wsX00 [50, 51, 52, 53, 54, 55] (by decide +kernel) (by decide +kernel) w h).1
set_option maxRecDepth 20000 in
theorem iX1_winsWith_X1 : ∀ w ∈ wsX10, w ∈ wsX1_winsWith := fun w h => (goodIn_r (big := wsX1_winsWith) wsX10 [45, 46, 47, 48, 49] (by decide +kernel) (by decide +kernel) w h).1
set_option maxHeartbeats 4000000 in
set_option maxRecDepth 100000 in
theorem m_X1_winsWith (l : Launch) (dC : Nat → ClassId) (dI : Nat → Nat → Nat) (cI cZ cJ cD : ClassId) (h0 : Nat) (hM : Nat) (aS : Nat) (aC : Nat) (aG : Nat) (hV : Nat) (bS : Nat) (bC : Nat) (bG : Nat) (wd : Int32) (hg : Int32) (wv : Int32) (bd : Int32) (sb : Int32) (nd : Int32) (S0 : Nat → Int32) (Cr : Nat → Int32) (G0 : Nat → Int32) (bd2 : Int32) (sb2 : Int32) (nd2 : Int32) (S2 : Nat → Int32) (Cr2 : Nat → Int32) (G2 : Nat → Int32) (q0 : Nat) (z0 : Int32) (col : Int32) (hq : 1 ≤ q0 ∧ q0 ≤ 4) (hnd : nd = nI q0) : zI l (dC, dI) (wT cI cZ cJ cD) yX1_winsWith wsX1_winsWith rmX1_winsWith [(h0, .inr (1, [.ref hM, .ref hV, .int wd, .int hg, .int wv])), (hM, .inr (0, [.int bd, .int sb, .int nd, .ref aS, .ref aC, .ref aG])), (aS, .inl (cI, 5, .inl S0)), (aC, .inl (cI, 5, .inl Cr)), (aG, .inl (cI, 5, .inl G0)), (hV, .inr (0, [.int bd2, .int sb2, .int nd2, .ref bS, .ref bC, .ref bG])), (bS, .inl (cI, 5, .inl S2)), (bC, .inl (cI, 5, .inl Cr2)), (bG, .inl (cI, 5, .inl G2))] [.ref h0, .int z0, .int col] (fun (u : Int32 × Int32 × Int32 × (Nat → Int32) × (Nat → Int32) × (Nat → Int32)) => [(h0, .inr (1, [.ref hM, .ref hV, .int wd, .int hg, .int wv])), (hM, .inr (0, [.int bd, .int sb, .int nd, .ref aS, .ref aC, .ref aG])), (aS, .inl (cI, 5, .inl S0)), (aC, .inl (cI, 5, .inl Cr)), (aG, .inl (cI, 5, .inl G0)), (hV, .inr (0, [.int u.1, .int u.2.1, .int u.2.2.1, .ref bS, .ref bC, .ref bG])), (bS, .inl (cI, 5, .inl u.2.2.2.1)), (bC, .inl (cI, 5, .inl u.2.2.2.2.1)), (bG, .inl (cI, 5, .inl u.2.2.2.2.2))]) (fun (r : Int32) (u : Int32 × Int32 × Int32 × (Nat → Int32) × (Nat → Int32) × (Nat → Int32)) => r = if pWin S0 bd sb q0 z0 col then 1 else 0) := by
  intro sz
  refine Met.ofW (cc := cX1_winsWith) (maxL := 3) (ret := (some .boolean)) (by decide) rfl ?_
  intro p e s m args below meth c s₁ B hml hv
  obtain ⟨ha, hsz, hP, hK, hD0, hN⟩ := hv
  have hx := B.exec
  have hb := B.bytes
  have hr := B.returns
  have hts := atoms_spec (ws := wsX1_winsWith) B.pre
  have hown : s.vm.findClass RX1 = some m.cls := findClass_of_methodNamed B.named
  have hlocks := B.notSynchronized
  subst hsz
  have hD := hD0.self (sz := s.heap.size)
  generalize hAe : va_A [(h0, .inr (1, [.ref hM, .ref hV, .int wd, .int hg, .int wv])), (hM, .inr (0, [.int bd, .int sb, .int nd, .ref aS, .ref aC, .ref aG])), (aS, .inl (cI, 5, .inl S0)), (aC, .inl (cI, 5, .inl Cr)), (aG, .inl (cI, 5, .inl G0)), (hV, .inr (0, [.int bd2, .int sb2, .int nd2, .ref bS, .ref bC, .ref bG])), (bS, .inl (cI, 5, .inl S2)), (bC, .inl (cI, 5, .inl Cr2)), (bG, .inl (cI, 5, .inl G2))] s.heap.size = A at hD ⊢
  have hA : ∀ q : Nat, s.heap.size ≤ q → A q := fun q h => by rw [← hAe]; exact Or.inr h
  have hS : va_S A s.heap s.heap [] := va_S.rf
  generalize hQ : MQ below (va_Qi (fun (r : Int32) (u : Int32 × Int32 × Int32 × (Nat → Int32) × (Nat → Int32) × (Nat → Int32)) => r = if pWin S0 bd sb q0 z0 col then 1 else 0) (fun u t => va_P (dC, dI) vwCl ((fun (u : Int32 × Int32 × Int32 × (Nat → Int32) × (Nat → Int32) × (Nat → Int32)) => [(h0, .inr (1, [.ref hM, .ref hV, .int wd, .int hg, .int wv])), (hM, .inr (0, [.int bd, .int sb, .int nd, .ref aS, .ref aC, .ref aG])), (aS, .inl (cI, 5, .inl S0)), (aC, .inl (cI, 5, .inl Cr)), (aG, .inl (cI, 5, .inl G0)), (hV, .inr (0, [.int u.1, .int u.2.1, .int u.2.2.1, .ref bS, .ref bC, .ref bG])), (bS, .inl (cI, 5, .inl u.2.2.2.1)), (bC, .inl (cI, 5, .inl u.2.2.2.2.1)), (bG, .inl (cI, 5, .inl u.2.2.2.2.2))]) u) t.heap) A) args s 0 0 A = Q
  have F9 : CallFix p m c cX1_winsWith 3 s args wsX1_winsWith RX1 := ⟨hx, hb, hml, hown, hts⟩
  refine z_entry (R := rmX1_winsWith) ha (Nat.le_of_ble_eq_true rfl) (fun ls hl => ?_)
  have hl : lv_has ls 3 [(0, .ref h0), (1, .int z0), (2, .int col)] := hl
  refine lv_aload_n hx hb dX1_winsWith_0 rfl (lv_at hl 0 rfl) ?_
  refine va_get (D := (dC, dI)) (ci := 1) (v := .ref hV) (C := RX1) (T := TX1) (N := 5) hx hb hts iX1_winsWith_X1 hown hK hP 0 rfl rfl 1 (by decide) (hts (.fieldLink RX1 16 "ColourTide" "trial" "LColourTide$Tide;") (List.mem_of_getElem? (i := 1) rfl)) (fun _ h9 => h9) rfl dX1_winsWith_1 ?_
  refine lv_aload_n hx hb dX1_winsWith_4 rfl (lv_at hl 0 rfl) ?_
  refine va_get (D := (dC, dI)) (ci := 1) (v := .ref hM) (C := RX1) (T := TX1) (N := 5) hx hb hts iX1_winsWith_X1 hown hK hP 0 rfl rfl 0 (by decide) (hts (.fieldLink RX1 12 "ColourTide" "map" "LColourTide$Tide;") (List.mem_of_getElem? (i := 2) rfl)) (fun _ h9 => h9) rfl dX1_winsWith_5 ?_
  refine z_callVv (As := [.ref hM]) (rest := []) F9 (m_X0_copyFrom l dC dI cI cZ cJ cD hV bS bC bG bd2 sb2 nd2 S2 Cr2 G2 hM aS aC aG bd sb nd S0 Cr G0 ) (cwV 1 hts gX1_winsWith_X0_copyFrom rfl rfl rfl (by decide +kernel) ⟨Nat.le_of_ble_eq_true rfl, Nat.le_of_ble_eq_true rfl⟩) hK hN hP hD hS hA [5, 6, 7, 8, 1, 2, 3, 4] rfl rfl (fun _ => rfl) 5 (ci := 0) rfl rfl rfl rfl hl.1 rfl (Nat.le_of_ble_eq_true rfl) dX1_winsWith_8 ⟨Nat.zero_le _, Nat.zero_le _⟩ (fun u H locs hp_8 hP hD hS => ?_)
  have hP : va_P (dC, dI) vwCl [(h0, .inr (1, [.ref hM, .ref hV, .int wd, .int hg, .int wv])), (hM, .inr (0, [.int bd, .int sb, .int nd, .ref aS, .ref aC, .ref aG])), (aS, .inl (cI, 5, .inl S0)), (aC, .inl (cI, 5, .inl Cr)), (aG, .inl (cI, 5, .inl G0)), (hV, .inr (0, [.int bd, .int sb, .int nd, .ref bS, .ref bC, .ref bG])), (bS, .inl (cI, 5, .inl (zfill S0 S2 5))), (bC, .inl (cI, 5, .inl Cr2)), (bG, .inl (cI, 5, .inl G2))] H := hP
  have hD : va_D A [(h0, .inr (1, [.ref hM, .ref hV, .int wd, .int hg, .int wv])), (hM, .inr (0, [.int bd, .int sb, .int nd, .ref aS, .ref aC, .ref aG])), (aS, .inl (cI, 5, .inl S0)), (aC, .inl (cI, 5, .inl Cr)), (aG, .inl (cI, 5, .inl G0)), (hV, .inr (0, [.int bd, .int sb, .int nd, .ref bS, .ref bC, .ref bG])), (bS, .inl (cI, 5, .inl (zfill S0 S2 5))), (bC, .inl (cI, 5, .inl Cr2)), (bG, .inl (cI, 5, .inl G2))] := hD
  refine lv_aload_n hx hb dX1_winsWith_11 rfl (lv_at hl 0 rfl) ?_
  refine va_get (D := (dC, dI)) (ci := 1) (v := .ref hV) (C := RX1) (T := TX1) (N := 5) hx hb hts iX1_winsWith_X1 hown hK hP 0 rfl rfl 1 (by decide) (hts (.fieldLink RX1 16 "ColourTide" "trial" "LColourTide$Tide;") (List.mem_of_getElem? (i := 1) rfl)) (fun _ h9 => h9) rfl dX1_winsWith_12 ?_
  refine lv_iload_n hx hb dX1_winsWith_15 rfl (lv_at hl 1 rfl) ?_
  refine lv_iload_n hx hb dX1_winsWith_16 rfl (lv_at hl 2 rfl) ?_
  refine z_callVv (As := [.int z0, .int col]) (rest := []) F9 (m_X0_dye l dC dI cI cZ cJ cD hV bS bC bG bd sb nd (zfill S0 S2 5) Cr2 G2 z0 col ) (cwV 2 hts gX1_winsWith_X0_dye rfl rfl rfl (by decide +kernel) ⟨Nat.le_of_ble_eq_true rfl, Nat.le_of_ble_eq_true rfl⟩) hK hN hP hD hS hA [5, 6, 7, 8] rfl rfl (fun _ => rfl) 5 (ci := 0) rfl rfl rfl rfl hl.1 rfl (Nat.le_of_ble_eq_true rfl) dX1_winsWith_17 ⟨Nat.zero_le _, Nat.zero_le _⟩ (fun u H locs hp_17 hP hD hS => ?_)
  have hP : va_P (dC, dI) vwCl [(h0, .inr (1, [.ref hM, .ref hV, .int wd, .int hg, .int wv])), (hM, .inr (0, [.int bd, .int sb, .int nd, .ref aS, .ref aC, .ref aG])), (aS, .inl (cI, 5, .inl S0)), (aC, .inl (cI, 5, .inl Cr)), (aG, .inl (cI, 5, .inl G0)), (hV, .inr (0, [.int bd, .int sb, .int nd, .ref bS, .ref bC, .ref bG])), (bS, .inl (cI, 5, .inl (pDye (zfill S0 S2 5) z0 col))), (bC, .inl (cI, 5, .inl Cr2)), (bG, .inl (cI, 5, .inl G2))] H := hP
  have hD : va_D A [(h0, .inr (1, [.ref hM, .ref hV, .int wd, .int hg, .int wv])), (hM, .inr (0, [.int bd, .int sb, .int nd, .ref aS, .ref aC, .ref aG])), (aS, .inl (cI, 5, .inl S0)), (aC, .inl (cI, 5, .inl Cr)), (aG, .inl (cI, 5, .inl G0)), (hV, .inr (0, [.int bd, .int sb, .int nd, .ref bS, .ref bC, .ref bG])), (bS, .inl (cI, 5, .inl (pDye (zfill S0 S2 5) z0 col))), (bC, .inl (cI, 5, .inl Cr2)), (bG, .inl (cI, 5, .inl G2))] := hD
  refine lv_aload_n hx hb dX1_winsWith_20 rfl (lv_at hl 0 rfl) ?_
  refine va_get (D := (dC, dI)) (ci := 1) (v := .ref hV) (C := RX1) (T := TX1) (N := 5) hx hb hts iX1_winsWith_X1 hown hK hP 0 rfl rfl 1 (by decide) (hts (.fieldLink RX1 16 "ColourTide" "trial" "LColourTide$Tide;") (List.mem_of_getElem? (i := 1) rfl)) (fun _ h9 => h9) rfl dX1_winsWith_21 ?_
  refine lv_bipush (v := 8) hx hb dX1_winsWith_24 (by decide +kernel) ?_
  refine z_callVi (As := [.int 8]) (rest := []) F9 (m_X0_surge l dC dI cI cZ cJ cD hV bS bC bG bd sb nd (pDye (zfill S0 S2 5) z0 col) Cr2 G2 q0 8 (hq) (hnd) (by decide)) (cwV 1 hts gX1_winsWith_X0_surge rfl rfl rfl (by decide +kernel) ⟨Nat.le_of_ble_eq_true rfl, Nat.le_of_ble_eq_true rfl⟩) hK hN hP hD hS hA [5, 6, 7, 8] rfl rfl (fun _ => rfl) 5 (ci := 0) rfl rfl rfl rfl hl.1 rfl (Nat.le_of_ble_eq_true rfl) dX1_winsWith_26 ⟨Nat.zero_le _, Nat.zero_le _⟩ (fun r_3 u H locs hp_26 hP hD hS => ?_)
  obtain ⟨Cr1_4, G1_5⟩ := u
  have hP : va_P (dC, dI) vwCl [(h0, .inr (1, [.ref hM, .ref hV, .int wd, .int hg, .int wv])), (hM, .inr (0, [.int bd, .int sb, .int nd, .ref aS, .ref aC, .ref aG])), (aS, .inl (cI, 5, .inl S0)), (aC, .inl (cI, 5, .inl Cr)), (aG, .inl (cI, 5, .inl G0)), (hV, .inr (0, [.int bd, .int sb, .int nd, .ref bS, .ref bC, .ref bG])), (bS, .inl (cI, 5, .inl (pIt bd sb q0 (pDye (zfill S0 S2 5) z0 col) 8))), (bC, .inl (cI, 5, .inl Cr1_4)), (bG, .inl (cI, 5, .inl G1_5))] H := hP
  have hD : va_D A [(h0, .inr (1, [.ref hM, .ref hV, .int wd, .int hg, .int wv])), (hM, .inr (0, [.int bd, .int sb, .int nd, .ref aS, .ref aC, .ref aG])), (aS, .inl (cI, 5, .inl S0)), (aC, .inl (cI, 5, .inl Cr)), (aG, .inl (cI, 5, .inl G0)), (hV, .inr (0, [.int bd, .int sb, .int nd, .ref bS, .ref bC, .ref bG])), (bS, .inl (cI, 5, .inl (pIt bd sb q0 (pDye (zfill S0 S2 5) z0 col) 8))), (bC, .inl (cI, 5, .inl Cr1_4)), (bG, .inl (cI, 5, .inl G1_5))] := hD
  have hp_26 : r_3 = pLast bd sb q0 (pDye (zfill S0 S2 5) z0 col) 8 := hp_26
  refine z_topi (y := pLast bd sb q0 (pDye (zfill S0 S2 5) z0 col) 8) hp_26 ?_
  refine lv_pop hx hb dX1_winsWith_29 rfl ?_
  refine lv_aload_n hx hb dX1_winsWith_30 rfl (lv_at hl 0 rfl) ?_
  refine va_get (D := (dC, dI)) (ci := 1) (v := .ref hV) (C := RX1) (T := TX1) (N := 5) hx hb hts iX1_winsWith_X1 hown hK hP 0 rfl rfl 1 (by decide) (hts (.fieldLink RX1 16 "ColourTide" "trial" "LColourTide$Tide;") (List.mem_of_getElem? (i := 1) rfl)) (fun _ h9 => h9) rfl dX1_winsWith_31 ?_
  refine lv_iload_n hx hb dX1_winsWith_34 rfl (lv_at hl 2 rfl) ?_
  refine z_callVi (As := [.int col]) (rest := []) F9 (m_X0_isAll l dC dI cI cZ cJ cD hV bS bC bG bd sb nd (pIt bd sb q0 (pDye (zfill S0 S2 5) z0 col) 8) Cr1_4 G1_5 col ) (cwV 1 hts gX1_winsWith_X0_isAll rfl rfl rfl (by decide +kernel) ⟨Nat.le_of_ble_eq_true rfl, Nat.le_of_ble_eq_true rfl⟩) hK hN hP hD hS hA [5, 6, 7, 8] rfl rfl (fun _ => rfl) 5 (ci := 0) rfl rfl rfl rfl hl.1 rfl (Nat.le_of_ble_eq_true rfl) dX1_winsWith_35 ⟨Nat.zero_le _, Nat.zero_le _⟩ (fun r_6 u H locs hp_35 hP hD hS => ?_)
  have hP : va_P (dC, dI) vwCl [(h0, .inr (1, [.ref hM, .ref hV, .int wd, .int hg, .int wv])), (hM, .inr (0, [.int bd, .int sb, .int nd, .ref aS, .ref aC, .ref aG])), (aS, .inl (cI, 5, .inl S0)), (aC, .inl (cI, 5, .inl Cr)), (aG, .inl (cI, 5, .inl G0)), (hV, .inr (0, [.int bd, .int sb, .int nd, .ref bS, .ref bC, .ref bG])), (bS, .inl (cI, 5, .inl (pIt bd sb q0 (pDye (zfill S0 S2 5) z0 col) 8))), (bC, .inl (cI, 5, .inl Cr1_4)), (bG, .inl (cI, 5, .inl G1_5))] H := hP
  have hD : va_D A [(h0, .inr (1, [.ref hM, .ref hV, .int wd, .int hg, .int wv])), (hM, .inr (0, [.int bd, .int sb, .int nd, .ref aS, .ref aC, .ref aG])), (aS, .inl (cI, 5, .inl S0)), (aC, .inl (cI, 5, .inl Cr)), (aG, .inl (cI, 5, .inl G0)), (hV, .inr (0, [.int bd, .int sb, .int nd, .ref bS, .ref bC, .ref bG])), (bS, .inl (cI, 5, .inl (pIt bd sb q0 (pDye (zfill S0 S2 5) z0 col) 8))), (bC, .inl (cI, 5, .inl Cr1_4)), (bG, .inl (cI, 5, .inl G1_5))] := hD
  have hp_35 : r_6 = if pCW (pIt bd sb q0 (pDye (zfill S0 S2 5) z0 col) 8) col = bd then 1 else 0 := hp_35
  refine z_topi (y := if pCW (pIt bd sb q0 (pDye (zfill S0 S2 5) z0 col) 8) col = bd then 1 else 0) hp_35 ?_
  rw [← hQ]
  exact z_zret (W1 := (fun (u : Int32 × Int32 × Int32 × (Nat → Int32) × (Nat → Int32) × (Nat → Int32)) => [(h0, .inr (1, [.ref hM, .ref hV, .int wd, .int hg, .int wv])), (hM, .inr (0, [.int bd, .int sb, .int nd, .ref aS, .ref aC, .ref aG])), (aS, .inl (cI, 5, .inl S0)), (aC, .inl (cI, 5, .inl Cr)), (aG, .inl (cI, 5, .inl G0)), (hV, .inr (0, [.int u.1, .int u.2.1, .int u.2.2.1, .ref bS, .ref bC, .ref bG])), (bS, .inl (cI, 5, .inl u.2.2.2.1)), (bC, .inl (cI, 5, .inl u.2.2.2.2.1)), (bG, .inl (cI, 5, .inl u.2.2.2.2.2))])) hx hb hr hlocks (z_narif) hP hS (bd, sb, nd, (pIt bd sb q0 (pDye (zfill S0 S2 5) z0 col) 8), Cr1_4, G1_5) (rfl) (by rw [pTr_CW]) dX1_winsWith_38
abbrev rmX1_winsWithOneSeed : Room := { frames := 5, cells := 0, slots := 0, locals := 116 }
set_option maxRecDepth 20000 in
theorem iX1_winsWithOneSeed_X0 : ∀ w ∈ wsX00, w ∈ wsX1_winsWithOneSeed := fun w h => (goodIn_r (big := wsX1_winsWithOneSeed) wsX00 [56, 57, 58, 59, 60, 61] (by decide +kernel) (by decide +kernel) w h).1
set_option maxRecDepth 20000 in
theorem iX1_winsWithOneSeed_X1 : ∀ w ∈ wsX10, w ∈ wsX1_winsWithOneSeed := fun w h => (goodIn_r (big := wsX1_winsWithOneSeed) wsX10 [51, 52, 53, 54, 55] (by decide +kernel) (by decide +kernel) w h).1
set_option maxHeartbeats 4000000 in
set_option maxRecDepth 100000 in
theorem m_X1_winsWithOneSeed (l : Launch) (dC : Nat → ClassId) (dI : Nat → Nat → Nat) (cI cZ cJ cD : ClassId) (h0 : Nat) (hM : Nat) (aS : Nat) (aC : Nat) (aG : Nat) (hV : Nat) (bS : Nat) (bC : Nat) (bG : Nat) (wd : Int32) (hg : Int32) (wv : Int32) (bd : Int32) (sb : Int32) (nd : Int32) (S0 : Nat → Int32) (Cr : Nat → Int32) (G0 : Nat → Int32) (bd2 : Int32) (sb2 : Int32) (nd2 : Int32) (S2 : Nat → Int32) (Cr2 : Nat → Int32) (G2 : Nat → Int32) (q0 : Nat) (col : Int32) (hq : 1 ≤ q0 ∧ q0 ≤ 4) (hnd : nd = nI q0) : zI l (dC, dI) (wT cI cZ cJ cD) yX1_winsWithOneSeed wsX1_winsWithOneSeed rmX1_winsWithOneSeed [(h0, .inr (1, [.ref hM, .ref hV, .int wd, .int hg, .int wv])), (hM, .inr (0, [.int bd, .int sb, .int nd, .ref aS, .ref aC, .ref aG])), (aS, .inl (cI, 5, .inl S0)), (aC, .inl (cI, 5, .inl Cr)), (aG, .inl (cI, 5, .inl G0)), (hV, .inr (0, [.int bd2, .int sb2, .int nd2, .ref bS, .ref bC, .ref bG])), (bS, .inl (cI, 5, .inl S2)), (bC, .inl (cI, 5, .inl Cr2)), (bG, .inl (cI, 5, .inl G2))] [.ref h0, .int col] (fun (u : Int32 × Int32 × Int32 × (Nat → Int32) × (Nat → Int32) × (Nat → Int32)) => [(h0, .inr (1, [.ref hM, .ref hV, .int wd, .int hg, .int wv])), (hM, .inr (0, [.int bd, .int sb, .int nd, .ref aS, .ref aC, .ref aG])), (aS, .inl (cI, 5, .inl S0)), (aC, .inl (cI, 5, .inl Cr)), (aG, .inl (cI, 5, .inl G0)), (hV, .inr (0, [.int u.1, .int u.2.1, .int u.2.2.1, .ref bS, .ref bC, .ref bG])), (bS, .inl (cI, 5, .inl u.2.2.2.1)), (bC, .inl (cI, 5, .inl u.2.2.2.2.1)), (bG, .inl (cI, 5, .inl u.2.2.2.2.2))]) (fun (r : Int32) (u : Int32 × Int32 × Int32 × (Nat → Int32) × (Nat → Int32) × (Nat → Int32)) => (r = 1 ∧ ∃ j, j < 30 ∧ ¬ bd &&& pSd j = 0 ∧ pWin S0 bd sb q0 (bd &&& pSd j) col) ∨ (r = 0 ∧ ∀ j, j < 30 → ¬ (¬ bd &&& pSd j = 0 ∧ pWin S0 bd sb q0 (bd &&& pSd j) col))) := by
  intro sz
  refine Met.ofW (cc := cX1_winsWithOneSeed) (maxL := 4) (ret := (some .boolean)) (by decide) rfl ?_
  intro p e s m args below meth c s₁ B hml hv
  obtain ⟨ha, hsz, hP, hK, hD0, hN⟩ := hv
  have hx := B.exec
  have hb := B.bytes
  have hr := B.returns
  have hts := atoms_spec (ws := wsX1_winsWithOneSeed) B.pre
  have hown : s.vm.findClass RX1 = some m.cls := findClass_of_methodNamed B.named
  have hlocks := B.notSynchronized
  subst hsz
  have hD := hD0.self (sz := s.heap.size)
  generalize hAe : va_A [(h0, .inr (1, [.ref hM, .ref hV, .int wd, .int hg, .int wv])), (hM, .inr (0, [.int bd, .int sb, .int nd, .ref aS, .ref aC, .ref aG])), (aS, .inl (cI, 5, .inl S0)), (aC, .inl (cI, 5, .inl Cr)), (aG, .inl (cI, 5, .inl G0)), (hV, .inr (0, [.int bd2, .int sb2, .int nd2, .ref bS, .ref bC, .ref bG])), (bS, .inl (cI, 5, .inl S2)), (bC, .inl (cI, 5, .inl Cr2)), (bG, .inl (cI, 5, .inl G2))] s.heap.size = A at hD ⊢
  have hA : ∀ q : Nat, s.heap.size ≤ q → A q := fun q h => by rw [← hAe]; exact Or.inr h
  have hS : va_S A s.heap s.heap [] := va_S.rf
  generalize hQ : MQ below (va_Qi (fun (r : Int32) (u : Int32 × Int32 × Int32 × (Nat → Int32) × (Nat → Int32) × (Nat → Int32)) => (r = 1 ∧ ∃ j, j < 30 ∧ ¬ bd &&& pSd j = 0 ∧ pWin S0 bd sb q0 (bd &&& pSd j) col) ∨ (r = 0 ∧ ∀ j, j < 30 → ¬ (¬ bd &&& pSd j = 0 ∧ pWin S0 bd sb q0 (bd &&& pSd j) col))) (fun u t => va_P (dC, dI) vwCl ((fun (u : Int32 × Int32 × Int32 × (Nat → Int32) × (Nat → Int32) × (Nat → Int32)) => [(h0, .inr (1, [.ref hM, .ref hV, .int wd, .int hg, .int wv])), (hM, .inr (0, [.int bd, .int sb, .int nd, .ref aS, .ref aC, .ref aG])), (aS, .inl (cI, 5, .inl S0)), (aC, .inl (cI, 5, .inl Cr)), (aG, .inl (cI, 5, .inl G0)), (hV, .inr (0, [.int u.1, .int u.2.1, .int u.2.2.1, .ref bS, .ref bC, .ref bG])), (bS, .inl (cI, 5, .inl u.2.2.2.1)), (bC, .inl (cI, 5, .inl u.2.2.2.2.1)), (bG, .inl (cI, 5, .inl u.2.2.2.2.2))]) u) t.heap) A) args s 0 0 A = Q
  have F9 : CallFix p m c cX1_winsWithOneSeed 4 s args wsX1_winsWithOneSeed RX1 := ⟨hx, hb, hml, hown, hts⟩
  refine z_entry (R := rmX1_winsWithOneSeed) ha (Nat.le_of_ble_eq_true rfl) (fun ls hl => ?_)
  have hl : lv_has ls 4 [(0, .ref h0), (1, .int col)] := hl
  refine lv_iconst (v := 0) hx hb dX1_winsWithOneSeed_0 (by decide) ?_
  refine lv_istore_n (lv' := [(2, .int 0), (0, .ref h0), (1, .int col)]) hx hb dX1_winsWithOneSeed_1 rfl hl (by decide) rfl (fun ls hl => ?_)
  have loop_2 : ∀ (n : Nat) (k : Nat) (bdq : Int32) (sbq : Int32) (ndq : Int32) (Sq : Nat → Int32) (Crq : Nat → Int32) (Gq : Nat → Int32) (hkn : k + n = 30) (hz : ∀ j, j < k → ¬ (¬ bd &&& pSd j = 0 ∧ pWin S0 bd sb q0 (bd &&& pSd j) col)) (H : Heap) (locs : List Loc) (ls : Array Slot) (hP : va_P (dC, dI) vwCl [(h0, .inr (1, [.ref hM, .ref hV, .int wd, .int hg, .int wv])), (hM, .inr (0, [.int bd, .int sb, .int nd, .ref aS, .ref aC, .ref aG])), (aS, .inl (cI, 5, .inl S0)), (aC, .inl (cI, 5, .inl Cr)), (aG, .inl (cI, 5, .inl G0)), (hV, .inr (0, [.int bdq, .int sbq, .int ndq, .ref bS, .ref bC, .ref bG])), (bS, .inl (cI, 5, .inl Sq)), (bC, .inl (cI, 5, .inl Crq)), (bG, .inl (cI, 5, .inl Gq))] H) (hD : va_D A [(h0, .inr (1, [.ref hM, .ref hV, .int wd, .int hg, .int wv])), (hM, .inr (0, [.int bd, .int sb, .int nd, .ref aS, .ref aC, .ref aG])), (aS, .inl (cI, 5, .inl S0)), (aC, .inl (cI, 5, .inl Cr)), (aG, .inl (cI, 5, .inl G0)), (hV, .inr (0, [.int bdq, .int sbq, .int ndq, .ref bS, .ref bC, .ref bG])), (bS, .inl (cI, 5, .inl Sq)), (bC, .inl (cI, 5, .inl Crq)), (bG, .inl (cI, 5, .inl Gq))]) (hS : va_S A s.heap H locs) (hl : lv_has ls 4 [(0, .ref h0), (1, .int col), (2, .int (nI k))]), W p l e rmX1_winsWithOneSeed s m args below meth c H locs 0 0 Q (F0 m 2 ls []) := by
    intro n
    induction n with
    | zero =>
      intro k bdq sbq ndq Sq Crq Gq hkn hz H locs ls hP hD hS hl
      refine lv_iload_n hx hb dX1_winsWithOneSeed_2 rfl (lv_at hl 2 rfl) ?_
      refine lv_bipush (v := 30) hx hb dX1_winsWithOneSeed_3 (by decide +kernel) ?_
      refine lv_icmp_ge (tgt := 41) hx hb dX1_winsWithOneSeed_5 (by decide) (fun c_5 => ?_) (fun c_5 => ?_)
      · skip
        have n_5 := zc_le_t (a := 30) (b := k) (by omega) (by omega) c_5
        refine lv_iconst (v := 0) hx hb dX1_winsWithOneSeed_41 (by decide) ?_
        rw [← hQ]
        exact z_zret (W1 := (fun (u : Int32 × Int32 × Int32 × (Nat → Int32) × (Nat → Int32) × (Nat → Int32)) => [(h0, .inr (1, [.ref hM, .ref hV, .int wd, .int hg, .int wv])), (hM, .inr (0, [.int bd, .int sb, .int nd, .ref aS, .ref aC, .ref aG])), (aS, .inl (cI, 5, .inl S0)), (aC, .inl (cI, 5, .inl Cr)), (aG, .inl (cI, 5, .inl G0)), (hV, .inr (0, [.int u.1, .int u.2.1, .int u.2.2.1, .ref bS, .ref bC, .ref bG])), (bS, .inl (cI, 5, .inl u.2.2.2.1)), (bC, .inl (cI, 5, .inl u.2.2.2.2.1)), (bG, .inl (cI, 5, .inl u.2.2.2.2.2))])) hx hb hr hlocks (by decide +kernel) hP hS (bdq, sbq, ndq, Sq, Crq, Gq) (rfl) (Or.inr ⟨rfl, fun j hj => hz j (by omega)⟩) dX1_winsWithOneSeed_42
      · skip
        have n_5 := zc_le_f (a := 30) (b := k) (by omega) (by omega) c_5
        exact absurd n_5 (by omega)
    | succ n ih_2 =>
      intro k bdq sbq ndq Sq Crq Gq hkn hz H locs ls hP hD hS hl
      refine lv_iload_n hx hb dX1_winsWithOneSeed_2 rfl (lv_at hl 2 rfl) ?_
      refine lv_bipush (v := 30) hx hb dX1_winsWithOneSeed_3 (by decide +kernel) ?_
      refine lv_icmp_ge (tgt := 41) hx hb dX1_winsWithOneSeed_5 (by decide) (fun c_5 => ?_) (fun c_5 => ?_)
      · skip
        have n_5 := zc_le_t (a := 30) (b := k) (by omega) (by omega) c_5
        exact absurd n_5 (by omega)
      · skip
        have n_5 := zc_le_f (a := 30) (b := k) (by omega) (by omega) c_5
        refine lv_aload_n hx hb dX1_winsWithOneSeed_8 rfl (lv_at hl 0 rfl) ?_
        refine va_get (D := (dC, dI)) (ci := 1) (v := .ref hM) (C := RX1) (T := TX1) (N := 5) hx hb hts iX1_winsWithOneSeed_X1 hown hK hP 0 rfl rfl 0 (by decide) (hts (.fieldLink RX1 12 "ColourTide" "map" "LColourTide$Tide;") (List.mem_of_getElem? (i := 1) rfl)) (fun _ h9 => h9) rfl dX1_winsWithOneSeed_9 ?_
        refine va_get (D := (dC, dI)) (ci := 0) (v := .int bd) (C := RX0) (T := TX0) (N := 6) hx hb hts iX1_winsWithOneSeed_X0 hown hK hP 1 rfl rfl 0 (by decide) (hts (.fieldLink RX1 173 "ColourTide$Tide" "board" "I") (List.mem_of_getElem? (i := 2) rfl)) (fun _ h9 => h9) rfl dX1_winsWithOneSeed_12 ?_
        refine lv_iconst (v := 1) hx hb dX1_winsWithOneSeed_15 (by decide) ?_
        refine lv_iload_n hx hb dX1_winsWithOneSeed_16 rfl (lv_at hl 2 rfl) ?_
        refine lv_ishl hx hb dX1_winsWithOneSeed_17 ?_
        refine z_topi (y := pSd k) (rfl) ?_
        refine lv_iand hx hb dX1_winsWithOneSeed_18 ?_
        refine lv_istore_n (lv' := [(3, .int (bd &&& (pSd k))), (0, .ref h0), (1, .int col), (2, .int (nI k))]) hx hb dX1_winsWithOneSeed_19 rfl hl (by decide) rfl (fun ls hl => ?_)
        refine lv_iload_n hx hb dX1_winsWithOneSeed_20 rfl (lv_at hl 0 rfl) ?_
        refine lv_if_eq (tgt := 35) hx hb dX1_winsWithOneSeed_21 (by decide) (fun c_21 => ?_) (fun c_21 => ?_)
        · skip
          refine lv_iinc (v := nI (k + 1)) (lv' := [(2, .int (nI (k + 1))), (3, .int (bd &&& (pSd k))), (0, .ref h0), (1, .int col)]) hx hb dX1_winsWithOneSeed_35 hl (k := 3) rfl (nI_1 k) (by decide) rfl (fun ls hl => ?_)
          refine lv_goto (tgt := 2) hx hb dX1_winsWithOneSeed_38 (by decide) ?_
          exact ih_2 (k + 1) bdq sbq ndq Sq Crq Gq (by omega) (fun j h2 => by rcases Nat.lt_succ_iff_lt_or_eq.mp h2 with h | rfl; exact hz j h; exact fun q => q.1 c_21) _ _ _ hP hD hS (lv_sub hl [2, 3, 0] rfl)
        · skip
          refine lv_aload_n hx hb dX1_winsWithOneSeed_24 rfl (lv_at hl 1 rfl) ?_
          refine lv_iload_n hx hb dX1_winsWithOneSeed_25 rfl (lv_at hl 0 rfl) ?_
          refine lv_iload_n hx hb dX1_winsWithOneSeed_26 rfl (lv_at hl 2 rfl) ?_
          refine z_callVi (As := [.int (bd &&& (pSd k)), .int col]) (rest := []) F9 (m_X1_winsWith l dC dI cI cZ cJ cD h0 hM aS aC aG hV bS bC bG wd hg wv bd sb nd S0 Cr G0 bdq sbq ndq Sq Crq Gq q0 (bd &&& (pSd k)) col (hq) (hnd)) (cwV 2 hts gX1_winsWithOneSeed_X1_winsWith rfl rfl rfl (by decide +kernel) ⟨Nat.le_of_ble_eq_true rfl, Nat.le_of_ble_eq_true rfl⟩) hK hN hP hD hS hA [0, 1, 2, 3, 4, 5, 6, 7, 8] rfl rfl (fun _ => rfl) 0 (ci := 1) rfl rfl rfl rfl hl.1 rfl (Nat.le_of_ble_eq_true rfl) dX1_winsWithOneSeed_27 ⟨Nat.zero_le _, Nat.zero_le _⟩ (fun r_1 u H locs hp_27 hP hD hS => ?_)
          obtain ⟨bdq_2, sbq_3, ndq_4, Sq_5, Crq_6, Gq_7⟩ := u
          have hP : va_P (dC, dI) vwCl [(h0, .inr (1, [.ref hM, .ref hV, .int wd, .int hg, .int wv])), (hM, .inr (0, [.int bd, .int sb, .int nd, .ref aS, .ref aC, .ref aG])), (aS, .inl (cI, 5, .inl S0)), (aC, .inl (cI, 5, .inl Cr)), (aG, .inl (cI, 5, .inl G0)), (hV, .inr (0, [.int bdq_2, .int sbq_3, .int ndq_4, .ref bS, .ref bC, .ref bG])), (bS, .inl (cI, 5, .inl Sq_5)), (bC, .inl (cI, 5, .inl Crq_6)), (bG, .inl (cI, 5, .inl Gq_7))] H := hP
          have hD : va_D A [(h0, .inr (1, [.ref hM, .ref hV, .int wd, .int hg, .int wv])), (hM, .inr (0, [.int bd, .int sb, .int nd, .ref aS, .ref aC, .ref aG])), (aS, .inl (cI, 5, .inl S0)), (aC, .inl (cI, 5, .inl Cr)), (aG, .inl (cI, 5, .inl G0)), (hV, .inr (0, [.int bdq_2, .int sbq_3, .int ndq_4, .ref bS, .ref bC, .ref bG])), (bS, .inl (cI, 5, .inl Sq_5)), (bC, .inl (cI, 5, .inl Crq_6)), (bG, .inl (cI, 5, .inl Gq_7))] := hD
          have hp_27 : r_1 = if pWin S0 bd sb q0 (bd &&& (pSd k)) col then 1 else 0 := hp_27
          refine z_topi (y := if pWin S0 bd sb q0 (bd &&& (pSd k)) col then 1 else 0) hp_27 ?_
          refine lv_if_eq (tgt := 35) hx hb dX1_winsWithOneSeed_30 (by decide) (fun c_30 => ?_) (fun c_30 => ?_)
          · skip
            refine lv_iinc (v := nI (k + 1)) (lv' := [(2, .int (nI (k + 1))), (3, .int (bd &&& (pSd k))), (0, .ref h0), (1, .int col)]) hx hb dX1_winsWithOneSeed_35 hl (k := 3) rfl (nI_1 k) (by decide) rfl (fun ls hl => ?_)
            refine lv_goto (tgt := 2) hx hb dX1_winsWithOneSeed_38 (by decide) ?_
            exact ih_2 (k + 1) bdq_2 sbq_3 ndq_4 Sq_5 Crq_6 Gq_7 (by omega) (fun j h2 => by rcases Nat.lt_succ_iff_lt_or_eq.mp h2 with h | rfl; exact hz j h; exact fun q => z_if0 c_30 q.2) _ _ _ hP hD hS (lv_sub hl [2, 3, 0] rfl)
          · skip
            refine lv_iconst (v := 1) hx hb dX1_winsWithOneSeed_33 (by decide) ?_
            rw [← hQ]
            exact z_zret (W1 := (fun (u : Int32 × Int32 × Int32 × (Nat → Int32) × (Nat → Int32) × (Nat → Int32)) => [(h0, .inr (1, [.ref hM, .ref hV, .int wd, .int hg, .int wv])), (hM, .inr (0, [.int bd, .int sb, .int nd, .ref aS, .ref aC, .ref aG])), (aS, .inl (cI, 5, .inl S0)), (aC, .inl (cI, 5, .inl Cr)), (aG, .inl (cI, 5, .inl G0)), (hV, .inr (0, [.int u.1, .int u.2.1, .int u.2.2.1, .ref bS, .ref bC, .ref bG])), (bS, .inl (cI, 5, .inl u.2.2.2.1)), (bC, .inl (cI, 5, .inl u.2.2.2.2.1)), (bG, .inl (cI, 5, .inl u.2.2.2.2.2))])) hx hb hr hlocks (by decide +kernel) hP hS (bdq_2, sbq_3, ndq_4, Sq_5, Crq_6, Gq_7) (rfl) (Or.inl ⟨rfl, k, by omega, c_21, z_if1 c_30⟩) dX1_winsWithOneSeed_34
  exact loop_2 30 0 bd2 sb2 nd2 S2 Cr2 G2 (by omega) (fun j h2 => absurd h2 (by omega)) _ _ _ hP hD hS (lv_sub hl [1, 2, 0] rfl)
abbrev rmX1_winsWithTwoSeeds : Room := { frames := 5, cells := 0, slots := 0, locals := 116 }
set_option maxRecDepth 20000 in
theorem iX1_winsWithTwoSeeds_X0 : ∀ w ∈ wsX00, w ∈ wsX1_winsWithTwoSeeds := fun w h => (goodIn_r (big := wsX1_winsWithTwoSeeds) wsX00 [56, 57, 58, 59, 60, 61] (by decide +kernel) (by decide +kernel) w h).1
set_option maxRecDepth 20000 in
theorem iX1_winsWithTwoSeeds_X1 : ∀ w ∈ wsX10, w ∈ wsX1_winsWithTwoSeeds := fun w h => (goodIn_r (big := wsX1_winsWithTwoSeeds) wsX10 [51, 52, 53, 54, 55] (by decide +kernel) (by decide +kernel) w h).1
set_option maxHeartbeats 4000000 in
set_option maxRecDepth 100000 in
theorem m_X1_winsWithTwoSeeds (l : Launch) (dC : Nat → ClassId) (dI : Nat → Nat → Nat) (cI cZ cJ cD : ClassId) (h0 : Nat) (hM : Nat) (aS : Nat) (aC : Nat) (aG : Nat) (hV : Nat) (bS : Nat) (bC : Nat) (bG : Nat) (wd : Int32) (hg : Int32) (wv : Int32) (bd : Int32) (sb : Int32) (nd : Int32) (S0 : Nat → Int32) (Cr : Nat → Int32) (G0 : Nat → Int32) (bd2 : Int32) (sb2 : Int32) (nd2 : Int32) (S2 : Nat → Int32) (Cr2 : Nat → Int32) (G2 : Nat → Int32) (q0 : Nat) (col : Int32) (hq : 1 ≤ q0 ∧ q0 ≤ 4) (hnd : nd = nI q0) : zI l (dC, dI) (wT cI cZ cJ cD) yX1_winsWithTwoSeeds wsX1_winsWithTwoSeeds rmX1_winsWithTwoSeeds [(h0, .inr (1, [.ref hM, .ref hV, .int wd, .int hg, .int wv])), (hM, .inr (0, [.int bd, .int sb, .int nd, .ref aS, .ref aC, .ref aG])), (aS, .inl (cI, 5, .inl S0)), (aC, .inl (cI, 5, .inl Cr)), (aG, .inl (cI, 5, .inl G0)), (hV, .inr (0, [.int bd2, .int sb2, .int nd2, .ref bS, .ref bC, .ref bG])), (bS, .inl (cI, 5, .inl S2)), (bC, .inl (cI, 5, .inl Cr2)), (bG, .inl (cI, 5, .inl G2))] [.ref h0, .int col] (fun (u : Int32 × Int32 × Int32 × (Nat → Int32) × (Nat → Int32) × (Nat → Int32)) => [(h0, .inr (1, [.ref hM, .ref hV, .int wd, .int hg, .int wv])), (hM, .inr (0, [.int bd, .int sb, .int nd, .ref aS, .ref aC, .ref aG])), (aS, .inl (cI, 5, .inl S0)), (aC, .inl (cI, 5, .inl Cr)), (aG, .inl (cI, 5, .inl G0)), (hV, .inr (0, [.int u.1, .int u.2.1, .int u.2.2.1, .ref bS, .ref bC, .ref bG])), (bS, .inl (cI, 5, .inl u.2.2.2.1)), (bC, .inl (cI, 5, .inl u.2.2.2.2.1)), (bG, .inl (cI, 5, .inl u.2.2.2.2.2))]) (fun (r : Int32) (u : Int32 × Int32 × Int32 × (Nat → Int32) × (Nat → Int32) × (Nat → Int32)) => (r = 1 ∧ ∃ i j, i < j ∧ j < 30 ∧ (pSd i ||| pSd j) &&& (bd ^^^ (-1)) = 0 ∧ pWin S0 bd sb q0 (pSd i ||| pSd j) col) ∨ (r = 0 ∧ ∀ i j, i < j → j < 30 → ¬ ((pSd i ||| pSd j) &&& (bd ^^^ (-1)) = 0 ∧ pWin S0 bd sb q0 (pSd i ||| pSd j) col))) := by
  intro sz
  refine Met.ofW (cc := cX1_winsWithTwoSeeds) (maxL := 5) (ret := (some .boolean)) (by decide) rfl ?_
  intro p e s m args below meth c s₁ B hml hv
  obtain ⟨ha, hsz, hP, hK, hD0, hN⟩ := hv
  have hx := B.exec
  have hb := B.bytes
  have hr := B.returns
  have hts := atoms_spec (ws := wsX1_winsWithTwoSeeds) B.pre
  have hown : s.vm.findClass RX1 = some m.cls := findClass_of_methodNamed B.named
  have hlocks := B.notSynchronized
  subst hsz
  have hD := hD0.self (sz := s.heap.size)
  generalize hAe : va_A [(h0, .inr (1, [.ref hM, .ref hV, .int wd, .int hg, .int wv])), (hM, .inr (0, [.int bd, .int sb, .int nd, .ref aS, .ref aC, .ref aG])), (aS, .inl (cI, 5, .inl S0)), (aC, .inl (cI, 5, .inl Cr)), (aG, .inl (cI, 5, .inl G0)), (hV, .inr (0, [.int bd2, .int sb2, .int nd2, .ref bS, .ref bC, .ref bG])), (bS, .inl (cI, 5, .inl S2)), (bC, .inl (cI, 5, .inl Cr2)), (bG, .inl (cI, 5, .inl G2))] s.heap.size = A at hD ⊢
  have hA : ∀ q : Nat, s.heap.size ≤ q → A q := fun q h => by rw [← hAe]; exact Or.inr h
  have hS : va_S A s.heap s.heap [] := va_S.rf
  generalize hQ : MQ below (va_Qi (fun (r : Int32) (u : Int32 × Int32 × Int32 × (Nat → Int32) × (Nat → Int32) × (Nat → Int32)) => (r = 1 ∧ ∃ i j, i < j ∧ j < 30 ∧ (pSd i ||| pSd j) &&& (bd ^^^ (-1)) = 0 ∧ pWin S0 bd sb q0 (pSd i ||| pSd j) col) ∨ (r = 0 ∧ ∀ i j, i < j → j < 30 → ¬ ((pSd i ||| pSd j) &&& (bd ^^^ (-1)) = 0 ∧ pWin S0 bd sb q0 (pSd i ||| pSd j) col))) (fun u t => va_P (dC, dI) vwCl ((fun (u : Int32 × Int32 × Int32 × (Nat → Int32) × (Nat → Int32) × (Nat → Int32)) => [(h0, .inr (1, [.ref hM, .ref hV, .int wd, .int hg, .int wv])), (hM, .inr (0, [.int bd, .int sb, .int nd, .ref aS, .ref aC, .ref aG])), (aS, .inl (cI, 5, .inl S0)), (aC, .inl (cI, 5, .inl Cr)), (aG, .inl (cI, 5, .inl G0)), (hV, .inr (0, [.int u.1, .int u.2.1, .int u.2.2.1, .ref bS, .ref bC, .ref bG])), (bS, .inl (cI, 5, .inl u.2.2.2.1)), (bC, .inl (cI, 5, .inl u.2.2.2.2.1)), (bG, .inl (cI, 5, .inl u.2.2.2.2.2))]) u) t.heap) A) args s 0 0 A = Q
  have F9 : CallFix p m c cX1_winsWithTwoSeeds 5 s args wsX1_winsWithTwoSeeds RX1 := ⟨hx, hb, hml, hown, hts⟩
  refine z_entry (R := rmX1_winsWithTwoSeeds) ha (Nat.le_of_ble_eq_true rfl) (fun ls hl => ?_)
  have hl : lv_has ls 5 [(0, .ref h0), (1, .int col)] := hl
  refine lv_iconst (v := 0) hx hb dX1_winsWithTwoSeeds_0 (by decide) ?_
  refine lv_istore_n (lv' := [(2, .int 0), (0, .ref h0), (1, .int col)]) hx hb dX1_winsWithTwoSeeds_1 rfl hl (by decide) rfl (fun ls hl => ?_)
  have loop_2 : ∀ (n : Nat) (k : Nat) (bdq : Int32) (sbq : Int32) (ndq : Int32) (Sq : Nat → Int32) (Crq : Nat → Int32) (Gq : Nat → Int32) (hkn : k + n = 30) (hz : ∀ i j, i < k → i < j → j < 30 → ¬ ((pSd i ||| pSd j) &&& (bd ^^^ (-1)) = 0 ∧ pWin S0 bd sb q0 (pSd i ||| pSd j) col)) (H : Heap) (locs : List Loc) (ls : Array Slot) (hP : va_P (dC, dI) vwCl [(h0, .inr (1, [.ref hM, .ref hV, .int wd, .int hg, .int wv])), (hM, .inr (0, [.int bd, .int sb, .int nd, .ref aS, .ref aC, .ref aG])), (aS, .inl (cI, 5, .inl S0)), (aC, .inl (cI, 5, .inl Cr)), (aG, .inl (cI, 5, .inl G0)), (hV, .inr (0, [.int bdq, .int sbq, .int ndq, .ref bS, .ref bC, .ref bG])), (bS, .inl (cI, 5, .inl Sq)), (bC, .inl (cI, 5, .inl Crq)), (bG, .inl (cI, 5, .inl Gq))] H) (hD : va_D A [(h0, .inr (1, [.ref hM, .ref hV, .int wd, .int hg, .int wv])), (hM, .inr (0, [.int bd, .int sb, .int nd, .ref aS, .ref aC, .ref aG])), (aS, .inl (cI, 5, .inl S0)), (aC, .inl (cI, 5, .inl Cr)), (aG, .inl (cI, 5, .inl G0)), (hV, .inr (0, [.int bdq, .int sbq, .int ndq, .ref bS, .ref bC, .ref bG])), (bS, .inl (cI, 5, .inl Sq)), (bC, .inl (cI, 5, .inl Crq)), (bG, .inl (cI, 5, .inl Gq))]) (hS : va_S A s.heap H locs) (hl : lv_has ls 5 [(0, .ref h0), (1, .int col), (2, .int (nI k))]), W p l e rmX1_winsWithTwoSeeds s m args below meth c H locs 0 0 Q (F0 m 2 ls []) := by
    intro n
    induction n with
    | zero =>
      intro k bdq sbq ndq Sq Crq Gq hkn hz H locs ls hP hD hS hl
      refine lv_iload_n hx hb dX1_winsWithTwoSeeds_2 rfl (lv_at hl 2 rfl) ?_
      refine lv_bipush (v := 30) hx hb dX1_winsWithTwoSeeds_3 (by decide +kernel) ?_
      refine lv_icmp_ge (tgt := 66) hx hb dX1_winsWithTwoSeeds_5 (by decide) (fun c_5 => ?_) (fun c_5 => ?_)
      · skip
        have n_5 := zc_le_t (a := 30) (b := k) (by omega) (by omega) c_5
        refine lv_iconst (v := 0) hx hb dX1_winsWithTwoSeeds_66 (by decide) ?_
        rw [← hQ]
        exact z_zret (W1 := (fun (u : Int32 × Int32 × Int32 × (Nat → Int32) × (Nat → Int32) × (Nat → Int32)) => [(h0, .inr (1, [.ref hM, .ref hV, .int wd, .int hg, .int wv])), (hM, .inr (0, [.int bd, .int sb, .int nd, .ref aS, .ref aC, .ref aG])), (aS, .inl (cI, 5, .inl S0)), (aC, .inl (cI, 5, .inl Cr)), (aG, .inl (cI, 5, .inl G0)), (hV, .inr (0, [.int u.1, .int u.2.1, .int u.2.2.1, .ref bS, .ref bC, .ref bG])), (bS, .inl (cI, 5, .inl u.2.2.2.1)), (bC, .inl (cI, 5, .inl u.2.2.2.2.1)), (bG, .inl (cI, 5, .inl u.2.2.2.2.2))])) hx hb hr hlocks (by decide +kernel) hP hS (bdq, sbq, ndq, Sq, Crq, Gq) (rfl) (Or.inr ⟨rfl, fun i j h1 h2 => hz i j (by omega) h1 h2⟩) dX1_winsWithTwoSeeds_67
      · skip
        have n_5 := zc_le_f (a := 30) (b := k) (by omega) (by omega) c_5
        exact absurd n_5 (by omega)
    | succ n ih_2 =>
      intro k bdq sbq ndq Sq Crq Gq hkn hz H locs ls hP hD hS hl
      refine lv_iload_n hx hb dX1_winsWithTwoSeeds_2 rfl (lv_at hl 2 rfl) ?_
      refine lv_bipush (v := 30) hx hb dX1_winsWithTwoSeeds_3 (by decide +kernel) ?_
      refine lv_icmp_ge (tgt := 66) hx hb dX1_winsWithTwoSeeds_5 (by decide) (fun c_5 => ?_) (fun c_5 => ?_)
      · skip
        have n_5 := zc_le_t (a := 30) (b := k) (by omega) (by omega) c_5
        exact absurd n_5 (by omega)
      · skip
        have n_5 := zc_le_f (a := 30) (b := k) (by omega) (by omega) c_5
        refine lv_iload_n hx hb dX1_winsWithTwoSeeds_8 rfl (lv_at hl 2 rfl) ?_
        refine lv_iconst (v := 1) hx hb dX1_winsWithTwoSeeds_9 (by decide) ?_
        refine lv_iadd hx hb dX1_winsWithTwoSeeds_10 ?_
        refine z_topi (y := nI (k + 1)) (nI_add k 1) ?_
        refine lv_istore_n (lv' := [(3, .int (nI (k + 1))), (0, .ref h0), (1, .int col), (2, .int (nI k))]) hx hb dX1_winsWithTwoSeeds_11 rfl hl (by decide) rfl (fun ls hl => ?_)
        have loop_12 : ∀ (n : Nat) (t : Nat) (bdq : Int32) (sbq : Int32) (ndq : Int32) (Sq : Nat → Int32) (Crq : Nat → Int32) (Gq : Nat → Int32) (hkn : t + n = 30) (ht : k < t) (hy : ∀ j, k < j → j < t → ¬ ((pSd k ||| pSd j) &&& (bd ^^^ (-1)) = 0 ∧ pWin S0 bd sb q0 (pSd k ||| pSd j) col)) (H : Heap) (locs : List Loc) (ls : Array Slot) (hP : va_P (dC, dI) vwCl [(h0, .inr (1, [.ref hM, .ref hV, .int wd, .int hg, .int wv])), (hM, .inr (0, [.int bd, .int sb, .int nd, .ref aS, .ref aC, .ref aG])), (aS, .inl (cI, 5, .inl S0)), (aC, .inl (cI, 5, .inl Cr)), (aG, .inl (cI, 5, .inl G0)), (hV, .inr (0, [.int bdq, .int sbq, .int ndq, .ref bS, .ref bC, .ref bG])), (bS, .inl (cI, 5, .inl Sq)), (bC, .inl (cI, 5, .inl Crq)), (bG, .inl (cI, 5, .inl Gq))] H) (hD : va_D A [(h0, .inr (1, [.ref hM, .ref hV, .int wd, .int hg, .int wv])), (hM, .inr (0, [.int bd, .int sb, .int nd, .ref aS, .ref aC, .ref aG])), (aS, .inl (cI, 5, .inl S0)), (aC, .inl (cI, 5, .inl Cr)), (aG, .inl (cI, 5, .inl G0)), (hV, .inr (0, [.int bdq, .int sbq, .int ndq, .ref bS, .ref bC, .ref bG])), (bS, .inl (cI, 5, .inl Sq)), (bC, .inl (cI, 5, .inl Crq)), (bG, .inl (cI, 5, .inl Gq))]) (hS : va_S A s.heap H locs) (hl : lv_has ls 5 [(0, .ref h0), (1, .int col), (2, .int (nI k)), (3, .int (nI t))]), W p l e rmX1_winsWithTwoSeeds s m args below meth c H locs 0 0 Q (F0 m 12 ls []) := by
          intro n
          induction n with
          | zero =>
            intro t bdq sbq ndq Sq Crq Gq hkn ht hy H locs ls hP hD hS hl
            refine lv_iload_n hx hb dX1_winsWithTwoSeeds_12 rfl (lv_at hl 3 rfl) ?_
            refine lv_bipush (v := 30) hx hb dX1_winsWithTwoSeeds_13 (by decide +kernel) ?_
            refine lv_icmp_ge (tgt := 60) hx hb dX1_winsWithTwoSeeds_15 (by decide) (fun c_15 => ?_) (fun c_15 => ?_)
            · skip
              have n_15 := zc_le_t (a := 30) (b := t) (by omega) (by omega) c_15
              refine lv_iinc (v := nI (k + 1)) (lv' := [(2, .int (nI (k + 1))), (0, .ref h0), (1, .int col), (3, .int (nI t))]) hx hb dX1_winsWithTwoSeeds_60 hl (k := 2) rfl (nI_1 k) (by decide) rfl (fun ls hl => ?_)
              refine lv_goto (tgt := 2) hx hb dX1_winsWithTwoSeeds_63 (by decide) ?_
              exact ih_2 (k + 1) bdq sbq ndq Sq Crq Gq (by omega) (fun i j h2 h3 h4 => by rcases Nat.lt_succ_iff_lt_or_eq.mp h2 with h | rfl; exact hz i j h h3 h4; exact hy j h3 (by omega)) _ _ _ hP hD hS (lv_sub hl [1, 2, 0] rfl)
            · skip
              have n_15 := zc_le_f (a := 30) (b := t) (by omega) (by omega) c_15
              exact absurd n_15 (by omega)
          | succ n ih_12 =>
            intro t bdq sbq ndq Sq Crq Gq hkn ht hy H locs ls hP hD hS hl
            refine lv_iload_n hx hb dX1_winsWithTwoSeeds_12 rfl (lv_at hl 3 rfl) ?_
            refine lv_bipush (v := 30) hx hb dX1_winsWithTwoSeeds_13 (by decide +kernel) ?_
            refine lv_icmp_ge (tgt := 60) hx hb dX1_winsWithTwoSeeds_15 (by decide) (fun c_15 => ?_) (fun c_15 => ?_)
            · skip
              have n_15 := zc_le_t (a := 30) (b := t) (by omega) (by omega) c_15
              exact absurd n_15 (by omega)
            · skip
              have n_15 := zc_le_f (a := 30) (b := t) (by omega) (by omega) c_15
              refine lv_iconst (v := 1) hx hb dX1_winsWithTwoSeeds_18 (by decide) ?_
              refine lv_iload_n hx hb dX1_winsWithTwoSeeds_19 rfl (lv_at hl 2 rfl) ?_
              refine lv_ishl hx hb dX1_winsWithTwoSeeds_20 ?_
              refine z_topi (y := pSd k) (rfl) ?_
              refine lv_iconst (v := 1) hx hb dX1_winsWithTwoSeeds_21 (by decide) ?_
              refine lv_iload_n hx hb dX1_winsWithTwoSeeds_22 rfl (lv_at hl 3 rfl) ?_
              refine lv_ishl hx hb dX1_winsWithTwoSeeds_23 ?_
              refine z_topi (y := pSd t) (rfl) ?_
              refine lv_ior hx hb dX1_winsWithTwoSeeds_24 ?_
              refine lv_istore (lv' := [(4, .int ((pSd k) ||| (pSd t))), (0, .ref h0), (1, .int col), (2, .int (nI k)), (3, .int (nI t))]) hx hb dX1_winsWithTwoSeeds_25 hl (by decide) rfl (fun ls hl => ?_)
              refine lv_iload hx hb dX1_winsWithTwoSeeds_27 (lv_at hl 0 rfl) ?_
              refine lv_aload_n hx hb dX1_winsWithTwoSeeds_29 rfl (lv_at hl 1 rfl) ?_
              refine va_get (D := (dC, dI)) (ci := 1) (v := .ref hM) (C := RX1) (T := TX1) (N := 5) hx hb hts iX1_winsWithTwoSeeds_X1 hown hK hP 0 rfl rfl 0 (by decide) (hts (.fieldLink RX1 12 "ColourTide" "map" "LColourTide$Tide;") (List.mem_of_getElem? (i := 1) rfl)) (fun _ h9 => h9) rfl dX1_winsWithTwoSeeds_30 ?_
              refine va_get (D := (dC, dI)) (ci := 0) (v := .int bd) (C := RX0) (T := TX0) (N := 6) hx hb hts iX1_winsWithTwoSeeds_X0 hown hK hP 1 rfl rfl 0 (by decide) (hts (.fieldLink RX1 173 "ColourTide$Tide" "board" "I") (List.mem_of_getElem? (i := 2) rfl)) (fun _ h9 => h9) rfl dX1_winsWithTwoSeeds_33 ?_
              refine lv_iconst (v := (-1)) hx hb dX1_winsWithTwoSeeds_36 (by decide) ?_
              refine lv_ixor hx hb dX1_winsWithTwoSeeds_37 ?_
              refine lv_iand hx hb dX1_winsWithTwoSeeds_38 ?_
              refine lv_if_ne (tgt := 54) hx hb dX1_winsWithTwoSeeds_39 (by decide) (fun c_39 => ?_) (fun c_39 => ?_)
              · skip
                refine lv_iinc (v := nI (t + 1)) (lv' := [(3, .int (nI (t + 1))), (4, .int ((pSd k) ||| (pSd t))), (0, .ref h0), (1, .int col), (2, .int (nI k))]) hx hb dX1_winsWithTwoSeeds_54 hl (k := 4) rfl (nI_1 t) (by decide) rfl (fun ls hl => ?_)
                refine lv_goto (tgt := 12) hx hb dX1_winsWithTwoSeeds_57 (by decide) ?_
                exact ih_12 (t + 1) bdq sbq ndq Sq Crq Gq (by omega) (by omega) (fun j h2 h3 => by rcases Nat.lt_succ_iff_lt_or_eq.mp h3 with h | rfl; exact hy j h2 h; exact fun q => c_39 q.1) _ _ _ hP hD hS (lv_sub hl [2, 3, 4, 0] rfl)
              · skip
                refine lv_aload_n hx hb dX1_winsWithTwoSeeds_42 rfl (lv_at hl 1 rfl) ?_
                refine lv_iload hx hb dX1_winsWithTwoSeeds_43 (lv_at hl 0 rfl) ?_
                refine lv_iload_n hx hb dX1_winsWithTwoSeeds_45 rfl (lv_at hl 2 rfl) ?_
                refine z_callVi (As := [.int ((pSd k) ||| (pSd t)), .int col]) (rest := []) F9 (m_X1_winsWith l dC dI cI cZ cJ cD h0 hM aS aC aG hV bS bC bG wd hg wv bd sb nd S0 Cr G0 bdq sbq ndq Sq Crq Gq q0 ((pSd k) ||| (pSd t)) col (hq) (hnd)) (cwV 2 hts gX1_winsWithTwoSeeds_X1_winsWith rfl rfl rfl (by decide +kernel) ⟨Nat.le_of_ble_eq_true rfl, Nat.le_of_ble_eq_true rfl⟩) hK hN hP hD hS hA [0, 1, 2, 3, 4, 5, 6, 7, 8] rfl rfl (fun _ => rfl) 0 (ci := 1) rfl rfl rfl rfl hl.1 rfl (Nat.le_of_ble_eq_true rfl) dX1_winsWithTwoSeeds_46 ⟨Nat.zero_le _, Nat.zero_le _⟩ (fun r_1 u H locs hp_46 hP hD hS => ?_)
                obtain ⟨bdq_2, sbq_3, ndq_4, Sq_5, Crq_6, Gq_7⟩ := u
                have hP : va_P (dC, dI) vwCl [(h0, .inr (1, [.ref hM, .ref hV, .int wd, .int hg, .int wv])), (hM, .inr (0, [.int bd, .int sb, .int nd, .ref aS, .ref aC, .ref aG])), (aS, .inl (cI, 5, .inl S0)), (aC, .inl (cI, 5, .inl Cr)), (aG, .inl (cI, 5, .inl G0)), (hV, .inr (0, [.int bdq_2, .int sbq_3, .int ndq_4, .ref bS, .ref bC, .ref bG])), (bS, .inl (cI, 5, .inl Sq_5)), (bC, .inl (cI, 5, .inl Crq_6)), (bG, .inl (cI, 5, .inl Gq_7))] H := hP
                have hD : va_D A [(h0, .inr (1, [.ref hM, .ref hV, .int wd, .int hg, .int wv])), (hM, .inr (0, [.int bd, .int sb, .int nd, .ref aS, .ref aC, .ref aG])), (aS, .inl (cI, 5, .inl S0)), (aC, .inl (cI, 5, .inl Cr)), (aG, .inl (cI, 5, .inl G0)), (hV, .inr (0, [.int bdq_2, .int sbq_3, .int ndq_4, .ref bS, .ref bC, .ref bG])), (bS, .inl (cI, 5, .inl Sq_5)), (bC, .inl (cI, 5, .inl Crq_6)), (bG, .inl (cI, 5, .inl Gq_7))] := hD
                have hp_46 : r_1 = if pWin S0 bd sb q0 ((pSd k) ||| (pSd t)) col then 1 else 0 := hp_46
                refine z_topi (y := if pWin S0 bd sb q0 ((pSd k) ||| (pSd t)) col then 1 else 0) hp_46 ?_
                refine lv_if_eq (tgt := 54) hx hb dX1_winsWithTwoSeeds_49 (by decide) (fun c_49 => ?_) (fun c_49 => ?_)
                · skip
                  refine lv_iinc (v := nI (t + 1)) (lv' := [(3, .int (nI (t + 1))), (4, .int ((pSd k) ||| (pSd t))), (0, .ref h0), (1, .int col), (2, .int (nI k))]) hx hb dX1_winsWithTwoSeeds_54 hl (k := 4) rfl (nI_1 t) (by decide) rfl (fun ls hl => ?_)
                  refine lv_goto (tgt := 12) hx hb dX1_winsWithTwoSeeds_57 (by decide) ?_
                  exact ih_12 (t + 1) bdq_2 sbq_3 ndq_4 Sq_5 Crq_6 Gq_7 (by omega) (by omega) (fun j h2 h3 => by rcases Nat.lt_succ_iff_lt_or_eq.mp h3 with h | rfl; exact hy j h2 h; exact fun q => z_if0 c_49 q.2) _ _ _ hP hD hS (lv_sub hl [2, 3, 4, 0] rfl)
                · skip
                  refine lv_iconst (v := 1) hx hb dX1_winsWithTwoSeeds_52 (by decide) ?_
                  rw [← hQ]
                  exact z_zret (W1 := (fun (u : Int32 × Int32 × Int32 × (Nat → Int32) × (Nat → Int32) × (Nat → Int32)) => [(h0, .inr (1, [.ref hM, .ref hV, .int wd, .int hg, .int wv])), (hM, .inr (0, [.int bd, .int sb, .int nd, .ref aS, .ref aC, .ref aG])), (aS, .inl (cI, 5, .inl S0)), (aC, .inl (cI, 5, .inl Cr)), (aG, .inl (cI, 5, .inl G0)), (hV, .inr (0, [.int u.1, .int u.2.1, .int u.2.2.1, .ref bS, .ref bC, .ref bG])), (bS, .inl (cI, 5, .inl u.2.2.2.1)), (bC, .inl (cI, 5, .inl u.2.2.2.2.1)), (bG, .inl (cI, 5, .inl u.2.2.2.2.2))])) hx hb hr hlocks (by decide +kernel) hP hS (bdq_2, sbq_3, ndq_4, Sq_5, Crq_6, Gq_7) (rfl) (Or.inl ⟨rfl, k, t, ht, by omega, c_39, z_if1 c_49⟩) dX1_winsWithTwoSeeds_53
        exact loop_12 (30 - (k + 1)) (k + 1) bdq sbq ndq Sq Crq Gq (by omega) (Nat.lt_succ_self k) (fun j h2 h3 => absurd h3 (by omega)) _ _ _ hP hD hS (lv_sub hl [1, 2, 3, 0] rfl)
  exact loop_2 30 0 bd2 sb2 nd2 S2 Cr2 G2 (by omega) (fun i j h2 => absurd h2 (by omega)) _ _ _ hP hD hS (lv_sub hl [1, 2, 0] rfl)
abbrev rmX1_wavesUntilStill : Room := { frames := 4, cells := 0, slots := 0, locals := 94 }
set_option maxRecDepth 20000 in
theorem iX1_wavesUntilStill_X0 : ∀ w ∈ wsX00, w ∈ wsX1_wavesUntilStill := fun w h => (goodIn_r (big := wsX1_wavesUntilStill) wsX00 [38, 39, 40, 41, 42, 43] (by decide +kernel) (by decide +kernel) w h).1
set_option maxRecDepth 20000 in
theorem iX1_wavesUntilStill_X1 : ∀ w ∈ wsX10, w ∈ wsX1_wavesUntilStill := fun w h => (goodIn_r (big := wsX1_wavesUntilStill) wsX10 [33, 34, 35, 36, 37] (by decide +kernel) (by decide +kernel) w h).1
set_option maxHeartbeats 4000000 in
set_option maxRecDepth 100000 in
theorem m_X1_wavesUntilStill (l : Launch) (dC : Nat → ClassId) (dI : Nat → Nat → Nat) (cI cZ cJ cD : ClassId) (h0 : Nat) (hM : Nat) (aS : Nat) (aC : Nat) (aG : Nat) (hV : Nat) (bS : Nat) (bC : Nat) (bG : Nat) (wd : Int32) (hg : Int32) (wv : Int32) (bd : Int32) (sb : Int32) (nd : Int32) (S0 : Nat → Int32) (Cr : Nat → Int32) (G0 : Nat → Int32) (bd2 : Int32) (sb2 : Int32) (nd2 : Int32) (S2 : Nat → Int32) (Cr2 : Nat → Int32) (G2 : Nat → Int32) (q0 : Nat) (hq : 1 ≤ q0 ∧ q0 ≤ 4) (hnd : nd = nI q0) : zI l (dC, dI) (wT cI cZ cJ cD) yX1_wavesUntilStill wsX1_wavesUntilStill rmX1_wavesUntilStill [(h0, .inr (1, [.ref hM, .ref hV, .int wd, .int hg, .int wv])), (hM, .inr (0, [.int bd, .int sb, .int nd, .ref aS, .ref aC, .ref aG])), (aS, .inl (cI, 5, .inl S0)), (aC, .inl (cI, 5, .inl Cr)), (aG, .inl (cI, 5, .inl G0)), (hV, .inr (0, [.int bd2, .int sb2, .int nd2, .ref bS, .ref bC, .ref bG])), (bS, .inl (cI, 5, .inl S2)), (bC, .inl (cI, 5, .inl Cr2)), (bG, .inl (cI, 5, .inl G2))] [.ref h0] (fun (u : Int32 × Int32 × Int32 × (Nat → Int32) × (Nat → Int32) × (Nat → Int32)) => [(h0, .inr (1, [.ref hM, .ref hV, .int wd, .int hg, .int wv])), (hM, .inr (0, [.int bd, .int sb, .int nd, .ref aS, .ref aC, .ref aG])), (aS, .inl (cI, 5, .inl S0)), (aC, .inl (cI, 5, .inl Cr)), (aG, .inl (cI, 5, .inl G0)), (hV, .inr (0, [.int u.1, .int u.2.1, .int u.2.2.1, .ref bS, .ref bC, .ref bG])), (bS, .inl (cI, 5, .inl u.2.2.2.1)), (bC, .inl (cI, 5, .inl u.2.2.2.2.1)), (bG, .inl (cI, 5, .inl u.2.2.2.2.2))]) (fun (r : Int32) (u : Int32 × Int32 × Int32 × (Nat → Int32) × (Nat → Int32) × (Nat → Int32)) => (∃ k, k ≤ 40 ∧ r = nI k ∧ pC0 (pIt bd sb q0 S0 k) bd sb q0 = 0 ∧ ∀ j, j < k → ¬ pC0 (pIt bd sb q0 S0 j) bd sb q0 = 0) ∨ (r = -1 ∧ ∀ j, j ≤ 40 → ¬ pC0 (pIt bd sb q0 S0 j) bd sb q0 = 0)) := by
  intro sz
  refine Met.ofW (cc := cX1_wavesUntilStill) (maxL := 2) (ret := (some .int)) (by decide) rfl ?_
  intro p e s m args below meth c s₁ B hml hv
  obtain ⟨ha, hsz, hP, hK, hD0, hN⟩ := hv
  have hx := B.exec
  have hb := B.bytes
  have hr := B.returns
  have hts := atoms_spec (ws := wsX1_wavesUntilStill) B.pre
  have hown : s.vm.findClass RX1 = some m.cls := findClass_of_methodNamed B.named
  have hlocks := B.notSynchronized
  subst hsz
  have hD := hD0.self (sz := s.heap.size)
  generalize hAe : va_A [(h0, .inr (1, [.ref hM, .ref hV, .int wd, .int hg, .int wv])), (hM, .inr (0, [.int bd, .int sb, .int nd, .ref aS, .ref aC, .ref aG])), (aS, .inl (cI, 5, .inl S0)), (aC, .inl (cI, 5, .inl Cr)), (aG, .inl (cI, 5, .inl G0)), (hV, .inr (0, [.int bd2, .int sb2, .int nd2, .ref bS, .ref bC, .ref bG])), (bS, .inl (cI, 5, .inl S2)), (bC, .inl (cI, 5, .inl Cr2)), (bG, .inl (cI, 5, .inl G2))] s.heap.size = A at hD ⊢
  have hA : ∀ q : Nat, s.heap.size ≤ q → A q := fun q h => by rw [← hAe]; exact Or.inr h
  have hS : va_S A s.heap s.heap [] := va_S.rf
  generalize hQ : MQ below (va_Qi (fun (r : Int32) (u : Int32 × Int32 × Int32 × (Nat → Int32) × (Nat → Int32) × (Nat → Int32)) => (∃ k, k ≤ 40 ∧ r = nI k ∧ pC0 (pIt bd sb q0 S0 k) bd sb q0 = 0 ∧ ∀ j, j < k → ¬ pC0 (pIt bd sb q0 S0 j) bd sb q0 = 0) ∨ (r = -1 ∧ ∀ j, j ≤ 40 → ¬ pC0 (pIt bd sb q0 S0 j) bd sb q0 = 0)) (fun u t => va_P (dC, dI) vwCl ((fun (u : Int32 × Int32 × Int32 × (Nat → Int32) × (Nat → Int32) × (Nat → Int32)) => [(h0, .inr (1, [.ref hM, .ref hV, .int wd, .int hg, .int wv])), (hM, .inr (0, [.int bd, .int sb, .int nd, .ref aS, .ref aC, .ref aG])), (aS, .inl (cI, 5, .inl S0)), (aC, .inl (cI, 5, .inl Cr)), (aG, .inl (cI, 5, .inl G0)), (hV, .inr (0, [.int u.1, .int u.2.1, .int u.2.2.1, .ref bS, .ref bC, .ref bG])), (bS, .inl (cI, 5, .inl u.2.2.2.1)), (bC, .inl (cI, 5, .inl u.2.2.2.2.1)), (bG, .inl (cI, 5, .inl u.2.2.2.2.2))]) u) t.heap) A) args s 0 0 A = Q
  have F9 : CallFix p m c cX1_wavesUntilStill 2 s args wsX1_wavesUntilStill RX1 := ⟨hx, hb, hml, hown, hts⟩
  refine z_entry (R := rmX1_wavesUntilStill) ha (Nat.le_of_ble_eq_true rfl) (fun ls hl => ?_)
  have hl : lv_has ls 2 [(0, .ref h0)] := hl
  refine lv_aload_n hx hb dX1_wavesUntilStill_0 rfl (lv_at hl 0 rfl) ?_
  refine va_get (D := (dC, dI)) (ci := 1) (v := .ref hV) (C := RX1) (T := TX1) (N := 5) hx hb hts iX1_wavesUntilStill_X1 hown hK hP 0 rfl rfl 1 (by decide) (hts (.fieldLink RX1 16 "ColourTide" "trial" "LColourTide$Tide;") (List.mem_of_getElem? (i := 1) rfl)) (fun _ h9 => h9) rfl dX1_wavesUntilStill_1 ?_
  refine lv_aload_n hx hb dX1_wavesUntilStill_4 rfl (lv_at hl 0 rfl) ?_
  refine va_get (D := (dC, dI)) (ci := 1) (v := .ref hM) (C := RX1) (T := TX1) (N := 5) hx hb hts iX1_wavesUntilStill_X1 hown hK hP 0 rfl rfl 0 (by decide) (hts (.fieldLink RX1 12 "ColourTide" "map" "LColourTide$Tide;") (List.mem_of_getElem? (i := 2) rfl)) (fun _ h9 => h9) rfl dX1_wavesUntilStill_5 ?_
  refine z_callVv (As := [.ref hM]) (rest := []) F9 (m_X0_copyFrom l dC dI cI cZ cJ cD hV bS bC bG bd2 sb2 nd2 S2 Cr2 G2 hM aS aC aG bd sb nd S0 Cr G0 ) (cwV 1 hts gX1_wavesUntilStill_X0_copyFrom rfl rfl rfl (by decide +kernel) ⟨Nat.le_of_ble_eq_true rfl, Nat.le_of_ble_eq_true rfl⟩) hK hN hP hD hS hA [5, 6, 7, 8, 1, 2, 3, 4] rfl rfl (fun _ => rfl) 5 (ci := 0) rfl rfl rfl rfl hl.1 rfl (Nat.le_of_ble_eq_true rfl) dX1_wavesUntilStill_8 ⟨Nat.zero_le _, Nat.zero_le _⟩ (fun u H locs hp_8 hP hD hS => ?_)
  have hP : va_P (dC, dI) vwCl [(h0, .inr (1, [.ref hM, .ref hV, .int wd, .int hg, .int wv])), (hM, .inr (0, [.int bd, .int sb, .int nd, .ref aS, .ref aC, .ref aG])), (aS, .inl (cI, 5, .inl S0)), (aC, .inl (cI, 5, .inl Cr)), (aG, .inl (cI, 5, .inl G0)), (hV, .inr (0, [.int bd, .int sb, .int nd, .ref bS, .ref bC, .ref bG])), (bS, .inl (cI, 5, .inl (zfill S0 S2 5))), (bC, .inl (cI, 5, .inl Cr2)), (bG, .inl (cI, 5, .inl G2))] H := hP
  have hD : va_D A [(h0, .inr (1, [.ref hM, .ref hV, .int wd, .int hg, .int wv])), (hM, .inr (0, [.int bd, .int sb, .int nd, .ref aS, .ref aC, .ref aG])), (aS, .inl (cI, 5, .inl S0)), (aC, .inl (cI, 5, .inl Cr)), (aG, .inl (cI, 5, .inl G0)), (hV, .inr (0, [.int bd, .int sb, .int nd, .ref bS, .ref bC, .ref bG])), (bS, .inl (cI, 5, .inl (zfill S0 S2 5))), (bC, .inl (cI, 5, .inl Cr2)), (bG, .inl (cI, 5, .inl G2))] := hD
  refine lv_iconst (v := 0) hx hb dX1_wavesUntilStill_11 (by decide) ?_
  refine lv_istore_n (lv' := [(1, .int 0), (0, .ref h0)]) hx hb dX1_wavesUntilStill_12 rfl hl (by decide) rfl (fun ls hl => ?_)
  have loop_13 : ∀ (n : Nat) (k : Nat) (Crk : Nat → Int32) (Gk : Nat → Int32) (hkn : k + n = 41) (hz : ∀ j, j < k → ¬ pC0 (pIt bd sb q0 S0 j) bd sb q0 = 0) (H : Heap) (locs : List Loc) (ls : Array Slot) (hP : va_P (dC, dI) vwCl [(h0, .inr (1, [.ref hM, .ref hV, .int wd, .int hg, .int wv])), (hM, .inr (0, [.int bd, .int sb, .int nd, .ref aS, .ref aC, .ref aG])), (aS, .inl (cI, 5, .inl S0)), (aC, .inl (cI, 5, .inl Cr)), (aG, .inl (cI, 5, .inl G0)), (hV, .inr (0, [.int bd, .int sb, .int nd, .ref bS, .ref bC, .ref bG])), (bS, .inl (cI, 5, .inl (pIt bd sb q0 (zfill S0 S2 5) k))), (bC, .inl (cI, 5, .inl Crk)), (bG, .inl (cI, 5, .inl Gk))] H) (hD : va_D A [(h0, .inr (1, [.ref hM, .ref hV, .int wd, .int hg, .int wv])), (hM, .inr (0, [.int bd, .int sb, .int nd, .ref aS, .ref aC, .ref aG])), (aS, .inl (cI, 5, .inl S0)), (aC, .inl (cI, 5, .inl Cr)), (aG, .inl (cI, 5, .inl G0)), (hV, .inr (0, [.int bd, .int sb, .int nd, .ref bS, .ref bC, .ref bG])), (bS, .inl (cI, 5, .inl (pIt bd sb q0 (zfill S0 S2 5) k))), (bC, .inl (cI, 5, .inl Crk)), (bG, .inl (cI, 5, .inl Gk))]) (hS : va_S A s.heap H locs) (hl : lv_has ls 2 [(0, .ref h0), (1, .int (nI k))]), W p l e rmX1_wavesUntilStill s m args below meth c H locs 0 0 Q (F0 m 13 ls []) := by
    intro n
    induction n with
    | zero =>
      intro k Crk Gk hkn hz H locs ls hP hD hS hl
      refine lv_iload_n hx hb dX1_wavesUntilStill_13 rfl (lv_at hl 1 rfl) ?_
      refine lv_bipush (v := 40) hx hb dX1_wavesUntilStill_14 (by decide +kernel) ?_
      refine lv_icmp_gt (tgt := 38) hx hb dX1_wavesUntilStill_16 (by decide) (fun c_16 => ?_) (fun c_16 => ?_)
      · skip
        have n_16 := zc_lt_t (a := 40) (b := k) (by omega) (by omega) c_16
        refine lv_iconst (v := (-1)) hx hb dX1_wavesUntilStill_38 (by decide) ?_
        rw [← hQ]
        exact z_iret (W1 := (fun (u : Int32 × Int32 × Int32 × (Nat → Int32) × (Nat → Int32) × (Nat → Int32)) => [(h0, .inr (1, [.ref hM, .ref hV, .int wd, .int hg, .int wv])), (hM, .inr (0, [.int bd, .int sb, .int nd, .ref aS, .ref aC, .ref aG])), (aS, .inl (cI, 5, .inl S0)), (aC, .inl (cI, 5, .inl Cr)), (aG, .inl (cI, 5, .inl G0)), (hV, .inr (0, [.int u.1, .int u.2.1, .int u.2.2.1, .ref bS, .ref bC, .ref bG])), (bS, .inl (cI, 5, .inl u.2.2.2.1)), (bC, .inl (cI, 5, .inl u.2.2.2.2.1)), (bG, .inl (cI, 5, .inl u.2.2.2.2.2))])) hx hb hr hlocks hP hS (bd, sb, nd, pIt bd sb q0 (zfill S0 S2 5) k, Crk, Gk) (rfl) (Or.inr ⟨rfl, fun j hj => hz j (by omega)⟩) dX1_wavesUntilStill_39
      · skip
        have n_16 := zc_lt_f (a := 40) (b := k) (by omega) (by omega) c_16
        exact absurd n_16 (by omega)
    | succ n ih_13 =>
      intro k Crk Gk hkn hz H locs ls hP hD hS hl
      refine lv_iload_n hx hb dX1_wavesUntilStill_13 rfl (lv_at hl 1 rfl) ?_
      refine lv_bipush (v := 40) hx hb dX1_wavesUntilStill_14 (by decide +kernel) ?_
      refine lv_icmp_gt (tgt := 38) hx hb dX1_wavesUntilStill_16 (by decide) (fun c_16 => ?_) (fun c_16 => ?_)
      · skip
        have n_16 := zc_lt_t (a := 40) (b := k) (by omega) (by omega) c_16
        exact absurd n_16 (by omega)
      · skip
        have n_16 := zc_lt_f (a := 40) (b := k) (by omega) (by omega) c_16
        refine lv_aload_n hx hb dX1_wavesUntilStill_19 rfl (lv_at hl 0 rfl) ?_
        refine va_get (D := (dC, dI)) (ci := 1) (v := .ref hV) (C := RX1) (T := TX1) (N := 5) hx hb hts iX1_wavesUntilStill_X1 hown hK hP 0 rfl rfl 1 (by decide) (hts (.fieldLink RX1 16 "ColourTide" "trial" "LColourTide$Tide;") (List.mem_of_getElem? (i := 1) rfl)) (fun _ h9 => h9) rfl dX1_wavesUntilStill_20 ?_
        refine lv_iconst (v := 1) hx hb dX1_wavesUntilStill_23 (by decide) ?_
        refine z_callVi (As := [.int 1]) (rest := []) F9 (m_X0_surge l dC dI cI cZ cJ cD hV bS bC bG bd sb nd (pIt bd sb q0 (zfill S0 S2 5) k) Crk Gk q0 1 (hq) (hnd) (by decide)) (cwV 1 hts gX1_wavesUntilStill_X0_surge rfl rfl rfl (by decide +kernel) ⟨Nat.le_of_ble_eq_true rfl, Nat.le_of_ble_eq_true rfl⟩) hK hN hP hD hS hA [5, 6, 7, 8] rfl rfl (fun _ => rfl) 5 (ci := 0) rfl rfl rfl rfl hl.1 rfl (Nat.le_of_ble_eq_true rfl) dX1_wavesUntilStill_24 ⟨Nat.zero_le _, Nat.zero_le _⟩ (fun r_2 u H locs hp_24 hP hD hS => ?_)
        obtain ⟨Cr1_3, G1_4⟩ := u
        have hP : va_P (dC, dI) vwCl [(h0, .inr (1, [.ref hM, .ref hV, .int wd, .int hg, .int wv])), (hM, .inr (0, [.int bd, .int sb, .int nd, .ref aS, .ref aC, .ref aG])), (aS, .inl (cI, 5, .inl S0)), (aC, .inl (cI, 5, .inl Cr)), (aG, .inl (cI, 5, .inl G0)), (hV, .inr (0, [.int bd, .int sb, .int nd, .ref bS, .ref bC, .ref bG])), (bS, .inl (cI, 5, .inl (pIt bd sb q0 (pIt bd sb q0 (zfill S0 S2 5) k) 1))), (bC, .inl (cI, 5, .inl Cr1_3)), (bG, .inl (cI, 5, .inl G1_4))] H := hP
        have hD : va_D A [(h0, .inr (1, [.ref hM, .ref hV, .int wd, .int hg, .int wv])), (hM, .inr (0, [.int bd, .int sb, .int nd, .ref aS, .ref aC, .ref aG])), (aS, .inl (cI, 5, .inl S0)), (aC, .inl (cI, 5, .inl Cr)), (aG, .inl (cI, 5, .inl G0)), (hV, .inr (0, [.int bd, .int sb, .int nd, .ref bS, .ref bC, .ref bG])), (bS, .inl (cI, 5, .inl (pIt bd sb q0 (pIt bd sb q0 (zfill S0 S2 5) k) 1))), (bC, .inl (cI, 5, .inl Cr1_3)), (bG, .inl (cI, 5, .inl G1_4))] := hD
        have hp_24 : r_2 = pLast bd sb q0 (pIt bd sb q0 (zfill S0 S2 5) k) 1 := hp_24
        refine z_topi (y := pLast bd sb q0 (pIt bd sb q0 (zfill S0 S2 5) k) 1) hp_24 ?_
        refine lv_if_ne (tgt := 32) hx hb dX1_wavesUntilStill_27 (by decide) (fun c_27 => ?_) (fun c_27 => ?_)
        · skip
          refine lv_iinc (v := nI (k + 1)) (lv' := [(1, .int (nI (k + 1))), (0, .ref h0)]) hx hb dX1_wavesUntilStill_32 hl (k := 1) rfl (nI_1 k) (by decide) rfl (fun ls hl => ?_)
          refine lv_goto (tgt := 13) hx hb dX1_wavesUntilStill_35 (by decide) ?_
          exact ih_13 (k + 1) Cr1_3 G1_4 (by omega) (fun j h2 => by rcases Nat.lt_succ_iff_lt_or_eq.mp h2 with h | rfl; exact hz j h; rw [← pC0_inS (pIt_inS (copy_in S0 S2) bd sb q0 j) bd sb q0]; exact c_27) _ _ _ hP hD hS (lv_sub hl [1, 0] rfl)
        · skip
          refine lv_iload_n hx hb dX1_wavesUntilStill_30 rfl (lv_at hl 1 rfl) ?_
          rw [← hQ]
          exact z_iret (W1 := (fun (u : Int32 × Int32 × Int32 × (Nat → Int32) × (Nat → Int32) × (Nat → Int32)) => [(h0, .inr (1, [.ref hM, .ref hV, .int wd, .int hg, .int wv])), (hM, .inr (0, [.int bd, .int sb, .int nd, .ref aS, .ref aC, .ref aG])), (aS, .inl (cI, 5, .inl S0)), (aC, .inl (cI, 5, .inl Cr)), (aG, .inl (cI, 5, .inl G0)), (hV, .inr (0, [.int u.1, .int u.2.1, .int u.2.2.1, .ref bS, .ref bC, .ref bG])), (bS, .inl (cI, 5, .inl u.2.2.2.1)), (bC, .inl (cI, 5, .inl u.2.2.2.2.1)), (bG, .inl (cI, 5, .inl u.2.2.2.2.2))])) hx hb hr hlocks hP hS (bd, sb, nd, (pIt bd sb q0 (pIt bd sb q0 (zfill S0 S2 5) k) 1), Cr1_3, G1_4) (rfl) (Or.inl ⟨k, by omega, rfl, by rw [← pC0_inS (pIt_inS (copy_in S0 S2) bd sb q0 k) bd sb q0]; exact c_27, hz⟩) dX1_wavesUntilStill_31
  exact loop_13 41 0 Cr2 G2 (by omega) (fun j h2 => absurd h2 (by omega)) _ _ _ hP hD hS (lv_sub hl [1, 0] rfl)
end
