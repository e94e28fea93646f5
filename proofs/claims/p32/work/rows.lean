section
/-- a private method of a class that the tables say can be made, by its rows of tables_1 -/
def lw_okq (q : MethodName × Nat) : Prop := (q.1.cls ≠ "java/lang/invoke/MethodHandle" ∧ q.1.cls ≠ "java/lang/invoke/VarHandle") ∧ Cond.instantiable q.1.cls q.2 ∈ tables_1 ∧ Cond.privateMethod q.1 ∈ tables_1 ∧ Cond.instanceMethod q.1 ∈ tables_1
theorem lw_p0 : lw_okq (⟨"java/lang/Throwable", "fillInStackTrace", "(I)Ljava/lang/Throwable;"⟩, 6) := ⟨⟨by decide +kernel, by decide +kernel⟩, List.mem_of_getElem? (i := 112) (by decide +kernel), List.mem_of_getElem? (i := 110) (by decide +kernel), List.mem_of_getElem? (i := 111) (by decide +kernel)⟩
theorem lw_p1 : lw_okq (⟨"ColourTide$Tide", "addGains", "(I)V"⟩, 6) := ⟨⟨by decide +kernel, by decide +kernel⟩, List.mem_of_getElem? (i := 20) (by decide +kernel), List.mem_of_getElem? (i := 150) (by decide +kernel), List.mem_of_getElem? (i := 151) (by decide +kernel)⟩
theorem lw_p2 : lw_okq (⟨"ColourTide$Tide", "takeGains", "(I)V"⟩, 6) := ⟨⟨by decide +kernel, by decide +kernel⟩, List.mem_of_getElem? (i := 20) (by decide +kernel), List.mem_of_getElem? (i := 157) (by decide +kernel), List.mem_of_getElem? (i := 158) (by decide +kernel)⟩
theorem lw_p3 : lw_okq (⟨"ColourTide", "isOnMap", "(II)Z"⟩, 5) := ⟨⟨by decide +kernel, by decide +kernel⟩, List.mem_of_getElem? (i := 12) (by decide +kernel), List.mem_of_getElem? (i := 171) (by decide +kernel), List.mem_of_getElem? (i := 172) (by decide +kernel)⟩
def lw_privs_1 : List (MethodName × Nat) := [(⟨"java/lang/Throwable", "fillInStackTrace", "(I)Ljava/lang/Throwable;"⟩, 6), (⟨"ColourTide$Tide", "addGains", "(I)V"⟩, 6), (⟨"ColourTide$Tide", "takeGains", "(I)V"⟩, 6), (⟨"ColourTide", "isOnMap", "(II)Z"⟩, 5)]
theorem lw_r1 : ∀ q ∈ lw_privs_1, lw_okq q := List.forall_mem_cons.mpr ⟨lw_p0, List.forall_mem_cons.mpr ⟨lw_p1, List.forall_mem_cons.mpr ⟨lw_p2, List.forall_mem_cons.mpr ⟨lw_p3, fun _ h => absurd h List.not_mem_nil⟩⟩⟩⟩
def lw_privs : List (MethodName × Nat) := lw_privs_1
def lw_tbl : List Cond := k2_sels lw_privs ++ tables_1
theorem lw_privs_ok : ∀ q ∈ lw_privs, lw_okq q := lw_r1
/-- the streams that the claim lets the run draw from -/
abbrev lw_cs : List Choice := [Jvm.Choice.named "NaN.bits"]
theorem lw_bits : nanBits ∈ lw_cs := by first | decide | exact List.mem_cons_self | simp [lw_cs, nanBits]
end
section
/-! ===== BEGIN words of one list among another's, by their places ===== -/
theorem goodIn_r {big : List Cond} (ws : List Cond) (ps : List Nat) (hp : ws = ps.filterMap (fun i => big[i]?)) (h : ws.all goodWord = true) : GoodIn big ws := by
  intro w hw
  have h1 := List.all_eq_true.mp h w hw
  rw [hp] at hw
  obtain ⟨i, -, hi⟩ := List.mem_filterMap.mp hw
  have hm : w ∈ big := by first | exact List.mem_of_getElem? hi | exact List.getElem?_mem hi
  exact ⟨hm, good_of_word h1⟩
theorem goodIn_app {big a b : List Cond} (ha : GoodIn big a) (hb : GoodIn big b) : GoodIn big (a ++ b) := fun w h => (List.mem_append.mp h).elim (ha w) (hb w)
theorem goodIn_ca {big a b : List Cond} {c : Cond} (ha : GoodIn big (c :: a)) (hb : GoodIn big b) : GoodIn big (c :: (a ++ b)) := fun w h => (List.mem_cons.mp h).elim (fun e => ha w (List.mem_cons.mpr (Or.inl e))) (fun h => (List.mem_append.mp h).elim (fun h => ha w (List.mem_cons.mpr (Or.inr h))) (hb w))
theorem goodIn_sub {big ws : List Cond} (hm : ∀ w ∈ ws, w ∈ big) (h : ws.all goodWord = true) : GoodIn big ws := fun w hw => ⟨hm w hw, good_of_word (List.all_eq_true.mp h w hw)⟩
/-! ===== END ===== -/

/-! ===== BEGIN exceptions that leave a method, and their catching by the caller (launches without stack traces) ===== -/
section VXA
/-! The laws vx_back, vx_callV, vx_callS, vx_callSW, vx_throw0, vx_throwS follow proofs of the library, with one case more: JvmDerived/Free/Laws.lean (Back.of_free), Shelf42/LK1.lean (callV, callS), Shelf/KitTraced.lean (throwNew0V, throwNewS). -/
/-- where a method has thrown q: the class by its name, the cell, what was written, the world -/
def vx_T (XC : String → State → State → Prop) (st : State) (q : Addr) (t : State) (mc ms : Nat) (free : Addr → Prop) : Prop :=
  ∃ (E : String) (ce : Cell) (L : List Loc), XC E st t ∧ t.heap[q]? = some ce ∧ ce.vm = .none ∧ st.vm.findClass E = some ce.cls ∧ st.WarmedH t.vm ∧ st.sameButNew ({ t with vm := st.vm } : State) L mc ms ∧ ∀ z ∈ L, free z.base
def vx_Q (Qc : Array Value → State → Outcome → State → Prop) (XC : String → State → State → Prop) (mc ms : Nat) (free : Addr → Prop) : Array Value → State → Outcome → State → Prop := fun a st o t =>
  (Qc a st o t ∧ ∃ L, FrameEnd st o t L mc ms ∧ ∀ q ∈ L, free q.base) ∨ ∃ q, o = .threw q ∧ vx_T XC st q t mc ms free
/-- a callee that returns or throws -/
def vx_Met (l : Launch) (y : MethodName) (ws : List Cond) (rm : Room) (Pc : Array Value → State → Prop) (Qc : Array Value → State → Outcome → State → Prop) (XC : String → State → State → Prop) (mc ms : Nat) (free : Addr → Prop) : Prop :=
  MetFree l y (headSpec ws rm) Pc (fun _ _ _ _ _ => True) (vx_Q Qc XC mc ms free)
def vx_Post (XC : String → State → State → Prop) (mc ms : Nat) (free : Addr → Prop) : Pt → Array Value → Addr → Pt → Prop := fun A a q B =>
  ∃ (g : JFrame) (mk : MethodId) (t : State) (L : List Loc) (E : String) (ce : Cell), B.U.heap = t.heap ∧ B.U.vm = t.vm ∧ XC E (A.U.calling g mk a) t ∧ t.heap[q]? = some ce ∧ ce.vm = .none ∧ A.U.vm.findClass E = some ce.cls ∧ B.locs = A.locs ++ L ∧ (∀ z ∈ L, free z.base) ∧ B.cells = A.cells + mc ∧ B.slots = A.slots + ms
def vx_Back (l : Launch) (R : Room) (p : Program) (e : Env) (below : List Frame) (s : State) (sargs : Array Value) (y : MethodName) (len W9 : Nat)
    (Pre : Pt → Array Value → Prop) (Post : Pt → Array Value → Option Value → Pt → Prop) (PostX : Pt → Array Value → Addr → Pt → Prop) : Prop :=
  ∀ (m : MethodId) (meth : Method) (c : Code) (A : Pt) (g : JFrame) (ig : Instr) (mk : MethodId) (a : Array Value),
    Stand p l e R s m sargs below meth c A.U A.locs A.cells A.slots → g.method = m → g.locals.size = c.maxLocals → decode c.code g.pc = .ok (ig, len) →
    2 * g.monitorRoom + (g.stack.map fun v => v.category).sum ≤ W9 → A.U.methodNamed? y = some mk → Pre A a →
    (∃ (v : Option Value) (B : Pt), Stand p l e R s m sargs below meth c B.U B.locs B.cells B.slots ∧ Post A a v B ∧
      Steps p.tables e below (doInvoke e (A.U.setTop g) [] mk a).1 (B.U.setTop { g with pc := g.pc + len, stack := v.toList ++ g.stack })) ∨
    (∃ (q : Addr) (B : Pt), Stand p l e R s m sargs below meth c B.U B.locs B.cells B.slots ∧ PostX A a q B ∧
      Steps p.tables e below (doInvoke e (A.U.setTop g) [] mk a).1 ((B.U.setTop g).pushFrame (.throwing q)))
section Payer
variable {l : Launch} {R : Room} {p : Program} {e : Env} {below : List Frame} {s : State} {sargs : Array Value} {y : MethodName} {len W9 : Nat}
theorem vx_back {ws : List Cond} {rm : Room} {Pc : Array Value → State → Prop} {Qc : Array Value → State → Outcome → State → Prop} {XC : String → State → State → Prop} {mc ms : Nat} {free : Addr → Prop} {bytes : ByteArray} {maxL : Nat} {ret : Option FieldType}
    (hM : vx_Met l y ws rm Pc Qc XC mc ms free) (hblind : FrameBlind Pc) (hrc : rm.cells = mc) (hrs : rm.slots = ms)
    (hframes : rm.frames + 1 ≤ R.frames) (hlocals : W9 + (maxL + 11) + rm.locals ≤ R.locals)
    (hws : ∀ w ∈ ws, ∀ a' U, s.WarmedH U.vm → w.before a' U = true) (hcode : Cond.code y bytes maxL ret ∈ ws) (hinit : ∀ a' U, s.WarmedH U.vm → (Cond.initialized y.cls).before a' U = true) :
    vx_Back l R p e below s sargs y len W9 (PreOf R mc ms Pc) (PostOf Qc mc ms free) (vx_Post XC mc ms free) := by
  intro m meth c A g ig mk a X hg hsize hdg hW hn hp
  have h1 : (headSpec ws rm).pre.before a A.U = true := atoms_intro fun w hw => hws w hw _ _ X.warmed
  have h2 : (Cond.code y bytes maxL ret).before a A.U = true := hws _ hcode _ _ X.warmed
  have h3 : (Cond.initialized y.cls).before a A.U = true := hinit _ _ X.warmed
  have h4 : A.cells + (headSpec ws rm).room.cells ≤ R.cells := by rw [show (headSpec ws rm).room.cells = mc from hrc]; exact hp.1
  have h5 : A.slots + (headSpec ws rm).room.slots ≤ R.slots := by rw [show (headSpec ws rm).room.slots = ms from hrs]; exact hp.2.1
  have hPc : Pc a (A.U.calling g mk a) := hblind _ _ _ _ hp.2.2
  obtain ⟨U, Ls, c0, s0⟩ := A
  dsimp only [Pt.U, Pt.locs, Pt.cells, Pt.slots] at h1 h2 h3 h4 h5 X hn hPc ⊢
  obtain ⟨methY, cY, hmY, hcY, -, hlY, -, -, -, -⟩ := Cond.code_spec hn h2
  obtain ⟨kY, hkY, -⟩ := className_of_methodNamed hn
  have hinitY : kY.init = .initialized := Cond.initialized_spec (findClass_of_methodNamed hn) hkY h3
  have h : At U g.method c below := by rw [hg]; exact X.here
  have hlocals9 : W9 + (maxL + 11) + (headSpec ws rm).room.locals ≤ R.locals := hlocals
  have happ : (headSpec ws rm).appliesLoose y e.platform (U.calling g mk a) = true :=
    Spec.appliesLoose_calling (g := g) h hdg hn hkY hinitY
      (X.room_calling (g := g) (R' := (headSpec ws rm).room) hsize hmY hcY hframes (by rw [hlY]; omega) h4 h5) h1
  obtain ⟨mid, hmid⟩ := h.above
  have hfr : (U.setTop g).frames = (.java g :: mid) ++ below := by rw [State.frames_setTop' g h.top, hmid]; rfl
  obtain ⟨o, s₂, hsteps, -, hend, hq⟩ := Steps.callFree hM p X.admits X.cas X.clock (acts := []) hfr happ hPc trivial
  have hq' : vx_Q Qc XC mc ms free a (U.calling g mk a) o s₂ := hq
  rw [State.frames_setTop' g h.top] at hend
  obtain ⟨g₀, hg0⟩ := Option.isSome_iff_exists.mp h.top
  obtain ⟨r, hr⟩ := State.topJava?_eq_some.mp hg0
  have hr' : (({ U with heap := s₂.heap, slotsUsed := s₂.slotsUsed } : State).setVm s₂.vm).frames = .java g₀ :: r := hr
  rcases hq' with ⟨hqc, L, hfe, hL⟩ | ⟨q, rfl, E, ce, L, hx, hce, hcv, hcl, hW₂, hsm, hL⟩
  · obtain ⟨⟨v, rfl⟩, hW₂, e2, q2, q3, q4, q5, q6⟩ := id hfe
    have e3 : s₂ = ({ (U.calling g mk a).setFrames s₂.frames with heap := s₂.heap, slotsUsed := s₂.slotsUsed } : State).setVm s₂.vm := by
      have : s₂ = ({ s₂ with vm := (U.calling g mk a).vm } : State).setVm s₂.vm := rfl
      rw [e2] at this
      exact this
    obtain ⟨c₂, i₂, len₂, hc₂, hd₂, hf₂⟩ := hend
    have hW' : U.WarmedH s₂.vm := hW₂
    have hcc : c₂ = c := by
      have h1 : s₂.code? g.method = U.code? g.method := by
        rw [State.code?_eq, State.code?_eq, hW'.alike.method?]
      exact Option.some.inj (hc₂.symm.trans (h1.trans h.code))
    subst hcc
    have hlen : len₂ = len := by rw [hdg] at hd₂; cases hd₂; rfl
    subst hlen
    have hs₂ : s₂ = (({ U with heap := s₂.heap, slotsUsed := s₂.slotsUsed } : State).setVm s₂.vm).setTop { g with pc := g.pc + len₂, stack := v.toList ++ g.stack } := by
      refine e3.trans ?_
      rw [hf₂, State.calling_eq h.top, State.setFrames_setFrames, State.setTop_of_frames _ hr', hr]
      rfl
    have hsame : U.sameButNew ({ U with heap := s₂.heap, slotsUsed := s₂.slotsUsed } : State) L mc ms := by
      refine ⟨?_, q2, q3, q4, q5, q6⟩
      obtain ⟨t, ht, -⟩ := State.frames_cons hr
      show ({ U with heap := s₂.heap, slotsUsed := s₂.slotsUsed } : State) = { U.setFrames U.frames with heap := s₂.heap, slotsUsed := s₂.slotsUsed }
      rw [State.setFrames_self ht]
    subst hg
    refine Or.inl ⟨v, ⟨(({ U with heap := s₂.heap, slotsUsed := s₂.slotsUsed } : State).setVm s₂.vm), Ls ++ L, c0 + mc, s0 + ms⟩,
      ⟨X.admits, X.cas, X.clock, X.frames, X.room, X.hears, X.method, X.code, (X.here.setHeapUsed s₂.heap s₂.slotsUsed).setVm hW'.alike, X.tail, State.WarmedH.trans X.warmed hW', X.limits, X.bytes, X.same.trans (hsame.setVm s.vm)⟩,
      ⟨g, mk, s₂, L, rfl, rfl, hqc, rfl, hL, rfl, rfl⟩, ?_⟩
    show Steps p.tables e below _ ((({ U with heap := s₂.heap, slotsUsed := s₂.slotsUsed } : State).setVm s₂.vm).setTop { g with pc := g.pc + len₂, stack := v.toList ++ g.stack })
    rw [← hs₂]
    exact hsteps
  · obtain ⟨e2, q2, q3, q4, q5, q6⟩ := id hsm
    have e3 : s₂ = ({ (U.calling g mk a).setFrames s₂.frames with heap := s₂.heap, slotsUsed := s₂.slotsUsed } : State).setVm s₂.vm := by
      have : s₂ = ({ s₂ with vm := (U.calling g mk a).vm } : State).setVm s₂.vm := rfl
      rw [e2] at this
      exact this
    have hf₂ : s₂.frames = .throwing q :: .java g :: U.frames.tail := hend
    have hW' : U.WarmedH s₂.vm := hW₂
    have hs₂ : s₂ = ((({ U with heap := s₂.heap, slotsUsed := s₂.slotsUsed } : State).setVm s₂.vm).setTop g).pushFrame (.throwing q) := by
      refine e3.trans ?_
      rw [hf₂, State.calling_eq h.top, State.setFrames_setFrames, State.pushFrame, State.frames_setTop _ hr', State.setTop_of_frames _ hr', State.setFrames_setFrames, hr]
      rfl
    have hsame : U.sameButNew ({ U with heap := s₂.heap, slotsUsed := s₂.slotsUsed } : State) L mc ms := by
      refine ⟨?_, q2, q3, q4, q5, q6⟩
      obtain ⟨t, ht, -⟩ := State.frames_cons hr
      show ({ U with heap := s₂.heap, slotsUsed := s₂.slotsUsed } : State) = { U.setFrames U.frames with heap := s₂.heap, slotsUsed := s₂.slotsUsed }
      rw [State.setFrames_self ht]
    subst hg
    refine Or.inr ⟨q, ⟨(({ U with heap := s₂.heap, slotsUsed := s₂.slotsUsed } : State).setVm s₂.vm), Ls ++ L, c0 + mc, s0 + ms⟩,
      ⟨X.admits, X.cas, X.clock, X.frames, X.room, X.hears, X.method, X.code, (X.here.setHeapUsed s₂.heap s₂.slotsUsed).setVm hW'.alike, X.tail, State.WarmedH.trans X.warmed hW', X.limits, X.bytes, X.same.trans (hsame.setVm s.vm)⟩,
      ⟨g, mk, s₂, L, E, ce, rfl, rfl, hx, hce, hcv, hcl, rfl, hL, rfl, rfl⟩, ?_⟩
    show Steps p.tables e below _ (((({ U with heap := s₂.heap, slotsUsed := s₂.slotsUsed } : State).setVm s₂.vm).setTop g).pushFrame (.throwing q))
    rw [← hs₂]
    exact hsteps
end Payer
section Calls
variable {p : Program} {l : Launch} {e : Env} {R : Room} {s : State} {m : MethodId} {args : Array Value} {below : List Frame} {meth : Method} {c : Code} {T : State} {locs : List Loc} {cells slots : Nat}
theorem vx_callV (X : Stand p l e R s m args below meth c T locs cells slots) (hexec : p.tables.exec = Jvm.exec) {own C : String} {index : Nat} {y : MethodName} {bytes : ByteArray} {maxL : Nat} {ret : Option FieldType}
    (hown : s.vm.findClass own = some m.cls) (hlink : (Cond.methodLink own index y).before args s = true) (hinst : (Cond.instanceMethod y).before args s = true) (hsel : (Cond.selects C y y).before args s = true)
    (hcode : (Cond.code y bytes maxL ret).before args s = true) (hy : y.cls ≠ "java/lang/invoke/MethodHandle" ∧ y.cls ≠ "java/lang/invoke/VarHandle")
    {W9 : Nat} {Pre : Pt → Array Value → Prop} {Post : Pt → Array Value → Option Value → Pt → Prop} {PostX : Pt → Array Value → Addr → Pt → Prop} (hK : vx_Back l R p e below s args y 3 W9 Pre Post PostX)
    {b : Addr} {cellB : Cell} (hcell : T.heap[b]? = some cellB) (hobj : cellB.vm.isStatics = false) (hcls : s.vm.findClass C = some cellB.cls)
    {g : JFrame} (hg : g.method = m) (hsize : g.locals.size = c.maxLocals) {argsL rest : List Value} (hlen : ∀ sig, parseMethodDescriptor y.desc = some sig → argsL.length = sig.parameters.length)
    (hstack : g.stack = argsL.reverse ++ .ref b :: rest) (hW : 2 * g.monitorRoom + (rest.map fun v => v.category).sum ≤ W9) (hdg : decode c.code g.pc = .ok (.invokevirtual index, 3))
    (hpre : ∀ vm₁, s.WarmedH vm₁ → Pre ⟨T.setVm vm₁, locs, cells, slots⟩ (Value.ref b :: argsL).toArray) :
    (∃ (v : Option Value) (vm₁ : Vm) (B : Pt), s.WarmedH vm₁ ∧ Stand p l e R s m args below meth c B.U B.locs B.cells B.slots ∧ Post ⟨T.setVm vm₁, locs, cells, slots⟩ (Value.ref b :: argsL).toArray v B ∧
      ∀ target, Steps p.tables e below (B.U.setTop { g with pc := g.pc + 3, stack := v.toList ++ rest }) target → Steps p.tables e below (T.setTop g) target) ∨
    (∃ (q : Addr) (vm₁ : Vm) (B : Pt), s.WarmedH vm₁ ∧ Stand p l e R s m args below meth c B.U B.locs B.cells B.slots ∧ PostX ⟨T.setVm vm₁, locs, cells, slots⟩ (Value.ref b :: argsL).toArray q B ∧
      Steps p.tables e below (T.setTop g) ((B.U.setTop { g with stack := rest }).pushFrame (.throwing q))) := by
  obtain ⟨mk, methM, hnamed, hmethM, hstM, habM⟩ := Cond.instanceMethod_spec hinst
  obtain ⟨methM', cM, hmethM', -, -, -, -, -, -, hsigM⟩ := Cond.code_spec hnamed hcode
  cases hmethM.symm.trans hmethM'
  obtain ⟨c2, r2, m2, q1, q2, q3, q4, kP, hkP, hkPi⟩ := Cond.selects_spec hsel
  cases hcls.symm.trans q1
  cases (State.methodFound?_of_named hnamed hy).symm.trans q2
  cases hnamed.symm.trans q3
  have hselP : selectMethod e.platform s.vm cellB.cls mk = .method mk := by rw [Launch.admits_selectMethod X.admits]; exact q4
  obtain ⟨vm₁, X₁, hstep₁⟩ := X.invokevirtual hexec hown hlink hnamed hmethM hstM hkP hkPi hy (a := b) (cell := cellB) hcell
    (fun z h => by rw [h] at hobj; cases hobj) hselP hmethM habM hkP hkPi (g := g) hg (argsL := argsL) (rest := rest) (hlen _ hsigM) hstack hdg
  rcases hK m meth c ⟨T.setVm vm₁, locs, cells, slots⟩ { g with stack := rest } (.invokevirtual index) mk (Value.ref b :: argsL).toArray X₁ hg hsize hdg hW (X₁.named hnamed) (hpre vm₁ X₁.warmed) with ⟨v, B, X', hpost, hsteps⟩ | ⟨q, B, X', hpost, hsteps⟩
  · exact Or.inl ⟨v, vm₁, B, X₁.warmed, X', hpost, fun target h => hstep₁ _ fun acts => by rw [doInvoke_state]; exact hsteps.trans h⟩
  · exact Or.inr ⟨q, vm₁, B, X₁.warmed, X', hpost, hstep₁ _ fun acts => by rw [doInvoke_state]; exact hsteps⟩
theorem vx_callS (X : Stand p l e R s m args below meth c T locs cells slots) (hexec : p.tables.exec = Jvm.exec) {own : String} {index : Nat} {y : MethodName} {bytes : ByteArray} {maxL : Nat} {ret : Option FieldType}
    (hown : s.vm.findClass own = some m.cls) (hlink : (Cond.methodLink own index y).before args s = true) (hstat : (Cond.static y).before args s = true) (hinit : (Cond.initialized y.cls).before args s = true)
    (hcode : (Cond.code y bytes maxL ret).before args s = true) (hy : y.cls ≠ "java/lang/invoke/MethodHandle" ∧ y.cls ≠ "java/lang/invoke/VarHandle")
    {W9 : Nat} {Pre : Pt → Array Value → Prop} {Post : Pt → Array Value → Option Value → Pt → Prop} {PostX : Pt → Array Value → Addr → Pt → Prop} (hK : vx_Back l R p e below s args y 3 W9 Pre Post PostX)
    {g : JFrame} (hg : g.method = m) (hsize : g.locals.size = c.maxLocals) {argsL rest : List Value} (hlen : ∀ sig, parseMethodDescriptor y.desc = some sig → argsL.length = sig.parameters.length)
    (hstack : g.stack = argsL.reverse ++ rest) (hW : 2 * g.monitorRoom + (rest.map fun v => v.category).sum ≤ W9) (hdg : decode c.code g.pc = .ok (.invokestatic index, 3))
    (hpre : ∀ vm₁, s.WarmedH vm₁ → Pre ⟨T.setVm vm₁, locs, cells, slots⟩ argsL.toArray) :
    (∃ (v : Option Value) (vm₁ : Vm) (B : Pt), s.WarmedH vm₁ ∧ Stand p l e R s m args below meth c B.U B.locs B.cells B.slots ∧ Post ⟨T.setVm vm₁, locs, cells, slots⟩ argsL.toArray v B ∧
      ∀ target, Steps p.tables e below (B.U.setTop { g with pc := g.pc + 3, stack := v.toList ++ rest }) target → Steps p.tables e below (T.setTop g) target) ∨
    (∃ (q : Addr) (vm₁ : Vm) (B : Pt), s.WarmedH vm₁ ∧ Stand p l e R s m args below meth c B.U B.locs B.cells B.slots ∧ PostX ⟨T.setVm vm₁, locs, cells, slots⟩ argsL.toArray q B ∧
      Steps p.tables e below (T.setTop g) ((B.U.setTop { g with stack := rest }).pushFrame (.throwing q))) := by
  obtain ⟨mk, hnamed⟩ := Cond.code_named hcode
  obtain ⟨methM, cM, hmethM, -, -, -, -, -, -, hsigM⟩ := Cond.code_spec hnamed hcode
  have hstatic : methM.isStatic = true := Cond.static_spec hnamed hmethM hstat
  obtain ⟨kP, hkP, -⟩ := className_of_methodNamed hnamed
  have hinitP : kP.init = .initialized := Cond.initialized_spec (findClass_of_methodNamed hnamed) hkP hinit
  obtain ⟨vm₁, X₁, hstep₁⟩ := X.invokestatic hexec hown hlink hnamed hmethM hstatic hkP hinitP hy (g := g) hg (argsL := argsL) (rest := rest) (hlen _ hsigM) hstack hdg
  rcases hK m meth c ⟨T.setVm vm₁, locs, cells, slots⟩ { g with stack := rest } (.invokestatic index) mk argsL.toArray X₁ hg hsize hdg hW (X₁.named hnamed) (hpre vm₁ X₁.warmed) with ⟨v, B, X', hpost, hsteps⟩ | ⟨q, B, X', hpost, hsteps⟩
  · exact Or.inl ⟨v, vm₁, B, X₁.warmed, X', hpost, fun target h => hstep₁ _ fun acts => by rw [doInvoke_state]; exact hsteps.trans h⟩
  · exact Or.inr ⟨q, vm₁, B, X₁.warmed, X', hpost, hstep₁ _ fun acts => by rw [doInvoke_state]; exact hsteps⟩
end Calls
theorem vx_cls {s : State} {T : State} {vm₁ : Vm} {E : String} {k : ClassId} (hW : s.WarmedH vm₁) (h : (T.setVm vm₁).vm.findClass E = some k) : s.vm.findClass E = some k := by
  have h1 : vm₁.findClass E = some k := h
  rw [hW.alike.findClass] at h1
  exact h1
/-- the method's frame g, with q thrown over it -/
def vx_W (p : Program) (l : Launch) (e : Env) (R : Room) (s : State) (m : MethodId) (args : Array Value) (below : List Frame) (meth : Method) (c : Code) (H : Heap) (locs : List Loc) (cells slots : Nat) (Q : State → Prop) (g : JFrame) (q : Addr) : Prop :=
  ∀ T : State, T.heap = H → Stand p l e R s m args below meth c T locs cells slots → ∃ t, Steps p.tables e below ((T.setTop g).pushFrame (.throwing q)) t ∧ Q t
def vx_Run (p : Program) (l : Launch) (e : Env) (R : Room) (s : State) (m : MethodId) (args : Array Value) (below : List Frame) (meth : Method) (c : Code) (H : Heap) (locs : List Loc) (cells slots mc ms : Nat) (g : JFrame) (rest : List Value) (Qa : State → Outcome → State → Prop) (XC : String → State → State → Prop) (free : Addr → Prop) : Prop :=
  ∀ T : State, T.heap = H → Stand p l e R s m args below meth c T locs cells slots →
    (∃ (v : Option Value) (st₀ t T' : State) (L : List Loc), st₀.heap = H ∧ Stand p l e R s m args below meth c T' (locs ++ L) (cells + mc) (slots + ms) ∧ (∀ q ∈ L, free q.base) ∧ T'.heap = t.heap ∧ T'.vm = t.vm ∧ Qa st₀ (.returned v) t ∧
      Goes p e below T g T' { g with pc := g.pc + 3, stack := v.toList ++ rest }) ∨
    (∃ (q : Addr) (st₀ t T' : State) (L : List Loc) (E : String) (ce : Cell), st₀.heap = H ∧ Stand p l e R s m args below meth c T' (locs ++ L) (cells + mc) (slots + ms) ∧ (∀ z ∈ L, free z.base) ∧ T'.heap = t.heap ∧ T'.vm = t.vm ∧ XC E st₀ t ∧ t.heap[q]? = some ce ∧ ce.vm = .none ∧ s.vm.findClass E = some ce.cls ∧
      Steps p.tables e below (T.setTop g) ((T'.setTop { g with stack := rest }).pushFrame (.throwing q)))
def vx_X {S : Type} (px : S → Prop) (B : String → S → State → Prop) (A : Nat → Prop) : String → State → State → Prop := fun E st t => ∃ u : S, px u ∧ B E u t ∧ va_F A st t
section Runs
variable {p : Program} {l : Launch} {e : Env} {R : Room} {s : State} {m : MethodId} {args : Array Value} {below : List Frame} {meth : Method} {c : Code} {H : Heap} {locs : List Loc} {cells slots : Nat}
variable {y : MethodName} {bytes cc : ByteArray} {maxL nL mc ms n index : Nat} {ret : Option FieldType} {ws : List Cond} {rm : Room} {Pc : Array Value → State → Prop} {Qc : Array Value → State → Outcome → State → Prop} {XC : String → State → State → Prop} {free : Addr → Prop} {Ts : List Cond} {own C : String} {b : Addr} {As rest : List Value} {g : JFrame}
theorem vx_callBack (cb : CallB R s args own index y bytes maxL ret ws rm mc ms n) (hM : vx_Met l y ws rm Pc Qc XC mc ms free) (hbl : FrameBlind Pc) : vx_Back l R p e below s args y 3 8 (PreOf R mc ms Pc) (PostOf Qc mc ms free) (vx_Post XC mc ms free) := by
  obtain ⟨hrc, hrs, hfr, hlo, hws, hcw, -, hini, -⟩ := cb
  exact vx_back (bytes := bytes) (maxL := maxL) (ret := ret) hM hbl hrc hrs hfr hlo hws hcw (fun a' U hW => word_at hW (Or.inl (by first | rfl | simp [Cond.onTables, Cond.keeps, Cond.steady])) hini)
theorem vx_runV (S : CallFix p m c cc nL s args Ts own) (hM : vx_Met l y ws rm Pc Qc XC mc ms free) (cw : CallW R s args own C index y bytes maxL ret ws rm mc ms n) (hp : PreV s H C b Pc As)
    (hg : g.method = m) (hn : As.length = n) (hsize : g.locals.size = nL) (hstack : g.stack = As.reverse ++ .ref b :: rest) (hW : 2 * g.monitorRoom + (rest.map fun v => v.category).sum ≤ 8) (hdg : decode cc g.pc = .ok (.invokevirtual index, 3)) (hf : cells + mc ≤ R.cells ∧ slots + ms ≤ R.slots) :
    vx_Run p l e R s m args below meth c H locs cells slots mc ms g rest (Qc (Value.ref b :: As).toArray) XC free := by
  have hK : vx_Back l R p e below s args y 3 8 (PreOf R mc ms Pc) (PostOf Qc mc ms free) (vx_Post XC mc ms free) := vx_callBack cw.1 hM hp.1
  obtain ⟨⟨-, -, -, -, -, -, hcode, -, hy, hlen, hl⟩, hin, hse⟩ := cw
  obtain ⟨hx, hb, hml, ho, -⟩ := S
  obtain ⟨-, ⟨cellB, hcB, hoB, hclB⟩, hPc⟩ := hp
  intro T hT X
  rcases vx_callV X hx (C := C) (bytes := bytes) (maxL := maxL) (ret := ret) ho hl hin hse hcode hy hK (by rw [hT]; exact hcB) hoB hclB hg (hsize.trans hml.symm) (argsL := As) (rest := rest) (fun sig h => hn.trans (hlen sig h)) hstack hW (by rw [hb]; exact hdg)
    (fun vm₁ hW₁ => ⟨hf.1, hf.2, hPc (T.setVm vm₁) hT hW₁⟩) with ⟨v, vm₁, ⟨U', l2, c2, s2⟩, hW₁, X', ⟨g', mk, t, L, e1, e2, hq, h1, hL, h2, h3⟩, st⟩ | ⟨q, vm₁, ⟨U', l2, c2, s2⟩, hW₁, X', ⟨g', mk, t, L, E, ce, e1, e2, hq, hce, hcv, hcl, h1, hL, h2, h3⟩, st⟩
  · dsimp only [Pt.U, Pt.locs, Pt.cells, Pt.slots] at X' e1 e2 h1 h2 h3 st
    subst h1; subst h2; subst h3
    exact Or.inl ⟨v, (T.setVm vm₁).calling g' mk (Value.ref b :: As).toArray, t, U', L, hT, X', hL, e1, e2, hq, st⟩
  · dsimp only [Pt.U, Pt.locs, Pt.cells, Pt.slots] at X' e1 e2 h1 h2 h3 st hcl
    subst h1; subst h2; subst h3
    exact Or.inr ⟨q, (T.setVm vm₁).calling g' mk (Value.ref b :: As).toArray, t, U', L, E, ce, hT, X', hL, e1, e2, hq, hce, hcv, vx_cls hW₁ hcl, st⟩
theorem vx_runS (S : CallFix p m c cc nL s args Ts own) (hM : vx_Met l y ws rm Pc Qc XC mc ms free) (cw : CallB R s args own index y bytes maxL ret ws rm mc ms n ∧ (Cond.static y).before args s = true) (hp : PreS s H Pc As)
    (hg : g.method = m) (hn : As.length = n) (hsize : g.locals.size = nL) (hstack : g.stack = As.reverse ++ rest) (hW : 2 * g.monitorRoom + (rest.map fun v => v.category).sum ≤ 8) (hdg : decode cc g.pc = .ok (.invokestatic index, 3)) (hf : cells + mc ≤ R.cells ∧ slots + ms ≤ R.slots) :
    vx_Run p l e R s m args below meth c H locs cells slots mc ms g rest (Qc As.toArray) XC free := by
  have hK : vx_Back l R p e below s args y 3 8 (PreOf R mc ms Pc) (PostOf Qc mc ms free) (vx_Post XC mc ms free) := vx_callBack cw.1 hM hp.1
  obtain ⟨⟨-, -, -, -, -, -, hcode, hini, hy, hlen, hl⟩, hstt⟩ := cw
  obtain ⟨hx, hb, hml, ho, -⟩ := S
  intro T hT X
  rcases vx_callS X hx (bytes := bytes) (maxL := maxL) (ret := ret) ho hl hstt hini hcode hy hK hg (hsize.trans hml.symm) (argsL := As) (rest := rest) (fun sig h => hn.trans (hlen sig h)) hstack hW (by rw [hb]; exact hdg)
    (fun vm₁ hW₁ => ⟨hf.1, hf.2, hp.2 (T.setVm vm₁) hT hW₁⟩) with ⟨v, vm₁, ⟨U', l2, c2, s2⟩, hW₁, X', ⟨g', mk, t, L, e1, e2, hq, h1, hL, h2, h3⟩, st⟩ | ⟨q, vm₁, ⟨U', l2, c2, s2⟩, hW₁, X', ⟨g', mk, t, L, E, ce, e1, e2, hq, hce, hcv, hcl, h1, hL, h2, h3⟩, st⟩
  · dsimp only [Pt.U, Pt.locs, Pt.cells, Pt.slots] at X' e1 e2 h1 h2 h3 st
    subst h1; subst h2; subst h3
    exact Or.inl ⟨v, (T.setVm vm₁).calling g' mk As.toArray, t, U', L, hT, X', hL, e1, e2, hq, st⟩
  · dsimp only [Pt.U, Pt.locs, Pt.cells, Pt.slots] at X' e1 e2 h1 h2 h3 st hcl
    subst h1; subst h2; subst h3
    exact Or.inr ⟨q, (T.setVm vm₁).calling g' mk As.toArray, t, U', L, E, ce, hT, X', hL, e1, e2, hq, hce, hcv, vx_cls hW₁ hcl, st⟩
end Runs
section Rows
variable {p : Program} {l : Launch} {e : Env} {R : Room} {s : State} {m : MethodId} {args : Array Value} {below : List Frame} {meth : Method} {c : Code} {H : Heap} {locs : List Loc} {cells slots : Nat} {Q : State → Prop}
variable {mc ms : Nat} {free : Addr → Prop} {A0 A1 : Nat → Prop} {H0 : Heap} {a : Array Value} {pc : Nat} {ls : Array Slot} {st0 rest : List Value}
theorem vx_keep {st₀ t T' : State} {L : List Loc} (h0 : st₀.heap = H) (e1 : T'.heap = t.heap) (hS : va_S A0 H0 H locs) (hA : ∀ q, q < H.size → A1 q → A0 q) (hf : ∀ q, free q → A0 q) (hL : ∀ q ∈ L, free q.base) (hF : va_F A1 st₀ t) :
    H.size ≤ T'.heap.size ∧ (∀ q : Nat, q < H.size → ¬ A1 q → T'.heap[q]? = H[q]?) ∧ va_S A0 H0 T'.heap (locs ++ L) := by
  obtain ⟨hz, hk⟩ := hF
  rw [h0] at hz hk
  exact ⟨by rw [e1]; exact hz, fun q h1 h2 => by rw [e1]; exact hk q h1 h2,
    ⟨Nat.le_trans hS.1 (by rw [e1]; exact hz), fun q h1 h2 => by rw [e1, hk q (Nat.lt_of_lt_of_le h1 hS.1) (fun z => h2 (hA q (Nat.lt_of_lt_of_le h1 hS.1) z))]; exact hS.2.1 q h1 h2, fun q hq => by
      rcases List.mem_append.mp hq with h | h
      · exact hS.2.2 q h
      · exact hf _ (hL q h)⟩⟩
theorem vx_calli {S SX : Type} {post : Int32 → S → Prop} {px : SX → Prop} {B : S → State → Prop} {BX : String → SX → State → Prop} {AX : Nat → Prop} (hr : vx_Run p l e R s m args below meth c H locs cells slots mc ms (F0 m pc ls st0) rest (va_Qi post B A1 a) (vx_X px BX AX) free) (hS : va_S A0 H0 H locs) (hA : ∀ q, q < H.size → A1 q → A0 q) (hf : ∀ q, free q → A0 q) (hAX : ∀ q, q < H.size → AX q → A0 q)
    (kx : ∀ (E : String) (ce : Cell) (q9 : Addr) (u : SX) (t : State) (H1 : Heap) (locs1 : List Loc), t.heap = H1 → s.vm.Alike t.vm → px u → BX E u t → H.size ≤ H1.size → (∀ q : Nat, q < H.size → ¬ AX q → H1[q]? = H[q]?) → va_S A0 H0 H1 locs1 → H1[q9]? = some ce → ce.vm = .none → s.vm.findClass E = some ce.cls → vx_W p l e R s m args below meth c H1 locs1 (cells + mc) (slots + ms) Q (F0 m pc ls rest) q9)
    (kk : ∀ (r : Int32) (u : S) (t : State) (H1 : Heap) (locs1 : List Loc), t.heap = H1 → s.vm.Alike t.vm → post r u → B u t → H.size ≤ H1.size → (∀ q : Nat, q < H.size → ¬ A1 q → H1[q]? = H[q]?) → va_S A0 H0 H1 locs1 → W p l e R s m args below meth c H1 locs1 (cells + mc) (slots + ms) Q (F0 m (pc + 3) ls (.int r :: rest))) : W p l e R s m args below meth c H locs cells slots Q (F0 m pc ls st0) := by
  intro T hT X
  rcases hr T hT X with ⟨v, st₀, t, T', L, h0, X', hL, e1, e2, ⟨⟨r, u, hv, hp, hb⟩, hF⟩, st⟩ | ⟨q, st₀, t, T', L, E, ce, h0, X', hL, e1, e2, ⟨u, hp, hb, hF⟩, hce, hcv, hcl, st⟩
  · cases hv
    obtain ⟨k1, k2, k3⟩ := vx_keep h0 e1 hS hA hf hL hF
    obtain ⟨t2, a1, b1⟩ := kk r u t T'.heap (locs ++ L) e1.symm (by rw [← e2]; exact X'.warmed.alike) hp hb k1 k2 k3 T' rfl X'
    exact ⟨t2, st t2 a1, b1⟩
  · obtain ⟨k1, k2, k3⟩ := vx_keep h0 e1 hS hAX hf hL hF
    obtain ⟨t2, a1, b1⟩ := kx E ce q u t T'.heap (locs ++ L) e1.symm (by rw [← e2]; exact X'.warmed.alike) hp hb k1 k2 k3 (by rw [e1]; exact hce) hcv hcl T' rfl X'
    exact ⟨t2, st.trans a1, b1⟩
theorem vx_calll {S SX : Type} {post : Int64 → S → Prop} {px : SX → Prop} {B : S → State → Prop} {BX : String → SX → State → Prop} {AX : Nat → Prop} (hr : vx_Run p l e R s m args below meth c H locs cells slots mc ms (F0 m pc ls st0) rest (va_Ql post B A1 a) (vx_X px BX AX) free) (hS : va_S A0 H0 H locs) (hA : ∀ q, q < H.size → A1 q → A0 q) (hf : ∀ q, free q → A0 q) (hAX : ∀ q, q < H.size → AX q → A0 q)
    (kx : ∀ (E : String) (ce : Cell) (q9 : Addr) (u : SX) (t : State) (H1 : Heap) (locs1 : List Loc), t.heap = H1 → s.vm.Alike t.vm → px u → BX E u t → H.size ≤ H1.size → (∀ q : Nat, q < H.size → ¬ AX q → H1[q]? = H[q]?) → va_S A0 H0 H1 locs1 → H1[q9]? = some ce → ce.vm = .none → s.vm.findClass E = some ce.cls → vx_W p l e R s m args below meth c H1 locs1 (cells + mc) (slots + ms) Q (F0 m pc ls rest) q9)
    (kk : ∀ (r : Int64) (u : S) (t : State) (H1 : Heap) (locs1 : List Loc), t.heap = H1 → s.vm.Alike t.vm → post r u → B u t → H.size ≤ H1.size → (∀ q : Nat, q < H.size → ¬ A1 q → H1[q]? = H[q]?) → va_S A0 H0 H1 locs1 → W p l e R s m args below meth c H1 locs1 (cells + mc) (slots + ms) Q (F0 m (pc + 3) ls (.long r :: rest))) : W p l e R s m args below meth c H locs cells slots Q (F0 m pc ls st0) := by
  intro T hT X
  rcases hr T hT X with ⟨v, st₀, t, T', L, h0, X', hL, e1, e2, ⟨⟨r, u, hv, hp, hb⟩, hF⟩, st⟩ | ⟨q, st₀, t, T', L, E, ce, h0, X', hL, e1, e2, ⟨u, hp, hb, hF⟩, hce, hcv, hcl, st⟩
  · cases hv
    obtain ⟨k1, k2, k3⟩ := vx_keep h0 e1 hS hA hf hL hF
    obtain ⟨t2, a1, b1⟩ := kk r u t T'.heap (locs ++ L) e1.symm (by rw [← e2]; exact X'.warmed.alike) hp hb k1 k2 k3 T' rfl X'
    exact ⟨t2, st t2 a1, b1⟩
  · obtain ⟨k1, k2, k3⟩ := vx_keep h0 e1 hS hAX hf hL hF
    obtain ⟨t2, a1, b1⟩ := kx E ce q u t T'.heap (locs ++ L) e1.symm (by rw [← e2]; exact X'.warmed.alike) hp hb k1 k2 k3 (by rw [e1]; exact hce) hcv hcl T' rfl X'
    exact ⟨t2, st.trans a1, b1⟩
theorem vx_callf {S SX : Type} {post : UInt32 → S → Prop} {px : SX → Prop} {B : S → State → Prop} {BX : String → SX → State → Prop} {AX : Nat → Prop} (hr : vx_Run p l e R s m args below meth c H locs cells slots mc ms (F0 m pc ls st0) rest (va_Qf post B A1 a) (vx_X px BX AX) free) (hS : va_S A0 H0 H locs) (hA : ∀ q, q < H.size → A1 q → A0 q) (hf : ∀ q, free q → A0 q) (hAX : ∀ q, q < H.size → AX q → A0 q)
    (kx : ∀ (E : String) (ce : Cell) (q9 : Addr) (u : SX) (t : State) (H1 : Heap) (locs1 : List Loc), t.heap = H1 → s.vm.Alike t.vm → px u → BX E u t → H.size ≤ H1.size → (∀ q : Nat, q < H.size → ¬ AX q → H1[q]? = H[q]?) → va_S A0 H0 H1 locs1 → H1[q9]? = some ce → ce.vm = .none → s.vm.findClass E = some ce.cls → vx_W p l e R s m args below meth c H1 locs1 (cells + mc) (slots + ms) Q (F0 m pc ls rest) q9)
    (kk : ∀ (r : UInt32) (u : S) (t : State) (H1 : Heap) (locs1 : List Loc), t.heap = H1 → s.vm.Alike t.vm → post r u → B u t → H.size ≤ H1.size → (∀ q : Nat, q < H.size → ¬ A1 q → H1[q]? = H[q]?) → va_S A0 H0 H1 locs1 → W p l e R s m args below meth c H1 locs1 (cells + mc) (slots + ms) Q (F0 m (pc + 3) ls (.float r :: rest))) : W p l e R s m args below meth c H locs cells slots Q (F0 m pc ls st0) := by
  intro T hT X
  rcases hr T hT X with ⟨v, st₀, t, T', L, h0, X', hL, e1, e2, ⟨⟨r, u, hv, hp, hb⟩, hF⟩, st⟩ | ⟨q, st₀, t, T', L, E, ce, h0, X', hL, e1, e2, ⟨u, hp, hb, hF⟩, hce, hcv, hcl, st⟩
  · cases hv
    obtain ⟨k1, k2, k3⟩ := vx_keep h0 e1 hS hA hf hL hF
    obtain ⟨t2, a1, b1⟩ := kk r u t T'.heap (locs ++ L) e1.symm (by rw [← e2]; exact X'.warmed.alike) hp hb k1 k2 k3 T' rfl X'
    exact ⟨t2, st t2 a1, b1⟩
  · obtain ⟨k1, k2, k3⟩ := vx_keep h0 e1 hS hAX hf hL hF
    obtain ⟨t2, a1, b1⟩ := kx E ce q u t T'.heap (locs ++ L) e1.symm (by rw [← e2]; exact X'.warmed.alike) hp hb k1 k2 k3 (by rw [e1]; exact hce) hcv hcl T' rfl X'
    exact ⟨t2, st.trans a1, b1⟩
theorem vx_calld {S SX : Type} {post : UInt64 → S → Prop} {px : SX → Prop} {B : S → State → Prop} {BX : String → SX → State → Prop} {AX : Nat → Prop} (hr : vx_Run p l e R s m args below meth c H locs cells slots mc ms (F0 m pc ls st0) rest (va_Qd post B A1 a) (vx_X px BX AX) free) (hS : va_S A0 H0 H locs) (hA : ∀ q, q < H.size → A1 q → A0 q) (hf : ∀ q, free q → A0 q) (hAX : ∀ q, q < H.size → AX q → A0 q)
    (kx : ∀ (E : String) (ce : Cell) (q9 : Addr) (u : SX) (t : State) (H1 : Heap) (locs1 : List Loc), t.heap = H1 → s.vm.Alike t.vm → px u → BX E u t → H.size ≤ H1.size → (∀ q : Nat, q < H.size → ¬ AX q → H1[q]? = H[q]?) → va_S A0 H0 H1 locs1 → H1[q9]? = some ce → ce.vm = .none → s.vm.findClass E = some ce.cls → vx_W p l e R s m args below meth c H1 locs1 (cells + mc) (slots + ms) Q (F0 m pc ls rest) q9)
    (kk : ∀ (r : UInt64) (u : S) (t : State) (H1 : Heap) (locs1 : List Loc), t.heap = H1 → s.vm.Alike t.vm → post r u → B u t → H.size ≤ H1.size → (∀ q : Nat, q < H.size → ¬ A1 q → H1[q]? = H[q]?) → va_S A0 H0 H1 locs1 → W p l e R s m args below meth c H1 locs1 (cells + mc) (slots + ms) Q (F0 m (pc + 3) ls (.double r :: rest))) : W p l e R s m args below meth c H locs cells slots Q (F0 m pc ls st0) := by
  intro T hT X
  rcases hr T hT X with ⟨v, st₀, t, T', L, h0, X', hL, e1, e2, ⟨⟨r, u, hv, hp, hb⟩, hF⟩, st⟩ | ⟨q, st₀, t, T', L, E, ce, h0, X', hL, e1, e2, ⟨u, hp, hb, hF⟩, hce, hcv, hcl, st⟩
  · cases hv
    obtain ⟨k1, k2, k3⟩ := vx_keep h0 e1 hS hA hf hL hF
    obtain ⟨t2, a1, b1⟩ := kk r u t T'.heap (locs ++ L) e1.symm (by rw [← e2]; exact X'.warmed.alike) hp hb k1 k2 k3 T' rfl X'
    exact ⟨t2, st t2 a1, b1⟩
  · obtain ⟨k1, k2, k3⟩ := vx_keep h0 e1 hS hAX hf hL hF
    obtain ⟨t2, a1, b1⟩ := kx E ce q u t T'.heap (locs ++ L) e1.symm (by rw [← e2]; exact X'.warmed.alike) hp hb k1 k2 k3 (by rw [e1]; exact hce) hcv hcl T' rfl X'
    exact ⟨t2, st.trans a1, b1⟩
theorem vx_callv {S SX : Type} {post : S → Prop} {px : SX → Prop} {B : S → State → Prop} {BX : String → SX → State → Prop} {AX : Nat → Prop} (hr : vx_Run p l e R s m args below meth c H locs cells slots mc ms (F0 m pc ls st0) rest (va_Qv post B A1 a) (vx_X px BX AX) free) (hS : va_S A0 H0 H locs) (hA : ∀ q, q < H.size → A1 q → A0 q) (hf : ∀ q, free q → A0 q) (hAX : ∀ q, q < H.size → AX q → A0 q)
    (kx : ∀ (E : String) (ce : Cell) (q9 : Addr) (u : SX) (t : State) (H1 : Heap) (locs1 : List Loc), t.heap = H1 → s.vm.Alike t.vm → px u → BX E u t → H.size ≤ H1.size → (∀ q : Nat, q < H.size → ¬ AX q → H1[q]? = H[q]?) → va_S A0 H0 H1 locs1 → H1[q9]? = some ce → ce.vm = .none → s.vm.findClass E = some ce.cls → vx_W p l e R s m args below meth c H1 locs1 (cells + mc) (slots + ms) Q (F0 m pc ls rest) q9)
    (kk : ∀ (u : S) (t : State) (H1 : Heap) (locs1 : List Loc), t.heap = H1 → s.vm.Alike t.vm → post u → B u t → H.size ≤ H1.size → (∀ q : Nat, q < H.size → ¬ A1 q → H1[q]? = H[q]?) → va_S A0 H0 H1 locs1 → W p l e R s m args below meth c H1 locs1 (cells + mc) (slots + ms) Q (F0 m (pc + 3) ls (rest))) : W p l e R s m args below meth c H locs cells slots Q (F0 m pc ls st0) := by
  intro T hT X
  rcases hr T hT X with ⟨v, st₀, t, T', L, h0, X', hL, e1, e2, ⟨⟨u, hv, hp, hb⟩, hF⟩, st⟩ | ⟨q, st₀, t, T', L, E, ce, h0, X', hL, e1, e2, ⟨u, hp, hb, hF⟩, hce, hcv, hcl, st⟩
  · cases hv
    obtain ⟨k1, k2, k3⟩ := vx_keep h0 e1 hS hA hf hL hF
    obtain ⟨t2, a1, b1⟩ := kk u t T'.heap (locs ++ L) e1.symm (by rw [← e2]; exact X'.warmed.alike) hp hb k1 k2 k3 T' rfl X'
    exact ⟨t2, st t2 a1, b1⟩
  · obtain ⟨k1, k2, k3⟩ := vx_keep h0 e1 hS hAX hf hL hF
    obtain ⟨t2, a1, b1⟩ := kx E ce q u t T'.heap (locs ++ L) e1.symm (by rw [← e2]; exact X'.warmed.alike) hp hb k1 k2 k3 (by rw [e1]; exact hce) hcv hcl T' rfl X'
    exact ⟨t2, st.trans a1, b1⟩
/-- caught by the row x of this method's table; the rows ahead don't take it -/
theorem vx_catch {own name : String} {E : String} {ce : Cell} {q : Addr} (hown : s.vm.findClass own = some m.cls) (pre : List ExceptionTableEntry) (x : ExceptionTableEntry) (suf : List ExceptionTableEntry) (hsplit : c.exceptionTable.toList = pre ++ x :: suf)
    (hpass : ∀ z ∈ pre, covers z pc = false ∨ (z.catchType ≠ 0 ∧ ∃ nm : String, (Cond.classLink own z.catchType nm).before args s = true ∧ va_Nc E nm s)) (hx : covers x pc = true) (h0 : x.catchType ≠ 0)
    (hlink : (Cond.classLink own x.catchType name).before args s = true) (hcast : (Cond.castable E name).before args s = true) (hcell : H[q]? = some ce) (hv : ce.vm = .none) (hcl : s.vm.findClass E = some ce.cls)
    (kk : W p l e R s m args below meth c H locs cells slots Q (F0 m x.handlerPc ls [.ref q])) : vx_W p l e R s m args below meth c H locs cells slots Q (F0 m pc ls rest) q := by
  intro T hT X
  have hpl : e.platform.magicAccessors = ({} : Platform).magicAccessors := by rw [X.admits.platform]
  obtain ⟨c3, c4, hc3, hc4, hasg⟩ := Cond.castable_spec hcast
  cases Option.some.inj (hc3.symm.trans hcl)
  obtain ⟨c5, hc5, hcl5⟩ := Cond.classLink_spec hown hlink e.platform hpl
  cases Option.some.inj (hc4.symm.trans hc5)
  obtain ⟨vm', X', st⟩ := X.thenCaughtThrough q (g := F0 m pc ls rest) rfl (Steps.refl _) (by rw [hT]; exact hcell) (by rw [hv]; rfl) (by obtain ⟨k9, h9, -⟩ := Vm.findClass_spec hcl; exact ⟨k9, h9⟩) pre x suf hsplit
    (fun z hz => by
      rcases hpass z hz with h | ⟨hz0, nm, hl1, hn1⟩
      · exact Or.inl h
      · obtain ⟨c6, hc6, hcl6⟩ := Cond.classLink_spec hown hl1 e.platform hpl
        obtain ⟨a8, b8, h1, h2, h3⟩ := hn1
        cases Option.some.inj (h1.symm.trans hcl)
        cases Option.some.inj (h2.symm.trans hc6)
        exact Or.inr ⟨hz0, _, hcl6, h3⟩) hx (Or.inr ⟨h0, c4, hcl5, hasg⟩)
  obtain ⟨t, a1, b1⟩ := kk (T.setVm vm') hT X'
  exact ⟨t, st.trans a1, b1⟩
end Rows
section Ends
variable {p : Program} {l : Launch} {e : Env} {R : Room} {s : State} {m : MethodId} {args : Array Value} {below : List Frame} {meth : Method} {c : Code} {H : Heap} {locs : List Loc} {cells slots : Nat} {Q : State → Prop}
variable {mc ms : Nat} {free : Addr → Prop} {A0 A1 : Nat → Prop} {H0 : Heap} {a : Array Value} {ls : Array Slot} {st0 rest : List Value}
variable {Qc : Array Value → State → Outcome → State → Prop} {XC : String → State → State → Prop}
/-- what a body that may throw owes at its end -/
def vx_MQ (below : List Frame) (Qc : Array Value → State → Outcome → State → Prop) (XC : String → State → State → Prop) (a : Array Value) (s : State) (mc ms : Nat) (free : Addr → Prop) : State → Prop := fun t =>
  ∃ o, t.status = .running ∧ Ended t below o ∧ vx_Q Qc XC mc ms free a s o t
theorem vx_ret {g : JFrame} {mc ms : Nat} (k : W p l e R s m args below meth c H locs cells slots (MQ below Qc args s mc ms free) g) : W p l e R s m args below meth c H locs cells slots (vx_MQ below Qc XC args s mc ms free) g := by
  intro T hT X
  obtain ⟨t, a1, o, b1, b2, b3, b4⟩ := k T hT X
  exact ⟨t, a1, o, b1, b2, Or.inl ⟨b3, b4⟩⟩
/-- not caught here: it goes on to the caller -/
theorem vx_widen {g : JFrame} {q : Addr} {k n : Nat} (h1 : cells ≤ k) (h2 : slots ≤ n) (kk : vx_W p l e R s m args below meth c H locs k n Q g q) : vx_W p l e R s m args below meth c H locs cells slots Q g q := fun T hT X => kk T hT (stand_widen X h1 h2)
theorem vx_out {pc : Nat} {E : String} {ce : Cell} {q : Addr} {mc ms : Nat} (hout : ∀ x ∈ c.exceptionTable.toList, covers x pc = false) (hlocks : meth.locks = false) (hcell : H[q]? = some ce) (hv : ce.vm = .none) (hcl : s.vm.findClass E = some ce.cls)
    (hx : ∀ t : State, t.heap = H → s.vm.Alike t.vm → XC E s t) (hf : ∀ z ∈ locs, free z.base) (hc : cells ≤ mc) (hs : slots ≤ ms) :
    vx_W p l e R s m args below meth c H locs cells slots (vx_MQ below Qc XC args s mc ms free) (F0 m pc ls rest) q := by
  intro T hT X
  obtain ⟨st1, hrun, hend, hW, hsm⟩ := X.leaveThrown q (g := F0 m pc ls rest) rfl rfl rfl hout hlocks
  have hcell9 : (T.setFrames (.throwing q :: below)).heap[q]? = some ce := by
    show T.heap[q]? = some ce
    rw [hT]; exact hcell
  exact ⟨_, st1, .threw q, hrun, hend, Or.inr ⟨q, rfl, E, ce, locs, hx _ hT hW.alike, hcell9, hv, hcl, hW, hsm.mono hc hs, hf⟩⟩
theorem vx_frame {U : State} {k n : Nat} (h : s.sameButNew ({ U with vm := s.vm } : State) locs k n) : s.heap.size ≤ U.heap.size ∧ ∀ q : Nat, q < s.heap.size → (∀ z ∈ locs, z.base ≠ q) → U.heap[q]? = s.heap[q]? := by
  obtain ⟨-, h2, -, -, -, h6⟩ := h
  refine ⟨h2, fun q hq hz => ?_⟩
  obtain ⟨c9, e1, e2, e3, e4⟩ := h6 q _ (Array.getElem?_eq_getElem hq)
  have hs : c9.slots = (s.heap[q]).slots := Array.ext_getElem? fun i => e4 i fun hm => hz _ hm rfl
  have h9 : c9 = s.heap[q] := by
    rw [hs] at e2
    exact e2
  have e5 : U.heap[q]? = some c9 := e1
  rw [e5, h9, Array.getElem?_eq_getElem hq]
/-- the words of a throw but the four that speak of the heap -/
def vx_no (w : Cond) : Bool := decide (w ≠ .isRef (.static Bundle.tN "UNASSIGNED_STACK" Bundle.steD)) && decide (w ≠ .isRef (.static Bundle.tN "SUPPRESSED_SENTINEL" Bundle.listD)) && decide (w ≠ .laysStatic Bundle.tN "UNASSIGNED_STACK" Bundle.steD) && decide (w ≠ .laysStatic Bundle.tN "SUPPRESSED_SENTINEL" Bundle.listD)
def vx_at0 (own : String) (ic : Nat) (X : String) (names : List String) : List Cond := (Bundle.ownAtoms0 own ic X names).filter vx_no
def vx_atS (own : String) (ic : Nat) (X : String) (names : List String) : List Cond := (Bundle.ownAtoms own ic X names).filter vx_no
/-- a word that the tables alone decide, or a good one -/
def vx_ot (w : Cond) : Bool := w.onTables || goodWord w
theorem vx_ot_at {args a' : Array Value} {s U : State} {w : Cond} (hW : s.WarmedH U.vm) (hvm : s.vm = U.vm) (hg : vx_ot w = true) (h : w.before args s = true) : w.before a' U = true := by
  simp only [vx_ot, Bool.or_eq_true] at hg
  rcases hg with hg | hg
  · exact va_tabs hg hvm h
  · exact word_at hW (good_of_word hg) h
/-- a list's words: the good ones out of the method's own list, the others by premises of their own -/
theorem vx_hat {args : Array Value} {s : State} {L B : List Cond} (h1 : ∀ w ∈ L.filter goodWord, w.before args s = true) (h2 : ∀ w ∈ L.filter (fun w => !goodWord w), w ∈ B) (h3 : ∀ w ∈ B, w.before args s = true) : ∀ w ∈ L, w.before args s = true := by
  intro w hw
  by_cases g : goodWord w = true
  · exact h1 w (List.mem_filter.mpr ⟨hw, g⟩)
  · refine h3 w (h2 w (List.mem_filter.mpr ⟨hw, ?_⟩))
    show (!goodWord w) = true
    cases hgw : goodWord w
    · rfl
    · exact absurd hgw g
theorem vx_c {args : Array Value} {s : State} {w : Cond} {B : List Cond} (h : w.before args s = true) (t : ∀ w ∈ B, w.before args s = true) : ∀ w' ∈ w :: B, w'.before args s = true := fun w' h' => (List.mem_cons.mp h').elim (fun e => by rw [e]; exact h) (t w')
theorem vx_n {args : Array Value} {s : State} : ∀ w ∈ ([] : List Cond), w.before args s = true := fun _ h => nomatch h
theorem vx_own {args : Array Value} {s : State} {L : List Cond} (h1 : ∀ w ∈ L.filter vx_no, w.before args s = true)
    (hU : (Cond.isRef (.static Bundle.tN "UNASSIGNED_STACK" Bundle.steD)).before args s = true) (hN : (Cond.isRef (.static Bundle.tN "SUPPRESSED_SENTINEL" Bundle.listD)).before args s = true)
    (lU : (Cond.laysStatic Bundle.tN "UNASSIGNED_STACK" Bundle.steD).before args s = true) (lN : (Cond.laysStatic Bundle.tN "SUPPRESSED_SENTINEL" Bundle.listD).before args s = true) : ∀ w ∈ L, w.before args s = true := by
  intro w hw
  by_cases e1 : w = .isRef (.static Bundle.tN "UNASSIGNED_STACK" Bundle.steD)
  · rw [e1]; exact hU
  · by_cases e2 : w = .isRef (.static Bundle.tN "SUPPRESSED_SENTINEL" Bundle.listD)
    · rw [e2]; exact hN
    · by_cases e3 : w = .laysStatic Bundle.tN "UNASSIGNED_STACK" Bundle.steD
      · rw [e3]; exact lU
      · by_cases e4 : w = .laysStatic Bundle.tN "SUPPRESSED_SENTINEL" Bundle.listD
        · rw [e4]; exact lN
        · exact h1 w (List.mem_filter.mpr ⟨hw, by unfold vx_no; rw [decide_eq_true e1, decide_eq_true e2, decide_eq_true e3, decide_eq_true e4]; rfl⟩)
/-- where a static field lies, its class's statics cell in H -/
def vx_L (C n d : String) (A : Nat → Prop) (U : State) (H : Heap) : Prop := ∃ (c : ClassId) (k : Class) (i : Nat) (f : Field) (a : Nat) (cell : Cell), U.vm.findClass C = some c ∧ U.fieldFound? C n d = some (c, k, i, f) ∧ f.isStatic = true ∧ k.statics = some a ∧ H[a]? = some cell ∧ cell.vm.isStatics = true ∧ cell.cls = c ∧ f.slot < cell.slots.size ∧ k.staticTypes[f.slot]? = some f.type ∧ ¬ A a
theorem vx_L.moved {C n d : String} {A : Nat → Prop} {u U : State} {H : Heap} (hvm : u.vm.Alike U.vm) (h : vx_L C n d A u H) : vx_L C n d A U H := by
  obtain ⟨c, k, i, f, a, cell, h1, h2, h3, h4, h5, h6, h7, h8, h9, h10⟩ := h
  obtain ⟨k', hi', he⟩ := State.fieldFound?_setVm hvm h2
  exact ⟨c, k', i, f, a, cell, by rw [hvm.findClass]; exact h1, hi', h3, by rw [he]; exact h4, h5, h6, h7, h8, by rw [he]; exact h9, h10⟩
theorem vx_L.kept {C n d : String} {A : Nat → Prop} {U : State} {H H1 : Heap} (h : vx_L C n d A U H) (hq : ∀ a : Nat, a < H.size → ¬ A a → H1[a]? = H[a]?) : vx_L C n d A U H1 := by
  obtain ⟨c, k, i, f, a, cell, h1, h2, h3, h4, h5, h6, h7, h8, h9, h10⟩ := h
  exact ⟨c, k, i, f, a, cell, h1, h2, h3, h4, by rw [hq a (Array.getElem?_eq_some_iff.mp h5).1 h10]; exact h5, h6, h7, h8, h9, h10⟩
theorem vx_L.narrow {C n d : String} {A B : Nat → Prop} {U : State} {H : Heap} (h : vx_L C n d A U H) (hAB : ∀ q, B q → A q) : vx_L C n d B U H := by
  obtain ⟨c, k, i, f, a, cell, h1, h2, h3, h4, h5, h6, h7, h8, h9, h10⟩ := h
  exact ⟨c, k, i, f, a, cell, h1, h2, h3, h4, h5, h6, h7, h8, h9, fun z => h10 (hAB _ z)⟩
theorem vx_L.word {C n d : String} {A : Nat → Prop} {s : State} {args : Array Value} (h : vx_L C n d A s s.heap) : (Cond.laysStatic C n d).before args s = true := by
  obtain ⟨c, k, i, f, a, cell, h1, h2, h3, h4, h5, h6, h7, h8, h9, -⟩ := h
  show (Cond.laysStatic C n d).holds args s none s [] = true
  exact Cond.laysStatic_of h1 h2 h3 h4 h5 h6 h7 h8 h9
/-- .. and what it holds: null or some reference -/
def vx_Zq (C n d : String) (A : Nat → Prop) (U : State) (H : Heap) : Prop := va_Zq C n d A U H ∧ vx_L C n d A U H
theorem vx_Zq.moved {C n d : String} {A : Nat → Prop} {u U : State} {H : Heap} (hvm : u.vm.Alike U.vm) (h : vx_Zq C n d A u H) : vx_Zq C n d A U H := ⟨va_Zq.moved hvm h.1, vx_L.moved hvm h.2⟩
theorem vx_Zq.kept {C n d : String} {A : Nat → Prop} {U : State} {H H1 : Heap} (h : vx_Zq C n d A U H) (hq : ∀ a : Nat, a < H.size → ¬ A a → H1[a]? = H[a]?) : vx_Zq C n d A U H1 := ⟨va_Zq.kept h.1 hq, vx_L.kept h.2 hq⟩
theorem vx_Zq.narrow {C n d : String} {A B : Nat → Prop} {U : State} {H : Heap} (h : vx_Zq C n d A U H) (hAB : ∀ q, B q → A q) : vx_Zq C n d B U H := ⟨va_Zq.narrow h.1 hAB, vx_L.narrow h.2 hAB⟩
theorem vx_Zqof {args : Array Value} {s : State} {C n d : String} {A : Nat → Prop} (hl : (Cond.laysStatic C n d).before args s = true) (hini : (Cond.initialized C).before args s = true) (h : (Cond.isRef (.static C n d)).before args s = true) (hA : ∀ a : Nat, a < s.heap.size → ¬ A a) : vx_Zq C n d A s s.heap := by
  refine ⟨va_Zqof hl hini h hA, ?_⟩
  obtain ⟨c, k, i, f, a, cell, h1, h2, h3, h4, h5, h6, h7, h8, h9⟩ := Cond.laysStatic_spec hl
  exact ⟨c, k, i, f, a, cell, h1, h2, h3, h4, h5, h6, h7, h8, h9, hA a (Array.getElem?_eq_some_iff.mp h5).1⟩
theorem vx_isRef {C n d : String} {v : Value} {A : Nat → Prop} {s : State} {args : Array Value} (h : va_Z C n d v A s s.heap) (hv : v.isRef = true) : (Cond.isRef (.static C n d)).before args s = true := by
  obtain ⟨cf, kf, fi, f, a, cell, h1, h2, h3, h4, h5, h6, h7, -⟩ := h
  have he : (Term.static C n d).eval args s none [] s = some v := by
    simp [Term.eval, State.fieldNamed?, h1, h2, h4, h5, h6, h7]
  simp only [Cond.before, Cond.holds, Cond.value, he]
  cases v <;> simp_all [Value.isRef]
theorem vx_isRefq {C n d : String} {A : Nat → Prop} {s : State} {args : Array Value} (h : va_Zq C n d A s s.heap) : (Cond.isRef (.static C n d)).before args s = true := by
  rcases h with h | ⟨t, h⟩
  · exact vx_isRef h rfl
  · exact vx_isRef h rfl
/-- the same frame, seen from here: as if the method were called anew in this heap -/
theorem vx_rebase {T : State} (X : Stand p l e R s m args below meth c T locs cells slots) {R' : Room} (hf : R'.frames ≤ R.frames) (hl : R'.locals ≤ R.locals) (hc : cells + R'.cells ≤ R.cells) (hs : slots + R'.slots ≤ R.slots) :
    Stand p l e R' ((T.setVm s.vm).setFrames (.invoking m args :: below)) m args below meth c T [] 0 0 := by
  have htop : (T.setVm s.vm).topJava?.isSome := X.here.top
  have hF : ((T.setVm s.vm).setFrames (.invoking m args :: below)).frames = .invoking m args :: below := State.frames_setFrames _ (State.cur_lt_of_top htop)
  obtain ⟨g₀, hg0⟩ := Option.isSome_iff_exists.mp htop
  obtain ⟨r, hr⟩ := State.topJava?_eq_some.mp hg0
  have hl9 : e.platform.stackLimits (T.setVm s.vm).me = e.platform.stackLimits s.me := X.limits
  have hb9 : (T.setVm s.vm).me.stackBytes = s.me.stackBytes := X.bytes
  refine ⟨X.admits, X.cas, X.clock, hF, ?_, X.hears, X.method, X.code, X.here, X.tail, X.warmed, ?_, ?_, ?_⟩
  · have h := X.room
    have hU : ((T.setVm s.vm).setFrames (.invoking m args :: below)).localsInUse = s.localsInUse := by
      rw [State.localsInUse_invoking hF (meth := meth) (c := c) X.method X.code, State.localsInUse_invoking X.frames X.method X.code]
    simp only [State.hasRoom, Bool.and_eq_true, decide_eq_true_eq] at h ⊢
    obtain ⟨⟨⟨⟨h1, h2, h3, h4, h5, h6⟩, h7⟩, h8⟩, h9⟩ := h
    rw [X.frames, List.length_cons] at h2 h3
    have q1 := X.heapSize
    have q2 := X.used
    simp only [hF, hU, List.length_cons, State.stackLimits_setFrames, State.stackBytes_setFrames, hl9, hb9]
    refine ⟨⟨⟨⟨by omega, by omega, by omega, by omega, by omega, h6⟩, ?_⟩, ?_⟩, X.book⟩
    · show T.heap.size + R'.cells ≤ e.platform.maxCells
      omega
    · show T.slotsUsed + R'.slots ≤ e.platform.maxSlots
      omega
  · rw [State.stackLimits_setFrames]; rfl
  · rw [State.stackBytes_setFrames]; rfl
  · refine ⟨?_, Nat.le_refl _, Nat.le_refl _, ?_, ?_, fun a c9 h9 => ⟨c9, h9, rfl, rfl, fun _ _ => rfl⟩⟩
    · obtain ⟨t, ht, -⟩ := State.frames_cons hr
      show T.setVm s.vm = { ((T.setVm s.vm).setFrames (.invoking m args :: below)).setFrames (T.setVm s.vm).frames with heap := T.heap, slotsUsed := T.slotsUsed }
      rw [State.setFrames_setFrames, State.setFrames_self ht]
      rfl
    · show T.slotsUsed = T.slotsUsed + ((T.heap.toList.drop T.heap.size).map (·.slots.size)).sum
      rw [List.drop_eq_nil_of_le (Nat.le_of_eq Array.length_toList)]
      rfl
    · show ((T.heap.toList.drop T.heap.size).map (·.slots.size)).sum ≤ 0
      rw [List.drop_eq_nil_of_le (Nat.le_of_eq Array.length_toList)]
      exact Nat.le_refl _
/-- 'throw new E()': new; dup; invokespecial; athrow -/
theorem vx_throw0 {cc : ByteArray} {pc : Nat} (hexec : p.tables.exec = Jvm.exec) (hb : c.code = cc) (hl : l.stackTraces = false) {own cls : String} {names : List String} {ik ic mc ms : Nat} {A : Nat → Prop}
    (hown : s.vm.findClass own = some m.cls) (hcls : Bundle.fit cls = true) (hnames : ∀ n ∈ names, Bundle.fit n = true)
    (hk : (Cond.classLink own ik cls).before args s = true) (hini : (Cond.initialized cls).before args s = true) (hat : ∀ w ∈ vx_at0 own ic cls names, w.before args s = true)
    (hgood : ∀ w ∈ Cond.classLink own ik cls :: Cond.initialized cls :: vx_at0 own ic cls names, vx_ot w = true)
    (hU : vx_Zq Bundle.tN "UNASSIGNED_STACK" Bundle.steD A s s.heap) (hN : vx_Zq Bundle.tN "SUPPRESSED_SENTINEL" Bundle.listD A s s.heap) (hS : va_S A s.heap H locs) (hsize : ls.size = c.maxLocals)
    (d0 : decode cc pc = .ok (.new ik, 3)) (d3 : decode cc (pc + 3) = .ok (.dup, 1)) (d4 : decode cc (pc + 4) = .ok (.invokespecial ic, 3)) (d7 : decode cc (pc + 7) = .ok (.athrow, 1))
    (hout : ∀ x ∈ c.exceptionTable.toList, covers x (pc + 7) = false)
    (hRframes : names.length + 3 < R.frames) (hRlocals : (rest.map fun v => v.category).sum + (13 * (names.length + 1) + 42) ≤ R.locals) (hRcells : cells + 1 ≤ R.cells) (hRslots : slots + 6 ≤ R.slots) (hlocks : meth.locks = false)
    (hx : ∀ t : State, s.vm.Alike t.vm → H.size ≤ t.heap.size → (∀ q : Nat, q < H.size → t.heap[q]? = H[q]?) → XC cls s t)
    (hf : ∀ z ∈ locs, free z.base) (hc : cells + 1 ≤ mc) (hs : slots + 6 ≤ ms) :
    W p l e R s m args below meth c H locs cells slots (vx_MQ below Qc XC args s mc ms free) (F0 m pc ls rest) := by
  intro T hT X
  have htr : e.platform.stackTraces = false := (show e.platform.stackTraces = l.stackTraces by rw [X.admits.platform]).trans hl
  have Y := vx_rebase X (R' := { frames := R.frames, locals := R.locals, cells := 1, slots := 6 }) (Nat.le_refl _) (Nat.le_refl _) hRcells hRslots
  obtain ⟨s', hA⟩ : ∃ z, z = (T.setVm s.vm).setFrames (.invoking m args :: below) := ⟨_, rfl⟩
  rw [← hA] at Y
  have hvm : s'.vm = s.vm := by rw [hA]; rfl
  have hhp : s'.heap = H := by rw [hA]; exact hT
  have hW0 : s.WarmedH s'.vm := by rw [hvm]; exact State.WarmedH.refl s
  have hat' : ∀ w ∈ vx_at0 own ic cls names, w.before args s' = true := fun w hw => vx_ot_at hW0 hvm.symm (hgood w (List.mem_cons_of_mem _ (List.mem_cons_of_mem _ hw))) (hat w hw)
  have hk' : (Cond.classLink own ik cls).before args s' = true := vx_ot_at hW0 hvm.symm (hgood _ List.mem_cons_self) hk
  have hini' : (Cond.initialized cls).before args s' = true := vx_ot_at hW0 hvm.symm (hgood _ (List.mem_cons_of_mem _ List.mem_cons_self)) hini
  have hU' : vx_Zq Bundle.tN "UNASSIGNED_STACK" Bundle.steD A s' s'.heap := by rw [hhp]; exact vx_Zq.moved hW0.alike (hU.kept hS.2.1)
  have hN' : vx_Zq Bundle.tN "SUPPRESSED_SENTINEL" Bundle.listD A s' s'.heap := by rw [hhp]; exact vx_Zq.moved hW0.alike (hN.kept hS.2.1)
  have h : ∀ w ∈ Bundle.ownAtoms0 own ic cls names, w.before args s' = true := vx_own hat' (vx_isRefq hU'.1) (vx_isRefq hN'.1) hU'.2.word hN'.2.word
  have hown' : s'.vm.findClass own = some m.cls := by rw [hvm]; exact hown
  have hins : (Cond.instantiable cls 6).before args s' = true := h _ (by simp [Bundle.ownAtoms0])
  obtain ⟨vm₁, cX, kX, hfX, hkX, -, -, X₁, st1⟩ := Y.newCold hexec (own := own) (C := cls) (index := ik) (n := 6) hown' hk' hins hini'
    (g := F0 m pc ls rest) rfl (by rw [hb]; exact d0) (Nat.le_refl _) (Nat.le_refl _)
  generalize hT1 : (T.setVm vm₁).pushCell { cls := cX, slots := kX.instanceTypes.map defaultValue, vm := .none } = T1 at X₁ st1
  have hcat : (Value.ref T.heap.size).category = 1 := rfl
  have hcellA : T1.heap[T.heap.size]? = some (freshCell cX kX) := by rw [← hT1]; exact State.heap_pushCell_size _ _
  have d3' : decode c.code (pc + 3) = .ok (.dup, 1) := by rw [hb]; exact d3
  obtain ⟨U, hsteps, hrun, hend, hW, hsame, ce, hce, hO⟩ := X₁.ctorThrow0 hexec htr (own := own) (cls := cls) (names := names) (ic := ic) hown' hcls hnames h (fun x hx => nomatch hx) hfX hkX hcellA (by rw [hhp, hT]; exact Nat.le_refl _)
    (g := { method := m, pc := pc + 4, locals := ls, stack := .ref T.heap.size :: .ref T.heap.size :: rest, locked := none }) rfl hsize rfl rfl (rest := rest) rfl
    (by rw [hb]; exact d4) (by rw [hb]; exact d7) hout hRframes (by simp only [List.map_cons, List.sum_cons, hcat]; omega) hlocks
  obtain ⟨f1, f2⟩ := vx_frame hsame
  rw [hhp] at f1 f2
  have hWs : s.WarmedH U.vm := State.WarmedH.trans hW0 hW
  have hcl : s.vm.findClass cls = some ce.cls := by
    have h9 := hO.cls
    rw [hvm] at h9
    exact h9
  have hall : s.sameButNew ({ U with vm := s.vm } : State) locs mc ms := by
    subst hA
    obtain ⟨e1, e2⟩ := hsame
    rw [State.setFrames_setFrames] at e1
    have h2 : (T.setVm s.vm).sameButNew ({ U with vm := s.vm } : State) [] (0 + 1) (0 + 6) := ⟨e1, e2⟩
    have h3 := X.same.trans h2
    rw [List.append_nil] at h3
    exact h3.mono hc hs
  refine ⟨U, ?_, .threw T.heap.size, hrun, hend, Or.inr ⟨T.heap.size, rfl, cls, ce, locs, hx U hWs.alike f1 (fun q hq => f2 q hq (fun z hz => nomatch hz)), hce, hO.vm, hcl, hWs, hall, hf⟩⟩
  refine st1 _ ?_
  show Steps p.tables e below (T1.setTop { method := m, pc := pc + 3, locals := ls, stack := .ref T.heap.size :: rest, locked := none }) _
  jvm_step X₁.here [X₁.here.top, hexec, d3', Value.category]
  exact hsteps
/-- 'throw new E("text")': new; dup; ldc; invokespecial; athrow -/
theorem vx_throwS {cc : ByteArray} {pc : Nat} (hexec : p.tables.exec = Jvm.exec) (hb : c.code = cc) (hl : l.stackTraces = false) {own cls text : String} {names : List String} {ik is ic mc ms sa : Nat} {A : Nat → Prop}
    (hown : s.vm.findClass own = some m.cls) (hcls : Bundle.fit cls = true) (hnames : ∀ n ∈ names, Bundle.fit n = true)
    (hk : (Cond.classLink own ik cls).before args s = true) (hini : (Cond.initialized cls).before args s = true) (hstr : vk_R own is text sa s) (hat : ∀ w ∈ vx_atS own ic cls names, w.before args s = true)
    (hgood : ∀ w ∈ Cond.classLink own ik cls :: Cond.initialized cls :: vx_atS own ic cls names, vx_ot w = true)
    (hU : vx_Zq Bundle.tN "UNASSIGNED_STACK" Bundle.steD A s s.heap) (hN : vx_Zq Bundle.tN "SUPPRESSED_SENTINEL" Bundle.listD A s s.heap) (hS : va_S A s.heap H locs) (hsize : ls.size = c.maxLocals)
    (d0 : decode cc pc = .ok (.new ik, 3)) (d3 : decode cc (pc + 3) = .ok (.dup, 1)) (d4 : decode cc (pc + 4) = .ok (.ldc is, 2)) (d6 : decode cc (pc + 6) = .ok (.invokespecial ic, 3)) (d9 : decode cc (pc + 9) = .ok (.athrow, 1))
    (hout : ∀ x ∈ c.exceptionTable.toList, covers x (pc + 9) = false)
    (hRframes : names.length + 3 < R.frames) (hRlocals : (rest.map fun v => v.category).sum + (13 * (names.length + 1) + 43) ≤ R.locals) (hRcells : cells + 1 ≤ R.cells) (hRslots : slots + 6 ≤ R.slots) (hlocks : meth.locks = false)
    (hx : ∀ t : State, s.vm.Alike t.vm → H.size ≤ t.heap.size → (∀ q : Nat, q < H.size → t.heap[q]? = H[q]?) → XC cls s t)
    (hf : ∀ z ∈ locs, free z.base) (hc : cells + 1 ≤ mc) (hs : slots + 6 ≤ ms) :
    W p l e R s m args below meth c H locs cells slots (vx_MQ below Qc XC args s mc ms free) (F0 m pc ls rest) := by
  intro T hT X
  have htr : e.platform.stackTraces = false := (show e.platform.stackTraces = l.stackTraces by rw [X.admits.platform]).trans hl
  have Y := vx_rebase X (R' := { frames := R.frames, locals := R.locals, cells := 1, slots := 6 }) (Nat.le_refl _) (Nat.le_refl _) hRcells hRslots
  obtain ⟨s', hA⟩ : ∃ z, z = (T.setVm s.vm).setFrames (.invoking m args :: below) := ⟨_, rfl⟩
  rw [← hA] at Y
  have hvm : s'.vm = s.vm := by rw [hA]; rfl
  have hhp : s'.heap = H := by rw [hA]; exact hT
  have hW0 : s.WarmedH s'.vm := by rw [hvm]; exact State.WarmedH.refl s
  have hat' : ∀ w ∈ vx_atS own ic cls names, w.before args s' = true := fun w hw => vx_ot_at hW0 hvm.symm (hgood w (List.mem_cons_of_mem _ (List.mem_cons_of_mem _ hw))) (hat w hw)
  have hk' : (Cond.classLink own ik cls).before args s' = true := vx_ot_at hW0 hvm.symm (hgood _ List.mem_cons_self) hk
  have hini' : (Cond.initialized cls).before args s' = true := vx_ot_at hW0 hvm.symm (hgood _ (List.mem_cons_of_mem _ List.mem_cons_self)) hini
  have hU' : vx_Zq Bundle.tN "UNASSIGNED_STACK" Bundle.steD A s' s'.heap := by rw [hhp]; exact vx_Zq.moved hW0.alike (hU.kept hS.2.1)
  have hN' : vx_Zq Bundle.tN "SUPPRESSED_SENTINEL" Bundle.listD A s' s'.heap := by rw [hhp]; exact vx_Zq.moved hW0.alike (hN.kept hS.2.1)
  have h : ∀ w ∈ Bundle.ownAtoms own ic cls names, w.before args s' = true := vx_own hat' (vx_isRefq hU'.1) (vx_isRefq hN'.1) hU'.2.word hN'.2.word
  have hown' : s'.vm.findClass own = some m.cls := by rw [hvm]; exact hown
  have hins : (Cond.instantiable cls 6).before args s' = true := h _ (by simp [Bundle.ownAtoms])
  obtain ⟨vm₁, cX, kX, hfX, hkX, -, -, X₁, st1⟩ := Y.newCold hexec (own := own) (C := cls) (index := ik) (n := 6) hown' hk' hins hini'
    (g := F0 m pc ls rest) rfl (by rw [hb]; exact d0) (Nat.le_refl _) (Nat.le_refl _)
  generalize hT1 : (T.setVm vm₁).pushCell { cls := cX, slots := kX.instanceTypes.map defaultValue, vm := .none } = T1 at X₁ st1
  have hcat : (Value.ref T.heap.size).category = 1 := rfl
  have hcellA : T1.heap[T.heap.size]? = some (freshCell cX kX) := by rw [← hT1]; exact State.heap_pushCell_size _ _
  have d3' : decode c.code (pc + 3) = .ok (.dup, 1) := by rw [hb]; exact d3
  have d4' : decode c.code (pc + 4) = .ok (.ldc is, 2) := by rw [hb]; exact d4
  have hstr' : vk_R own is text sa s' := vk_R.warm hW0 hstr
  obtain ⟨U, hsteps, hrun, hend, hW, hsame, ce, hce, hO⟩ := X₁.ctorThrowS hexec htr (own := own) (cls := cls) (names := names) (ic := ic) hown' hcls hnames h (fun x hx => nomatch hx) hfX hkX hcellA (by rw [hhp, hT]; exact Nat.le_refl _) (msg := .ref sa) rfl
    (g := { method := m, pc := pc + 6, locals := ls, stack := .ref sa :: .ref T.heap.size :: .ref T.heap.size :: rest, locked := none }) rfl hsize rfl rfl (rest := rest) rfl
    (by rw [hb]; exact d6) (by rw [hb]; exact d9) hout hRframes (by simp only [List.map_cons, List.sum_cons, hcat]; omega) hlocks
  obtain ⟨f1, f2⟩ := vx_frame hsame
  rw [hhp] at f1 f2
  have hWs : s.WarmedH U.vm := State.WarmedH.trans hW0 hW
  have hcl : s.vm.findClass cls = some ce.cls := by
    have h9 := hO.cls
    rw [hvm] at h9
    exact h9
  have hall : s.sameButNew ({ U with vm := s.vm } : State) locs mc ms := by
    subst hA
    obtain ⟨e1, e2⟩ := hsame
    rw [State.setFrames_setFrames] at e1
    have h2 : (T.setVm s.vm).sameButNew ({ U with vm := s.vm } : State) [] (0 + 1) (0 + 6) := ⟨e1, e2⟩
    have h3 := X.same.trans h2
    rw [List.append_nil] at h3
    exact h3.mono hc hs
  refine ⟨U, ?_, .threw T.heap.size, hrun, hend, Or.inr ⟨T.heap.size, rfl, cls, ce, locs, hx U hWs.alike f1 (fun q hq => f2 q hq (fun z hz => nomatch hz)), hce, hO.vm, hcl, hWs, hall, hf⟩⟩
  refine st1 _ ?_
  show Steps p.tables e below (T1.setTop { method := m, pc := pc + 3, locals := ls, stack := .ref T.heap.size :: rest, locked := none }) _
  jvm_step X₁.here [X₁.here.top, hexec, d3', Value.category]
  exact X₁.ldcString hexec (own := own) (text := text) (index := is) (a := sa) hown' hstr'.1 hstr'.2
    (g := { method := m, pc := pc + 4, locals := ls, stack := .ref T.heap.size :: .ref T.heap.size :: rest, locked := none }) rfl d4' _ hsteps
/-- 'throw new E("text")', the text by a wide index -/
theorem vx_throwSW {cc : ByteArray} {pc : Nat} (hexec : p.tables.exec = Jvm.exec) (hb : c.code = cc) (hl : l.stackTraces = false) {own cls text : String} {names : List String} {ik is ic mc ms sa : Nat} {A : Nat → Prop}
    (hown : s.vm.findClass own = some m.cls) (hcls : Bundle.fit cls = true) (hnames : ∀ n ∈ names, Bundle.fit n = true)
    (hk : (Cond.classLink own ik cls).before args s = true) (hini : (Cond.initialized cls).before args s = true) (hstr : vk_R own is text sa s) (hat : ∀ w ∈ vx_atS own ic cls names, w.before args s = true)
    (hgood : ∀ w ∈ Cond.classLink own ik cls :: Cond.initialized cls :: vx_atS own ic cls names, vx_ot w = true)
    (hU : vx_Zq Bundle.tN "UNASSIGNED_STACK" Bundle.steD A s s.heap) (hN : vx_Zq Bundle.tN "SUPPRESSED_SENTINEL" Bundle.listD A s s.heap) (hS : va_S A s.heap H locs) (hsize : ls.size = c.maxLocals)
    (d0 : decode cc pc = .ok (.new ik, 3)) (d3 : decode cc (pc + 3) = .ok (.dup, 1)) (d4 : decode cc (pc + 4) = .ok (.ldc_w is, 3)) (d7 : decode cc (pc + 7) = .ok (.invokespecial ic, 3)) (d10 : decode cc (pc + 10) = .ok (.athrow, 1))
    (hout : ∀ x ∈ c.exceptionTable.toList, covers x (pc + 10) = false)
    (hRframes : names.length + 3 < R.frames) (hRlocals : (rest.map fun v => v.category).sum + (13 * (names.length + 1) + 43) ≤ R.locals) (hRcells : cells + 1 ≤ R.cells) (hRslots : slots + 6 ≤ R.slots) (hlocks : meth.locks = false)
    (hx : ∀ t : State, s.vm.Alike t.vm → H.size ≤ t.heap.size → (∀ q : Nat, q < H.size → t.heap[q]? = H[q]?) → XC cls s t)
    (hf : ∀ z ∈ locs, free z.base) (hc : cells + 1 ≤ mc) (hs : slots + 6 ≤ ms) :
    W p l e R s m args below meth c H locs cells slots (vx_MQ below Qc XC args s mc ms free) (F0 m pc ls rest) := by
  intro T hT X
  have htr : e.platform.stackTraces = false := (show e.platform.stackTraces = l.stackTraces by rw [X.admits.platform]).trans hl
  have Y := vx_rebase X (R' := { frames := R.frames, locals := R.locals, cells := 1, slots := 6 }) (Nat.le_refl _) (Nat.le_refl _) hRcells hRslots
  obtain ⟨s', hA⟩ : ∃ z, z = (T.setVm s.vm).setFrames (.invoking m args :: below) := ⟨_, rfl⟩
  rw [← hA] at Y
  have hvm : s'.vm = s.vm := by rw [hA]; rfl
  have hhp : s'.heap = H := by rw [hA]; exact hT
  have hW0 : s.WarmedH s'.vm := by rw [hvm]; exact State.WarmedH.refl s
  have hat' : ∀ w ∈ vx_atS own ic cls names, w.before args s' = true := fun w hw => vx_ot_at hW0 hvm.symm (hgood w (List.mem_cons_of_mem _ (List.mem_cons_of_mem _ hw))) (hat w hw)
  have hk' : (Cond.classLink own ik cls).before args s' = true := vx_ot_at hW0 hvm.symm (hgood _ List.mem_cons_self) hk
  have hini' : (Cond.initialized cls).before args s' = true := vx_ot_at hW0 hvm.symm (hgood _ (List.mem_cons_of_mem _ List.mem_cons_self)) hini
  have hU' : vx_Zq Bundle.tN "UNASSIGNED_STACK" Bundle.steD A s' s'.heap := by rw [hhp]; exact vx_Zq.moved hW0.alike (hU.kept hS.2.1)
  have hN' : vx_Zq Bundle.tN "SUPPRESSED_SENTINEL" Bundle.listD A s' s'.heap := by rw [hhp]; exact vx_Zq.moved hW0.alike (hN.kept hS.2.1)
  have h : ∀ w ∈ Bundle.ownAtoms own ic cls names, w.before args s' = true := vx_own hat' (vx_isRefq hU'.1) (vx_isRefq hN'.1) hU'.2.word hN'.2.word
  have hown' : s'.vm.findClass own = some m.cls := by rw [hvm]; exact hown
  have hins : (Cond.instantiable cls 6).before args s' = true := h _ (by simp [Bundle.ownAtoms])
  obtain ⟨vm₁, cX, kX, hfX, hkX, -, -, X₁, st1⟩ := Y.newCold hexec (own := own) (C := cls) (index := ik) (n := 6) hown' hk' hins hini'
    (g := F0 m pc ls rest) rfl (by rw [hb]; exact d0) (Nat.le_refl _) (Nat.le_refl _)
  generalize hT1 : (T.setVm vm₁).pushCell { cls := cX, slots := kX.instanceTypes.map defaultValue, vm := .none } = T1 at X₁ st1
  have hcat : (Value.ref T.heap.size).category = 1 := rfl
  have hcellA : T1.heap[T.heap.size]? = some (freshCell cX kX) := by rw [← hT1]; exact State.heap_pushCell_size _ _
  have d3' : decode c.code (pc + 3) = .ok (.dup, 1) := by rw [hb]; exact d3
  have d4' : decode c.code (pc + 4) = .ok (.ldc_w is, 3) := by rw [hb]; exact d4
  have hstr' : vk_R own is text sa s' := vk_R.warm hW0 hstr
  obtain ⟨U, hsteps, hrun, hend, hW, hsame, ce, hce, hO⟩ := X₁.ctorThrowS hexec htr (own := own) (cls := cls) (names := names) (ic := ic) hown' hcls hnames h (fun x hx => nomatch hx) hfX hkX hcellA (by rw [hhp, hT]; exact Nat.le_refl _) (msg := .ref sa) rfl
    (g := { method := m, pc := pc + 7, locals := ls, stack := .ref sa :: .ref T.heap.size :: .ref T.heap.size :: rest, locked := none }) rfl hsize rfl rfl (rest := rest) rfl
    (by rw [hb]; exact d7) (by rw [hb]; exact d10) hout hRframes (by simp only [List.map_cons, List.sum_cons, hcat]; omega) hlocks
  obtain ⟨f1, f2⟩ := vx_frame hsame
  rw [hhp] at f1 f2
  have hWs : s.WarmedH U.vm := State.WarmedH.trans hW0 hW
  have hcl : s.vm.findClass cls = some ce.cls := by
    have h9 := hO.cls
    rw [hvm] at h9
    exact h9
  have hall : s.sameButNew ({ U with vm := s.vm } : State) locs mc ms := by
    subst hA
    obtain ⟨e1, e2⟩ := hsame
    rw [State.setFrames_setFrames] at e1
    have h2 : (T.setVm s.vm).sameButNew ({ U with vm := s.vm } : State) [] (0 + 1) (0 + 6) := ⟨e1, e2⟩
    have h3 := X.same.trans h2
    rw [List.append_nil] at h3
    exact h3.mono hc hs
  refine ⟨U, ?_, .threw T.heap.size, hrun, hend, Or.inr ⟨T.heap.size, rfl, cls, ce, locs, hx U hWs.alike f1 (fun q hq => f2 q hq (fun z hz => nomatch hz)), hce, hO.vm, hcl, hWs, hall, hf⟩⟩
  refine st1 _ ?_
  show Steps p.tables e below (T1.setTop { method := m, pc := pc + 3, locals := ls, stack := .ref T.heap.size :: rest, locked := none }) _
  jvm_step X₁.here [X₁.here.top, hexec, d3', Value.category]
  exact X₁.ldcStringW hexec (own := own) (text := text) (index := is) (a := sa) hown' hstr'.1 hstr'.2
    (g := { method := m, pc := pc + 4, locals := ls, stack := .ref T.heap.size :: .ref T.heap.size :: rest, locked := none }) rfl d4' _ hsteps
end Ends
section Bodies
variable {l : Launch}
theorem vx_ofW {y : MethodName} {ws ws' : List Cond} {rm : Room} {Pc : Array Value → State → Prop} {Qc : Array Value → State → Outcome → State → Prop} {XC : String → State → State → Prop} {mc ms : Nat} {free : Addr → Prop} {cc : ByteArray} {maxL : Nat} {ret : Option FieldType}
    (hy : plainName y.cls = true) (hw : ws = Cond.code y cc maxL ret :: ws')
    (body : ∀ p e s m args below meth c s₁, BodyLoose p l y (headSpec ws rm) cc maxL ret e s m args below meth c s₁ → c.maxLocals = maxL → (∀ x ∈ c.exceptionTable.toList, False) → Pc args s →
      W p l e (headSpec ws rm).room s m args below meth c s.heap [] 0 0 (vx_MQ below Qc XC args s mc ms free) (entryFrame m args maxL)) : vx_Met l y ws rm Pc Qc XC mc ms free := by
  refine MetFree.of_bodyS (code := cc) (maxLocals := maxL) (ret := ret) hy ?_ ?_
  · intro args s m h hn
    obtain ⟨meth, c, h1, h2, h3, h4, h5, h6, -, -⟩ := Cond.code_spec hn (atoms_spec (ws := ws) h _ (by rw [hw]; exact List.mem_cons_self))
    exact ⟨meth, c, h1, h2, h3, h4, h5, h6⟩
  · intro p e s m args below meth c s₁ B hml hP _
    have hh0 : s₁.heap = s.heap := by rw [B.state]; rfl
    have ht : ∀ x ∈ c.exceptionTable.toList, False := by
      obtain ⟨meth9, c9, h1, h2, -, -, -, -, h7, -⟩ := Cond.code_spec B.named (atoms_spec (ws := ws) B.pre _ (by rw [hw]; exact List.mem_cons_self))
      cases Option.some.inj (h1.symm.trans B.method)
      cases Option.some.inj (h2.symm.trans (Stand.of_body B).code)
      intro x hx
      rw [Array.isEmpty_iff.mp h7] at hx
      cases hx
    obtain ⟨t, a1, o, b1, b2, b3⟩ := body p e s m args below meth c s₁ B hml ht hP s₁ hh0 (Stand.of_body B)
    exact ⟨t, o, a1, b1, b2, b3⟩
/-- the table of a body with handlers -/
theorem vx_table {p : Program} {x y : MethodName} {S : Spec} {cc bytes : ByteArray} {maxL maxL' : Nat} {ret ret' : Option FieldType} {e : Env} {s s₁ : State} {m : MethodId} {args : Array Value} {below : List Frame} {meth : Method} {c : Code} {hh : List (Nat × Nat × Nat × Nat)}
    (B : BodyLoose p l y S cc maxL ret e s m args below meth c s₁) (h : (Cond.codeWith y bytes maxL' ret' hh).before args s = true) : c.exceptionTable.toList = tableOf hh := by
  obtain ⟨m9, meth9, c9, hn9, h1, h2, -, -, h6, -⟩ := Cond.codeWith_spec h
  cases Option.some.inj (hn9.symm.trans B.named)
  cases Option.some.inj (h1.symm.trans B.method)
  cases Option.some.inj (h2.symm.trans (Stand.of_body B).code)
  rw [← h6, table_eq]
end Bodies
end VXA
/-! ===== END ===== -/
/-! ===== BEGIN a static call of a method with an exception table ===== -/
section VXS
variable {p : Program} {l : Launch} {e : Env} {R : Room} {s : State} {m : MethodId} {args : Array Value} {below : List Frame} {meth : Method} {c : Code} {T : State} {H : Heap} {locs : List Loc} {cells slots : Nat}
abbrev vx_CSW (R : Room) (s : State) (args : Array Value) (own : String) (index : Nat) (y : MethodName) (bytes : ByteArray) (maxL : Nat) (ret : Option FieldType) (hh : List (Nat × Nat × Nat × Nat)) (ws : List Cond) (rm : Room) (mc ms n : Nat) : Prop :=
  (rm.cells = mc ∧ rm.slots = ms ∧ rm.frames + 1 ≤ R.frames ∧ 8 + (maxL + 11) + rm.locals ≤ R.locals ∧ (∀ w ∈ ws, ∀ (a' : Array Value) (U : State), s.WarmedH U.vm → w.before a' U = true) ∧ Cond.codeWith y bytes maxL ret hh ∈ ws) ∧
  (Cond.codeWith y bytes maxL ret hh).before args s = true ∧ (Cond.initialized y.cls).before args s = true ∧ (y.cls ≠ "java/lang/invoke/MethodHandle" ∧ y.cls ≠ "java/lang/invoke/VarHandle") ∧
  (∀ sig, parseMethodDescriptor y.desc = some sig → n = sig.parameters.length) ∧ (Cond.methodLink own index y).before args s = true ∧ (Cond.static y).before args s = true
theorem vx_cwSW {own : String} {index maxL mc ms : Nat} {y : MethodName} {bytes : ByteArray} {ret : Option FieldType} {hh : List (Nat × Nat × Nat × Nat)} {Ts ws ws' : List Cond} {rm : Room} (n : Nat) (ht : ∀ w ∈ Ts, w.before args s = true) (hT : GoodIn Ts (va_wsS own index y ws)) (hw : ws = Cond.codeWith y bytes maxL ret hh :: ws') (hrc : rm.cells = mc) (hrs : rm.slots = ms)
    (hd : y.cls ≠ "java/lang/invoke/MethodHandle" ∧ y.cls ≠ "java/lang/invoke/VarHandle" ∧ (parseMethodDescriptor y.desc).map (fun d => d.parameters.length) = some n) (hR : rm.frames + 1 ≤ R.frames ∧ 8 + (maxL + 11) + rm.locals ≤ R.locals) :
    vx_CSW R s args own index y bytes maxL ret hh ws rm mc ms n := by
  have ok : ∀ w ∈ va_wsS own index y ws, w.before args s = true := fun w h => ht w (hT w h).1
  have hG : GoodIn Ts ws := fun w h => hT w (by unfold va_wsS; exact List.mem_append_right _ h)
  have hc : Cond.codeWith y bytes maxL ret hh ∈ ws := by rw [hw]; exact List.mem_cons_self
  refine ⟨⟨hrc, hrs, hR.1, hR.2, pay_in ht hG, hc⟩, ht _ (hG _ hc).1, ok _ (by simp [va_wsS]), ⟨hd.1, hd.2.1⟩, fun sig h => ?_, ok _ (by simp [va_wsS]), ok _ (by simp [va_wsS])⟩
  have h2 := hd.2.2
  rw [h] at h2
  exact (Option.some.inj h2).symm
theorem vx_callSW (X : Stand p l e R s m args below meth c T locs cells slots) (hexec : p.tables.exec = Jvm.exec) {own : String} {index : Nat} {y : MethodName} {bytes : ByteArray} {maxL : Nat} {ret : Option FieldType} {hh : List (Nat × Nat × Nat × Nat)}
    (hown : s.vm.findClass own = some m.cls) (hlink : (Cond.methodLink own index y).before args s = true) (hstat : (Cond.static y).before args s = true) (hinit : (Cond.initialized y.cls).before args s = true)
    (hcode : (Cond.codeWith y bytes maxL ret hh).before args s = true) (hy : y.cls ≠ "java/lang/invoke/MethodHandle" ∧ y.cls ≠ "java/lang/invoke/VarHandle")
    {W9 : Nat} {Pre : Pt → Array Value → Prop} {Post : Pt → Array Value → Option Value → Pt → Prop} (hK : Back l R p e below s args y 3 W9 Pre Post)
    {g : JFrame} (hg : g.method = m) (hsize : g.locals.size = c.maxLocals) {argsL rest : List Value} (hlen : ∀ sig, parseMethodDescriptor y.desc = some sig → argsL.length = sig.parameters.length)
    (hstack : g.stack = argsL.reverse ++ rest) (hW : 2 * g.monitorRoom + (rest.map fun v => v.category).sum ≤ W9) (hdg : decode c.code g.pc = .ok (.invokestatic index, 3))
    (hpre : ∀ vm₁, s.WarmedH vm₁ → Pre ⟨T.setVm vm₁, locs, cells, slots⟩ argsL.toArray) :
    ∃ (v : Option Value) (vm₁ : Vm) (B : Pt), s.WarmedH vm₁ ∧ Stand p l e R s m args below meth c B.U B.locs B.cells B.slots ∧ Post ⟨T.setVm vm₁, locs, cells, slots⟩ argsL.toArray v B ∧
      ∀ target, Steps p.tables e below (B.U.setTop { g with pc := g.pc + 3, stack := v.toList ++ rest }) target → Steps p.tables e below (T.setTop g) target := by
  obtain ⟨mk, methM, cM, hnamed, hmethM, -, -, -, -, -, -, hsigM⟩ := Cond.codeWith_spec hcode
  have hstatic : methM.isStatic = true := Cond.static_spec hnamed hmethM hstat
  obtain ⟨kP, hkP, -⟩ := className_of_methodNamed hnamed
  have hinitP : kP.init = .initialized := Cond.initialized_spec (findClass_of_methodNamed hnamed) hkP hinit
  obtain ⟨vm₁, X₁, hstep₁⟩ := X.invokestatic hexec hown hlink hnamed hmethM hstatic hkP hinitP hy (g := g) hg (argsL := argsL) (rest := rest) (hlen _ hsigM) hstack hdg
  obtain ⟨v, B, X', hpost, hsteps⟩ := hK m meth c ⟨T.setVm vm₁, locs, cells, slots⟩ { g with stack := rest } (.invokestatic index) mk argsL.toArray X₁ hg hsize hdg hW (X₁.named hnamed) (hpre vm₁ X₁.warmed)
  exact ⟨v, vm₁, B, X₁.warmed, X', hpost, fun target h => hstep₁ _ fun acts => by rw [doInvoke_state]; exact hsteps.trans h⟩
theorem vx_runSW {y : MethodName} {bytes cc : ByteArray} {maxL nL mc ms n index : Nat} {ret : Option FieldType} {hh : List (Nat × Nat × Nat × Nat)} {ws : List Cond} {rm : Room} {Pc : Array Value → State → Prop} {Qc : Array Value → State → Outcome → State → Prop} {free : Addr → Prop} {Ts : List Cond} {own : String} {As rest : List Value} {g : JFrame}
    (S : CallFix p m c cc nL s args Ts own) (hM : Met l y ws rm Pc Qc mc ms free) (cw : vx_CSW R s args own index y bytes maxL ret hh ws rm mc ms n) (hp : PreS s H Pc As)
    (hg : g.method = m) (hn : As.length = n) (hsize : g.locals.size = nL) (hstack : g.stack = As.reverse ++ rest) (hW : 2 * g.monitorRoom + (rest.map fun v => v.category).sum ≤ 8) (hdg : decode cc g.pc = .ok (.invokestatic index, 3)) (hf : cells + mc ≤ R.cells ∧ slots + ms ≤ R.slots) :
    va_Run p l e R s m args below meth c H locs cells slots mc ms g rest (Qc As.toArray) (free) := by
  obtain ⟨⟨hrc, hrs, hfr, hlo, hws, hcw⟩, hcode, hini, hy, hlen, hl, hstt⟩ := cw
  have hK : Back l R p e below s args y 3 8 (PreOf R mc ms Pc) (PostOf Qc mc ms free) := va_backW (hh := hh) (bytes := bytes) (maxL := maxL) (ret := ret) hM hp.1 hrc hrs hfr hlo hws hcw (fun a' U hW => word_at hW (Or.inl (by first | rfl | simp [Cond.onTables, Cond.keeps, Cond.steady])) hini)
  obtain ⟨hx, hb, hml, ho, -⟩ := S
  intro T hT X
  obtain ⟨v, vm₁, ⟨U', l2, c2, s2⟩, hW₁, X', ⟨g', mk, t, L, e1, e2, hq, h1, hL, h2, h3⟩, st⟩ := vx_callSW X hx (hh := hh) (bytes := bytes) (maxL := maxL) (ret := ret) ho hl hstt hini hcode hy hK hg (hsize.trans hml.symm) (argsL := As) (rest := rest) (fun sig h => hn.trans (hlen sig h)) hstack hW (by rw [hb]; exact hdg)
    (fun vm₁ hW₁ => ⟨hf.1, hf.2, hp.2 (T.setVm vm₁) hT hW₁⟩)
  dsimp only [Pt.U, Pt.locs, Pt.cells, Pt.slots] at X' e1 e2 h1 h2 h3 st
  subst h1; subst h2; subst h3
  exact ⟨v, (T.setVm vm₁).calling g' mk As.toArray, t, U', L, hT, X', hL, e1, e2, hq, st⟩
/-- not caught here, past rows that name other classes: it goes on to the caller -/
theorem vx_outP {p : Program} {l : Launch} {e : Env} {R : Room} {s : State} {m : MethodId} {args : Array Value} {below : List Frame} {meth : Method} {c : Code} {H : Heap} {locs : List Loc} {cells slots : Nat} {free : Addr → Prop} {ls : Array Slot} {rest : List Value} {Qc : Array Value → State → Outcome → State → Prop} {XC : String → State → State → Prop}
    {pc : Nat} {own E : String} {ce : Cell} {q : Addr} {mc ms : Nat} (hown : s.vm.findClass own = some m.cls) (hlocks : meth.locks = false)
    (hpass : ∀ z ∈ c.exceptionTable.toList, covers z pc = false ∨ (z.catchType ≠ 0 ∧ ∃ nm : String, (Cond.classLink own z.catchType nm).before args s = true ∧ va_Nc E nm s)) (hcell : H[q]? = some ce) (hv : ce.vm = .none) (hcl : s.vm.findClass E = some ce.cls)
    (hx : ∀ t : State, t.heap = H → s.vm.Alike t.vm → XC E s t) (hf : ∀ z ∈ locs, free z.base) (hc : cells ≤ mc) (hs : slots ≤ ms) :
    vx_W p l e R s m args below meth c H locs cells slots (vx_MQ below Qc XC args s mc ms free) (F0 m pc ls rest) q := by
  intro T hT X
  have hpl : e.platform.magicAccessors = ({} : Platform).magicAccessors := by rw [X.admits.platform]
  obtain ⟨vm', hW', X', st⟩ := X.outThrough hlocks q (g := F0 m pc ls rest) rfl rfl rfl (cell := ce) (by rw [hT]; exact hcell) (by rw [hv]; rfl)
    (by obtain ⟨k9, h9, -⟩ := Vm.findClass_spec hcl; exact ⟨k9, h9⟩) (fun z hz => by
      rcases hpass z hz with h | ⟨hz0, nm, hl1, hn1⟩
      · exact Or.inl h
      · obtain ⟨c6, hc6, hcl6⟩ := Cond.classLink_spec hown hl1 e.platform hpl
        obtain ⟨a8, b8, h1, h2, h3⟩ := hn1
        cases Option.some.inj (h1.symm.trans hcl)
        cases Option.some.inj (h2.symm.trans hc6)
        exact Or.inr ⟨hz0, _, hcl6, h3⟩)
  obtain ⟨g₀, hfr⟩ := X'.frames_eq
  have hcell9 : ((T.setVm vm').setFrames (.throwing q :: below)).heap[q]? = some ce := by
    show T.heap[q]? = some ce
    rw [hT]; exact hcell
  have hend : Ended ((T.setVm vm').setFrames (.throwing q :: below)) below (.threw q) := State.frames_setFrames _ (State.cur_lt_of_frames hfr)
  refine ⟨(T.setVm vm').setFrames (.throwing q :: below), ?_, .threw q, X'.here.running, hend, Or.inr ⟨q, rfl, E, ce, locs, hx _ hT (X'.ends _).1.alike, hcell9, hv, hcl, (X'.ends _).1, (X'.ends _).2.mono hc hs, hf⟩⟩
  rw [X.pushThrowing_eq]
  exact st
/-- a thing of a world lies in the heap -/
theorem vx_lt {D : va_G} {cl : List vw_C} {ws : va_W} {H1 : Heap} (h : va_P D cl ws H1) {k : Nat} {q : Nat × va_E} (hk : ws[k]? = some q) : q.1 < H1.size := (h k q hk).lt
end VXS
/-! ===== END ===== -/
/-! ===== BEGIN methods with a table of their own: called by a name, returning or throwing ===== -/
section VXH
/-! vx_backW, vx_callVX, vx_callSX, vx_callVW, vx_runVW, vx_runVX, vx_runSX, vx_ofWH follow the same proofs as their sisters above (Free/Laws.lean, Shelf42/LK1.lean); vx_outP calls Shelf42/NT130.lean (outThrough). -/
section
variable {l : Launch} {R : Room} {p : Program} {e : Env} {below : List Frame} {s : State} {sargs : Array Value} {y : MethodName} {len W9 : Nat}
theorem vx_backW {ws : List Cond} {rm : Room} {Pc : Array Value → State → Prop} {Qc : Array Value → State → Outcome → State → Prop} {XC : String → State → State → Prop} {mc ms : Nat} {free : Addr → Prop} {bytes : ByteArray} {maxL : Nat} {ret : Option FieldType} {hh : List (Nat × Nat × Nat × Nat)}
    (hM : vx_Met l y ws rm Pc Qc XC mc ms free) (hblind : FrameBlind Pc) (hrc : rm.cells = mc) (hrs : rm.slots = ms)
    (hframes : rm.frames + 1 ≤ R.frames) (hlocals : W9 + (maxL + 11) + rm.locals ≤ R.locals)
    (hws : ∀ w ∈ ws, ∀ a' U, s.WarmedH U.vm → w.before a' U = true) (hcode : Cond.codeWith y bytes maxL ret hh ∈ ws) (hinit : ∀ a' U, s.WarmedH U.vm → (Cond.initialized y.cls).before a' U = true) :
    vx_Back l R p e below s sargs y len W9 (PreOf R mc ms Pc) (PostOf Qc mc ms free) (vx_Post XC mc ms free) := by
  intro m meth c A g ig mk a X hg hsize hdg hW hn hp
  have h1 : (headSpec ws rm).pre.before a A.U = true := atoms_intro fun w hw => hws w hw _ _ X.warmed
  have h2 : (Cond.codeWith y bytes maxL ret hh).before a A.U = true := hws _ hcode _ _ X.warmed
  have h3 : (Cond.initialized y.cls).before a A.U = true := hinit _ _ X.warmed
  have h4 : A.cells + (headSpec ws rm).room.cells ≤ R.cells := by rw [show (headSpec ws rm).room.cells = mc from hrc]; exact hp.1
  have h5 : A.slots + (headSpec ws rm).room.slots ≤ R.slots := by rw [show (headSpec ws rm).room.slots = ms from hrs]; exact hp.2.1
  have hPc : Pc a (A.U.calling g mk a) := hblind _ _ _ _ hp.2.2
  obtain ⟨U, Ls, c0, s0⟩ := A
  dsimp only [Pt.U, Pt.locs, Pt.cells, Pt.slots] at h1 h2 h3 h4 h5 X hn hPc ⊢
  obtain ⟨m9, methY, cY, hn9, hmY, hcY, -, hlY, -⟩ := Cond.codeWith_spec h2
  cases Option.some.inj (hn9.symm.trans hn)
  obtain ⟨kY, hkY, -⟩ := className_of_methodNamed hn
  have hinitY : kY.init = .initialized := Cond.initialized_spec (findClass_of_methodNamed hn) hkY h3
  have h : At U g.method c below := by rw [hg]; exact X.here
  have hlocals9 : W9 + (maxL + 11) + (headSpec ws rm).room.locals ≤ R.locals := hlocals
  have happ : (headSpec ws rm).appliesLoose y e.platform (U.calling g mk a) = true :=
    Spec.appliesLoose_calling (g := g) h hdg hn hkY hinitY
      (X.room_calling (g := g) (R' := (headSpec ws rm).room) hsize hmY hcY hframes (by rw [hlY]; omega) h4 h5) h1
  obtain ⟨mid, hmid⟩ := h.above
  have hfr : (U.setTop g).frames = (.java g :: mid) ++ below := by rw [State.frames_setTop' g h.top, hmid]; rfl
  obtain ⟨o, s₂, hsteps, -, hend, hq⟩ := Steps.callFree hM p X.admits X.cas X.clock (acts := []) hfr happ hPc trivial
  have hq' : vx_Q Qc XC mc ms free a (U.calling g mk a) o s₂ := hq
  rw [State.frames_setTop' g h.top] at hend
  obtain ⟨g₀, hg0⟩ := Option.isSome_iff_exists.mp h.top
  obtain ⟨r, hr⟩ := State.topJava?_eq_some.mp hg0
  have hr' : (({ U with heap := s₂.heap, slotsUsed := s₂.slotsUsed } : State).setVm s₂.vm).frames = .java g₀ :: r := hr
  rcases hq' with ⟨hqc, L, hfe, hL⟩ | ⟨q, rfl, E, ce, L, hx, hce, hcv, hcl, hW₂, hsm, hL⟩
  · obtain ⟨⟨v, rfl⟩, hW₂, e2, q2, q3, q4, q5, q6⟩ := id hfe
    have e3 : s₂ = ({ (U.calling g mk a).setFrames s₂.frames with heap := s₂.heap, slotsUsed := s₂.slotsUsed } : State).setVm s₂.vm := by
      have : s₂ = ({ s₂ with vm := (U.calling g mk a).vm } : State).setVm s₂.vm := rfl
      rw [e2] at this
      exact this
    obtain ⟨c₂, i₂, len₂, hc₂, hd₂, hf₂⟩ := hend
    have hW' : U.WarmedH s₂.vm := hW₂
    have hcc : c₂ = c := by
      have h1 : s₂.code? g.method = U.code? g.method := by
        rw [State.code?_eq, State.code?_eq, hW'.alike.method?]
      exact Option.some.inj (hc₂.symm.trans (h1.trans h.code))
    subst hcc
    have hlen : len₂ = len := by rw [hdg] at hd₂; cases hd₂; rfl
    subst hlen
    have hs₂ : s₂ = (({ U with heap := s₂.heap, slotsUsed := s₂.slotsUsed } : State).setVm s₂.vm).setTop { g with pc := g.pc + len₂, stack := v.toList ++ g.stack } := by
      refine e3.trans ?_
      rw [hf₂, State.calling_eq h.top, State.setFrames_setFrames, State.setTop_of_frames _ hr', hr]
      rfl
    have hsame : U.sameButNew ({ U with heap := s₂.heap, slotsUsed := s₂.slotsUsed } : State) L mc ms := by
      refine ⟨?_, q2, q3, q4, q5, q6⟩
      obtain ⟨t, ht, -⟩ := State.frames_cons hr
      show ({ U with heap := s₂.heap, slotsUsed := s₂.slotsUsed } : State) = { U.setFrames U.frames with heap := s₂.heap, slotsUsed := s₂.slotsUsed }
      rw [State.setFrames_self ht]
    subst hg
    refine Or.inl ⟨v, ⟨(({ U with heap := s₂.heap, slotsUsed := s₂.slotsUsed } : State).setVm s₂.vm), Ls ++ L, c0 + mc, s0 + ms⟩,
      ⟨X.admits, X.cas, X.clock, X.frames, X.room, X.hears, X.method, X.code, (X.here.setHeapUsed s₂.heap s₂.slotsUsed).setVm hW'.alike, X.tail, State.WarmedH.trans X.warmed hW', X.limits, X.bytes, X.same.trans (hsame.setVm s.vm)⟩,
      ⟨g, mk, s₂, L, rfl, rfl, hqc, rfl, hL, rfl, rfl⟩, ?_⟩
    show Steps p.tables e below _ ((({ U with heap := s₂.heap, slotsUsed := s₂.slotsUsed } : State).setVm s₂.vm).setTop { g with pc := g.pc + len₂, stack := v.toList ++ g.stack })
    rw [← hs₂]
    exact hsteps
  · obtain ⟨e2, q2, q3, q4, q5, q6⟩ := id hsm
    have e3 : s₂ = ({ (U.calling g mk a).setFrames s₂.frames with heap := s₂.heap, slotsUsed := s₂.slotsUsed } : State).setVm s₂.vm := by
      have : s₂ = ({ s₂ with vm := (U.calling g mk a).vm } : State).setVm s₂.vm := rfl
      rw [e2] at this
      exact this
    have hf₂ : s₂.frames = .throwing q :: .java g :: U.frames.tail := hend
    have hW' : U.WarmedH s₂.vm := hW₂
    have hs₂ : s₂ = ((({ U with heap := s₂.heap, slotsUsed := s₂.slotsUsed } : State).setVm s₂.vm).setTop g).pushFrame (.throwing q) := by
      refine e3.trans ?_
      rw [hf₂, State.calling_eq h.top, State.setFrames_setFrames, State.pushFrame, State.frames_setTop _ hr', State.setTop_of_frames _ hr', State.setFrames_setFrames, hr]
      rfl
    have hsame : U.sameButNew ({ U with heap := s₂.heap, slotsUsed := s₂.slotsUsed } : State) L mc ms := by
      refine ⟨?_, q2, q3, q4, q5, q6⟩
      obtain ⟨t, ht, -⟩ := State.frames_cons hr
      show ({ U with heap := s₂.heap, slotsUsed := s₂.slotsUsed } : State) = { U.setFrames U.frames with heap := s₂.heap, slotsUsed := s₂.slotsUsed }
      rw [State.setFrames_self ht]
    subst hg
    refine Or.inr ⟨q, ⟨(({ U with heap := s₂.heap, slotsUsed := s₂.slotsUsed } : State).setVm s₂.vm), Ls ++ L, c0 + mc, s0 + ms⟩,
      ⟨X.admits, X.cas, X.clock, X.frames, X.room, X.hears, X.method, X.code, (X.here.setHeapUsed s₂.heap s₂.slotsUsed).setVm hW'.alike, X.tail, State.WarmedH.trans X.warmed hW', X.limits, X.bytes, X.same.trans (hsame.setVm s.vm)⟩,
      ⟨g, mk, s₂, L, E, ce, rfl, rfl, hx, hce, hcv, hcl, rfl, hL, rfl, rfl⟩, ?_⟩
    show Steps p.tables e below _ (((({ U with heap := s₂.heap, slotsUsed := s₂.slotsUsed } : State).setVm s₂.vm).setTop g).pushFrame (.throwing q))
    rw [← hs₂]
    exact hsteps
end
variable {p : Program} {l : Launch} {e : Env} {R : Room} {s : State} {m : MethodId} {args : Array Value} {below : List Frame} {meth : Method} {c : Code} {T : State} {H : Heap} {locs : List Loc} {cells slots : Nat}
theorem vx_callVX (X : Stand p l e R s m args below meth c T locs cells slots) (hexec : p.tables.exec = Jvm.exec) {own C : String} {index : Nat} {y : MethodName} {bytes : ByteArray} {maxL : Nat} {ret : Option FieldType} {hh : List (Nat × Nat × Nat × Nat)}
    (hown : s.vm.findClass own = some m.cls) (hlink : (Cond.methodLink own index y).before args s = true) (hinst : (Cond.instanceMethod y).before args s = true) (hsel : (Cond.selects C y y).before args s = true)
    (hcode : (Cond.codeWith y bytes maxL ret hh).before args s = true) (hy : y.cls ≠ "java/lang/invoke/MethodHandle" ∧ y.cls ≠ "java/lang/invoke/VarHandle")
    {W9 : Nat} {Pre : Pt → Array Value → Prop} {Post : Pt → Array Value → Option Value → Pt → Prop} {PostX : Pt → Array Value → Addr → Pt → Prop} (hK : vx_Back l R p e below s args y 3 W9 Pre Post PostX)
    {b : Addr} {cellB : Cell} (hcell : T.heap[b]? = some cellB) (hobj : cellB.vm.isStatics = false) (hcls : s.vm.findClass C = some cellB.cls)
    {g : JFrame} (hg : g.method = m) (hsize : g.locals.size = c.maxLocals) {argsL rest : List Value} (hlen : ∀ sig, parseMethodDescriptor y.desc = some sig → argsL.length = sig.parameters.length)
    (hstack : g.stack = argsL.reverse ++ .ref b :: rest) (hW : 2 * g.monitorRoom + (rest.map fun v => v.category).sum ≤ W9) (hdg : decode c.code g.pc = .ok (.invokevirtual index, 3))
    (hpre : ∀ vm₁, s.WarmedH vm₁ → Pre ⟨T.setVm vm₁, locs, cells, slots⟩ (Value.ref b :: argsL).toArray) :
    (∃ (v : Option Value) (vm₁ : Vm) (B : Pt), s.WarmedH vm₁ ∧ Stand p l e R s m args below meth c B.U B.locs B.cells B.slots ∧ Post ⟨T.setVm vm₁, locs, cells, slots⟩ (Value.ref b :: argsL).toArray v B ∧
      ∀ target, Steps p.tables e below (B.U.setTop { g with pc := g.pc + 3, stack := v.toList ++ rest }) target → Steps p.tables e below (T.setTop g) target) ∨
    (∃ (q : Addr) (vm₁ : Vm) (B : Pt), s.WarmedH vm₁ ∧ Stand p l e R s m args below meth c B.U B.locs B.cells B.slots ∧ PostX ⟨T.setVm vm₁, locs, cells, slots⟩ (Value.ref b :: argsL).toArray q B ∧
      Steps p.tables e below (T.setTop g) ((B.U.setTop { g with stack := rest }).pushFrame (.throwing q))) := by
  obtain ⟨mk, methM, hnamed, hmethM, hstM, habM⟩ := Cond.instanceMethod_spec hinst
  obtain ⟨m8, methM', cM, hn8, hmethM', -, -, -, -, -, -, hsigM⟩ := Cond.codeWith_spec hcode
  cases Option.some.inj (hn8.symm.trans hnamed)
  cases hmethM.symm.trans hmethM'
  obtain ⟨c2, r2, m2, q1, q2, q3, q4, kP, hkP, hkPi⟩ := Cond.selects_spec hsel
  cases hcls.symm.trans q1
  cases (State.methodFound?_of_named hnamed hy).symm.trans q2
  cases hnamed.symm.trans q3
  have hselP : selectMethod e.platform s.vm cellB.cls mk = .method mk := by rw [Launch.admits_selectMethod X.admits]; exact q4
  obtain ⟨vm₁, X₁, hstep₁⟩ := X.invokevirtual hexec hown hlink hnamed hmethM hstM hkP hkPi hy (a := b) (cell := cellB) hcell
    (fun z h => by rw [h] at hobj; cases hobj) hselP hmethM habM hkP hkPi (g := g) hg (argsL := argsL) (rest := rest) (hlen _ hsigM) hstack hdg
  rcases hK m meth c ⟨T.setVm vm₁, locs, cells, slots⟩ { g with stack := rest } (.invokevirtual index) mk (Value.ref b :: argsL).toArray X₁ hg hsize hdg hW (X₁.named hnamed) (hpre vm₁ X₁.warmed) with ⟨v, B, X', hpost, hsteps⟩ | ⟨q, B, X', hpost, hsteps⟩
  · exact Or.inl ⟨v, vm₁, B, X₁.warmed, X', hpost, fun target h => hstep₁ _ fun acts => by rw [doInvoke_state]; exact hsteps.trans h⟩
  · exact Or.inr ⟨q, vm₁, B, X₁.warmed, X', hpost, hstep₁ _ fun acts => by rw [doInvoke_state]; exact hsteps⟩
theorem vx_callSX (X : Stand p l e R s m args below meth c T locs cells slots) (hexec : p.tables.exec = Jvm.exec) {own : String} {index : Nat} {y : MethodName} {bytes : ByteArray} {maxL : Nat} {ret : Option FieldType} {hh : List (Nat × Nat × Nat × Nat)}
    (hown : s.vm.findClass own = some m.cls) (hlink : (Cond.methodLink own index y).before args s = true) (hstat : (Cond.static y).before args s = true) (hinit : (Cond.initialized y.cls).before args s = true)
    (hcode : (Cond.codeWith y bytes maxL ret hh).before args s = true) (hy : y.cls ≠ "java/lang/invoke/MethodHandle" ∧ y.cls ≠ "java/lang/invoke/VarHandle")
    {W9 : Nat} {Pre : Pt → Array Value → Prop} {Post : Pt → Array Value → Option Value → Pt → Prop} {PostX : Pt → Array Value → Addr → Pt → Prop} (hK : vx_Back l R p e below s args y 3 W9 Pre Post PostX)
    {g : JFrame} (hg : g.method = m) (hsize : g.locals.size = c.maxLocals) {argsL rest : List Value} (hlen : ∀ sig, parseMethodDescriptor y.desc = some sig → argsL.length = sig.parameters.length)
    (hstack : g.stack = argsL.reverse ++ rest) (hW : 2 * g.monitorRoom + (rest.map fun v => v.category).sum ≤ W9) (hdg : decode c.code g.pc = .ok (.invokestatic index, 3))
    (hpre : ∀ vm₁, s.WarmedH vm₁ → Pre ⟨T.setVm vm₁, locs, cells, slots⟩ argsL.toArray) :
    (∃ (v : Option Value) (vm₁ : Vm) (B : Pt), s.WarmedH vm₁ ∧ Stand p l e R s m args below meth c B.U B.locs B.cells B.slots ∧ Post ⟨T.setVm vm₁, locs, cells, slots⟩ argsL.toArray v B ∧
      ∀ target, Steps p.tables e below (B.U.setTop { g with pc := g.pc + 3, stack := v.toList ++ rest }) target → Steps p.tables e below (T.setTop g) target) ∨
    (∃ (q : Addr) (vm₁ : Vm) (B : Pt), s.WarmedH vm₁ ∧ Stand p l e R s m args below meth c B.U B.locs B.cells B.slots ∧ PostX ⟨T.setVm vm₁, locs, cells, slots⟩ argsL.toArray q B ∧
      Steps p.tables e below (T.setTop g) ((B.U.setTop { g with stack := rest }).pushFrame (.throwing q))) := by
  obtain ⟨mk, methM, cM, hnamed, hmethM, -, -, -, -, -, -, hsigM⟩ := Cond.codeWith_spec hcode
  have hstatic : methM.isStatic = true := Cond.static_spec hnamed hmethM hstat
  obtain ⟨kP, hkP, -⟩ := className_of_methodNamed hnamed
  have hinitP : kP.init = .initialized := Cond.initialized_spec (findClass_of_methodNamed hnamed) hkP hinit
  obtain ⟨vm₁, X₁, hstep₁⟩ := X.invokestatic hexec hown hlink hnamed hmethM hstatic hkP hinitP hy (g := g) hg (argsL := argsL) (rest := rest) (hlen _ hsigM) hstack hdg
  rcases hK m meth c ⟨T.setVm vm₁, locs, cells, slots⟩ { g with stack := rest } (.invokestatic index) mk argsL.toArray X₁ hg hsize hdg hW (X₁.named hnamed) (hpre vm₁ X₁.warmed) with ⟨v, B, X', hpost, hsteps⟩ | ⟨q, B, X', hpost, hsteps⟩
  · exact Or.inl ⟨v, vm₁, B, X₁.warmed, X', hpost, fun target h => hstep₁ _ fun acts => by rw [doInvoke_state]; exact hsteps.trans h⟩
  · exact Or.inr ⟨q, vm₁, B, X₁.warmed, X', hpost, hstep₁ _ fun acts => by rw [doInvoke_state]; exact hsteps⟩
theorem vx_callVW (X : Stand p l e R s m args below meth c T locs cells slots) (hexec : p.tables.exec = Jvm.exec) {own C : String} {index : Nat} {y : MethodName} {bytes : ByteArray} {maxL : Nat} {ret : Option FieldType} {hh : List (Nat × Nat × Nat × Nat)}
    (hown : s.vm.findClass own = some m.cls) (hlink : (Cond.methodLink own index y).before args s = true) (hinst : (Cond.instanceMethod y).before args s = true) (hsel : (Cond.selects C y y).before args s = true)
    (hcode : (Cond.codeWith y bytes maxL ret hh).before args s = true) (hy : y.cls ≠ "java/lang/invoke/MethodHandle" ∧ y.cls ≠ "java/lang/invoke/VarHandle")
    {W9 : Nat} {Pre : Pt → Array Value → Prop} {Post : Pt → Array Value → Option Value → Pt → Prop} (hK : Back l R p e below s args y 3 W9 Pre Post)
    {b : Addr} {cellB : Cell} (hcell : T.heap[b]? = some cellB) (hobj : cellB.vm.isStatics = false) (hcls : s.vm.findClass C = some cellB.cls)
    {g : JFrame} (hg : g.method = m) (hsize : g.locals.size = c.maxLocals) {argsL rest : List Value} (hlen : ∀ sig, parseMethodDescriptor y.desc = some sig → argsL.length = sig.parameters.length)
    (hstack : g.stack = argsL.reverse ++ .ref b :: rest) (hW : 2 * g.monitorRoom + (rest.map fun v => v.category).sum ≤ W9) (hdg : decode c.code g.pc = .ok (.invokevirtual index, 3))
    (hpre : ∀ vm₁, s.WarmedH vm₁ → Pre ⟨T.setVm vm₁, locs, cells, slots⟩ (Value.ref b :: argsL).toArray) :
    ∃ (v : Option Value) (vm₁ : Vm) (B : Pt), s.WarmedH vm₁ ∧ Stand p l e R s m args below meth c B.U B.locs B.cells B.slots ∧ Post ⟨T.setVm vm₁, locs, cells, slots⟩ (Value.ref b :: argsL).toArray v B ∧
      ∀ target, Steps p.tables e below (B.U.setTop { g with pc := g.pc + 3, stack := v.toList ++ rest }) target → Steps p.tables e below (T.setTop g) target := by
  obtain ⟨mk, methM, hnamed, hmethM, hstM, habM⟩ := Cond.instanceMethod_spec hinst
  obtain ⟨m8, methM', cM, hn8, hmethM', -, -, -, -, -, -, hsigM⟩ := Cond.codeWith_spec hcode
  cases Option.some.inj (hn8.symm.trans hnamed)
  cases hmethM.symm.trans hmethM'
  obtain ⟨c2, r2, m2, q1, q2, q3, q4, kP, hkP, hkPi⟩ := Cond.selects_spec hsel
  cases hcls.symm.trans q1
  cases (State.methodFound?_of_named hnamed hy).symm.trans q2
  cases hnamed.symm.trans q3
  have hselP : selectMethod e.platform s.vm cellB.cls mk = .method mk := by rw [Launch.admits_selectMethod X.admits]; exact q4
  obtain ⟨vm₁, X₁, hstep₁⟩ := X.invokevirtual hexec hown hlink hnamed hmethM hstM hkP hkPi hy (a := b) (cell := cellB) hcell
    (fun z h => by rw [h] at hobj; cases hobj) hselP hmethM habM hkP hkPi (g := g) hg (argsL := argsL) (rest := rest) (hlen _ hsigM) hstack hdg
  obtain ⟨v, B, X', hpost, hsteps⟩ := hK m meth c ⟨T.setVm vm₁, locs, cells, slots⟩ { g with stack := rest } (.invokevirtual index) mk (Value.ref b :: argsL).toArray X₁ hg hsize hdg hW (X₁.named hnamed) (hpre vm₁ X₁.warmed)
  exact ⟨v, vm₁, B, X₁.warmed, X', hpost, fun target h => hstep₁ _ fun acts => by rw [doInvoke_state]; exact hsteps.trans h⟩
abbrev vx_CVW (R : Room) (s : State) (args : Array Value) (own C : String) (index : Nat) (y : MethodName) (bytes : ByteArray) (maxL : Nat) (ret : Option FieldType) (hh : List (Nat × Nat × Nat × Nat)) (ws : List Cond) (rm : Room) (mc ms n : Nat) : Prop :=
  (rm.cells = mc ∧ rm.slots = ms ∧ rm.frames + 1 ≤ R.frames ∧ 8 + (maxL + 11) + rm.locals ≤ R.locals ∧ (∀ w ∈ ws, ∀ (a' : Array Value) (U : State), s.WarmedH U.vm → w.before a' U = true) ∧ Cond.codeWith y bytes maxL ret hh ∈ ws) ∧
  (Cond.codeWith y bytes maxL ret hh).before args s = true ∧ (Cond.initialized y.cls).before args s = true ∧ (y.cls ≠ "java/lang/invoke/MethodHandle" ∧ y.cls ≠ "java/lang/invoke/VarHandle") ∧
  (∀ sig, parseMethodDescriptor y.desc = some sig → n = sig.parameters.length) ∧ (Cond.methodLink own index y).before args s = true ∧ (Cond.instanceMethod y).before args s = true ∧ (Cond.selects C y y).before args s = true
theorem vx_cwVW {own C : String} {index maxL mc ms : Nat} {y : MethodName} {bytes : ByteArray} {ret : Option FieldType} {hh : List (Nat × Nat × Nat × Nat)} {Ts ws ws' : List Cond} {rm : Room} (n : Nat) (ht : ∀ w ∈ Ts, w.before args s = true) (hT : GoodIn Ts (wsV own index C y ws)) (hw : ws = Cond.codeWith y bytes maxL ret hh :: ws') (hrc : rm.cells = mc) (hrs : rm.slots = ms)
    (hd : y.cls = C ∧ y.cls ≠ "java/lang/invoke/MethodHandle" ∧ y.cls ≠ "java/lang/invoke/VarHandle" ∧ (parseMethodDescriptor y.desc).map (fun d => d.parameters.length) = some n) (hR : rm.frames + 1 ≤ R.frames ∧ 8 + (maxL + 11) + rm.locals ≤ R.locals) :
    vx_CVW R s args own C index y bytes maxL ret hh ws rm mc ms n := by
  obtain ⟨hC, hd⟩ := hd
  subst hC
  have ok : ∀ w ∈ wsV own index y.cls y ws, w.before args s = true := fun w h => ht w (hT w h).1
  have hG : GoodIn Ts ws := fun w h => hT w (by unfold wsV; exact List.mem_append_right _ h)
  have hc : Cond.codeWith y bytes maxL ret hh ∈ ws := by rw [hw]; exact List.mem_cons_self
  refine ⟨⟨hrc, hrs, hR.1, hR.2, pay_in ht hG, hc⟩, ht _ (hG _ hc).1, ok _ (by simp [wsV]), ⟨hd.1, hd.2.1⟩, fun sig h => ?_, ok _ (by simp [wsV]), ok _ (by simp [wsV]), ok _ (by simp [wsV])⟩
  have h2 := hd.2.2
  rw [h] at h2
  exact (Option.some.inj h2).symm
theorem vx_runVW {y : MethodName} {bytes cc : ByteArray} {maxL nL mc ms n index : Nat} {ret : Option FieldType} {hh : List (Nat × Nat × Nat × Nat)} {ws : List Cond} {rm : Room} {Pc : Array Value → State → Prop} {Qc : Array Value → State → Outcome → State → Prop} {free : Addr → Prop} {Ts : List Cond} {own C : String} {b : Addr} {As rest : List Value} {g : JFrame}
    (S : CallFix p m c cc nL s args Ts own) (hM : Met l y ws rm Pc Qc mc ms free) (cw : vx_CVW R s args own C index y bytes maxL ret hh ws rm mc ms n) (hp : PreV s H C b Pc As)
    (hg : g.method = m) (hn : As.length = n) (hsize : g.locals.size = nL) (hstack : g.stack = As.reverse ++ .ref b :: rest) (hW : 2 * g.monitorRoom + (rest.map fun v => v.category).sum ≤ 8) (hdg : decode cc g.pc = .ok (.invokevirtual index, 3)) (hf : cells + mc ≤ R.cells ∧ slots + ms ≤ R.slots) :
    va_Run p l e R s m args below meth c H locs cells slots mc ms g rest (Qc (Value.ref b :: As).toArray) free := by
  obtain ⟨⟨hrc, hrs, hfr, hlo, hws, hcw⟩, hcode, hini, hy, hlen, hl, hin, hse⟩ := cw
  have hK : Back l R p e below s args y 3 8 (PreOf R mc ms Pc) (PostOf Qc mc ms free) := va_backW (hh := hh) (bytes := bytes) (maxL := maxL) (ret := ret) hM hp.1 hrc hrs hfr hlo hws hcw (fun a' U hW => word_at hW (Or.inl (by first | rfl | simp [Cond.onTables, Cond.keeps, Cond.steady])) hini)
  obtain ⟨hx, hb, hml, ho, -⟩ := S
  obtain ⟨-, ⟨cellB, hcB, hoB, hclB⟩, hPc⟩ := hp
  intro T hT X
  obtain ⟨v, vm₁, ⟨U', l2, c2, s2⟩, hW₁, X', ⟨g', mk, t, L, e1, e2, hq, h1, hL, h2, h3⟩, st⟩ := vx_callVW X hx (C := C) (hh := hh) (bytes := bytes) (maxL := maxL) (ret := ret) ho hl hin hse hcode hy hK (by rw [hT]; exact hcB) hoB hclB hg (hsize.trans hml.symm) (argsL := As) (rest := rest) (fun sig h => hn.trans (hlen sig h)) hstack hW (by rw [hb]; exact hdg)
    (fun vm₁ hW₁ => ⟨hf.1, hf.2, hPc (T.setVm vm₁) hT hW₁⟩)
  dsimp only [Pt.U, Pt.locs, Pt.cells, Pt.slots] at X' e1 e2 h1 h2 h3 st
  subst h1; subst h2; subst h3
  exact ⟨v, (T.setVm vm₁).calling g' mk (Value.ref b :: As).toArray, t, U', L, hT, X', hL, e1, e2, hq, st⟩
section
variable {y : MethodName} {bytes cc : ByteArray} {maxL nL mc ms n index : Nat} {ret : Option FieldType} {ws : List Cond} {rm : Room} {Pc : Array Value → State → Prop} {Qc : Array Value → State → Outcome → State → Prop} {XC : String → State → State → Prop} {free : Addr → Prop} {Ts : List Cond} {own C : String} {b : Addr} {As rest : List Value} {g : JFrame}
theorem vx_runVX {hh : List (Nat × Nat × Nat × Nat)} (S : CallFix p m c cc nL s args Ts own) (hM : vx_Met l y ws rm Pc Qc XC mc ms free) (cw : vx_CVW R s args own C index y bytes maxL ret hh ws rm mc ms n) (hp : PreV s H C b Pc As)
    (hg : g.method = m) (hn : As.length = n) (hsize : g.locals.size = nL) (hstack : g.stack = As.reverse ++ .ref b :: rest) (hW : 2 * g.monitorRoom + (rest.map fun v => v.category).sum ≤ 8) (hdg : decode cc g.pc = .ok (.invokevirtual index, 3)) (hf : cells + mc ≤ R.cells ∧ slots + ms ≤ R.slots) :
    vx_Run p l e R s m args below meth c H locs cells slots mc ms g rest (Qc (Value.ref b :: As).toArray) XC free := by
  obtain ⟨⟨hrc, hrs, hfr, hlo, hws, hcw⟩, hcode, hini, hy, hlen, hl, hin, hse⟩ := cw
  have hK : vx_Back l R p e below s args y 3 8 (PreOf R mc ms Pc) (PostOf Qc mc ms free) (vx_Post XC mc ms free) := vx_backW (hh := hh) (bytes := bytes) (maxL := maxL) (ret := ret) hM hp.1 hrc hrs hfr hlo hws hcw (fun a' U hW => word_at hW (Or.inl (by first | rfl | simp [Cond.onTables, Cond.keeps, Cond.steady])) hini)
  obtain ⟨hx, hb, hml, ho, -⟩ := S
  obtain ⟨-, ⟨cellB, hcB, hoB, hclB⟩, hPc⟩ := hp
  intro T hT X
  rcases vx_callVX X hx (C := C) (hh := hh) (bytes := bytes) (maxL := maxL) (ret := ret) ho hl hin hse hcode hy hK (by rw [hT]; exact hcB) hoB hclB hg (hsize.trans hml.symm) (argsL := As) (rest := rest) (fun sig h => hn.trans (hlen sig h)) hstack hW (by rw [hb]; exact hdg)
    (fun vm₁ hW₁ => ⟨hf.1, hf.2, hPc (T.setVm vm₁) hT hW₁⟩) with ⟨v, vm₁, ⟨U', l2, c2, s2⟩, hW₁, X', ⟨g', mk, t, L, e1, e2, hq, h1, hL, h2, h3⟩, st⟩ | ⟨q, vm₁, ⟨U', l2, c2, s2⟩, hW₁, X', ⟨g', mk, t, L, E, ce, e1, e2, hq, hce, hcv, hcl, h1, hL, h2, h3⟩, st⟩
  · dsimp only [Pt.U, Pt.locs, Pt.cells, Pt.slots] at X' e1 e2 h1 h2 h3 st
    subst h1; subst h2; subst h3
    exact Or.inl ⟨v, (T.setVm vm₁).calling g' mk (Value.ref b :: As).toArray, t, U', L, hT, X', hL, e1, e2, hq, st⟩
  · dsimp only [Pt.U, Pt.locs, Pt.cells, Pt.slots] at X' e1 e2 h1 h2 h3 st hcl
    subst h1; subst h2; subst h3
    exact Or.inr ⟨q, (T.setVm vm₁).calling g' mk (Value.ref b :: As).toArray, t, U', L, E, ce, hT, X', hL, e1, e2, hq, hce, hcv, vx_cls hW₁ hcl, st⟩
theorem vx_runSX {hh : List (Nat × Nat × Nat × Nat)} (S : CallFix p m c cc nL s args Ts own) (hM : vx_Met l y ws rm Pc Qc XC mc ms free) (cw : vx_CSW R s args own index y bytes maxL ret hh ws rm mc ms n) (hp : PreS s H Pc As)
    (hg : g.method = m) (hn : As.length = n) (hsize : g.locals.size = nL) (hstack : g.stack = As.reverse ++ rest) (hW : 2 * g.monitorRoom + (rest.map fun v => v.category).sum ≤ 8) (hdg : decode cc g.pc = .ok (.invokestatic index, 3)) (hf : cells + mc ≤ R.cells ∧ slots + ms ≤ R.slots) :
    vx_Run p l e R s m args below meth c H locs cells slots mc ms g rest (Qc As.toArray) XC free := by
  obtain ⟨⟨hrc, hrs, hfr, hlo, hws, hcw⟩, hcode, hini, hy, hlen, hl, hstt⟩ := cw
  have hK : vx_Back l R p e below s args y 3 8 (PreOf R mc ms Pc) (PostOf Qc mc ms free) (vx_Post XC mc ms free) := vx_backW (hh := hh) (bytes := bytes) (maxL := maxL) (ret := ret) hM hp.1 hrc hrs hfr hlo hws hcw (fun a' U hW => word_at hW (Or.inl (by first | rfl | simp [Cond.onTables, Cond.keeps, Cond.steady])) hini)
  obtain ⟨hx, hb, hml, ho, -⟩ := S
  intro T hT X
  rcases vx_callSX X hx (hh := hh) (bytes := bytes) (maxL := maxL) (ret := ret) ho hl hstt hini hcode hy hK hg (hsize.trans hml.symm) (argsL := As) (rest := rest) (fun sig h => hn.trans (hlen sig h)) hstack hW (by rw [hb]; exact hdg)
    (fun vm₁ hW₁ => ⟨hf.1, hf.2, hp.2 (T.setVm vm₁) hT hW₁⟩) with ⟨v, vm₁, ⟨U', l2, c2, s2⟩, hW₁, X', ⟨g', mk, t, L, e1, e2, hq, h1, hL, h2, h3⟩, st⟩ | ⟨q, vm₁, ⟨U', l2, c2, s2⟩, hW₁, X', ⟨g', mk, t, L, E, ce, e1, e2, hq, hce, hcv, hcl, h1, hL, h2, h3⟩, st⟩
  · dsimp only [Pt.U, Pt.locs, Pt.cells, Pt.slots] at X' e1 e2 h1 h2 h3 st
    subst h1; subst h2; subst h3
    exact Or.inl ⟨v, (T.setVm vm₁).calling g' mk As.toArray, t, U', L, hT, X', hL, e1, e2, hq, st⟩
  · dsimp only [Pt.U, Pt.locs, Pt.cells, Pt.slots] at X' e1 e2 h1 h2 h3 st hcl
    subst h1; subst h2; subst h3
    exact Or.inr ⟨q, (T.setVm vm₁).calling g' mk As.toArray, t, U', L, E, ce, hT, X', hL, e1, e2, hq, hce, hcv, vx_cls hW₁ hcl, st⟩
end
end VXH
theorem vx_ofWH {l : Launch} {y : MethodName} {ws ws' : List Cond} {rm : Room} {Pc : Array Value → State → Prop} {Qc : Array Value → State → Outcome → State → Prop} {XC : String → State → State → Prop} {mc ms : Nat} {free : Addr → Prop} {cc : ByteArray} {maxL : Nat} {ret : Option FieldType} {hh : List (Nat × Nat × Nat × Nat)}
    (hy : plainName y.cls = true) (hw : ws = Cond.codeWith y cc maxL ret hh :: ws')
    (body : ∀ p e s m args below meth c s₁, BodyLoose p l y (headSpec ws rm) cc maxL ret e s m args below meth c s₁ → c.maxLocals = maxL → Pc args s →
      W p l e (headSpec ws rm).room s m args below meth c s.heap [] 0 0 (vx_MQ below Qc XC args s mc ms free) (entryFrame m args maxL)) : vx_Met l y ws rm Pc Qc XC mc ms free := by
  refine MetFree.of_bodyS (code := cc) (maxLocals := maxL) (ret := ret) hy ?_ ?_
  · intro args s m h hn
    obtain ⟨m9, meth, c, hn9, h1, h2, h3, h4, -, h5, h6, -⟩ := Cond.codeWith_spec (atoms_spec (ws := ws) h _ (by rw [hw]; exact List.mem_cons_self))
    cases hn.symm.trans hn9
    exact ⟨meth, c, h1, h2, h3, h4, h5, h6⟩
  · intro p e s m args below meth c s₁ B hml hP _
    have hh0 : s₁.heap = s.heap := by rw [B.state]; rfl
    obtain ⟨t, a1, o, b1, b2, b3⟩ := body p e s m args below meth c s₁ B hml hP s₁ hh0 (Stand.of_body B)
    exact ⟨t, o, a1, b1, b2, b3⟩
/-! ===== END ===== -/
end
section
def RX0 : String := "ColourTide$Tide"
def TX0 : u_T := fun k => match k with
  | 0 => ("ColourTide$Tide", "board", "I", false)
  | 1 => ("ColourTide$Tide", "stubborn", "I", false)
  | 2 => ("ColourTide$Tide", "need", "I", false)
  | 3 => ("ColourTide$Tide", "sets", "[I", true)
  | 4 => ("ColourTide$Tide", "crowds", "[I", true)
  | _ => ("ColourTide$Tide", "gains", "[I", true)
def tyX0 : Nat → FieldType := fun k => match k with
  | 0 => .int
  | 1 => .int
  | 2 => .int
  | 3 => .array .int
  | 4 => .array .int
  | _ => .array .int
abbrev wsX00 : List Cond := u_ws RX0 TX0 6
theorem nmX0 : ∀ a, a < 6 → ∀ b, b < 6 → a ≠ b → (TX0 a).2.1 ≠ (TX0 b).2.1 := by decide +kernel
theorem tyX0_ok : ∀ k, k < 6 → parseFieldDescriptor (TX0 k).2.2.1 = some (tyX0 k) := by decide +kernel
abbrev cX0_init : ByteArray := prog_2_method_1_code
def yX0_init : MethodName := ⟨RX0, "<init>", "()V"⟩
abbrev cX0_clear : ByteArray := prog_2_method_2_code
def yX0_clear : MethodName := ⟨RX0, "clear", "(II)V"⟩
abbrev cX0_cellsWith : ByteArray := prog_2_method_4_code
def yX0_cellsWith : MethodName := ⟨RX0, "cellsWith", "(I)I"⟩
abbrev cX0_count : ByteArray := prog_2_method_5_code
def yX0_count : MethodName := ⟨RX0, "count", "(I)I"⟩
abbrev cX0_isAll : ByteArray := prog_2_method_6_code
def yX0_isAll : MethodName := ⟨RX0, "isAll", "(I)Z"⟩
abbrev cX0_colourOf : ByteArray := prog_2_method_7_code
def yX0_colourOf : MethodName := ⟨RX0, "colourOf", "(I)I"⟩
abbrev cX0_dye : ByteArray := prog_2_method_8_code
def yX0_dye : MethodName := ⟨RX0, "dye", "(II)V"⟩
abbrev cX0_surge : ByteArray := prog_2_method_9_code
def yX0_surge : MethodName := ⟨RX0, "surge", "(I)I"⟩
abbrev cX0_foresee : ByteArray := prog_2_method_10_code
def yX0_foresee : MethodName := ⟨RX0, "foresee", "()I"⟩
abbrev cX0_foreseenColourOf : ByteArray := prog_2_method_11_code
def yX0_foreseenColourOf : MethodName := ⟨RX0, "foreseenColourOf", "(I)I"⟩
abbrev cX0_sizeOfRegion : ByteArray := prog_2_method_12_code
def yX0_sizeOfRegion : MethodName := ⟨RX0, "sizeOfRegion", "(I)I"⟩
abbrev cX0_countRegions : ByteArray := prog_2_method_13_code
def yX0_countRegions : MethodName := ⟨RX0, "countRegions", "(I)I"⟩
abbrev cX0_sizeOfGreatestRegion : ByteArray := prog_2_method_14_code
def yX0_sizeOfGreatestRegion : MethodName := ⟨RX0, "sizeOfGreatestRegion", "(I)I"⟩
abbrev cX0_countBorders : ByteArray := prog_2_method_15_code
def yX0_countBorders : MethodName := ⟨RX0, "countBorders", "()I"⟩
abbrev cX0_addGains : ByteArray := prog_2_method_16_code
def yX0_addGains : MethodName := ⟨RX0, "addGains", "(I)V"⟩
abbrev cX0_takeGains : ByteArray := prog_2_method_17_code
def yX0_takeGains : MethodName := ⟨RX0, "takeGains", "(I)V"⟩
abbrev cX0_withNeighbours : ByteArray := prog_2_method_18_code
def yX0_withNeighbours : MethodName := ⟨RX0, "withNeighbours", "(II)I"⟩
abbrev cX0_regionFrom : ByteArray := prog_2_method_19_code
def yX0_regionFrom : MethodName := ⟨RX0, "regionFrom", "(II)I"⟩
abbrev cX0_countPairs : ByteArray := prog_2_method_20_code
def yX0_countPairs : MethodName := ⟨RX0, "countPairs", "(I)I"⟩
abbrev cX0_firstColourWith : ByteArray := prog_2_method_21_code
def yX0_firstColourWith : MethodName := ⟨RX0, "firstColourWith", "(I[I)I"⟩
def RX1 : String := "ColourTide"
def TX1 : u_T := fun k => match k with
  | 0 => ("ColourTide", "map", "LColourTide$Tide;", true)
  | 1 => ("ColourTide", "trial", "LColourTide$Tide;", true)
  | 2 => ("ColourTide", "width", "I", false)
  | 3 => ("ColourTide", "height", "I", false)
  | _ => ("ColourTide", "waves", "I", false)
def tyX1 : Nat → FieldType := fun k => match k with
  | 0 => .object "ColourTide$Tide"
  | 1 => .object "ColourTide$Tide"
  | 2 => .int
  | 3 => .int
  | _ => .int
abbrev wsX10 : List Cond := u_ws RX1 TX1 5
theorem nmX1 : ∀ a, a < 5 → ∀ b, b < 5 → a ≠ b → (TX1 a).2.1 ≠ (TX1 b).2.1 := by decide +kernel
theorem tyX1_ok : ∀ k, k < 5 → parseFieldDescriptor (TX1 k).2.2.1 = some (tyX1 k) := by decide +kernel
abbrev cX1_init : ByteArray := prog_1_method_1_code
def yX1_init : MethodName := ⟨RX1, "<init>", "()V"⟩
abbrev cX1_newMap : ByteArray := prog_1_method_2_code
def yX1_newMap : MethodName := ⟨RX1, "newMap", "(II)I"⟩
abbrev cX1_paint : ByteArray := prog_1_method_3_code
def yX1_paint : MethodName := ⟨RX1, "paint", "(III)I"⟩
abbrev cX1_turnStubborn : ByteArray := prog_1_method_4_code
def yX1_turnStubborn : MethodName := ⟨RX1, "turnStubborn", "(II)Z"⟩
abbrev cX1_setNeed : ByteArray := prog_1_method_5_code
def yX1_setNeed : MethodName := ⟨RX1, "setNeed", "(I)I"⟩
abbrev cX1_pass : ByteArray := prog_1_method_6_code
def yX1_pass : MethodName := ⟨RX1, "pass", "(I)I"⟩
abbrev cX1_colourAt : ByteArray := prog_1_method_7_code
def yX1_colourAt : MethodName := ⟨RX1, "colourAt", "(II)I"⟩
abbrev cX1_isStubborn : ByteArray := prog_1_method_8_code
def yX1_isStubborn : MethodName := ⟨RX1, "isStubborn", "(II)Z"⟩
abbrev cX1_neighboursWith : ByteArray := prog_1_method_9_code
def yX1_neighboursWith : MethodName := ⟨RX1, "neighboursWith", "(III)I"⟩
abbrev cX1_nextColour : ByteArray := prog_1_method_10_code
def yX1_nextColour : MethodName := ⟨RX1, "nextColour", "(II)I"⟩
abbrev cX1_regionSize : ByteArray := prog_1_method_11_code
def yX1_regionSize : MethodName := ⟨RX1, "regionSize", "(II)I"⟩
abbrev cX1_width : ByteArray := prog_1_method_12_code
def yX1_width : MethodName := ⟨RX1, "width", "()I"⟩
abbrev cX1_height : ByteArray := prog_1_method_13_code
def yX1_height : MethodName := ⟨RX1, "height", "()I"⟩
abbrev cX1_need : ByteArray := prog_1_method_14_code
def yX1_need : MethodName := ⟨RX1, "need", "()I"⟩
abbrev cX1_waves : ByteArray := prog_1_method_15_code
def yX1_waves : MethodName := ⟨RX1, "waves", "()I"⟩
abbrev cX1_stubbornCells : ByteArray := prog_1_method_16_code
def yX1_stubbornCells : MethodName := ⟨RX1, "stubbornCells", "()I"⟩
abbrev cX1_cellsOf : ByteArray := prog_1_method_17_code
def yX1_cellsOf : MethodName := ⟨RX1, "cellsOf", "(I)I"⟩
abbrev cX1_regionsOf : ByteArray := prog_1_method_18_code
def yX1_regionsOf : MethodName := ⟨RX1, "regionsOf", "(I)I"⟩
abbrev cX1_greatestRegion : ByteArray := prog_1_method_19_code
def yX1_greatestRegion : MethodName := ⟨RX1, "greatestRegion", "(I)I"⟩
abbrev cX1_borders : ByteArray := prog_1_method_20_code
def yX1_borders : MethodName := ⟨RX1, "borders", "()I"⟩
abbrev cX1_leader : ByteArray := prog_1_method_21_code
def yX1_leader : MethodName := ⟨RX1, "leader", "()I"⟩
abbrev cX1_isStill : ByteArray := prog_1_method_22_code
def yX1_isStill : MethodName := ⟨RX1, "isStill", "()Z"⟩
abbrev cX1_winner : ByteArray := prog_1_method_23_code
def yX1_winner : MethodName := ⟨RX1, "winner", "()I"⟩
abbrev cX1_share : ByteArray := prog_1_method_29_code
def yX1_share : MethodName := ⟨RX1, "share", "(I)D"⟩
abbrev cX1_isOnMap : ByteArray := prog_1_method_38_code
def yX1_isOnMap : MethodName := ⟨RX1, "isOnMap", "(II)Z"⟩
abbrev cX1_isSide : ByteArray := prog_1_method_39_code
def yX1_isSide : MethodName := ⟨RX1, "isSide", "(I)Z"⟩
abbrev cX1_isColour : ByteArray := prog_1_method_40_code
def yX1_isColour : MethodName := ⟨RX1, "isColour", "(I)Z"⟩
abbrev cX1_isColourOrBare : ByteArray := prog_1_method_41_code
def yX1_isColourOrBare : MethodName := ⟨RX1, "isColourOrBare", "(I)Z"⟩
abbrev cX1_cell : ByteArray := prog_1_method_42_code
def yX1_cell : MethodName := ⟨RX1, "cell", "(II)I"⟩
abbrev cX1_nextTo : ByteArray := prog_1_method_43_code
def yX1_nextTo : MethodName := ⟨RX1, "nextTo", "(I)I"⟩
def RX2 : String := "ColourTideLaw$Sim"
def TX2 : u_T := fun k => match k with
  | 0 => ("ColourTideLaw$Sim", "w", "I", false)
  | 1 => ("ColourTideLaw$Sim", "h", "I", false)
  | 2 => ("ColourTideLaw$Sim", "need", "I", false)
  | 3 => ("ColourTideLaw$Sim", "waves", "I", false)
  | 4 => ("ColourTideLaw$Sim", "map", "[[I", false)
  | _ => ("ColourTideLaw$Sim", "stubborn", "[[Z", false)
def tyX2 : Nat → FieldType := fun k => match k with
  | 0 => .int
  | 1 => .int
  | 2 => .int
  | 3 => .int
  | 4 => .array (.array .int)
  | _ => .array (.array .boolean)
abbrev wsX20 : List Cond := u_ws RX2 TX2 6
theorem nmX2 : ∀ a, a < 6 → ∀ b, b < 6 → a ≠ b → (TX2 a).2.1 ≠ (TX2 b).2.1 := by decide +kernel
theorem tyX2_ok : ∀ k, k < 6 → parseFieldDescriptor (TX2 k).2.2.1 = some (tyX2 k) := by decide +kernel
abbrev cX2_init : ByteArray := prog_4_method_1_code
def yX2_init : MethodName := ⟨RX2, "<init>", "(II)V"⟩
abbrev cX2_at : ByteArray := prog_4_method_2_code
def yX2_at : MethodName := ⟨RX2, "at", "(II)I"⟩
abbrev cX2_beside : ByteArray := prog_4_method_3_code
def yX2_beside : MethodName := ⟨RX2, "beside", "(III)I"⟩
abbrev cX2_bare : ByteArray := prog_4_method_4_code
def yX2_bare : MethodName := ⟨RX2, "bare", "(II)I"⟩
abbrev cX2_next : ByteArray := prog_4_method_5_code
def yX2_next : MethodName := ⟨RX2, "next", "(II)I"⟩
abbrev cX2_wave : ByteArray := prog_4_method_6_code
def yX2_wave : MethodName := ⟨RX2, "wave", "()I"⟩
abbrev cX2_cells : ByteArray := prog_4_method_7_code
def yX2_cells : MethodName := ⟨RX2, "cells", "(I)I"⟩
abbrev cX2_regions : ByteArray := prog_4_method_9_code
def yX2_regions : MethodName := ⟨RX2, "regions", "()[[I"⟩
abbrev cX2_isSame : ByteArray := prog_4_method_11_code
def yX2_isSame : MethodName := ⟨RX2, "isSame", "(LColourTide;)Z"⟩
def RX3 : String := "ColourTideModel"
def TX3 : u_T := fun k => match k with
  | _ => ("", "", "", false)
def tyX3 : Nat → FieldType := fun k => match k with
  | _ => .int
abbrev wsX30 : List Cond := u_ws RX3 TX3 0
theorem nmX3 : ∀ a, a < 0 → ∀ b, b < 0 → a ≠ b → (TX3 a).2.1 ≠ (TX3 b).2.1 := by decide +kernel
theorem tyX3_ok : ∀ k, k < 0 → parseFieldDescriptor (TX3 k).2.2.1 = some (tyX3 k) := by decide +kernel
def RJ6 : String := "java/lang/Integer"
def TJ6 : u_T := fun k => match k with
  | _ => ("", "", "", false)
def tyJ6 : Nat → FieldType := fun k => match k with
  | _ => .int
abbrev wsJ60 : List Cond := u_ws RJ6 TJ6 0
theorem nmJ6 : ∀ a, a < 0 → ∀ b, b < 0 → a ≠ b → (TJ6 a).2.1 ≠ (TJ6 b).2.1 := by decide +kernel
theorem tyJ6_ok : ∀ k, k < 0 → parseFieldDescriptor (TJ6 k).2.2.1 = some (tyJ6 k) := by decide +kernel
abbrev cJ6_bitCount_0f7a4 : ByteArray := prog_9_method_49_code
def yJ6_bitCount_0f7a4 : MethodName := ⟨RJ6, "bitCount", "(I)I"⟩
def RJ9 : String := "java/lang/Math"
def TJ9 : u_T := fun k => match k with
  | _ => ("", "", "", false)
def tyJ9 : Nat → FieldType := fun k => match k with
  | _ => .int
abbrev wsJ90 : List Cond := u_ws RJ9 TJ9 0
theorem nmJ9 : ∀ a, a < 0 → ∀ b, b < 0 → a ≠ b → (TJ9 a).2.1 ≠ (TJ9 b).2.1 := by decide +kernel
theorem tyJ9_ok : ∀ k, k < 0 → parseFieldDescriptor (TJ9 k).2.2.1 = some (tyJ9 k) := by decide +kernel
abbrev cJ9_max_7cf53 : ByteArray := prog_10_method_65_code
def yJ9_max_7cf53 : MethodName := ⟨RJ9, "max", "(II)I"⟩
abbrev cJ9_min_7cf53 : ByteArray := prog_10_method_69_code
def yJ9_min_7cf53 : MethodName := ⟨RJ9, "min", "(II)I"⟩
def RJ0 : String := "java/lang/String"
def TJ0 : u_T := fun k => match k with
  | _ => ("", "", "", false)
def tyJ0 : Nat → FieldType := fun k => match k with
  | _ => .int
abbrev wsJ00 : List Cond := u_ws RJ0 TJ0 0
theorem nmJ0 : ∀ a, a < 0 → ∀ b, b < 0 → a ≠ b → (TJ0 a).2.1 ≠ (TJ0 b).2.1 := by decide +kernel
theorem tyJ0_ok : ∀ k, k < 0 → parseFieldDescriptor (TJ0 k).2.2.1 = some (tyJ0 k) := by decide +kernel
def RL : String := "ColourTideLaw"
abbrev cL_below : ByteArray := method_2_code
def yL_below : MethodName := ⟨RL, "below", "(II)I"⟩
abbrev cL_cell : ByteArray := method_3_code
def yL_cell : MethodName := ⟨RL, "cell", "([II)I"⟩
abbrev cL_act : ByteArray := method_4_code
def yL_act : MethodName := ⟨RL, "act", "(LColourTide;LColourTideLaw$Sim;I)LColourTideLaw$Sim;"⟩
abbrev cL_build : ByteArray := method_5_code
def yL_build : MethodName := ⟨RL, "build", "(LColourTide;[I)LColourTideLaw$Sim;"⟩
abbrev cL_law : ByteArray := code
def yL_law : MethodName := ⟨RL, "law", "([I)Z"⟩
def wsX0_init : List Cond := .code yX0_init cX0_init 1 none :: ([.methodLink RX0 3 objectInit, .instanceMethod objectInit, .code objectInit ⟨#[0xb1]⟩ 1 none, .fieldLink RX0 9 "ColourTide$Tide" "need" "I", .arrayClass .int, .fieldLink RX0 15 "ColourTide$Tide" "sets" "[I", .fieldLink RX0 19 "ColourTide$Tide" "crowds" "[I", .fieldLink RX0 22 "ColourTide$Tide" "gains" "[I"] ++ wsX00)
def wsX1_cell : List Cond := .code yX1_cell cX1_cell 2 (some .int) :: ([])
def wsX0_clear : List Cond := .code yX0_clear cX0_clear 5 none :: ([.fieldLink RX0 25 "ColourTide$Tide" "board" "I", .fieldLink RX0 32 "ColourTide$Tide" "stubborn" "I", .fieldLink RX0 15 "ColourTide$Tide" "sets" "[I", .static yX1_cell, .initialized RX1, .code yX1_cell cX1_cell 2 (some .int)] ++ wsX00)
def wsX0_cellsWith : List Cond := .code yX0_cellsWith cX0_cellsWith 2 (some .int) :: ([.fieldLink RX0 15 "ColourTide$Tide" "sets" "[I"] ++ wsX00)
def wsJ6_bitCount_0f7a4 : List Cond := .code yJ6_bitCount_0f7a4 cJ6_bitCount_0f7a4 1 (some .int) :: ([.constant RJ6 265 (1431655765), .constant RJ6 266 (858993459), .constant RJ6 267 (252645135)])
def wsX0_count : List Cond := .code yX0_count cX0_count 2 (some .int) :: ([.methodLink RX0 35 yX0_cellsWith, .instanceMethod yX0_cellsWith, .selects RX0 yX0_cellsWith yX0_cellsWith, .initialized RX0, .code yX0_cellsWith cX0_cellsWith 2 (some .int), .fieldLink RX0 15 "ColourTide$Tide" "sets" "[I", .methodLink RX0 39 yJ6_bitCount_0f7a4, .static yJ6_bitCount_0f7a4, .initialized RJ6, .code yJ6_bitCount_0f7a4 cJ6_bitCount_0f7a4 1 (some .int), .constant RJ6 265 (1431655765), .constant RJ6 266 (858993459), .constant RJ6 267 (252645135)] ++ wsX00)
def wsX0_isAll : List Cond := .code yX0_isAll cX0_isAll 2 (some .boolean) :: ([.fieldLink RX0 25 "ColourTide$Tide" "board" "I", .methodLink RX0 35 yX0_cellsWith, .instanceMethod yX0_cellsWith, .selects RX0 yX0_cellsWith yX0_cellsWith, .initialized RX0, .code yX0_cellsWith cX0_cellsWith 2 (some .int), .fieldLink RX0 15 "ColourTide$Tide" "sets" "[I"] ++ wsX00)
def wsX0_firstColourWith : List Cond := .code yX0_firstColourWith cX0_firstColourWith 3 (some .int) :: ([])
def wsX0_colourOf : List Cond := .code yX0_colourOf cX0_colourOf 2 (some .int) :: ([.fieldLink RX0 15 "ColourTide$Tide" "sets" "[I", .methodLink RX0 44 yX0_firstColourWith, .static yX0_firstColourWith, .initialized RX0, .code yX0_firstColourWith cX0_firstColourWith 3 (some .int)] ++ wsX00)
def wsX0_dye : List Cond := .code yX0_dye cX0_dye 4 none :: ([.fieldLink RX0 15 "ColourTide$Tide" "sets" "[I"] ++ wsX00)
def wsX0_withNeighbours : List Cond := .code yX0_withNeighbours cX0_withNeighbours 6 (some .int) :: ([])
def wsX0_addGains : List Cond := .code yX0_addGains cX0_addGains 5 none :: ([.fieldLink RX0 19 "ColourTide$Tide" "crowds" "[I", .fieldLink RX0 15 "ColourTide$Tide" "sets" "[I", .fieldLink RX0 22 "ColourTide$Tide" "gains" "[I", .fieldLink RX0 25 "ColourTide$Tide" "board" "I", .fieldLink RX0 32 "ColourTide$Tide" "stubborn" "I", .methodLink RX0 73 yX0_withNeighbours, .static yX0_withNeighbours, .initialized RX0, .code yX0_withNeighbours cX0_withNeighbours 6 (some .int)] ++ wsX00)
def wsX0_foresee : List Cond := .code yX0_foresee cX0_foresee 3 (some .int) :: ([.fieldLink RX0 22 "ColourTide$Tide" "gains" "[I", .fieldLink RX0 9 "ColourTide$Tide" "need" "I", .fieldLink RX0 15 "ColourTide$Tide" "sets" "[I", .methodLink RX0 56 yX0_addGains, .instanceMethod yX0_addGains, .selects RX0 yX0_addGains yX0_addGains, .initialized RX0, .code yX0_addGains cX0_addGains 5 none, .fieldLink RX0 19 "ColourTide$Tide" "crowds" "[I", .fieldLink RX0 25 "ColourTide$Tide" "board" "I", .fieldLink RX0 32 "ColourTide$Tide" "stubborn" "I", .methodLink RX0 73 yX0_withNeighbours, .static yX0_withNeighbours, .code yX0_withNeighbours cX0_withNeighbours 6 (some .int)] ++ wsX00)
def wsX0_takeGains : List Cond := .code yX0_takeGains cX0_takeGains 3 none :: ([.fieldLink RX0 15 "ColourTide$Tide" "sets" "[I", .fieldLink RX0 22 "ColourTide$Tide" "gains" "[I"] ++ wsX00)
def wsX0_surge : List Cond := .code yX0_surge cX0_surge 4 (some .int) :: ([.methodLink RX0 48 yX0_foresee, .instanceMethod yX0_foresee, .selects RX0 yX0_foresee yX0_foresee, .initialized RX0, .code yX0_foresee cX0_foresee 3 (some .int), .fieldLink RX0 22 "ColourTide$Tide" "gains" "[I", .fieldLink RX0 9 "ColourTide$Tide" "need" "I", .fieldLink RX0 15 "ColourTide$Tide" "sets" "[I", .methodLink RX0 56 yX0_addGains, .instanceMethod yX0_addGains, .selects RX0 yX0_addGains yX0_addGains, .code yX0_addGains cX0_addGains 5 none, .fieldLink RX0 19 "ColourTide$Tide" "crowds" "[I", .fieldLink RX0 25 "ColourTide$Tide" "board" "I", .fieldLink RX0 32 "ColourTide$Tide" "stubborn" "I", .methodLink RX0 73 yX0_withNeighbours, .static yX0_withNeighbours, .code yX0_withNeighbours cX0_withNeighbours 6 (some .int), .methodLink RX0 52 yX0_takeGains, .instanceMethod yX0_takeGains, .selects RX0 yX0_takeGains yX0_takeGains, .code yX0_takeGains cX0_takeGains 3 none] ++ wsX00)
def wsX0_foreseenColourOf : List Cond := .code yX0_foreseenColourOf cX0_foreseenColourOf 3 (some .int) :: ([.fieldLink RX0 22 "ColourTide$Tide" "gains" "[I", .methodLink RX0 44 yX0_firstColourWith, .static yX0_firstColourWith, .initialized RX0, .code yX0_firstColourWith cX0_firstColourWith 3 (some .int), .methodLink RX0 59 yX0_colourOf, .instanceMethod yX0_colourOf, .selects RX0 yX0_colourOf yX0_colourOf, .code yX0_colourOf cX0_colourOf 2 (some .int), .fieldLink RX0 15 "ColourTide$Tide" "sets" "[I"] ++ wsX00)
def wsX1_nextTo : List Cond := .code yX1_nextTo cX1_nextTo 1 (some .int) :: ([])
def wsX0_regionFrom : List Cond := .code yX0_regionFrom cX0_regionFrom 5 (some .int) :: ([.static yX1_nextTo, .initialized RX1, .code yX1_nextTo cX1_nextTo 1 (some .int)])
def wsX0_sizeOfRegion_r1 : List Cond := [Cond.methodLink RX0 59 yX0_colourOf, Cond.instanceMethod yX0_colourOf, Cond.selects RX0 yX0_colourOf yX0_colourOf, Cond.initialized RX0, Cond.code yX0_colourOf cX0_colourOf 2 (some .int), Cond.fieldLink RX0 15 "ColourTide$Tide" "sets" "[I", Cond.methodLink RX0 44 yX0_firstColourWith, Cond.static yX0_firstColourWith, Cond.code yX0_firstColourWith cX0_firstColourWith 3 (some .int), Cond.methodLink RX0 35 yX0_cellsWith, Cond.instanceMethod yX0_cellsWith, Cond.selects RX0 yX0_cellsWith yX0_cellsWith, Cond.code yX0_cellsWith cX0_cellsWith 2 (some .int), Cond.methodLink RX0 62 yX0_regionFrom, Cond.static yX0_regionFrom, Cond.code yX0_regionFrom cX0_regionFrom 5 (some .int), Cond.static yX1_nextTo, Cond.initialized RX1, Cond.code yX1_nextTo cX1_nextTo 1 (some .int), Cond.methodLink RX0 39 yJ6_bitCount_0f7a4, Cond.static yJ6_bitCount_0f7a4, Cond.initialized RJ6, Cond.code yJ6_bitCount_0f7a4 cJ6_bitCount_0f7a4 1 (some .int), Cond.constant RJ6 265 (1431655765)]
def wsX0_sizeOfRegion_r2 : List Cond := [Cond.constant RJ6 266 (858993459), Cond.constant RJ6 267 (252645135)]
def wsX0_sizeOfRegion : List Cond := .code yX0_sizeOfRegion cX0_sizeOfRegion 3 (some .int) :: ((wsX0_sizeOfRegion_r1 ++ wsX0_sizeOfRegion_r2) ++ wsX00)
def wsX0_countRegions : List Cond := .code yX0_countRegions cX0_countRegions 5 (some .int) :: ([.methodLink RX0 35 yX0_cellsWith, .instanceMethod yX0_cellsWith, .selects RX0 yX0_cellsWith yX0_cellsWith, .initialized RX0, .code yX0_cellsWith cX0_cellsWith 2 (some .int), .fieldLink RX0 15 "ColourTide$Tide" "sets" "[I", .methodLink RX0 62 yX0_regionFrom, .static yX0_regionFrom, .code yX0_regionFrom cX0_regionFrom 5 (some .int), .static yX1_nextTo, .initialized RX1, .code yX1_nextTo cX1_nextTo 1 (some .int)] ++ wsX00)
def wsX0_sizeOfGreatestRegion : List Cond := .code yX0_sizeOfGreatestRegion cX0_sizeOfGreatestRegion 6 (some .int) :: ([.methodLink RX0 65 Lib.Math.max.name, .static Lib.Math.max.name, .initialized "java/lang/Math", .code Lib.Math.max.name Lib.Math.max.code 2 (some .int), .methodLink RX0 35 yX0_cellsWith, .instanceMethod yX0_cellsWith, .selects RX0 yX0_cellsWith yX0_cellsWith, .initialized RX0, .code yX0_cellsWith cX0_cellsWith 2 (some .int), .fieldLink RX0 15 "ColourTide$Tide" "sets" "[I", .methodLink RX0 62 yX0_regionFrom, .static yX0_regionFrom, .code yX0_regionFrom cX0_regionFrom 5 (some .int), .static yX1_nextTo, .initialized RX1, .code yX1_nextTo cX1_nextTo 1 (some .int), .methodLink RX0 39 yJ6_bitCount_0f7a4, .static yJ6_bitCount_0f7a4, .initialized RJ6, .code yJ6_bitCount_0f7a4 cJ6_bitCount_0f7a4 1 (some .int), .constant RJ6 265 (1431655765), .constant RJ6 266 (858993459), .constant RJ6 267 (252645135)] ++ wsX00)
def wsX0_countPairs : List Cond := .code yX0_countPairs cX0_countPairs 1 (some .int) :: ([.methodLink RX0 39 yJ6_bitCount_0f7a4, .static yJ6_bitCount_0f7a4, .initialized RJ6, .code yJ6_bitCount_0f7a4 cJ6_bitCount_0f7a4 1 (some .int), .constant RJ6 265 (1431655765), .constant RJ6 266 (858993459), .constant RJ6 267 (252645135)])
def wsX0_countBorders : List Cond := .code yX0_countBorders cX0_countBorders 3 (some .int) :: ([.fieldLink RX0 25 "ColourTide$Tide" "board" "I", .fieldLink RX0 15 "ColourTide$Tide" "sets" "[I", .methodLink RX0 35 yX0_cellsWith, .instanceMethod yX0_cellsWith, .selects RX0 yX0_cellsWith yX0_cellsWith, .initialized RX0, .code yX0_cellsWith cX0_cellsWith 2 (some .int), .methodLink RX0 70 yX0_countPairs, .static yX0_countPairs, .code yX0_countPairs cX0_countPairs 1 (some .int), .methodLink RX0 39 yJ6_bitCount_0f7a4, .static yJ6_bitCount_0f7a4, .initialized RJ6, .code yJ6_bitCount_0f7a4 cJ6_bitCount_0f7a4 1 (some .int), .constant RJ6 265 (1431655765), .constant RJ6 266 (858993459), .constant RJ6 267 (252645135)] ++ wsX00)
def wsX1_init_r1 : List Cond := [Cond.methodLink RX1 3 objectInit, Cond.instanceMethod objectInit, Cond.code objectInit ⟨#[0xb1]⟩ 1 none, Cond.classLink RX1 9 RX0, Cond.instantiable RX0 6, Cond.initialized RX0, Cond.fieldLink RX1 12 "ColourTide" "map" "LColourTide$Tide;", Cond.fieldLink RX1 16 "ColourTide" "trial" "LColourTide$Tide;", Cond.fieldLink RX1 19 "ColourTide" "width" "I", Cond.fieldLink RX1 23 "ColourTide" "height" "I", Cond.fieldLink RX1 26 "ColourTide" "waves" "I", Cond.methodLink RX1 11 yX0_init, Cond.instanceMethod yX0_init, Cond.code yX0_init cX0_init 1 none, Cond.methodLink RX0 3 objectInit, Cond.fieldLink RX0 9 "ColourTide$Tide" "need" "I", Cond.arrayClass .int, Cond.fieldLink RX0 15 "ColourTide$Tide" "sets" "[I", Cond.fieldLink RX0 19 "ColourTide$Tide" "crowds" "[I", Cond.fieldLink RX0 22 "ColourTide$Tide" "gains" "[I", Cond.methodLink RX1 29 yX0_clear, Cond.instanceMethod yX0_clear, Cond.selects RX0 yX0_clear yX0_clear, Cond.code yX0_clear cX0_clear 5 none]
def wsX1_init_r2 : List Cond := [Cond.fieldLink RX0 25 "ColourTide$Tide" "board" "I", Cond.fieldLink RX0 32 "ColourTide$Tide" "stubborn" "I", Cond.static yX1_cell, Cond.initialized RX1, Cond.code yX1_cell cX1_cell 2 (some .int)]
def wsX1_init : List Cond := .code yX1_init cX1_init 1 none :: ((wsX1_init_r1 ++ wsX1_init_r2) ++ wsX00 ++ wsX10)
def wsX1_isSide : List Cond := .code yX1_isSide cX1_isSide 1 (some .boolean) :: ([])
def wsX1_newMap : List Cond := .code yX1_newMap cX1_newMap 3 (some .int) :: ([.classLink RX1 37 "java/lang/IllegalArgumentException", .initialized "java/lang/IllegalArgumentException", .fieldLink RX1 19 "ColourTide" "width" "I", .fieldLink RX1 23 "ColourTide" "height" "I", .fieldLink RX1 26 "ColourTide" "waves" "I", .fieldLink RX1 12 "ColourTide" "map" "LColourTide$Tide;", .methodLink RX1 33 yX1_isSide, .static yX1_isSide, .initialized RX1, .code yX1_isSide cX1_isSide 1 (some .boolean), .methodLink RX1 29 yX0_clear, .instanceMethod yX0_clear, .selects RX0 yX0_clear yX0_clear, .initialized RX0, .code yX0_clear cX0_clear 5 none, .fieldLink RX0 25 "ColourTide$Tide" "board" "I", .fieldLink RX0 32 "ColourTide$Tide" "stubborn" "I", .fieldLink RX0 15 "ColourTide$Tide" "sets" "[I", .static yX1_cell, .code yX1_cell cX1_cell 2 (some .int)] ++ wsX10 ++ wsX00 ++ (vx_atS RX1 41 "java/lang/IllegalArgumentException" ["java/lang/RuntimeException", "java/lang/Exception"]).filter goodWord)
def wsX1_isOnMap : List Cond := .code yX1_isOnMap cX1_isOnMap 3 (some .boolean) :: ([.fieldLink RX1 19 "ColourTide" "width" "I", .fieldLink RX1 23 "ColourTide" "height" "I"] ++ wsX10)
def wsX1_isColour : List Cond := .code yX1_isColour cX1_isColour 1 (some .boolean) :: ([])
def wsX1_isColourOrBare : List Cond := .code yX1_isColourOrBare cX1_isColourOrBare 1 (some .boolean) :: ([.methodLink RX1 108 yX1_isColour, .static yX1_isColour, .initialized RX1, .code yX1_isColour cX1_isColour 1 (some .boolean)])
def wsX1_paint_r1 : List Cond := [Cond.classLink RX1 51 "java/lang/IndexOutOfBoundsException", Cond.initialized "java/lang/IndexOutOfBoundsException", Cond.fieldLink RX1 12 "ColourTide" "map" "LColourTide$Tide;", Cond.methodLink RX1 44 yX1_isOnMap, Cond.instanceMethod yX1_isOnMap, Cond.selects RX1 yX1_isOnMap yX1_isOnMap, Cond.initialized RX1, Cond.code yX1_isOnMap cX1_isOnMap 3 (some .boolean), Cond.fieldLink RX1 19 "ColourTide" "width" "I", Cond.fieldLink RX1 23 "ColourTide" "height" "I", Cond.methodLink RX1 48 yX1_isColourOrBare, Cond.static yX1_isColourOrBare, Cond.code yX1_isColourOrBare cX1_isColourOrBare 1 (some .boolean), Cond.methodLink RX1 108 yX1_isColour, Cond.static yX1_isColour, Cond.code yX1_isColour cX1_isColour 1 (some .boolean), Cond.methodLink RX1 56 yX1_cell, Cond.static yX1_cell, Cond.code yX1_cell cX1_cell 2 (some .int), Cond.methodLink RX1 60 yX0_colourOf, Cond.instanceMethod yX0_colourOf, Cond.selects RX0 yX0_colourOf yX0_colourOf, Cond.initialized RX0, Cond.code yX0_colourOf cX0_colourOf 2 (some .int)]
def wsX1_paint_r2 : List Cond := [Cond.fieldLink RX0 15 "ColourTide$Tide" "sets" "[I", Cond.methodLink RX0 44 yX0_firstColourWith, Cond.static yX0_firstColourWith, Cond.code yX0_firstColourWith cX0_firstColourWith 3 (some .int), Cond.methodLink RX1 64 yX0_dye, Cond.instanceMethod yX0_dye, Cond.selects RX0 yX0_dye yX0_dye, Cond.code yX0_dye cX0_dye 4 none]
def wsX1_paint : List Cond := .code yX1_paint cX1_paint 5 (some .int) :: ((wsX1_paint_r1 ++ wsX1_paint_r2) ++ wsX10 ++ wsX00 ++ (vx_atS RX1 55 "java/lang/IndexOutOfBoundsException" ["java/lang/RuntimeException", "java/lang/Exception"]).filter goodWord)
def wsX1_turnStubborn : List Cond := .code yX1_turnStubborn cX1_turnStubborn 3 (some .boolean) :: ([.classLink RX1 51 "java/lang/IndexOutOfBoundsException", .initialized "java/lang/IndexOutOfBoundsException", .fieldLink RX1 12 "ColourTide" "map" "LColourTide$Tide;", .fieldLink RX1 69 "ColourTide$Tide" "stubborn" "I", .methodLink RX1 44 yX1_isOnMap, .instanceMethod yX1_isOnMap, .selects RX1 yX1_isOnMap yX1_isOnMap, .initialized RX1, .code yX1_isOnMap cX1_isOnMap 3 (some .boolean), .fieldLink RX1 19 "ColourTide" "width" "I", .fieldLink RX1 23 "ColourTide" "height" "I", .methodLink RX1 56 yX1_cell, .static yX1_cell, .code yX1_cell cX1_cell 2 (some .int)] ++ wsX10 ++ wsX00 ++ (vx_atS RX1 55 "java/lang/IndexOutOfBoundsException" ["java/lang/RuntimeException", "java/lang/Exception"]).filter goodWord)
def wsX1_setNeed : List Cond := .code yX1_setNeed cX1_setNeed 3 (some .int) :: ([.classLink RX1 37 "java/lang/IllegalArgumentException", .initialized "java/lang/IllegalArgumentException", .fieldLink RX1 12 "ColourTide" "map" "LColourTide$Tide;", .fieldLink RX1 74 "ColourTide$Tide" "need" "I"] ++ wsX10 ++ wsX00 ++ (vx_atS RX1 41 "java/lang/IllegalArgumentException" ["java/lang/RuntimeException", "java/lang/Exception"]).filter goodWord)
def wsX1_pass_r1 : List Cond := [Cond.classLink RX1 37 "java/lang/IllegalArgumentException", Cond.initialized "java/lang/IllegalArgumentException", Cond.fieldLink RX1 26 "ColourTide" "waves" "I", Cond.fieldLink RX1 12 "ColourTide" "map" "LColourTide$Tide;", Cond.methodLink RX1 79 yX0_surge, Cond.instanceMethod yX0_surge, Cond.selects RX0 yX0_surge yX0_surge, Cond.initialized RX0, Cond.code yX0_surge cX0_surge 4 (some .int), Cond.methodLink RX0 48 yX0_foresee, Cond.instanceMethod yX0_foresee, Cond.selects RX0 yX0_foresee yX0_foresee, Cond.code yX0_foresee cX0_foresee 3 (some .int), Cond.fieldLink RX0 22 "ColourTide$Tide" "gains" "[I", Cond.fieldLink RX0 9 "ColourTide$Tide" "need" "I", Cond.fieldLink RX0 15 "ColourTide$Tide" "sets" "[I", Cond.methodLink RX0 56 yX0_addGains, Cond.instanceMethod yX0_addGains, Cond.selects RX0 yX0_addGains yX0_addGains, Cond.code yX0_addGains cX0_addGains 5 none, Cond.fieldLink RX0 19 "ColourTide$Tide" "crowds" "[I", Cond.fieldLink RX0 25 "ColourTide$Tide" "board" "I", Cond.fieldLink RX0 32 "ColourTide$Tide" "stubborn" "I", Cond.methodLink RX0 73 yX0_withNeighbours]
def wsX1_pass_r2 : List Cond := [Cond.static yX0_withNeighbours, Cond.code yX0_withNeighbours cX0_withNeighbours 6 (some .int), Cond.methodLink RX0 52 yX0_takeGains, Cond.instanceMethod yX0_takeGains, Cond.selects RX0 yX0_takeGains yX0_takeGains, Cond.code yX0_takeGains cX0_takeGains 3 none, Cond.methodLink RX1 82 yJ6_bitCount_0f7a4, Cond.static yJ6_bitCount_0f7a4, Cond.initialized RJ6, Cond.code yJ6_bitCount_0f7a4 cJ6_bitCount_0f7a4 1 (some .int), Cond.constant RJ6 265 (1431655765), Cond.constant RJ6 266 (858993459), Cond.constant RJ6 267 (252645135)]
def wsX1_pass : List Cond := .code yX1_pass cX1_pass 2 (some .int) :: ((wsX1_pass_r1 ++ wsX1_pass_r2) ++ wsX10 ++ wsX00 ++ (vx_atS RX1 41 "java/lang/IllegalArgumentException" ["java/lang/RuntimeException", "java/lang/Exception"]).filter goodWord)
def wsX1_colourAt : List Cond := .code yX1_colourAt cX1_colourAt 3 (some .int) :: ([.classLink RX1 51 "java/lang/IndexOutOfBoundsException", .initialized "java/lang/IndexOutOfBoundsException", .fieldLink RX1 12 "ColourTide" "map" "LColourTide$Tide;", .methodLink RX1 44 yX1_isOnMap, .instanceMethod yX1_isOnMap, .selects RX1 yX1_isOnMap yX1_isOnMap, .initialized RX1, .code yX1_isOnMap cX1_isOnMap 3 (some .boolean), .fieldLink RX1 19 "ColourTide" "width" "I", .fieldLink RX1 23 "ColourTide" "height" "I", .methodLink RX1 56 yX1_cell, .static yX1_cell, .code yX1_cell cX1_cell 2 (some .int), .methodLink RX1 60 yX0_colourOf, .instanceMethod yX0_colourOf, .selects RX0 yX0_colourOf yX0_colourOf, .initialized RX0, .code yX0_colourOf cX0_colourOf 2 (some .int), .fieldLink RX0 15 "ColourTide$Tide" "sets" "[I", .methodLink RX0 44 yX0_firstColourWith, .static yX0_firstColourWith, .code yX0_firstColourWith cX0_firstColourWith 3 (some .int)] ++ wsX10 ++ wsX00 ++ (vx_atS RX1 55 "java/lang/IndexOutOfBoundsException" ["java/lang/RuntimeException", "java/lang/Exception"]).filter goodWord)
def wsX1_isStubborn : List Cond := .code yX1_isStubborn cX1_isStubborn 3 (some .boolean) :: ([.classLink RX1 51 "java/lang/IndexOutOfBoundsException", .initialized "java/lang/IndexOutOfBoundsException", .fieldLink RX1 12 "ColourTide" "map" "LColourTide$Tide;", .fieldLink RX1 69 "ColourTide$Tide" "stubborn" "I", .methodLink RX1 44 yX1_isOnMap, .instanceMethod yX1_isOnMap, .selects RX1 yX1_isOnMap yX1_isOnMap, .initialized RX1, .code yX1_isOnMap cX1_isOnMap 3 (some .boolean), .fieldLink RX1 19 "ColourTide" "width" "I", .fieldLink RX1 23 "ColourTide" "height" "I", .methodLink RX1 56 yX1_cell, .static yX1_cell, .code yX1_cell cX1_cell 2 (some .int)] ++ wsX10 ++ wsX00 ++ (vx_atS RX1 55 "java/lang/IndexOutOfBoundsException" ["java/lang/RuntimeException", "java/lang/Exception"]).filter goodWord)
def wsX1_neighboursWith_r1 : List Cond := [Cond.classLink RX1 51 "java/lang/IndexOutOfBoundsException", Cond.initialized "java/lang/IndexOutOfBoundsException", Cond.fieldLink RX1 12 "ColourTide" "map" "LColourTide$Tide;", Cond.methodLink RX1 44 yX1_isOnMap, Cond.instanceMethod yX1_isOnMap, Cond.selects RX1 yX1_isOnMap yX1_isOnMap, Cond.initialized RX1, Cond.code yX1_isOnMap cX1_isOnMap 3 (some .boolean), Cond.fieldLink RX1 19 "ColourTide" "width" "I", Cond.fieldLink RX1 23 "ColourTide" "height" "I", Cond.methodLink RX1 48 yX1_isColourOrBare, Cond.static yX1_isColourOrBare, Cond.code yX1_isColourOrBare cX1_isColourOrBare 1 (some .boolean), Cond.methodLink RX1 108 yX1_isColour, Cond.static yX1_isColour, Cond.code yX1_isColour cX1_isColour 1 (some .boolean), Cond.methodLink RX1 56 yX1_cell, Cond.static yX1_cell, Cond.code yX1_cell cX1_cell 2 (some .int), Cond.methodLink RX1 87 yX1_nextTo, Cond.static yX1_nextTo, Cond.code yX1_nextTo cX1_nextTo 1 (some .int), Cond.methodLink RX1 90 yX0_cellsWith, Cond.instanceMethod yX0_cellsWith]
def wsX1_neighboursWith_r2 : List Cond := [Cond.selects RX0 yX0_cellsWith yX0_cellsWith, Cond.initialized RX0, Cond.code yX0_cellsWith cX0_cellsWith 2 (some .int), Cond.fieldLink RX0 15 "ColourTide$Tide" "sets" "[I", Cond.methodLink RX1 82 yJ6_bitCount_0f7a4, Cond.static yJ6_bitCount_0f7a4, Cond.initialized RJ6, Cond.code yJ6_bitCount_0f7a4 cJ6_bitCount_0f7a4 1 (some .int), Cond.constant RJ6 265 (1431655765), Cond.constant RJ6 266 (858993459), Cond.constant RJ6 267 (252645135)]
def wsX1_neighboursWith : List Cond := .code yX1_neighboursWith cX1_neighboursWith 4 (some .int) :: ((wsX1_neighboursWith_r1 ++ wsX1_neighboursWith_r2) ++ wsX10 ++ wsX00 ++ (vx_atS RX1 55 "java/lang/IndexOutOfBoundsException" ["java/lang/RuntimeException", "java/lang/Exception"]).filter goodWord)
def wsX1_nextColour_r1 : List Cond := [Cond.classLink RX1 51 "java/lang/IndexOutOfBoundsException", Cond.initialized "java/lang/IndexOutOfBoundsException", Cond.fieldLink RX1 12 "ColourTide" "map" "LColourTide$Tide;", Cond.methodLink RX1 44 yX1_isOnMap, Cond.instanceMethod yX1_isOnMap, Cond.selects RX1 yX1_isOnMap yX1_isOnMap, Cond.initialized RX1, Cond.code yX1_isOnMap cX1_isOnMap 3 (some .boolean), Cond.fieldLink RX1 19 "ColourTide" "width" "I", Cond.fieldLink RX1 23 "ColourTide" "height" "I", Cond.methodLink RX1 93 yX0_foresee, Cond.instanceMethod yX0_foresee, Cond.selects RX0 yX0_foresee yX0_foresee, Cond.initialized RX0, Cond.code yX0_foresee cX0_foresee 3 (some .int), Cond.fieldLink RX0 22 "ColourTide$Tide" "gains" "[I", Cond.fieldLink RX0 9 "ColourTide$Tide" "need" "I", Cond.fieldLink RX0 15 "ColourTide$Tide" "sets" "[I", Cond.methodLink RX0 56 yX0_addGains, Cond.instanceMethod yX0_addGains, Cond.selects RX0 yX0_addGains yX0_addGains, Cond.code yX0_addGains cX0_addGains 5 none, Cond.fieldLink RX0 19 "ColourTide$Tide" "crowds" "[I", Cond.fieldLink RX0 25 "ColourTide$Tide" "board" "I"]
def wsX1_nextColour_r2 : List Cond := [Cond.fieldLink RX0 32 "ColourTide$Tide" "stubborn" "I", Cond.methodLink RX0 73 yX0_withNeighbours, Cond.static yX0_withNeighbours, Cond.code yX0_withNeighbours cX0_withNeighbours 6 (some .int), Cond.methodLink RX1 56 yX1_cell, Cond.static yX1_cell, Cond.code yX1_cell cX1_cell 2 (some .int), Cond.methodLink RX1 97 yX0_foreseenColourOf, Cond.instanceMethod yX0_foreseenColourOf, Cond.selects RX0 yX0_foreseenColourOf yX0_foreseenColourOf, Cond.code yX0_foreseenColourOf cX0_foreseenColourOf 3 (some .int), Cond.methodLink RX0 44 yX0_firstColourWith, Cond.static yX0_firstColourWith, Cond.code yX0_firstColourWith cX0_firstColourWith 3 (some .int), Cond.methodLink RX0 59 yX0_colourOf, Cond.instanceMethod yX0_colourOf, Cond.selects RX0 yX0_colourOf yX0_colourOf, Cond.code yX0_colourOf cX0_colourOf 2 (some .int)]
def wsX1_nextColour : List Cond := .code yX1_nextColour cX1_nextColour 3 (some .int) :: ((wsX1_nextColour_r1 ++ wsX1_nextColour_r2) ++ wsX10 ++ wsX00 ++ (vx_atS RX1 55 "java/lang/IndexOutOfBoundsException" ["java/lang/RuntimeException", "java/lang/Exception"]).filter goodWord)
def wsX1_regionSize_r1 : List Cond := [Cond.classLink RX1 51 "java/lang/IndexOutOfBoundsException", Cond.initialized "java/lang/IndexOutOfBoundsException", Cond.fieldLink RX1 12 "ColourTide" "map" "LColourTide$Tide;", Cond.methodLink RX1 44 yX1_isOnMap, Cond.instanceMethod yX1_isOnMap, Cond.selects RX1 yX1_isOnMap yX1_isOnMap, Cond.initialized RX1, Cond.code yX1_isOnMap cX1_isOnMap 3 (some .boolean), Cond.fieldLink RX1 19 "ColourTide" "width" "I", Cond.fieldLink RX1 23 "ColourTide" "height" "I", Cond.methodLink RX1 56 yX1_cell, Cond.static yX1_cell, Cond.code yX1_cell cX1_cell 2 (some .int), Cond.methodLink RX1 100 yX0_sizeOfRegion, Cond.instanceMethod yX0_sizeOfRegion, Cond.selects RX0 yX0_sizeOfRegion yX0_sizeOfRegion, Cond.initialized RX0, Cond.code yX0_sizeOfRegion cX0_sizeOfRegion 3 (some .int), Cond.methodLink RX0 59 yX0_colourOf, Cond.instanceMethod yX0_colourOf, Cond.selects RX0 yX0_colourOf yX0_colourOf, Cond.code yX0_colourOf cX0_colourOf 2 (some .int), Cond.fieldLink RX0 15 "ColourTide$Tide" "sets" "[I", Cond.methodLink RX0 44 yX0_firstColourWith]
def wsX1_regionSize_r2 : List Cond := [Cond.static yX0_firstColourWith, Cond.code yX0_firstColourWith cX0_firstColourWith 3 (some .int), Cond.methodLink RX0 35 yX0_cellsWith, Cond.instanceMethod yX0_cellsWith, Cond.selects RX0 yX0_cellsWith yX0_cellsWith, Cond.code yX0_cellsWith cX0_cellsWith 2 (some .int), Cond.methodLink RX0 62 yX0_regionFrom, Cond.static yX0_regionFrom, Cond.code yX0_regionFrom cX0_regionFrom 5 (some .int), Cond.static yX1_nextTo, Cond.code yX1_nextTo cX1_nextTo 1 (some .int), Cond.methodLink RX0 39 yJ6_bitCount_0f7a4, Cond.static yJ6_bitCount_0f7a4, Cond.initialized RJ6, Cond.code yJ6_bitCount_0f7a4 cJ6_bitCount_0f7a4 1 (some .int), Cond.constant RJ6 265 (1431655765), Cond.constant RJ6 266 (858993459), Cond.constant RJ6 267 (252645135)]
def wsX1_regionSize : List Cond := .code yX1_regionSize cX1_regionSize 3 (some .int) :: ((wsX1_regionSize_r1 ++ wsX1_regionSize_r2) ++ wsX10 ++ wsX00 ++ (vx_atS RX1 55 "java/lang/IndexOutOfBoundsException" ["java/lang/RuntimeException", "java/lang/Exception"]).filter goodWord)
def wsX1_width : List Cond := .code yX1_width cX1_width 1 (some .int) :: ([.fieldLink RX1 19 "ColourTide" "width" "I"] ++ wsX10)
def wsX1_height : List Cond := .code yX1_height cX1_height 1 (some .int) :: ([.fieldLink RX1 23 "ColourTide" "height" "I"] ++ wsX10)
def wsX1_need : List Cond := .code yX1_need cX1_need 1 (some .int) :: ([.fieldLink RX1 12 "ColourTide" "map" "LColourTide$Tide;", .fieldLink RX1 74 "ColourTide$Tide" "need" "I"] ++ wsX10 ++ wsX00)
def wsX1_waves : List Cond := .code yX1_waves cX1_waves 1 (some .int) :: ([.fieldLink RX1 26 "ColourTide" "waves" "I"] ++ wsX10)
def wsX1_stubbornCells : List Cond := .code yX1_stubbornCells cX1_stubbornCells 1 (some .int) :: ([.fieldLink RX1 12 "ColourTide" "map" "LColourTide$Tide;", .fieldLink RX1 69 "ColourTide$Tide" "stubborn" "I", .methodLink RX1 82 yJ6_bitCount_0f7a4, .static yJ6_bitCount_0f7a4, .initialized RJ6, .code yJ6_bitCount_0f7a4 cJ6_bitCount_0f7a4 1 (some .int), .constant RJ6 265 (1431655765), .constant RJ6 266 (858993459), .constant RJ6 267 (252645135)] ++ wsX10 ++ wsX00)
def wsX1_cellsOf_r1 : List Cond := [Cond.classLink RX1 51 "java/lang/IndexOutOfBoundsException", Cond.initialized "java/lang/IndexOutOfBoundsException", Cond.fieldLink RX1 12 "ColourTide" "map" "LColourTide$Tide;", Cond.methodLink RX1 48 yX1_isColourOrBare, Cond.static yX1_isColourOrBare, Cond.initialized RX1, Cond.code yX1_isColourOrBare cX1_isColourOrBare 1 (some .boolean), Cond.methodLink RX1 108 yX1_isColour, Cond.static yX1_isColour, Cond.code yX1_isColour cX1_isColour 1 (some .boolean), Cond.methodLink RX1 105 yX0_count, Cond.instanceMethod yX0_count, Cond.selects RX0 yX0_count yX0_count, Cond.initialized RX0, Cond.code yX0_count cX0_count 2 (some .int), Cond.methodLink RX0 35 yX0_cellsWith, Cond.instanceMethod yX0_cellsWith, Cond.selects RX0 yX0_cellsWith yX0_cellsWith, Cond.code yX0_cellsWith cX0_cellsWith 2 (some .int), Cond.fieldLink RX0 15 "ColourTide$Tide" "sets" "[I", Cond.methodLink RX0 39 yJ6_bitCount_0f7a4, Cond.static yJ6_bitCount_0f7a4, Cond.initialized RJ6, Cond.code yJ6_bitCount_0f7a4 cJ6_bitCount_0f7a4 1 (some .int)]
def wsX1_cellsOf_r2 : List Cond := [Cond.constant RJ6 265 (1431655765), Cond.constant RJ6 266 (858993459), Cond.constant RJ6 267 (252645135)]
def wsX1_cellsOf : List Cond := .code yX1_cellsOf cX1_cellsOf 2 (some .int) :: ((wsX1_cellsOf_r1 ++ wsX1_cellsOf_r2) ++ wsX10 ++ wsX00 ++ (vx_atS RX1 55 "java/lang/IndexOutOfBoundsException" ["java/lang/RuntimeException", "java/lang/Exception"]).filter goodWord)
def wsX1_regionsOf : List Cond := .code yX1_regionsOf cX1_regionsOf 2 (some .int) :: ([.classLink RX1 51 "java/lang/IndexOutOfBoundsException", .initialized "java/lang/IndexOutOfBoundsException", .fieldLink RX1 12 "ColourTide" "map" "LColourTide$Tide;", .methodLink RX1 108 yX1_isColour, .static yX1_isColour, .initialized RX1, .code yX1_isColour cX1_isColour 1 (some .boolean), .methodLink RX1 111 yX0_countRegions, .instanceMethod yX0_countRegions, .selects RX0 yX0_countRegions yX0_countRegions, .initialized RX0, .code yX0_countRegions cX0_countRegions 5 (some .int), .methodLink RX0 35 yX0_cellsWith, .instanceMethod yX0_cellsWith, .selects RX0 yX0_cellsWith yX0_cellsWith, .code yX0_cellsWith cX0_cellsWith 2 (some .int), .fieldLink RX0 15 "ColourTide$Tide" "sets" "[I", .methodLink RX0 62 yX0_regionFrom, .static yX0_regionFrom, .code yX0_regionFrom cX0_regionFrom 5 (some .int), .static yX1_nextTo, .code yX1_nextTo cX1_nextTo 1 (some .int)] ++ wsX10 ++ wsX00 ++ (vx_atS RX1 55 "java/lang/IndexOutOfBoundsException" ["java/lang/RuntimeException", "java/lang/Exception"]).filter goodWord)
def wsX1_greatestRegion_r1 : List Cond := [Cond.classLink RX1 51 "java/lang/IndexOutOfBoundsException", Cond.initialized "java/lang/IndexOutOfBoundsException", Cond.fieldLink RX1 12 "ColourTide" "map" "LColourTide$Tide;", Cond.methodLink RX1 108 yX1_isColour, Cond.static yX1_isColour, Cond.initialized RX1, Cond.code yX1_isColour cX1_isColour 1 (some .boolean), Cond.methodLink RX1 114 yX0_sizeOfGreatestRegion, Cond.instanceMethod yX0_sizeOfGreatestRegion, Cond.selects RX0 yX0_sizeOfGreatestRegion yX0_sizeOfGreatestRegion, Cond.initialized RX0, Cond.code yX0_sizeOfGreatestRegion cX0_sizeOfGreatestRegion 6 (some .int), Cond.methodLink RX0 65 Lib.Math.max.name, Cond.static Lib.Math.max.name, Cond.initialized "java/lang/Math", Cond.code Lib.Math.max.name Lib.Math.max.code 2 (some .int), Cond.methodLink RX0 35 yX0_cellsWith, Cond.instanceMethod yX0_cellsWith, Cond.selects RX0 yX0_cellsWith yX0_cellsWith, Cond.code yX0_cellsWith cX0_cellsWith 2 (some .int), Cond.fieldLink RX0 15 "ColourTide$Tide" "sets" "[I", Cond.methodLink RX0 62 yX0_regionFrom, Cond.static yX0_regionFrom, Cond.code yX0_regionFrom cX0_regionFrom 5 (some .int)]
def wsX1_greatestRegion_r2 : List Cond := [Cond.static yX1_nextTo, Cond.code yX1_nextTo cX1_nextTo 1 (some .int), Cond.methodLink RX0 39 yJ6_bitCount_0f7a4, Cond.static yJ6_bitCount_0f7a4, Cond.initialized RJ6, Cond.code yJ6_bitCount_0f7a4 cJ6_bitCount_0f7a4 1 (some .int), Cond.constant RJ6 265 (1431655765), Cond.constant RJ6 266 (858993459), Cond.constant RJ6 267 (252645135)]
def wsX1_greatestRegion : List Cond := .code yX1_greatestRegion cX1_greatestRegion 2 (some .int) :: ((wsX1_greatestRegion_r1 ++ wsX1_greatestRegion_r2) ++ wsX10 ++ wsX00 ++ (vx_atS RX1 55 "java/lang/IndexOutOfBoundsException" ["java/lang/RuntimeException", "java/lang/Exception"]).filter goodWord)
def wsX1_borders : List Cond := .code yX1_borders cX1_borders 1 (some .int) :: ([.fieldLink RX1 12 "ColourTide" "map" "LColourTide$Tide;", .methodLink RX1 117 yX0_countBorders, .instanceMethod yX0_countBorders, .selects RX0 yX0_countBorders yX0_countBorders, .initialized RX0, .code yX0_countBorders cX0_countBorders 3 (some .int), .fieldLink RX0 25 "ColourTide$Tide" "board" "I", .fieldLink RX0 15 "ColourTide$Tide" "sets" "[I", .methodLink RX0 35 yX0_cellsWith, .instanceMethod yX0_cellsWith, .selects RX0 yX0_cellsWith yX0_cellsWith, .code yX0_cellsWith cX0_cellsWith 2 (some .int), .methodLink RX0 70 yX0_countPairs, .static yX0_countPairs, .code yX0_countPairs cX0_countPairs 1 (some .int), .methodLink RX0 39 yJ6_bitCount_0f7a4, .static yJ6_bitCount_0f7a4, .initialized RJ6, .code yJ6_bitCount_0f7a4 cJ6_bitCount_0f7a4 1 (some .int), .constant RJ6 265 (1431655765), .constant RJ6 266 (858993459), .constant RJ6 267 (252645135)] ++ wsX10 ++ wsX00)
def wsX1_leader : List Cond := .code yX1_leader cX1_leader 5 (some .int) :: ([.fieldLink RX1 12 "ColourTide" "map" "LColourTide$Tide;", .methodLink RX1 105 yX0_count, .instanceMethod yX0_count, .selects RX0 yX0_count yX0_count, .initialized RX0, .code yX0_count cX0_count 2 (some .int), .methodLink RX0 35 yX0_cellsWith, .instanceMethod yX0_cellsWith, .selects RX0 yX0_cellsWith yX0_cellsWith, .code yX0_cellsWith cX0_cellsWith 2 (some .int), .fieldLink RX0 15 "ColourTide$Tide" "sets" "[I", .methodLink RX0 39 yJ6_bitCount_0f7a4, .static yJ6_bitCount_0f7a4, .initialized RJ6, .code yJ6_bitCount_0f7a4 cJ6_bitCount_0f7a4 1 (some .int), .constant RJ6 265 (1431655765), .constant RJ6 266 (858993459), .constant RJ6 267 (252645135)] ++ wsX10 ++ wsX00)
def wsX1_isStill : List Cond := .code yX1_isStill cX1_isStill 1 (some .boolean) :: ([.fieldLink RX1 12 "ColourTide" "map" "LColourTide$Tide;", .methodLink RX1 93 yX0_foresee, .instanceMethod yX0_foresee, .selects RX0 yX0_foresee yX0_foresee, .initialized RX0, .code yX0_foresee cX0_foresee 3 (some .int), .fieldLink RX0 22 "ColourTide$Tide" "gains" "[I", .fieldLink RX0 9 "ColourTide$Tide" "need" "I", .fieldLink RX0 15 "ColourTide$Tide" "sets" "[I", .methodLink RX0 56 yX0_addGains, .instanceMethod yX0_addGains, .selects RX0 yX0_addGains yX0_addGains, .code yX0_addGains cX0_addGains 5 none, .fieldLink RX0 19 "ColourTide$Tide" "crowds" "[I", .fieldLink RX0 25 "ColourTide$Tide" "board" "I", .fieldLink RX0 32 "ColourTide$Tide" "stubborn" "I", .methodLink RX0 73 yX0_withNeighbours, .static yX0_withNeighbours, .code yX0_withNeighbours cX0_withNeighbours 6 (some .int)] ++ wsX10 ++ wsX00)
def wsX1_winner : List Cond := .code yX1_winner cX1_winner 2 (some .int) :: ([.fieldLink RX1 12 "ColourTide" "map" "LColourTide$Tide;", .methodLink RX1 120 yX0_isAll, .instanceMethod yX0_isAll, .selects RX0 yX0_isAll yX0_isAll, .initialized RX0, .code yX0_isAll cX0_isAll 2 (some .boolean), .fieldLink RX0 25 "ColourTide$Tide" "board" "I", .methodLink RX0 35 yX0_cellsWith, .instanceMethod yX0_cellsWith, .selects RX0 yX0_cellsWith yX0_cellsWith, .code yX0_cellsWith cX0_cellsWith 2 (some .int), .fieldLink RX0 15 "ColourTide$Tide" "sets" "[I"] ++ wsX10 ++ wsX00)
def wsX1_share_r1 : List Cond := [Cond.classLink RX1 51 "java/lang/IndexOutOfBoundsException", Cond.initialized "java/lang/IndexOutOfBoundsException", Cond.fieldLink RX1 19 "ColourTide" "width" "I", Cond.fieldLink RX1 23 "ColourTide" "height" "I", Cond.fieldLink RX1 12 "ColourTide" "map" "LColourTide$Tide;", Cond.methodLink RX1 48 yX1_isColourOrBare, Cond.static yX1_isColourOrBare, Cond.initialized RX1, Cond.code yX1_isColourOrBare cX1_isColourOrBare 1 (some .boolean), Cond.methodLink RX1 108 yX1_isColour, Cond.static yX1_isColour, Cond.code yX1_isColour cX1_isColour 1 (some .boolean), Cond.methodLink RX1 105 yX0_count, Cond.instanceMethod yX0_count, Cond.selects RX0 yX0_count yX0_count, Cond.initialized RX0, Cond.code yX0_count cX0_count 2 (some .int), Cond.methodLink RX0 35 yX0_cellsWith, Cond.instanceMethod yX0_cellsWith, Cond.selects RX0 yX0_cellsWith yX0_cellsWith, Cond.code yX0_cellsWith cX0_cellsWith 2 (some .int), Cond.fieldLink RX0 15 "ColourTide$Tide" "sets" "[I", Cond.methodLink RX0 39 yJ6_bitCount_0f7a4, Cond.static yJ6_bitCount_0f7a4]
def wsX1_share_r2 : List Cond := [Cond.initialized RJ6, Cond.code yJ6_bitCount_0f7a4 cJ6_bitCount_0f7a4 1 (some .int), Cond.constant RJ6 265 (1431655765), Cond.constant RJ6 266 (858993459), Cond.constant RJ6 267 (252645135)]
def wsX1_share : List Cond := .code yX1_share cX1_share 3 (some .double) :: ((wsX1_share_r1 ++ wsX1_share_r2) ++ wsX10 ++ wsX00 ++ (vx_atS RX1 55 "java/lang/IndexOutOfBoundsException" ["java/lang/RuntimeException", "java/lang/Exception"]).filter goodWord)
def wsX2_init : List Cond := .code yX2_init cX2_init 3 none :: ([.methodLink RX2 1 objectInit, .instanceMethod objectInit, .code objectInit ⟨#[0xb1]⟩ 1 none, .fieldLink RX2 7 "ColourTideLaw$Sim" "need" "I", .fieldLink RX2 13 "ColourTideLaw$Sim" "w" "I", .fieldLink RX2 16 "ColourTideLaw$Sim" "h" "I", .classLink RX2 19 "[[I", .arrayClass .int, .fieldLink RX2 21 "ColourTideLaw$Sim" "map" "[[I", .classLink RX2 24 "[[Z", .arrayClass .boolean, .fieldLink RX2 26 "ColourTideLaw$Sim" "stubborn" "[[Z"] ++ wsX20)
def wsX2_at : List Cond := .code yX2_at cX2_at 3 (some .int) :: ([.fieldLink RX2 13 "ColourTideLaw$Sim" "w" "I", .fieldLink RX2 16 "ColourTideLaw$Sim" "h" "I", .fieldLink RX2 21 "ColourTideLaw$Sim" "map" "[[I"] ++ wsX20)
def wsX2_beside : List Cond := .code yX2_beside cX2_beside 4 (some .int) :: ([.methodLink RX2 29 yX2_at, .instanceMethod yX2_at, .selects RX2 yX2_at yX2_at, .initialized RX2, .code yX2_at cX2_at 3 (some .int), .fieldLink RX2 13 "ColourTideLaw$Sim" "w" "I", .fieldLink RX2 16 "ColourTideLaw$Sim" "h" "I", .fieldLink RX2 21 "ColourTideLaw$Sim" "map" "[[I"] ++ wsX20)
def wsX2_bare : List Cond := .code yX2_bare cX2_bare 4 (some .int) :: ([.fieldLink RX2 13 "ColourTideLaw$Sim" "w" "I", .fieldLink RX2 16 "ColourTideLaw$Sim" "h" "I", .methodLink RX2 33 yX2_beside, .instanceMethod yX2_beside, .selects RX2 yX2_beside yX2_beside, .initialized RX2, .code yX2_beside cX2_beside 4 (some .int), .methodLink RX2 29 yX2_at, .instanceMethod yX2_at, .selects RX2 yX2_at yX2_at, .code yX2_at cX2_at 3 (some .int), .fieldLink RX2 21 "ColourTideLaw$Sim" "map" "[[I"] ++ wsX20)
def wsX2_next : List Cond := .code yX2_next cX2_next 7 (some .int) :: ([.fieldLink RX2 26 "ColourTideLaw$Sim" "stubborn" "[[Z", .fieldLink RX2 21 "ColourTideLaw$Sim" "map" "[[I", .fieldLink RX2 7 "ColourTideLaw$Sim" "need" "I", .methodLink RX2 33 yX2_beside, .instanceMethod yX2_beside, .selects RX2 yX2_beside yX2_beside, .initialized RX2, .code yX2_beside cX2_beside 4 (some .int), .methodLink RX2 29 yX2_at, .instanceMethod yX2_at, .selects RX2 yX2_at yX2_at, .code yX2_at cX2_at 3 (some .int), .fieldLink RX2 13 "ColourTideLaw$Sim" "w" "I", .fieldLink RX2 16 "ColourTideLaw$Sim" "h" "I"] ++ wsX20)
def wsX2_wave : List Cond := .code yX2_wave cX2_wave 5 (some .int) :: ([.fieldLink RX2 13 "ColourTideLaw$Sim" "w" "I", .fieldLink RX2 16 "ColourTideLaw$Sim" "h" "I", .classLink RX2 19 "[[I", .arrayClass .int, .fieldLink RX2 21 "ColourTideLaw$Sim" "map" "[[I", .methodLink RX2 37 yX2_next, .instanceMethod yX2_next, .selects RX2 yX2_next yX2_next, .initialized RX2, .code yX2_next cX2_next 7 (some .int), .fieldLink RX2 26 "ColourTideLaw$Sim" "stubborn" "[[Z", .fieldLink RX2 7 "ColourTideLaw$Sim" "need" "I", .methodLink RX2 33 yX2_beside, .instanceMethod yX2_beside, .selects RX2 yX2_beside yX2_beside, .code yX2_beside cX2_beside 4 (some .int), .methodLink RX2 29 yX2_at, .instanceMethod yX2_at, .selects RX2 yX2_at yX2_at, .code yX2_at cX2_at 3 (some .int)] ++ wsX20)
def wsX2_cells : List Cond := .code yX2_cells cX2_cells 11 (some .int) :: ([.fieldLink RX2 21 "ColourTideLaw$Sim" "map" "[[I"] ++ wsX20)
def wsX2_regions : List Cond := .code yX2_regions cX2_regions 6 (some (.array (.array .int))) :: ([.fieldLink RX2 13 "ColourTideLaw$Sim" "w" "I", .fieldLink RX2 16 "ColourTideLaw$Sim" "h" "I", .classLink RX2 19 "[[I", .arrayClass .int, .fieldLink RX2 21 "ColourTideLaw$Sim" "map" "[[I", .methodLink RX2 46 Lib.Math.min.name, .static Lib.Math.min.name, .initialized "java/lang/Math", .code Lib.Math.min.name Lib.Math.min.code 2 (some .int), .methodLink RX2 29 yX2_at, .instanceMethod yX2_at, .selects RX2 yX2_at yX2_at, .initialized RX2, .code yX2_at cX2_at 3 (some .int)] ++ wsX20)
def wsX2_isSame_r1 : List Cond := [Cond.fieldLink RX2 13 "ColourTideLaw$Sim" "w" "I", Cond.fieldLink RX2 16 "ColourTideLaw$Sim" "h" "I", Cond.fieldLink RX2 7 "ColourTideLaw$Sim" "need" "I", Cond.fieldLink RX2 43 "ColourTideLaw$Sim" "waves" "I", Cond.arrayClass .int, Cond.fieldLink RX2 26 "ColourTideLaw$Sim" "stubborn" "[[Z", Cond.fieldLink RX2 21 "ColourTideLaw$Sim" "map" "[[I", Cond.methodLink RX2 79 Lib.Math.max.name, Cond.static Lib.Math.max.name, Cond.initialized "java/lang/Math", Cond.code Lib.Math.max.name Lib.Math.max.code 2 (some .int), Cond.methodLink RX2 63 yX1_width, Cond.instanceMethod yX1_width, Cond.selects RX1 yX1_width yX1_width, Cond.initialized RX1, Cond.code yX1_width cX1_width 1 (some .int), Cond.fieldLink RX1 19 "ColourTide" "width" "I", Cond.methodLink RX2 68 yX1_height, Cond.instanceMethod yX1_height, Cond.selects RX1 yX1_height yX1_height, Cond.code yX1_height cX1_height 1 (some .int), Cond.fieldLink RX1 23 "ColourTide" "height" "I", Cond.methodLink RX2 71 yX1_need, Cond.instanceMethod yX1_need]
def wsX2_isSame_r2 : List Cond := [Cond.selects RX1 yX1_need yX1_need, Cond.code yX1_need cX1_need 1 (some .int), Cond.fieldLink RX1 12 "ColourTide" "map" "LColourTide$Tide;", Cond.fieldLink RX1 74 "ColourTide$Tide" "need" "I", Cond.methodLink RX2 73 yX1_waves, Cond.instanceMethod yX1_waves, Cond.selects RX1 yX1_waves yX1_waves, Cond.code yX1_waves cX1_waves 1 (some .int), Cond.fieldLink RX1 26 "ColourTide" "waves" "I", Cond.methodLink RX2 75 yX2_regions, Cond.instanceMethod yX2_regions, Cond.selects RX2 yX2_regions yX2_regions, Cond.initialized RX2, Cond.code yX2_regions cX2_regions 6 (some (.array (.array .int))), Cond.classLink RX2 19 "[[I", Cond.methodLink RX2 46 Lib.Math.min.name, Cond.static Lib.Math.min.name, Cond.code Lib.Math.min.name Lib.Math.min.code 2 (some .int), Cond.methodLink RX2 29 yX2_at, Cond.instanceMethod yX2_at, Cond.selects RX2 yX2_at yX2_at, Cond.code yX2_at cX2_at 3 (some .int), Cond.methodLink RX2 37 yX2_next, Cond.instanceMethod yX2_next]
def wsX2_isSame_r3 : List Cond := [Cond.selects RX2 yX2_next yX2_next, Cond.code yX2_next cX2_next 7 (some .int), Cond.methodLink RX2 33 yX2_beside, Cond.instanceMethod yX2_beside, Cond.selects RX2 yX2_beside yX2_beside, Cond.code yX2_beside cX2_beside 4 (some .int), Cond.methodLink RX2 82 yX1_regionsOf, Cond.instanceMethod yX1_regionsOf, Cond.selects RX1 yX1_regionsOf yX1_regionsOf, Cond.code yX1_regionsOf cX1_regionsOf 2 (some .int), Cond.classLink RX1 51 "java/lang/IndexOutOfBoundsException", Cond.initialized "java/lang/IndexOutOfBoundsException", Cond.methodLink RX1 108 yX1_isColour, Cond.static yX1_isColour, Cond.code yX1_isColour cX1_isColour 1 (some .boolean), Cond.methodLink RX1 111 yX0_countRegions, Cond.instanceMethod yX0_countRegions, Cond.selects RX0 yX0_countRegions yX0_countRegions, Cond.initialized RX0, Cond.code yX0_countRegions cX0_countRegions 5 (some .int), Cond.methodLink RX0 35 yX0_cellsWith, Cond.instanceMethod yX0_cellsWith, Cond.selects RX0 yX0_cellsWith yX0_cellsWith, Cond.code yX0_cellsWith cX0_cellsWith 2 (some .int)]
def wsX2_isSame_r4 : List Cond := [Cond.fieldLink RX0 15 "ColourTide$Tide" "sets" "[I", Cond.methodLink RX0 62 yX0_regionFrom, Cond.static yX0_regionFrom, Cond.code yX0_regionFrom cX0_regionFrom 5 (some .int), Cond.static yX1_nextTo, Cond.code yX1_nextTo cX1_nextTo 1 (some .int), Cond.methodLink RX2 85 yX1_greatestRegion, Cond.instanceMethod yX1_greatestRegion, Cond.selects RX1 yX1_greatestRegion yX1_greatestRegion, Cond.code yX1_greatestRegion cX1_greatestRegion 2 (some .int), Cond.methodLink RX1 114 yX0_sizeOfGreatestRegion, Cond.instanceMethod yX0_sizeOfGreatestRegion, Cond.selects RX0 yX0_sizeOfGreatestRegion yX0_sizeOfGreatestRegion, Cond.code yX0_sizeOfGreatestRegion cX0_sizeOfGreatestRegion 6 (some .int), Cond.methodLink RX0 65 Lib.Math.max.name, Cond.methodLink RX0 39 yJ6_bitCount_0f7a4, Cond.static yJ6_bitCount_0f7a4, Cond.initialized RJ6, Cond.code yJ6_bitCount_0f7a4 cJ6_bitCount_0f7a4 1 (some .int), Cond.constant RJ6 265 (1431655765), Cond.constant RJ6 266 (858993459), Cond.constant RJ6 267 (252645135), Cond.methodLink RX2 55 yX2_cells, Cond.instanceMethod yX2_cells]
def wsX2_isSame_r5 : List Cond := [Cond.selects RX2 yX2_cells yX2_cells, Cond.code yX2_cells cX2_cells 11 (some .int), Cond.methodLink RX2 88 yX1_cellsOf, Cond.instanceMethod yX1_cellsOf, Cond.selects RX1 yX1_cellsOf yX1_cellsOf, Cond.code yX1_cellsOf cX1_cellsOf 2 (some .int), Cond.methodLink RX1 48 yX1_isColourOrBare, Cond.static yX1_isColourOrBare, Cond.code yX1_isColourOrBare cX1_isColourOrBare 1 (some .boolean), Cond.methodLink RX1 105 yX0_count, Cond.instanceMethod yX0_count, Cond.selects RX0 yX0_count yX0_count, Cond.code yX0_count cX0_count 2 (some .int), Cond.methodLink RX2 91 yX1_share, Cond.instanceMethod yX1_share, Cond.selects RX1 yX1_share yX1_share, Cond.code yX1_share cX1_share 3 (some .double), Cond.methodLink RX2 95 yX1_colourAt, Cond.instanceMethod yX1_colourAt, Cond.selects RX1 yX1_colourAt yX1_colourAt, Cond.code yX1_colourAt cX1_colourAt 3 (some .int), Cond.methodLink RX1 44 yX1_isOnMap, Cond.instanceMethod yX1_isOnMap, Cond.selects RX1 yX1_isOnMap yX1_isOnMap]
def wsX2_isSame_r6 : List Cond := [Cond.code yX1_isOnMap cX1_isOnMap 3 (some .boolean), Cond.methodLink RX1 56 yX1_cell, Cond.static yX1_cell, Cond.code yX1_cell cX1_cell 2 (some .int), Cond.methodLink RX1 60 yX0_colourOf, Cond.instanceMethod yX0_colourOf, Cond.selects RX0 yX0_colourOf yX0_colourOf, Cond.code yX0_colourOf cX0_colourOf 2 (some .int), Cond.methodLink RX0 44 yX0_firstColourWith, Cond.static yX0_firstColourWith, Cond.code yX0_firstColourWith cX0_firstColourWith 3 (some .int), Cond.methodLink RX2 98 yX1_isStubborn, Cond.instanceMethod yX1_isStubborn, Cond.selects RX1 yX1_isStubborn yX1_isStubborn, Cond.code yX1_isStubborn cX1_isStubborn 3 (some .boolean), Cond.fieldLink RX1 69 "ColourTide$Tide" "stubborn" "I", Cond.methodLink RX2 102 yX1_nextColour, Cond.instanceMethod yX1_nextColour, Cond.selects RX1 yX1_nextColour yX1_nextColour, Cond.code yX1_nextColour cX1_nextColour 3 (some .int), Cond.methodLink RX1 93 yX0_foresee, Cond.instanceMethod yX0_foresee, Cond.selects RX0 yX0_foresee yX0_foresee, Cond.code yX0_foresee cX0_foresee 3 (some .int)]
def wsX2_isSame_r7 : List Cond := [Cond.fieldLink RX0 22 "ColourTide$Tide" "gains" "[I", Cond.fieldLink RX0 9 "ColourTide$Tide" "need" "I", Cond.methodLink RX0 56 yX0_addGains, Cond.instanceMethod yX0_addGains, Cond.selects RX0 yX0_addGains yX0_addGains, Cond.code yX0_addGains cX0_addGains 5 none, Cond.fieldLink RX0 19 "ColourTide$Tide" "crowds" "[I", Cond.fieldLink RX0 25 "ColourTide$Tide" "board" "I", Cond.fieldLink RX0 32 "ColourTide$Tide" "stubborn" "I", Cond.methodLink RX0 73 yX0_withNeighbours, Cond.static yX0_withNeighbours, Cond.code yX0_withNeighbours cX0_withNeighbours 6 (some .int), Cond.methodLink RX1 97 yX0_foreseenColourOf, Cond.instanceMethod yX0_foreseenColourOf, Cond.selects RX0 yX0_foreseenColourOf yX0_foreseenColourOf, Cond.code yX0_foreseenColourOf cX0_foreseenColourOf 3 (some .int), Cond.methodLink RX0 59 yX0_colourOf, Cond.methodLink RX2 105 yX1_regionSize, Cond.instanceMethod yX1_regionSize, Cond.selects RX1 yX1_regionSize yX1_regionSize, Cond.code yX1_regionSize cX1_regionSize 3 (some .int), Cond.methodLink RX1 100 yX0_sizeOfRegion, Cond.instanceMethod yX0_sizeOfRegion, Cond.selects RX0 yX0_sizeOfRegion yX0_sizeOfRegion]
def wsX2_isSame_r8 : List Cond := [Cond.code yX0_sizeOfRegion cX0_sizeOfRegion 3 (some .int), Cond.methodLink RX2 108 yX1_neighboursWith, Cond.instanceMethod yX1_neighboursWith, Cond.selects RX1 yX1_neighboursWith yX1_neighboursWith, Cond.code yX1_neighboursWith cX1_neighboursWith 4 (some .int), Cond.methodLink RX1 87 yX1_nextTo, Cond.methodLink RX1 90 yX0_cellsWith, Cond.methodLink RX1 82 yJ6_bitCount_0f7a4, Cond.methodLink RX2 111 yX2_bare, Cond.instanceMethod yX2_bare, Cond.selects RX2 yX2_bare yX2_bare, Cond.code yX2_bare cX2_bare 4 (some .int), Cond.methodLink RX2 114 yX1_stubbornCells, Cond.instanceMethod yX1_stubbornCells, Cond.selects RX1 yX1_stubbornCells yX1_stubbornCells, Cond.code yX1_stubbornCells cX1_stubbornCells 1 (some .int), Cond.methodLink RX2 117 yX1_borders, Cond.instanceMethod yX1_borders, Cond.selects RX1 yX1_borders yX1_borders, Cond.code yX1_borders cX1_borders 1 (some .int), Cond.methodLink RX1 117 yX0_countBorders, Cond.instanceMethod yX0_countBorders, Cond.selects RX0 yX0_countBorders yX0_countBorders, Cond.code yX0_countBorders cX0_countBorders 3 (some .int)]
def wsX2_isSame_r9 : List Cond := [Cond.methodLink RX0 70 yX0_countPairs, Cond.static yX0_countPairs, Cond.code yX0_countPairs cX0_countPairs 1 (some .int), Cond.methodLink RX2 120 yX1_leader, Cond.instanceMethod yX1_leader, Cond.selects RX1 yX1_leader yX1_leader, Cond.code yX1_leader cX1_leader 5 (some .int), Cond.methodLink RX2 123 yX1_winner, Cond.instanceMethod yX1_winner, Cond.selects RX1 yX1_winner yX1_winner, Cond.code yX1_winner cX1_winner 2 (some .int), Cond.methodLink RX1 120 yX0_isAll, Cond.instanceMethod yX0_isAll, Cond.selects RX0 yX0_isAll yX0_isAll, Cond.code yX0_isAll cX0_isAll 2 (some .boolean), Cond.methodLink RX2 126 yX1_isStill, Cond.instanceMethod yX1_isStill, Cond.selects RX1 yX1_isStill yX1_isStill, Cond.code yX1_isStill cX1_isStill 1 (some .boolean)]
def wsX2_isSame : List Cond := .code yX2_isSame cX2_isSame 14 (some .boolean) :: ((wsX2_isSame_r1 ++ (wsX2_isSame_r2 ++ (wsX2_isSame_r3 ++ (wsX2_isSame_r4 ++ (wsX2_isSame_r5 ++ (wsX2_isSame_r6 ++ (wsX2_isSame_r7 ++ (wsX2_isSame_r8 ++ wsX2_isSame_r9)))))))) ++ wsX20 ++ wsX10 ++ wsX00 ++ (vx_atS RX1 55 "java/lang/IndexOutOfBoundsException" ["java/lang/RuntimeException", "java/lang/Exception"]).filter goodWord)
def wsJ9_max_7cf53 : List Cond := .code yJ9_max_7cf53 cJ9_max_7cf53 2 (some .int) :: ([])
def wsJ9_min_7cf53 : List Cond := .code yJ9_min_7cf53 cJ9_min_7cf53 2 (some .int) :: ([])
def wsL_below : List Cond := .code yL_below cL_below 2 (some .int) :: ([.constant RL 7 (2147483647)])
def wsL_cell : List Cond := .code yL_cell cL_cell 2 (some .int) :: ([.constant RL 8 (790386105)])
def wsL_act_r1 : List Cond := [Cond.fieldLink RL 9 "ColourTideLaw$Sim" "w" "I", Cond.fieldLink RL 21 "ColourTideLaw$Sim" "h" "I", Cond.classLink RL 10 RX2, Cond.instantiable RX2 6, Cond.initialized RX2, Cond.fieldLink RL 27 "ColourTideLaw$Sim" "need" "I", Cond.fieldLink RL 35 "ColourTideLaw$Sim" "stubborn" "[[Z", Cond.fieldLink RL 51 "ColourTideLaw$Sim" "waves" "I", Cond.fieldLink RL 57 "ColourTideLaw$Sim" "map" "[[I", Cond.methodLink RL 15 yL_below, Cond.static yL_below, Cond.initialized RL, Cond.code yL_below cL_below 2 (some .int), Cond.constant RL 7 (2147483647), Cond.methodLink RL 24 yX2_init, Cond.instanceMethod yX2_init, Cond.code yX2_init cX2_init 3 none, Cond.methodLink RX2 1 objectInit, Cond.instanceMethod objectInit, Cond.code objectInit ⟨#[0xb1]⟩ 1 none, Cond.fieldLink RX2 7 "ColourTideLaw$Sim" "need" "I", Cond.fieldLink RX2 13 "ColourTideLaw$Sim" "w" "I", Cond.fieldLink RX2 16 "ColourTideLaw$Sim" "h" "I", Cond.classLink RX2 19 "[[I"]
def wsL_act_r2 : List Cond := [Cond.arrayClass .int, Cond.fieldLink RX2 21 "ColourTideLaw$Sim" "map" "[[I", Cond.classLink RX2 24 "[[Z", Cond.arrayClass .boolean, Cond.fieldLink RX2 26 "ColourTideLaw$Sim" "stubborn" "[[Z", Cond.methodLink RL 30 yX1_newMap, Cond.instanceMethod yX1_newMap, Cond.selects RX1 yX1_newMap yX1_newMap, Cond.initialized RX1, Cond.code yX1_newMap cX1_newMap 3 (some .int), Cond.classLink RX1 37 "java/lang/IllegalArgumentException", Cond.initialized "java/lang/IllegalArgumentException", Cond.fieldLink RX1 19 "ColourTide" "width" "I", Cond.fieldLink RX1 23 "ColourTide" "height" "I", Cond.fieldLink RX1 26 "ColourTide" "waves" "I", Cond.fieldLink RX1 12 "ColourTide" "map" "LColourTide$Tide;", Cond.methodLink RX1 33 yX1_isSide, Cond.static yX1_isSide, Cond.code yX1_isSide cX1_isSide 1 (some .boolean), Cond.methodLink RX1 29 yX0_clear, Cond.instanceMethod yX0_clear, Cond.selects RX0 yX0_clear yX0_clear, Cond.initialized RX0, Cond.code yX0_clear cX0_clear 5 none]
def wsL_act_r3 : List Cond := [Cond.fieldLink RX0 25 "ColourTide$Tide" "board" "I", Cond.fieldLink RX0 32 "ColourTide$Tide" "stubborn" "I", Cond.fieldLink RX0 15 "ColourTide$Tide" "sets" "[I", Cond.static yX1_cell, Cond.code yX1_cell cX1_cell 2 (some .int), Cond.methodLink RL 39 yX1_turnStubborn, Cond.instanceMethod yX1_turnStubborn, Cond.selects RX1 yX1_turnStubborn yX1_turnStubborn, Cond.code yX1_turnStubborn cX1_turnStubborn 3 (some .boolean), Cond.classLink RX1 51 "java/lang/IndexOutOfBoundsException", Cond.initialized "java/lang/IndexOutOfBoundsException", Cond.fieldLink RX1 69 "ColourTide$Tide" "stubborn" "I", Cond.methodLink RX1 44 yX1_isOnMap, Cond.instanceMethod yX1_isOnMap, Cond.selects RX1 yX1_isOnMap yX1_isOnMap, Cond.code yX1_isOnMap cX1_isOnMap 3 (some .boolean), Cond.methodLink RX1 56 yX1_cell, Cond.methodLink RL 43 yX1_setNeed, Cond.instanceMethod yX1_setNeed, Cond.selects RX1 yX1_setNeed yX1_setNeed, Cond.code yX1_setNeed cX1_setNeed 3 (some .int), Cond.fieldLink RX1 74 "ColourTide$Tide" "need" "I", Cond.methodLink RL 47 yX2_wave, Cond.instanceMethod yX2_wave]
def wsL_act_r4 : List Cond := [Cond.selects RX2 yX2_wave yX2_wave, Cond.code yX2_wave cX2_wave 5 (some .int), Cond.methodLink RX2 37 yX2_next, Cond.instanceMethod yX2_next, Cond.selects RX2 yX2_next yX2_next, Cond.code yX2_next cX2_next 7 (some .int), Cond.methodLink RX2 33 yX2_beside, Cond.instanceMethod yX2_beside, Cond.selects RX2 yX2_beside yX2_beside, Cond.code yX2_beside cX2_beside 4 (some .int), Cond.methodLink RX2 29 yX2_at, Cond.instanceMethod yX2_at, Cond.selects RX2 yX2_at yX2_at, Cond.code yX2_at cX2_at 3 (some .int), Cond.methodLink RL 54 yX1_pass, Cond.instanceMethod yX1_pass, Cond.selects RX1 yX1_pass yX1_pass, Cond.code yX1_pass cX1_pass 2 (some .int), Cond.methodLink RX1 79 yX0_surge, Cond.instanceMethod yX0_surge, Cond.selects RX0 yX0_surge yX0_surge, Cond.code yX0_surge cX0_surge 4 (some .int), Cond.methodLink RX0 48 yX0_foresee, Cond.instanceMethod yX0_foresee]
def wsL_act_r5 : List Cond := [Cond.selects RX0 yX0_foresee yX0_foresee, Cond.code yX0_foresee cX0_foresee 3 (some .int), Cond.fieldLink RX0 22 "ColourTide$Tide" "gains" "[I", Cond.fieldLink RX0 9 "ColourTide$Tide" "need" "I", Cond.methodLink RX0 56 yX0_addGains, Cond.instanceMethod yX0_addGains, Cond.selects RX0 yX0_addGains yX0_addGains, Cond.code yX0_addGains cX0_addGains 5 none, Cond.fieldLink RX0 19 "ColourTide$Tide" "crowds" "[I", Cond.methodLink RX0 73 yX0_withNeighbours, Cond.static yX0_withNeighbours, Cond.code yX0_withNeighbours cX0_withNeighbours 6 (some .int), Cond.methodLink RX0 52 yX0_takeGains, Cond.instanceMethod yX0_takeGains, Cond.selects RX0 yX0_takeGains yX0_takeGains, Cond.code yX0_takeGains cX0_takeGains 3 none, Cond.methodLink RX1 82 yJ6_bitCount_0f7a4, Cond.static yJ6_bitCount_0f7a4, Cond.initialized RJ6, Cond.code yJ6_bitCount_0f7a4 cJ6_bitCount_0f7a4 1 (some .int), Cond.constant RJ6 265 (1431655765), Cond.constant RJ6 266 (858993459), Cond.constant RJ6 267 (252645135), Cond.methodLink RL 61 yX1_paint]
def wsL_act_r6 : List Cond := [Cond.instanceMethod yX1_paint, Cond.selects RX1 yX1_paint yX1_paint, Cond.code yX1_paint cX1_paint 5 (some .int), Cond.methodLink RX1 48 yX1_isColourOrBare, Cond.static yX1_isColourOrBare, Cond.code yX1_isColourOrBare cX1_isColourOrBare 1 (some .boolean), Cond.methodLink RX1 108 yX1_isColour, Cond.static yX1_isColour, Cond.code yX1_isColour cX1_isColour 1 (some .boolean), Cond.methodLink RX1 60 yX0_colourOf, Cond.instanceMethod yX0_colourOf, Cond.selects RX0 yX0_colourOf yX0_colourOf, Cond.code yX0_colourOf cX0_colourOf 2 (some .int), Cond.methodLink RX0 44 yX0_firstColourWith, Cond.static yX0_firstColourWith, Cond.code yX0_firstColourWith cX0_firstColourWith 3 (some .int), Cond.methodLink RX1 64 yX0_dye, Cond.instanceMethod yX0_dye, Cond.selects RX0 yX0_dye yX0_dye, Cond.code yX0_dye cX0_dye 4 none]
def wsL_act : List Cond := .code yL_act cL_act 10 (some (.object "ColourTideLaw$Sim")) :: ((wsL_act_r1 ++ (wsL_act_r2 ++ (wsL_act_r3 ++ (wsL_act_r4 ++ (wsL_act_r5 ++ wsL_act_r6))))) ++ wsX20 ++ wsX10 ++ wsX00 ++ (vx_atS RX1 41 "java/lang/IllegalArgumentException" ["java/lang/RuntimeException", "java/lang/Exception"]).filter goodWord ++ (vx_atS RX1 55 "java/lang/IndexOutOfBoundsException" ["java/lang/RuntimeException", "java/lang/Exception"]).filter goodWord)
def wsL_build_r1 : List Cond := [Cond.classLink RL 10 RX2, Cond.instantiable RX2 6, Cond.initialized RX2, Cond.fieldLink RL 9 "ColourTideLaw$Sim" "w" "I", Cond.fieldLink RL 21 "ColourTideLaw$Sim" "h" "I", Cond.methodLink RL 65 yL_cell, Cond.static yL_cell, Cond.initialized RL, Cond.code yL_cell cL_cell 2 (some .int), Cond.constant RL 8 (790386105), Cond.methodLink RL 15 yL_below, Cond.static yL_below, Cond.code yL_below cL_below 2 (some .int), Cond.constant RL 7 (2147483647), Cond.methodLink RL 24 yX2_init, Cond.instanceMethod yX2_init, Cond.code yX2_init cX2_init 3 none, Cond.methodLink RX2 1 objectInit, Cond.instanceMethod objectInit, Cond.code objectInit ⟨#[0xb1]⟩ 1 none, Cond.fieldLink RX2 7 "ColourTideLaw$Sim" "need" "I", Cond.fieldLink RX2 13 "ColourTideLaw$Sim" "w" "I", Cond.fieldLink RX2 16 "ColourTideLaw$Sim" "h" "I", Cond.classLink RX2 19 "[[I"]
def wsL_build_r2 : List Cond := [Cond.arrayClass .int, Cond.fieldLink RX2 21 "ColourTideLaw$Sim" "map" "[[I", Cond.classLink RX2 24 "[[Z", Cond.arrayClass .boolean, Cond.fieldLink RX2 26 "ColourTideLaw$Sim" "stubborn" "[[Z", Cond.methodLink RL 30 yX1_newMap, Cond.instanceMethod yX1_newMap, Cond.selects RX1 yX1_newMap yX1_newMap, Cond.initialized RX1, Cond.code yX1_newMap cX1_newMap 3 (some .int), Cond.classLink RX1 37 "java/lang/IllegalArgumentException", Cond.initialized "java/lang/IllegalArgumentException", Cond.fieldLink RX1 19 "ColourTide" "width" "I", Cond.fieldLink RX1 23 "ColourTide" "height" "I", Cond.fieldLink RX1 26 "ColourTide" "waves" "I", Cond.fieldLink RX1 12 "ColourTide" "map" "LColourTide$Tide;", Cond.methodLink RX1 33 yX1_isSide, Cond.static yX1_isSide, Cond.code yX1_isSide cX1_isSide 1 (some .boolean), Cond.methodLink RX1 29 yX0_clear, Cond.instanceMethod yX0_clear, Cond.selects RX0 yX0_clear yX0_clear, Cond.initialized RX0, Cond.code yX0_clear cX0_clear 5 none]
def wsL_build_r3 : List Cond := [Cond.fieldLink RX0 25 "ColourTide$Tide" "board" "I", Cond.fieldLink RX0 32 "ColourTide$Tide" "stubborn" "I", Cond.fieldLink RX0 15 "ColourTide$Tide" "sets" "[I", Cond.static yX1_cell, Cond.code yX1_cell cX1_cell 2 (some .int), Cond.methodLink RL 69 yL_act, Cond.static yL_act, Cond.code yL_act cL_act 10 (some (.object "ColourTideLaw$Sim")), Cond.fieldLink RL 27 "ColourTideLaw$Sim" "need" "I", Cond.fieldLink RL 35 "ColourTideLaw$Sim" "stubborn" "[[Z", Cond.fieldLink RL 51 "ColourTideLaw$Sim" "waves" "I", Cond.fieldLink RL 57 "ColourTideLaw$Sim" "map" "[[I", Cond.methodLink RL 39 yX1_turnStubborn, Cond.instanceMethod yX1_turnStubborn, Cond.selects RX1 yX1_turnStubborn yX1_turnStubborn, Cond.code yX1_turnStubborn cX1_turnStubborn 3 (some .boolean), Cond.classLink RX1 51 "java/lang/IndexOutOfBoundsException", Cond.initialized "java/lang/IndexOutOfBoundsException", Cond.fieldLink RX1 69 "ColourTide$Tide" "stubborn" "I", Cond.methodLink RX1 44 yX1_isOnMap, Cond.instanceMethod yX1_isOnMap, Cond.selects RX1 yX1_isOnMap yX1_isOnMap, Cond.code yX1_isOnMap cX1_isOnMap 3 (some .boolean), Cond.methodLink RX1 56 yX1_cell]
def wsL_build_r4 : List Cond := [Cond.methodLink RL 43 yX1_setNeed, Cond.instanceMethod yX1_setNeed, Cond.selects RX1 yX1_setNeed yX1_setNeed, Cond.code yX1_setNeed cX1_setNeed 3 (some .int), Cond.fieldLink RX1 74 "ColourTide$Tide" "need" "I", Cond.methodLink RL 47 yX2_wave, Cond.instanceMethod yX2_wave, Cond.selects RX2 yX2_wave yX2_wave, Cond.code yX2_wave cX2_wave 5 (some .int), Cond.methodLink RX2 37 yX2_next, Cond.instanceMethod yX2_next, Cond.selects RX2 yX2_next yX2_next, Cond.code yX2_next cX2_next 7 (some .int), Cond.methodLink RX2 33 yX2_beside, Cond.instanceMethod yX2_beside, Cond.selects RX2 yX2_beside yX2_beside, Cond.code yX2_beside cX2_beside 4 (some .int), Cond.methodLink RX2 29 yX2_at, Cond.instanceMethod yX2_at, Cond.selects RX2 yX2_at yX2_at, Cond.code yX2_at cX2_at 3 (some .int), Cond.methodLink RL 54 yX1_pass, Cond.instanceMethod yX1_pass, Cond.selects RX1 yX1_pass yX1_pass]
def wsL_build_r5 : List Cond := [Cond.code yX1_pass cX1_pass 2 (some .int), Cond.methodLink RX1 79 yX0_surge, Cond.instanceMethod yX0_surge, Cond.selects RX0 yX0_surge yX0_surge, Cond.code yX0_surge cX0_surge 4 (some .int), Cond.methodLink RX0 48 yX0_foresee, Cond.instanceMethod yX0_foresee, Cond.selects RX0 yX0_foresee yX0_foresee, Cond.code yX0_foresee cX0_foresee 3 (some .int), Cond.fieldLink RX0 22 "ColourTide$Tide" "gains" "[I", Cond.fieldLink RX0 9 "ColourTide$Tide" "need" "I", Cond.methodLink RX0 56 yX0_addGains, Cond.instanceMethod yX0_addGains, Cond.selects RX0 yX0_addGains yX0_addGains, Cond.code yX0_addGains cX0_addGains 5 none, Cond.fieldLink RX0 19 "ColourTide$Tide" "crowds" "[I", Cond.methodLink RX0 73 yX0_withNeighbours, Cond.static yX0_withNeighbours, Cond.code yX0_withNeighbours cX0_withNeighbours 6 (some .int), Cond.methodLink RX0 52 yX0_takeGains, Cond.instanceMethod yX0_takeGains, Cond.selects RX0 yX0_takeGains yX0_takeGains, Cond.code yX0_takeGains cX0_takeGains 3 none, Cond.methodLink RX1 82 yJ6_bitCount_0f7a4]
def wsL_build_r6 : List Cond := [Cond.static yJ6_bitCount_0f7a4, Cond.initialized RJ6, Cond.code yJ6_bitCount_0f7a4 cJ6_bitCount_0f7a4 1 (some .int), Cond.constant RJ6 265 (1431655765), Cond.constant RJ6 266 (858993459), Cond.constant RJ6 267 (252645135), Cond.methodLink RL 61 yX1_paint, Cond.instanceMethod yX1_paint, Cond.selects RX1 yX1_paint yX1_paint, Cond.code yX1_paint cX1_paint 5 (some .int), Cond.methodLink RX1 48 yX1_isColourOrBare, Cond.static yX1_isColourOrBare, Cond.code yX1_isColourOrBare cX1_isColourOrBare 1 (some .boolean), Cond.methodLink RX1 108 yX1_isColour, Cond.static yX1_isColour, Cond.code yX1_isColour cX1_isColour 1 (some .boolean), Cond.methodLink RX1 60 yX0_colourOf, Cond.instanceMethod yX0_colourOf, Cond.selects RX0 yX0_colourOf yX0_colourOf, Cond.code yX0_colourOf cX0_colourOf 2 (some .int), Cond.methodLink RX0 44 yX0_firstColourWith, Cond.static yX0_firstColourWith, Cond.code yX0_firstColourWith cX0_firstColourWith 3 (some .int), Cond.methodLink RX1 64 yX0_dye]
def wsL_build_r7 : List Cond := [Cond.instanceMethod yX0_dye, Cond.selects RX0 yX0_dye yX0_dye, Cond.code yX0_dye cX0_dye 4 none]
def wsL_build : List Cond := .code yL_build cL_build 5 (some (.object "ColourTideLaw$Sim")) :: ((wsL_build_r1 ++ (wsL_build_r2 ++ (wsL_build_r3 ++ (wsL_build_r4 ++ (wsL_build_r5 ++ (wsL_build_r6 ++ wsL_build_r7)))))) ++ wsX20 ++ wsX10 ++ wsX00 ++ (vx_atS RX1 41 "java/lang/IllegalArgumentException" ["java/lang/RuntimeException", "java/lang/Exception"]).filter goodWord ++ (vx_atS RX1 55 "java/lang/IndexOutOfBoundsException" ["java/lang/RuntimeException", "java/lang/Exception"]).filter goodWord)
def wsL_law0_r1 : List Cond := [Cond.classLink RL 31 RX1, Cond.instantiable RX1 5, Cond.initialized RX1, Cond.arrayClass .int, Cond.classLink RL 87 "[[I", Cond.fieldLink RL 51 "ColourTideLaw$Sim" "waves" "I", Cond.constantDouble RL 120 (4607182409792818153), Cond.constantDouble RL 122 (4607182423303617035), Cond.methodLink RL 73 yX1_init, Cond.instanceMethod yX1_init, Cond.code yX1_init cX1_init 1 none, Cond.methodLink RX1 3 objectInit, Cond.instanceMethod objectInit, Cond.code objectInit ⟨#[0xb1]⟩ 1 none, Cond.classLink RX1 9 RX0, Cond.instantiable RX0 6, Cond.initialized RX0, Cond.fieldLink RX1 12 "ColourTide" "map" "LColourTide$Tide;", Cond.fieldLink RX1 16 "ColourTide" "trial" "LColourTide$Tide;", Cond.fieldLink RX1 19 "ColourTide" "width" "I", Cond.fieldLink RX1 23 "ColourTide" "height" "I", Cond.fieldLink RX1 26 "ColourTide" "waves" "I", Cond.methodLink RX1 11 yX0_init, Cond.instanceMethod yX0_init]
def wsL_law0_r2 : List Cond := [Cond.code yX0_init cX0_init 1 none, Cond.methodLink RX0 3 objectInit, Cond.fieldLink RX0 9 "ColourTide$Tide" "need" "I", Cond.fieldLink RX0 15 "ColourTide$Tide" "sets" "[I", Cond.fieldLink RX0 19 "ColourTide$Tide" "crowds" "[I", Cond.fieldLink RX0 22 "ColourTide$Tide" "gains" "[I", Cond.methodLink RX1 29 yX0_clear, Cond.instanceMethod yX0_clear, Cond.selects RX0 yX0_clear yX0_clear, Cond.code yX0_clear cX0_clear 5 none, Cond.fieldLink RX0 25 "ColourTide$Tide" "board" "I", Cond.fieldLink RX0 32 "ColourTide$Tide" "stubborn" "I", Cond.static yX1_cell, Cond.code yX1_cell cX1_cell 2 (some .int), Cond.methodLink RL 74 yL_build, Cond.static yL_build, Cond.initialized RL, Cond.code yL_build cL_build 5 (some (.object "ColourTideLaw$Sim")), Cond.classLink RL 10 RX2, Cond.instantiable RX2 6, Cond.initialized RX2, Cond.fieldLink RL 9 "ColourTideLaw$Sim" "w" "I", Cond.fieldLink RL 21 "ColourTideLaw$Sim" "h" "I", Cond.methodLink RL 65 yL_cell]
def wsL_law0_r3 : List Cond := [Cond.static yL_cell, Cond.code yL_cell cL_cell 2 (some .int), Cond.constant RL 8 (790386105), Cond.methodLink RL 15 yL_below, Cond.static yL_below, Cond.code yL_below cL_below 2 (some .int), Cond.constant RL 7 (2147483647), Cond.methodLink RL 24 yX2_init, Cond.instanceMethod yX2_init, Cond.code yX2_init cX2_init 3 none, Cond.methodLink RX2 1 objectInit, Cond.fieldLink RX2 7 "ColourTideLaw$Sim" "need" "I", Cond.fieldLink RX2 13 "ColourTideLaw$Sim" "w" "I", Cond.fieldLink RX2 16 "ColourTideLaw$Sim" "h" "I", Cond.classLink RX2 19 "[[I", Cond.fieldLink RX2 21 "ColourTideLaw$Sim" "map" "[[I", Cond.classLink RX2 24 "[[Z", Cond.arrayClass .boolean, Cond.fieldLink RX2 26 "ColourTideLaw$Sim" "stubborn" "[[Z", Cond.methodLink RL 30 yX1_newMap, Cond.instanceMethod yX1_newMap, Cond.selects RX1 yX1_newMap yX1_newMap, Cond.code yX1_newMap cX1_newMap 3 (some .int), Cond.classLink RX1 37 "java/lang/IllegalArgumentException"]
def wsL_law0_r4 : List Cond := [Cond.initialized "java/lang/IllegalArgumentException", Cond.methodLink RX1 33 yX1_isSide, Cond.static yX1_isSide, Cond.code yX1_isSide cX1_isSide 1 (some .boolean), Cond.methodLink RL 69 yL_act, Cond.static yL_act, Cond.code yL_act cL_act 10 (some (.object "ColourTideLaw$Sim")), Cond.fieldLink RL 27 "ColourTideLaw$Sim" "need" "I", Cond.fieldLink RL 35 "ColourTideLaw$Sim" "stubborn" "[[Z", Cond.fieldLink RL 57 "ColourTideLaw$Sim" "map" "[[I", Cond.methodLink RL 39 yX1_turnStubborn, Cond.instanceMethod yX1_turnStubborn, Cond.selects RX1 yX1_turnStubborn yX1_turnStubborn, Cond.code yX1_turnStubborn cX1_turnStubborn 3 (some .boolean), Cond.classLink RX1 51 "java/lang/IndexOutOfBoundsException", Cond.initialized "java/lang/IndexOutOfBoundsException", Cond.fieldLink RX1 69 "ColourTide$Tide" "stubborn" "I", Cond.methodLink RX1 44 yX1_isOnMap, Cond.instanceMethod yX1_isOnMap, Cond.selects RX1 yX1_isOnMap yX1_isOnMap, Cond.code yX1_isOnMap cX1_isOnMap 3 (some .boolean), Cond.methodLink RX1 56 yX1_cell, Cond.methodLink RL 43 yX1_setNeed, Cond.instanceMethod yX1_setNeed]
def wsL_law0_r5 : List Cond := [Cond.selects RX1 yX1_setNeed yX1_setNeed, Cond.code yX1_setNeed cX1_setNeed 3 (some .int), Cond.fieldLink RX1 74 "ColourTide$Tide" "need" "I", Cond.methodLink RL 47 yX2_wave, Cond.instanceMethod yX2_wave, Cond.selects RX2 yX2_wave yX2_wave, Cond.code yX2_wave cX2_wave 5 (some .int), Cond.methodLink RX2 37 yX2_next, Cond.instanceMethod yX2_next, Cond.selects RX2 yX2_next yX2_next, Cond.code yX2_next cX2_next 7 (some .int), Cond.methodLink RX2 33 yX2_beside, Cond.instanceMethod yX2_beside, Cond.selects RX2 yX2_beside yX2_beside, Cond.code yX2_beside cX2_beside 4 (some .int), Cond.methodLink RX2 29 yX2_at, Cond.instanceMethod yX2_at, Cond.selects RX2 yX2_at yX2_at, Cond.code yX2_at cX2_at 3 (some .int), Cond.methodLink RL 54 yX1_pass, Cond.instanceMethod yX1_pass, Cond.selects RX1 yX1_pass yX1_pass, Cond.code yX1_pass cX1_pass 2 (some .int), Cond.methodLink RX1 79 yX0_surge]
def wsL_law0_r6 : List Cond := [Cond.instanceMethod yX0_surge, Cond.selects RX0 yX0_surge yX0_surge, Cond.code yX0_surge cX0_surge 4 (some .int), Cond.methodLink RX0 48 yX0_foresee, Cond.instanceMethod yX0_foresee, Cond.selects RX0 yX0_foresee yX0_foresee, Cond.code yX0_foresee cX0_foresee 3 (some .int), Cond.methodLink RX0 56 yX0_addGains, Cond.instanceMethod yX0_addGains, Cond.selects RX0 yX0_addGains yX0_addGains, Cond.code yX0_addGains cX0_addGains 5 none, Cond.methodLink RX0 73 yX0_withNeighbours, Cond.static yX0_withNeighbours, Cond.code yX0_withNeighbours cX0_withNeighbours 6 (some .int), Cond.methodLink RX0 52 yX0_takeGains, Cond.instanceMethod yX0_takeGains, Cond.selects RX0 yX0_takeGains yX0_takeGains, Cond.code yX0_takeGains cX0_takeGains 3 none, Cond.methodLink RX1 82 yJ6_bitCount_0f7a4, Cond.static yJ6_bitCount_0f7a4, Cond.initialized RJ6, Cond.code yJ6_bitCount_0f7a4 cJ6_bitCount_0f7a4 1 (some .int), Cond.constant RJ6 265 (1431655765), Cond.constant RJ6 266 (858993459)]
def wsL_law0_r7 : List Cond := [Cond.constant RJ6 267 (252645135), Cond.methodLink RL 61 yX1_paint, Cond.instanceMethod yX1_paint, Cond.selects RX1 yX1_paint yX1_paint, Cond.code yX1_paint cX1_paint 5 (some .int), Cond.methodLink RX1 48 yX1_isColourOrBare, Cond.static yX1_isColourOrBare, Cond.code yX1_isColourOrBare cX1_isColourOrBare 1 (some .boolean), Cond.methodLink RX1 108 yX1_isColour, Cond.static yX1_isColour, Cond.code yX1_isColour cX1_isColour 1 (some .boolean), Cond.methodLink RX1 60 yX0_colourOf, Cond.instanceMethod yX0_colourOf, Cond.selects RX0 yX0_colourOf yX0_colourOf, Cond.code yX0_colourOf cX0_colourOf 2 (some .int), Cond.methodLink RX0 44 yX0_firstColourWith, Cond.static yX0_firstColourWith, Cond.code yX0_firstColourWith cX0_firstColourWith 3 (some .int), Cond.methodLink RX1 64 yX0_dye, Cond.instanceMethod yX0_dye, Cond.selects RX0 yX0_dye yX0_dye, Cond.code yX0_dye cX0_dye 4 none, Cond.methodLink RL 78 yX1_width, Cond.instanceMethod yX1_width]
def wsL_law0_r8 : List Cond := [Cond.selects RX1 yX1_width yX1_width, Cond.code yX1_width cX1_width 1 (some .int), Cond.methodLink RL 81 yX1_height, Cond.instanceMethod yX1_height, Cond.selects RX1 yX1_height yX1_height, Cond.code yX1_height cX1_height 1 (some .int), Cond.methodLink RL 84 yX1_cellsOf, Cond.instanceMethod yX1_cellsOf, Cond.selects RX1 yX1_cellsOf yX1_cellsOf, Cond.code yX1_cellsOf cX1_cellsOf 2 (some .int), Cond.methodLink RX1 105 yX0_count, Cond.instanceMethod yX0_count, Cond.selects RX0 yX0_count yX0_count, Cond.code yX0_count cX0_count 2 (some .int), Cond.methodLink RX0 35 yX0_cellsWith, Cond.instanceMethod yX0_cellsWith, Cond.selects RX0 yX0_cellsWith yX0_cellsWith, Cond.code yX0_cellsWith cX0_cellsWith 2 (some .int), Cond.methodLink RX0 39 yJ6_bitCount_0f7a4, Cond.methodLink RL 88 yX1_colourAt, Cond.instanceMethod yX1_colourAt, Cond.selects RX1 yX1_colourAt yX1_colourAt, Cond.code yX1_colourAt cX1_colourAt 3 (some .int), Cond.methodLink RL 91 yX1_neighboursWith]
def wsL_law0_r9 : List Cond := [Cond.instanceMethod yX1_neighboursWith, Cond.selects RX1 yX1_neighboursWith yX1_neighboursWith, Cond.code yX1_neighboursWith cX1_neighboursWith 4 (some .int), Cond.methodLink RX1 87 yX1_nextTo, Cond.static yX1_nextTo, Cond.code yX1_nextTo cX1_nextTo 1 (some .int), Cond.methodLink RX1 90 yX0_cellsWith, Cond.methodLink RL 94 yX1_waves, Cond.instanceMethod yX1_waves, Cond.selects RX1 yX1_waves yX1_waves, Cond.code yX1_waves cX1_waves 1 (some .int), Cond.methodLink RL 96 yX1_isStubborn, Cond.instanceMethod yX1_isStubborn, Cond.selects RX1 yX1_isStubborn yX1_isStubborn, Cond.code yX1_isStubborn cX1_isStubborn 3 (some .boolean), Cond.methodLink RL 99 yX1_need, Cond.instanceMethod yX1_need, Cond.selects RX1 yX1_need yX1_need, Cond.code yX1_need cX1_need 1 (some .int), Cond.methodLink RL 101 yX1_stubbornCells, Cond.instanceMethod yX1_stubbornCells, Cond.selects RX1 yX1_stubbornCells yX1_stubbornCells, Cond.code yX1_stubbornCells cX1_stubbornCells 1 (some .int), Cond.methodLink RL 104 yX1_leader]
def wsL_law0_r10 : List Cond := [Cond.instanceMethod yX1_leader, Cond.selects RX1 yX1_leader yX1_leader, Cond.code yX1_leader cX1_leader 5 (some .int), Cond.methodLink RL 107 yX1_share, Cond.instanceMethod yX1_share, Cond.selects RX1 yX1_share yX1_share, Cond.code yX1_share cX1_share 3 (some .double), Cond.methodLink RL 111 yX1_regionsOf, Cond.instanceMethod yX1_regionsOf, Cond.selects RX1 yX1_regionsOf yX1_regionsOf, Cond.code yX1_regionsOf cX1_regionsOf 2 (some .int), Cond.methodLink RX1 111 yX0_countRegions, Cond.instanceMethod yX0_countRegions, Cond.selects RX0 yX0_countRegions yX0_countRegions, Cond.code yX0_countRegions cX0_countRegions 5 (some .int), Cond.methodLink RX0 62 yX0_regionFrom, Cond.static yX0_regionFrom, Cond.code yX0_regionFrom cX0_regionFrom 5 (some .int), Cond.methodLink RL 114 yX1_greatestRegion, Cond.instanceMethod yX1_greatestRegion, Cond.selects RX1 yX1_greatestRegion yX1_greatestRegion, Cond.code yX1_greatestRegion cX1_greatestRegion 2 (some .int), Cond.methodLink RX1 114 yX0_sizeOfGreatestRegion, Cond.instanceMethod yX0_sizeOfGreatestRegion]
def wsL_law0_r11 : List Cond := [Cond.selects RX0 yX0_sizeOfGreatestRegion yX0_sizeOfGreatestRegion, Cond.code yX0_sizeOfGreatestRegion cX0_sizeOfGreatestRegion 6 (some .int), Cond.methodLink RX0 65 Lib.Math.max.name, Cond.static Lib.Math.max.name, Cond.initialized "java/lang/Math", Cond.code Lib.Math.max.name Lib.Math.max.code 2 (some .int), Cond.methodLink RL 117 yX1_winner, Cond.instanceMethod yX1_winner, Cond.selects RX1 yX1_winner yX1_winner, Cond.code yX1_winner cX1_winner 2 (some .int), Cond.methodLink RX1 120 yX0_isAll, Cond.instanceMethod yX0_isAll, Cond.selects RX0 yX0_isAll yX0_isAll, Cond.code yX0_isAll cX0_isAll 2 (some .boolean), Cond.methodLink RL 124 yX1_borders, Cond.instanceMethod yX1_borders, Cond.selects RX1 yX1_borders yX1_borders, Cond.code yX1_borders cX1_borders 1 (some .int), Cond.methodLink RX1 117 yX0_countBorders, Cond.instanceMethod yX0_countBorders, Cond.selects RX0 yX0_countBorders yX0_countBorders, Cond.code yX0_countBorders cX0_countBorders 3 (some .int), Cond.methodLink RX0 70 yX0_countPairs, Cond.static yX0_countPairs]
def wsL_law0_r12 : List Cond := [Cond.code yX0_countPairs cX0_countPairs 1 (some .int), Cond.methodLink RL 127 yX2_isSame, Cond.instanceMethod yX2_isSame, Cond.selects RX2 yX2_isSame yX2_isSame, Cond.code yX2_isSame cX2_isSame 14 (some .boolean), Cond.fieldLink RX2 43 "ColourTideLaw$Sim" "waves" "I", Cond.methodLink RX2 79 Lib.Math.max.name, Cond.methodLink RX2 63 yX1_width, Cond.methodLink RX2 68 yX1_height, Cond.methodLink RX2 71 yX1_need, Cond.methodLink RX2 73 yX1_waves, Cond.methodLink RX2 75 yX2_regions, Cond.instanceMethod yX2_regions, Cond.selects RX2 yX2_regions yX2_regions, Cond.code yX2_regions cX2_regions 6 (some (.array (.array .int))), Cond.methodLink RX2 46 Lib.Math.min.name, Cond.static Lib.Math.min.name, Cond.code Lib.Math.min.name Lib.Math.min.code 2 (some .int), Cond.methodLink RX2 82 yX1_regionsOf, Cond.methodLink RX2 85 yX1_greatestRegion, Cond.methodLink RX2 55 yX2_cells, Cond.instanceMethod yX2_cells, Cond.selects RX2 yX2_cells yX2_cells, Cond.code yX2_cells cX2_cells 11 (some .int)]
def wsL_law0_r13 : List Cond := [Cond.methodLink RX2 88 yX1_cellsOf, Cond.methodLink RX2 91 yX1_share, Cond.methodLink RX2 95 yX1_colourAt, Cond.methodLink RX2 98 yX1_isStubborn, Cond.methodLink RX2 102 yX1_nextColour, Cond.instanceMethod yX1_nextColour, Cond.selects RX1 yX1_nextColour yX1_nextColour, Cond.code yX1_nextColour cX1_nextColour 3 (some .int), Cond.methodLink RX1 93 yX0_foresee, Cond.methodLink RX1 97 yX0_foreseenColourOf, Cond.instanceMethod yX0_foreseenColourOf, Cond.selects RX0 yX0_foreseenColourOf yX0_foreseenColourOf, Cond.code yX0_foreseenColourOf cX0_foreseenColourOf 3 (some .int), Cond.methodLink RX0 59 yX0_colourOf, Cond.methodLink RX2 105 yX1_regionSize, Cond.instanceMethod yX1_regionSize, Cond.selects RX1 yX1_regionSize yX1_regionSize, Cond.code yX1_regionSize cX1_regionSize 3 (some .int), Cond.methodLink RX1 100 yX0_sizeOfRegion, Cond.instanceMethod yX0_sizeOfRegion, Cond.selects RX0 yX0_sizeOfRegion yX0_sizeOfRegion, Cond.code yX0_sizeOfRegion cX0_sizeOfRegion 3 (some .int), Cond.methodLink RX2 108 yX1_neighboursWith, Cond.methodLink RX2 111 yX2_bare]
def wsL_law0_r14 : List Cond := [Cond.instanceMethod yX2_bare, Cond.selects RX2 yX2_bare yX2_bare, Cond.code yX2_bare cX2_bare 4 (some .int), Cond.methodLink RX2 114 yX1_stubbornCells, Cond.methodLink RX2 117 yX1_borders, Cond.methodLink RX2 120 yX1_leader, Cond.methodLink RX2 123 yX1_winner, Cond.methodLink RX2 126 yX1_isStill, Cond.instanceMethod yX1_isStill, Cond.selects RX1 yX1_isStill yX1_isStill, Cond.code yX1_isStill cX1_isStill 1 (some .boolean)]
def wsL_law0 : List Cond := (wsL_law0_r1 ++ (wsL_law0_r2 ++ (wsL_law0_r3 ++ (wsL_law0_r4 ++ (wsL_law0_r5 ++ (wsL_law0_r6 ++ (wsL_law0_r7 ++ (wsL_law0_r8 ++ (wsL_law0_r9 ++ (wsL_law0_r10 ++ (wsL_law0_r11 ++ (wsL_law0_r12 ++ (wsL_law0_r13 ++ wsL_law0_r14))))))))))))) ++ wsX10 ++ wsX20 ++ wsX00 ++ ([] : List Cond)
def wsL_law : List Cond := wsL_law0 ++ (vx_atS RX1 41 "java/lang/IllegalArgumentException" ["java/lang/RuntimeException", "java/lang/Exception"]).filter goodWord ++ (vx_atS RX1 55 "java/lang/IndexOutOfBoundsException" ["java/lang/RuntimeException", "java/lang/Exception"]).filter goodWord
theorem inJ6 : ∀ w ∈ wsJ60, w ∈ lw_tbl := by decide +kernel
theorem inJ9 : ∀ w ∈ wsJ90, w ∈ lw_tbl := by decide +kernel
theorem inJ0 : ∀ w ∈ wsJ00, w ∈ lw_tbl := by decide +kernel
abbrev vwCl : List vw_C := [(RX0, TX0, 6), (RX1, TX1, 5), (RX2, TX2, 6)]
end
section
def wl_in (big ws : List Cond) : Prop := ∀ w ∈ ws, w ∈ big
theorem wl_c {big : List Cond} {w : Cond} {ws : List Cond} (i : Nat) (h : big[i]? = some w) (k : wl_in big ws) : wl_in big (w :: ws) := fun x hx => by
  rcases List.mem_cons.mp hx with e | hx
  · rw [e]; exact List.mem_of_getElem? h
  · exact k x hx
theorem wl_n {big : List Cond} : wl_in big [] := fun x hx => by cases hx
set_option maxRecDepth 20000 in
theorem wsL_law0_r1_in : wl_in lw_tbl wsL_law0_r1 := wl_c 15 rfl (wl_c 16 rfl (wl_c 5 rfl (wl_c 50 rfl (wl_c 453 rfl (wl_c 405 rfl (wl_c 454 rfl (wl_c 455 rfl (wl_c 17 rfl (wl_c 18 rfl (wl_c 19 rfl (wl_c 20 rfl (wl_c 21 rfl (wl_c 22 rfl (wl_c 23 rfl (wl_c 24 rfl (wl_c 6 rfl (wl_c 58 rfl (wl_c 59 rfl (wl_c 60 rfl (wl_c 61 rfl (wl_c 62 rfl (wl_c 25 rfl (wl_c 26 rfl (wl_n))))))))))))))))))))))))
set_option maxRecDepth 20000 in
theorem wsL_law0_r2_in : wl_in lw_tbl wsL_law0_r2 := wl_c 27 rfl (wl_c 28 rfl (wl_c 32 rfl (wl_c 34 rfl (wl_c 35 rfl (wl_c 36 rfl (wl_c 51 rfl (wl_c 52 rfl (wl_c 53 rfl (wl_c 54 rfl (wl_c 29 rfl (wl_c 30 rfl (wl_c 56 rfl (wl_c 57 rfl (wl_c 450 rfl (wl_c 451 rfl (wl_c 4 rfl (wl_c 452 rfl (wl_c 391 rfl (wl_c 392 rfl (wl_c 7 rfl (wl_c 400 rfl (wl_c 402 rfl (wl_c 380 rfl (wl_n))))))))))))))))))))))))
set_option maxRecDepth 20000 in
theorem wsL_law0_r3_in : wl_in lw_tbl wsL_law0_r3 := wl_c 381 rfl (wl_c 382 rfl (wl_c 383 rfl (wl_c 387 rfl (wl_c 388 rfl (wl_c 389 rfl (wl_c 390 rfl (wl_c 393 rfl (wl_c 394 rfl (wl_c 395 rfl (wl_c 396 rfl (wl_c 403 rfl (wl_c 399 rfl (wl_c 401 rfl (wl_c 309 rfl (wl_c 407 rfl (wl_c 397 rfl (wl_c 424 rfl (wl_c 409 rfl (wl_c 425 rfl (wl_c 426 rfl (wl_c 427 rfl (wl_c 428 rfl (wl_c 78 rfl (wl_n))))))))))))))))))))))))
set_option maxRecDepth 20000 in
theorem wsL_law0_r4_in : wl_in lw_tbl wsL_law0_r4 := wl_c 11 rfl (wl_c 429 rfl (wl_c 430 rfl (wl_c 431 rfl (wl_c 384 rfl (wl_c 385 rfl (wl_c 386 rfl (wl_c 404 rfl (wl_c 410 rfl (wl_c 408 rfl (wl_c 433 rfl (wl_c 434 rfl (wl_c 435 rfl (wl_c 436 rfl (wl_c 178 rfl (wl_c 12 rfl (wl_c 31 rfl (wl_c 174 rfl (wl_c 176 rfl (wl_c 3 rfl (wl_c 177 rfl (wl_c 194 rfl (wl_c 437 rfl (wl_c 438 rfl (wl_n))))))))))))))))))))))))
set_option maxRecDepth 20000 in
theorem wsL_law0_r5_in : wl_in lw_tbl wsL_law0_r5 := wl_c 439 rfl (wl_c 440 rfl (wl_c 33 rfl (wl_c 305 rfl (wl_c 306 rfl (wl_c 307 rfl (wl_c 308 rfl (wl_c 311 rfl (wl_c 312 rfl (wl_c 313 rfl (wl_c 314 rfl (wl_c 315 rfl (wl_c 316 rfl (wl_c 317 rfl (wl_c 318 rfl (wl_c 319 rfl (wl_c 320 rfl (wl_c 321 rfl (wl_c 322 rfl (wl_c 74 rfl (wl_c 75 rfl (wl_c 76 rfl (wl_c 77 rfl (wl_c 145 rfl (wl_n))))))))))))))))))))))))
set_option maxRecDepth 20000 in
theorem wsL_law0_r6_in : wl_in lw_tbl wsL_law0_r6 := wl_c 146 rfl (wl_c 147 rfl (wl_c 148 rfl (wl_c 149 rfl (wl_c 150 rfl (wl_c 151 rfl (wl_c 152 rfl (wl_c 153 rfl (wl_c 155 rfl (wl_c 1 rfl (wl_c 156 rfl (wl_c 157 rfl (wl_c 158 rfl (wl_c 159 rfl (wl_c 160 rfl (wl_c 162 rfl (wl_c 2 rfl (wl_c 163 rfl (wl_c 164 rfl (wl_c 165 rfl (wl_c 13 rfl (wl_c 166 rfl (wl_c 167 rfl (wl_c 168 rfl (wl_n))))))))))))))))))))))))
set_option maxRecDepth 20000 in
theorem wsL_law0_r7_in : wl_in lw_tbl wsL_law0_r7 := wl_c 169 rfl (wl_c 442 rfl (wl_c 443 rfl (wl_c 444 rfl (wl_c 445 rfl (wl_c 210 rfl (wl_c 211 rfl (wl_c 212 rfl (wl_c 213 rfl (wl_c 214 rfl (wl_c 215 rfl (wl_c 195 rfl (wl_c 196 rfl (wl_c 197 rfl (wl_c 198 rfl (wl_c 199 rfl (wl_c 200 rfl (wl_c 201 rfl (wl_c 446 rfl (wl_c 447 rfl (wl_c 448 rfl (wl_c 449 rfl (wl_c 224 rfl (wl_c 225 rfl (wl_n))))))))))))))))))))))))
set_option maxRecDepth 20000 in
theorem wsL_law0_r8_in : wl_in lw_tbl wsL_law0_r8 := wl_c 226 rfl (wl_c 227 rfl (wl_c 228 rfl (wl_c 229 rfl (wl_c 230 rfl (wl_c 231 rfl (wl_c 244 rfl (wl_c 245 rfl (wl_c 246 rfl (wl_c 247 rfl (wl_c 249 rfl (wl_c 250 rfl (wl_c 251 rfl (wl_c 252 rfl (wl_c 253 rfl (wl_c 221 rfl (wl_c 222 rfl (wl_c 223 rfl (wl_c 254 rfl (wl_c 170 rfl (wl_c 171 rfl (wl_c 172 rfl (wl_c 173 rfl (wl_c 206 rfl (wl_n))))))))))))))))))))))))
set_option maxRecDepth 20000 in
theorem wsL_law0_r9_in : wl_in lw_tbl wsL_law0_r9 := wl_c 207 rfl (wl_c 208 rfl (wl_c 209 rfl (wl_c 217 rfl (wl_c 218 rfl (wl_c 219 rfl (wl_c 220 rfl (wl_c 236 rfl (wl_c 237 rfl (wl_c 238 rfl (wl_c 239 rfl (wl_c 202 rfl (wl_c 203 rfl (wl_c 204 rfl (wl_c 205 rfl (wl_c 232 rfl (wl_c 233 rfl (wl_c 234 rfl (wl_c 235 rfl (wl_c 240 rfl (wl_c 241 rfl (wl_c 242 rfl (wl_c 243 rfl (wl_c 289 rfl (wl_n))))))))))))))))))))))))
set_option maxRecDepth 20000 in
theorem wsL_law0_r10_in : wl_in lw_tbl wsL_law0_r10 := wl_c 290 rfl (wl_c 291 rfl (wl_c 292 rfl (wl_c 301 rfl (wl_c 302 rfl (wl_c 303 rfl (wl_c 304 rfl (wl_c 255 rfl (wl_c 256 rfl (wl_c 257 rfl (wl_c 258 rfl (wl_c 259 rfl (wl_c 260 rfl (wl_c 261 rfl (wl_c 262 rfl (wl_c 263 rfl (wl_c 264 rfl (wl_c 265 rfl (wl_c 267 rfl (wl_c 268 rfl (wl_c 269 rfl (wl_c 270 rfl (wl_c 271 rfl (wl_c 272 rfl (wl_n))))))))))))))))))))))))
set_option maxRecDepth 20000 in
theorem wsL_law0_r11_in : wl_in lw_tbl wsL_law0_r11 := wl_c 273 rfl (wl_c 274 rfl (wl_c 275 rfl (wl_c 276 rfl (wl_c 14 rfl (wl_c 277 rfl (wl_c 293 rfl (wl_c 294 rfl (wl_c 295 rfl (wl_c 296 rfl (wl_c 297 rfl (wl_c 298 rfl (wl_c 299 rfl (wl_c 300 rfl (wl_c 278 rfl (wl_c 279 rfl (wl_c 280 rfl (wl_c 281 rfl (wl_c 282 rfl (wl_c 283 rfl (wl_c 284 rfl (wl_c 285 rfl (wl_c 286 rfl (wl_c 287 rfl (wl_n))))))))))))))))))))))))
set_option maxRecDepth 20000 in
theorem wsL_law0_r12_in : wl_in lw_tbl wsL_law0_r12 := wl_c 288 rfl (wl_c 323 rfl (wl_c 324 rfl (wl_c 325 rfl (wl_c 326 rfl (wl_c 406 rfl (wl_c 338 rfl (wl_c 327 rfl (wl_c 328 rfl (wl_c 329 rfl (wl_c 330 rfl (wl_c 331 rfl (wl_c 332 rfl (wl_c 333 rfl (wl_c 334 rfl (wl_c 335 rfl (wl_c 336 rfl (wl_c 337 rfl (wl_c 339 rfl (wl_c 340 rfl (wl_c 341 rfl (wl_c 342 rfl (wl_c 343 rfl (wl_c 344 rfl (wl_n))))))))))))))))))))))))
set_option maxRecDepth 20000 in
theorem wsL_law0_r13_in : wl_in lw_tbl wsL_law0_r13 := wl_c 345 rfl (wl_c 346 rfl (wl_c 347 rfl (wl_c 348 rfl (wl_c 349 rfl (wl_c 350 rfl (wl_c 351 rfl (wl_c 352 rfl (wl_c 353 rfl (wl_c 354 rfl (wl_c 355 rfl (wl_c 356 rfl (wl_c 357 rfl (wl_c 358 rfl (wl_c 359 rfl (wl_c 360 rfl (wl_c 361 rfl (wl_c 362 rfl (wl_c 363 rfl (wl_c 364 rfl (wl_c 365 rfl (wl_c 366 rfl (wl_c 367 rfl (wl_c 368 rfl (wl_n))))))))))))))))))))))))
set_option maxRecDepth 20000 in
theorem wsL_law0_r14_in : wl_in lw_tbl wsL_law0_r14 := wl_c 369 rfl (wl_c 370 rfl (wl_c 371 rfl (wl_c 372 rfl (wl_c 373 rfl (wl_c 374 rfl (wl_c 375 rfl (wl_c 376 rfl (wl_c 377 rfl (wl_c 378 rfl (wl_c 379 rfl (wl_n)))))))))))
theorem z_ap {big a b : List Cond} (h1 : ∀ w ∈ a, w ∈ big) (h2 : ∀ w ∈ b, w ∈ big) : ∀ w ∈ a ++ b, w ∈ big := fun w h => (List.mem_append.mp h).elim (h1 w) (h2 w)
set_option maxRecDepth 20000 in
theorem wsX20_in : ∀ w ∈ wsX20, w ∈ lw_tbl := fun w h => (goodIn_r (big := lw_tbl) wsX20 [411, 413, 415, 417, 419, 421] (by decide +kernel) (by decide +kernel) w h).1
set_option maxRecDepth 20000 in
theorem wsX10_in : ∀ w ∈ wsX10, w ∈ lw_tbl := fun w h => (goodIn_r (big := lw_tbl) wsX10 [63, 65, 67, 69, 71] (by decide +kernel) (by decide +kernel) w h).1
set_option maxRecDepth 20000 in
theorem wsX00_in : ∀ w ∈ wsX00, w ∈ lw_tbl := fun w h => (goodIn_r (big := lw_tbl) wsX00 [37, 39, 41, 43, 45, 47] (by decide +kernel) (by decide +kernel) w h).1
theorem wsL_law_in0 : ∀ w ∈ wsL_law0, w ∈ lw_tbl := z_ap (z_ap (z_ap (z_ap (z_ap wsL_law0_r1_in (z_ap wsL_law0_r2_in (z_ap wsL_law0_r3_in (z_ap wsL_law0_r4_in (z_ap wsL_law0_r5_in (z_ap wsL_law0_r6_in (z_ap wsL_law0_r7_in (z_ap wsL_law0_r8_in (z_ap wsL_law0_r9_in (z_ap wsL_law0_r10_in (z_ap wsL_law0_r11_in (z_ap wsL_law0_r12_in (z_ap wsL_law0_r13_in (wsL_law0_r14_in)))))))))))))) wsX10_in) wsX20_in) wsX00_in) (fun w h => by cases h)
theorem wsL_law_x0 : ∀ w ∈ (vx_atS RX1 41 "java/lang/IllegalArgumentException" ["java/lang/RuntimeException", "java/lang/Exception"]).filter goodWord, w ∈ lw_tbl := by decide +kernel
theorem wsL_law_x1 : ∀ w ∈ (vx_atS RX1 55 "java/lang/IndexOutOfBoundsException" ["java/lang/RuntimeException", "java/lang/Exception"]).filter goodWord, w ∈ lw_tbl := by decide +kernel
theorem wsL_law_in : ∀ w ∈ wsL_law, w ∈ lw_tbl := fun w h => (List.mem_append.mp h).elim (fun h => (List.mem_append.mp h).elim (fun h => wsL_law_in0 w h) (fun h => wsL_law_x0 w h)) (fun h => wsL_law_x1 w h)
theorem inlX0 : ∀ w ∈ wsX00, w ∈ wsL_law := fun _ h => List.mem_append_left _ (List.mem_append_left _ (List.mem_append_left _ (List.mem_append_right _ h)))
theorem inX0 : ∀ w ∈ wsX00, w ∈ lw_tbl := fun w h => wsL_law_in w (inlX0 w h)
theorem inlX1 : ∀ w ∈ wsX10, w ∈ wsL_law := fun _ h => List.mem_append_left _ (List.mem_append_left _ (List.mem_append_left _ (List.mem_append_left _ (List.mem_append_left _ (List.mem_append_right _ h)))))
theorem inX1 : ∀ w ∈ wsX10, w ∈ lw_tbl := fun w h => wsL_law_in w (inlX1 w h)
theorem inlX2 : ∀ w ∈ wsX20, w ∈ wsL_law := fun _ h => List.mem_append_left _ (List.mem_append_left _ (List.mem_append_left _ (List.mem_append_left _ (List.mem_append_right _ h))))
theorem inX2 : ∀ w ∈ wsX20, w ∈ lw_tbl := fun w h => wsL_law_in w (inlX2 w h)
theorem inX3 : ∀ w ∈ wsX30, w ∈ lw_tbl := by decide +kernel
end
section
set_option maxRecDepth 20000 in
theorem ggX0_clear_X1_cell : GoodIn wsX0_clear wsX1_cell := goodIn_r _ [6] (by decide +kernel) (by decide +kernel)
set_option maxRecDepth 20000 in
theorem gX0_clear_X1_cell_n28 : GoodIn wsX0_clear (wsX1_cell) := ggX0_clear_X1_cell
set_option maxRecDepth 20000 in
theorem ggX0_count_X0_cellsWith : GoodIn wsX0_count wsX0_cellsWith := goodIn_r _ [5, 6, 14, 15, 16, 17, 18, 19] (by decide +kernel) (by decide +kernel)
set_option maxRecDepth 20000 in
theorem gX0_count_X0_cellsWith : GoodIn wsX0_count (wsV RX0 35 RX0 yX0_cellsWith wsX0_cellsWith) := goodIn_app (goodIn_of _ (by decide +kernel)) ggX0_count_X0_cellsWith
set_option maxRecDepth 20000 in
theorem ggX0_count_J6_bitCount_0f7a4 : GoodIn wsX0_count wsJ6_bitCount_0f7a4 := goodIn_r _ [10, 11, 12, 13] (by decide +kernel) (by decide +kernel)
set_option maxRecDepth 20000 in
theorem gX0_count_J6_bitCount_0f7a4 : GoodIn wsX0_count (va_wsS RX0 39 yJ6_bitCount_0f7a4 wsJ6_bitCount_0f7a4) := goodIn_app (goodIn_of _ (by decide +kernel)) ggX0_count_J6_bitCount_0f7a4
set_option maxRecDepth 20000 in
theorem ggX0_isAll_X0_cellsWith : GoodIn wsX0_isAll wsX0_cellsWith := goodIn_r _ [6, 7, 8, 9, 10, 11, 12, 13] (by decide +kernel) (by decide +kernel)
set_option maxRecDepth 20000 in
theorem gX0_isAll_X0_cellsWith : GoodIn wsX0_isAll (wsV RX0 35 RX0 yX0_cellsWith wsX0_cellsWith) := goodIn_app (goodIn_of _ (by decide +kernel)) ggX0_isAll_X0_cellsWith
set_option maxRecDepth 20000 in
theorem ggX0_colourOf_X0_firstColourWith : GoodIn wsX0_colourOf wsX0_firstColourWith := goodIn_r _ [5] (by decide +kernel) (by decide +kernel)
set_option maxRecDepth 20000 in
theorem gX0_colourOf_X0_firstColourWith : GoodIn wsX0_colourOf (va_wsS RX0 44 yX0_firstColourWith wsX0_firstColourWith) := goodIn_app (goodIn_of _ (by decide +kernel)) ggX0_colourOf_X0_firstColourWith
set_option maxRecDepth 20000 in
theorem ggX0_surge_X0_foresee : GoodIn wsX0_surge wsX0_foresee := goodIn_r _ [5, 6, 7, 8, 9, 10, 11, 4, 12, 13, 14, 15, 16, 17, 18, 23, 24, 25, 26, 27, 28] (by decide +kernel) (by decide +kernel)
set_option maxRecDepth 20000 in
theorem gX0_surge_X0_foresee : GoodIn wsX0_surge (wsV RX0 48 RX0 yX0_foresee wsX0_foresee) := goodIn_app (goodIn_of _ (by decide +kernel)) ggX0_surge_X0_foresee
set_option maxRecDepth 20000 in
theorem ggX0_surge_X0_takeGains : GoodIn wsX0_surge wsX0_takeGains := goodIn_r _ [22, 8, 6, 23, 24, 25, 26, 27, 28] (by decide +kernel) (by decide +kernel)
set_option maxRecDepth 20000 in
theorem gX0_surge_X0_takeGains : GoodIn wsX0_surge (wsV RX0 52 RX0 yX0_takeGains wsX0_takeGains) := goodIn_app (goodIn_of _ (by decide +kernel)) ggX0_surge_X0_takeGains
set_option maxRecDepth 20000 in
theorem ggX0_foresee_X0_addGains : GoodIn wsX0_foresee wsX0_addGains := goodIn_r _ [8, 9, 3, 1, 10, 11, 12, 13, 7, 14, 15, 16, 17, 18, 19, 20] (by decide +kernel) (by decide +kernel)
set_option maxRecDepth 20000 in
theorem gX0_foresee_X0_addGains : GoodIn wsX0_foresee (wsV RX0 56 RX0 yX0_addGains wsX0_addGains) := goodIn_app (goodIn_of _ (by decide +kernel)) ggX0_foresee_X0_addGains
set_option maxRecDepth 20000 in
theorem ggX0_foreseenColourOf_X0_firstColourWith : GoodIn wsX0_foreseenColourOf wsX0_firstColourWith := goodIn_r _ [5] (by decide +kernel) (by decide +kernel)
set_option maxRecDepth 20000 in
theorem gX0_foreseenColourOf_X0_firstColourWith : GoodIn wsX0_foreseenColourOf (va_wsS RX0 44 yX0_firstColourWith wsX0_firstColourWith) := goodIn_app (goodIn_of _ (by decide +kernel)) ggX0_foreseenColourOf_X0_firstColourWith
set_option maxRecDepth 20000 in
theorem ggX0_foreseenColourOf_X0_colourOf : GoodIn wsX0_foreseenColourOf wsX0_colourOf := goodIn_r _ [9, 10, 2, 3, 4, 5, 11, 12, 13, 14, 15, 16] (by decide +kernel) (by decide +kernel)
set_option maxRecDepth 20000 in
theorem gX0_foreseenColourOf_X0_colourOf : GoodIn wsX0_foreseenColourOf (wsV RX0 59 RX0 yX0_colourOf wsX0_colourOf) := goodIn_app (goodIn_of _ (by decide +kernel)) ggX0_foreseenColourOf_X0_colourOf
set_option maxRecDepth 20000 in
theorem ggX0_sizeOfRegion_X0_colourOf : GoodIn wsX0_sizeOfRegion wsX0_colourOf := goodIn_r _ [5, 6, 7, 8, 4, 9, 27, 28, 29, 30, 31, 32] (by decide +kernel) (by decide +kernel)
set_option maxRecDepth 20000 in
theorem gX0_sizeOfRegion_X0_colourOf : GoodIn wsX0_sizeOfRegion (wsV RX0 59 RX0 yX0_colourOf wsX0_colourOf) := goodIn_app (goodIn_of _ (by decide +kernel)) ggX0_sizeOfRegion_X0_colourOf
set_option maxRecDepth 20000 in
theorem ggX0_sizeOfRegion_X0_cellsWith : GoodIn wsX0_sizeOfRegion wsX0_cellsWith := goodIn_r _ [13, 6, 27, 28, 29, 30, 31, 32] (by decide +kernel) (by decide +kernel)
set_option maxRecDepth 20000 in
theorem gX0_sizeOfRegion_X0_cellsWith : GoodIn wsX0_sizeOfRegion (wsV RX0 35 RX0 yX0_cellsWith wsX0_cellsWith) := goodIn_app (goodIn_of _ (by decide +kernel)) ggX0_sizeOfRegion_X0_cellsWith
set_option maxRecDepth 20000 in
theorem ggX0_sizeOfRegion_X0_regionFrom : GoodIn wsX0_sizeOfRegion wsX0_regionFrom := goodIn_r _ [16, 17, 18, 19] (by decide +kernel) (by decide +kernel)
set_option maxRecDepth 20000 in
theorem gX0_sizeOfRegion_X0_regionFrom : GoodIn wsX0_sizeOfRegion (va_wsS RX0 62 yX0_regionFrom wsX0_regionFrom) := goodIn_app (goodIn_of _ (by decide +kernel)) ggX0_sizeOfRegion_X0_regionFrom
set_option maxRecDepth 20000 in
theorem ggX0_sizeOfRegion_J6_bitCount_0f7a4 : GoodIn wsX0_sizeOfRegion wsJ6_bitCount_0f7a4 := goodIn_r _ [23, 24, 25, 26] (by decide +kernel) (by decide +kernel)
set_option maxRecDepth 20000 in
theorem gX0_sizeOfRegion_J6_bitCount_0f7a4 : GoodIn wsX0_sizeOfRegion (va_wsS RX0 39 yJ6_bitCount_0f7a4 wsJ6_bitCount_0f7a4) := goodIn_app (goodIn_of _ (by decide +kernel)) ggX0_sizeOfRegion_J6_bitCount_0f7a4
set_option maxRecDepth 20000 in
theorem ggX0_countRegions_X0_cellsWith : GoodIn wsX0_countRegions wsX0_cellsWith := goodIn_r _ [5, 6, 13, 14, 15, 16, 17, 18] (by decide +kernel) (by decide +kernel)
set_option maxRecDepth 20000 in
theorem gX0_countRegions_X0_cellsWith : GoodIn wsX0_countRegions (wsV RX0 35 RX0 yX0_cellsWith wsX0_cellsWith) := goodIn_app (goodIn_of _ (by decide +kernel)) ggX0_countRegions_X0_cellsWith
set_option maxRecDepth 20000 in
theorem ggX0_countRegions_X0_regionFrom : GoodIn wsX0_countRegions wsX0_regionFrom := goodIn_r _ [9, 10, 11, 12] (by decide +kernel) (by decide +kernel)
set_option maxRecDepth 20000 in
theorem gX0_countRegions_X0_regionFrom : GoodIn wsX0_countRegions (va_wsS RX0 62 yX0_regionFrom wsX0_regionFrom) := goodIn_app (goodIn_of _ (by decide +kernel)) ggX0_countRegions_X0_regionFrom
set_option maxRecDepth 20000 in
theorem ggX0_sizeOfGreatestRegion_X0_cellsWith : GoodIn wsX0_sizeOfGreatestRegion wsX0_cellsWith := goodIn_r _ [9, 10, 24, 25, 26, 27, 28, 29] (by decide +kernel) (by decide +kernel)
set_option maxRecDepth 20000 in
theorem gX0_sizeOfGreatestRegion_X0_cellsWith : GoodIn wsX0_sizeOfGreatestRegion (wsV RX0 35 RX0 yX0_cellsWith wsX0_cellsWith) := goodIn_app (goodIn_of _ (by decide +kernel)) ggX0_sizeOfGreatestRegion_X0_cellsWith
set_option maxRecDepth 20000 in
theorem ggX0_sizeOfGreatestRegion_X0_regionFrom : GoodIn wsX0_sizeOfGreatestRegion wsX0_regionFrom := goodIn_r _ [13, 14, 15, 16] (by decide +kernel) (by decide +kernel)
set_option maxRecDepth 20000 in
theorem gX0_sizeOfGreatestRegion_X0_regionFrom : GoodIn wsX0_sizeOfGreatestRegion (va_wsS RX0 62 yX0_regionFrom wsX0_regionFrom) := goodIn_app (goodIn_of _ (by decide +kernel)) ggX0_sizeOfGreatestRegion_X0_regionFrom
set_option maxRecDepth 20000 in
theorem ggX0_sizeOfGreatestRegion_J6_bitCount_0f7a4 : GoodIn wsX0_sizeOfGreatestRegion wsJ6_bitCount_0f7a4 := goodIn_r _ [20, 21, 22, 23] (by decide +kernel) (by decide +kernel)
set_option maxRecDepth 20000 in
theorem gX0_sizeOfGreatestRegion_J6_bitCount_0f7a4 : GoodIn wsX0_sizeOfGreatestRegion (va_wsS RX0 39 yJ6_bitCount_0f7a4 wsJ6_bitCount_0f7a4) := goodIn_app (goodIn_of _ (by decide +kernel)) ggX0_sizeOfGreatestRegion_J6_bitCount_0f7a4
set_option maxRecDepth 20000 in
theorem ggX0_countBorders_X0_cellsWith : GoodIn wsX0_countBorders wsX0_cellsWith := goodIn_r _ [7, 2, 18, 19, 20, 21, 22, 23] (by decide +kernel) (by decide +kernel)
set_option maxRecDepth 20000 in
theorem gX0_countBorders_X0_cellsWith : GoodIn wsX0_countBorders (wsV RX0 35 RX0 yX0_cellsWith wsX0_cellsWith) := goodIn_app (goodIn_of _ (by decide +kernel)) ggX0_countBorders_X0_cellsWith
set_option maxRecDepth 20000 in
theorem ggX0_countBorders_X0_countPairs : GoodIn wsX0_countBorders wsX0_countPairs := goodIn_r _ [10, 11, 12, 13, 14, 15, 16, 17] (by decide +kernel) (by decide +kernel)
set_option maxRecDepth 20000 in
theorem gX0_countBorders_X0_countPairs : GoodIn wsX0_countBorders (va_wsS RX0 70 yX0_countPairs wsX0_countPairs) := goodIn_app (goodIn_of _ (by decide +kernel)) ggX0_countBorders_X0_countPairs
set_option maxRecDepth 20000 in
theorem ggX0_addGains_X0_withNeighbours : GoodIn wsX0_addGains wsX0_withNeighbours := goodIn_r _ [9] (by decide +kernel) (by decide +kernel)
set_option maxRecDepth 20000 in
theorem gX0_addGains_X0_withNeighbours : GoodIn wsX0_addGains (va_wsS RX0 73 yX0_withNeighbours wsX0_withNeighbours) := goodIn_app (goodIn_of _ (by decide +kernel)) ggX0_addGains_X0_withNeighbours
set_option maxRecDepth 20000 in
theorem ggX0_regionFrom_X1_nextTo : GoodIn wsX0_regionFrom wsX1_nextTo := goodIn_r _ [3] (by decide +kernel) (by decide +kernel)
set_option maxRecDepth 20000 in
theorem gX0_regionFrom_X1_nextTo_n76 : GoodIn wsX0_regionFrom (wsX1_nextTo) := ggX0_regionFrom_X1_nextTo
set_option maxRecDepth 20000 in
theorem ggX0_countPairs_J6_bitCount_0f7a4 : GoodIn wsX0_countPairs wsJ6_bitCount_0f7a4 := goodIn_r _ [4, 5, 6, 7] (by decide +kernel) (by decide +kernel)
set_option maxRecDepth 20000 in
theorem gX0_countPairs_J6_bitCount_0f7a4 : GoodIn wsX0_countPairs (va_wsS RX0 39 yJ6_bitCount_0f7a4 wsJ6_bitCount_0f7a4) := goodIn_app (goodIn_of _ (by decide +kernel)) ggX0_countPairs_J6_bitCount_0f7a4
set_option maxRecDepth 20000 in
theorem ggX1_init_X0_init : GoodIn wsX1_init wsX0_init := goodIn_r _ [14, 15, 2, 3, 16, 17, 18, 19, 20, 30, 31, 32, 33, 34, 35] (by decide +kernel) (by decide +kernel)
set_option maxRecDepth 20000 in
theorem gX1_init_X0_init : GoodIn wsX1_init (wsX0_init) := ggX1_init_X0_init
set_option maxRecDepth 20000 in
theorem ggX1_init_X0_clear : GoodIn wsX1_init wsX0_clear := goodIn_r _ [24, 25, 26, 18, 27, 28, 29, 30, 31, 32, 33, 34, 35] (by decide +kernel) (by decide +kernel)
set_option maxRecDepth 20000 in
theorem gX1_init_X0_clear : GoodIn wsX1_init (wsV RX1 29 RX0 yX0_clear wsX0_clear) := goodIn_app (goodIn_of _ (by decide +kernel)) ggX1_init_X0_clear
set_option maxRecDepth 20000 in
theorem ggX1_newMap_X1_isSide : GoodIn wsX1_newMap wsX1_isSide := goodIn_r _ [10] (by decide +kernel) (by decide +kernel)
set_option maxRecDepth 20000 in
theorem gX1_newMap_X1_isSide : GoodIn wsX1_newMap (va_wsS RX1 33 yX1_isSide wsX1_isSide) := goodIn_app (goodIn_of _ (by decide +kernel)) ggX1_newMap_X1_isSide
set_option maxRecDepth 20000 in
theorem ggX1_newMap_X0_clear : GoodIn wsX1_newMap wsX0_clear := goodIn_r _ [15, 16, 17, 18, 19, 9, 20, 26, 27, 28, 29, 30, 31] (by decide +kernel) (by decide +kernel)
set_option maxRecDepth 20000 in
theorem gX1_newMap_X0_clear : GoodIn wsX1_newMap (wsV RX1 29 RX0 yX0_clear wsX0_clear) := goodIn_app (goodIn_of _ (by decide +kernel)) ggX1_newMap_X0_clear
set_option maxRecDepth 20000 in
theorem ggX1_paint_X1_isOnMap : GoodIn wsX1_paint wsX1_isOnMap := goodIn_r _ [8, 9, 10, 33, 34, 35, 36, 37] (by decide +kernel) (by decide +kernel)
set_option maxRecDepth 20000 in
theorem gX1_paint_X1_isOnMap : GoodIn wsX1_paint (wsV RX1 44 RX1 yX1_isOnMap wsX1_isOnMap) := goodIn_app (goodIn_of _ (by decide +kernel)) ggX1_paint_X1_isOnMap
set_option maxRecDepth 20000 in
theorem ggX1_paint_X1_isColourOrBare : GoodIn wsX1_paint wsX1_isColourOrBare := goodIn_r _ [13, 14, 15, 7, 16] (by decide +kernel) (by decide +kernel)
set_option maxRecDepth 20000 in
theorem gX1_paint_X1_isColourOrBare : GoodIn wsX1_paint (va_wsS RX1 48 yX1_isColourOrBare wsX1_isColourOrBare) := goodIn_app (goodIn_of _ (by decide +kernel)) ggX1_paint_X1_isColourOrBare
set_option maxRecDepth 20000 in
theorem ggX1_paint_X1_cell : GoodIn wsX1_paint wsX1_cell := goodIn_r _ [19] (by decide +kernel) (by decide +kernel)
set_option maxRecDepth 20000 in
theorem gX1_paint_X1_cell : GoodIn wsX1_paint (va_wsS RX1 56 yX1_cell wsX1_cell) := goodIn_app (goodIn_of _ (by decide +kernel)) ggX1_paint_X1_cell
set_option maxRecDepth 20000 in
theorem ggX1_paint_X0_colourOf : GoodIn wsX1_paint wsX0_colourOf := goodIn_r _ [24, 25, 26, 27, 23, 28, 38, 39, 40, 41, 42, 43] (by decide +kernel) (by decide +kernel)
set_option maxRecDepth 20000 in
theorem gX1_paint_X0_colourOf : GoodIn wsX1_paint (wsV RX1 60 RX0 yX0_colourOf wsX0_colourOf) := goodIn_app (goodIn_of _ (by decide +kernel)) ggX1_paint_X0_colourOf
set_option maxRecDepth 20000 in
theorem ggX1_paint_X0_dye : GoodIn wsX1_paint wsX0_dye := goodIn_r _ [32, 25, 38, 39, 40, 41, 42, 43] (by decide +kernel) (by decide +kernel)
set_option maxRecDepth 20000 in
theorem gX1_paint_X0_dye : GoodIn wsX1_paint (wsV RX1 64 RX0 yX0_dye wsX0_dye) := goodIn_app (goodIn_of _ (by decide +kernel)) ggX1_paint_X0_dye
set_option maxRecDepth 20000 in
theorem ggX1_turnStubborn_X1_isOnMap : GoodIn wsX1_turnStubborn wsX1_isOnMap := goodIn_r _ [9, 10, 11, 15, 16, 17, 18, 19] (by decide +kernel) (by decide +kernel)
set_option maxRecDepth 20000 in
theorem gX1_turnStubborn_X1_isOnMap : GoodIn wsX1_turnStubborn (wsV RX1 44 RX1 yX1_isOnMap wsX1_isOnMap) := goodIn_app (goodIn_of _ (by decide +kernel)) ggX1_turnStubborn_X1_isOnMap
set_option maxRecDepth 20000 in
theorem ggX1_turnStubborn_X1_cell : GoodIn wsX1_turnStubborn wsX1_cell := goodIn_r _ [14] (by decide +kernel) (by decide +kernel)
set_option maxRecDepth 20000 in
theorem gX1_turnStubborn_X1_cell : GoodIn wsX1_turnStubborn (va_wsS RX1 56 yX1_cell wsX1_cell) := goodIn_app (goodIn_of _ (by decide +kernel)) ggX1_turnStubborn_X1_cell
set_option maxRecDepth 20000 in
theorem ggX1_pass_X0_surge : GoodIn wsX1_pass wsX0_surge := goodIn_r _ [9, 10, 11, 12, 8, 13, 14, 15, 16, 17, 18, 19, 20, 21, 22, 23, 24, 25, 26, 27, 28, 29, 30, 43, 44, 45, 46, 47, 48] (by decide +kernel) (by decide +kernel)
set_option maxRecDepth 20000 in
theorem gX1_pass_X0_surge : GoodIn wsX1_pass (wsV RX1 79 RX0 yX0_surge wsX0_surge) := goodIn_app (goodIn_of _ (by decide +kernel)) ggX1_pass_X0_surge
set_option maxRecDepth 20000 in
theorem ggX1_pass_J6_bitCount_0f7a4 : GoodIn wsX1_pass wsJ6_bitCount_0f7a4 := goodIn_r _ [34, 35, 36, 37] (by decide +kernel) (by decide +kernel)
set_option maxRecDepth 20000 in
theorem gX1_pass_J6_bitCount_0f7a4 : GoodIn wsX1_pass (va_wsS RX1 82 yJ6_bitCount_0f7a4 wsJ6_bitCount_0f7a4) := goodIn_app (goodIn_of _ (by decide +kernel)) ggX1_pass_J6_bitCount_0f7a4
set_option maxRecDepth 20000 in
theorem ggX1_colourAt_X1_isOnMap : GoodIn wsX1_colourAt wsX1_isOnMap := goodIn_r _ [8, 9, 10, 23, 24, 25, 26, 27] (by decide +kernel) (by decide +kernel)
set_option maxRecDepth 20000 in
theorem gX1_colourAt_X1_isOnMap : GoodIn wsX1_colourAt (wsV RX1 44 RX1 yX1_isOnMap wsX1_isOnMap) := goodIn_app (goodIn_of _ (by decide +kernel)) ggX1_colourAt_X1_isOnMap
set_option maxRecDepth 20000 in
theorem ggX1_colourAt_X1_cell : GoodIn wsX1_colourAt wsX1_cell := goodIn_r _ [13] (by decide +kernel) (by decide +kernel)
set_option maxRecDepth 20000 in
theorem gX1_colourAt_X1_cell : GoodIn wsX1_colourAt (va_wsS RX1 56 yX1_cell wsX1_cell) := goodIn_app (goodIn_of _ (by decide +kernel)) ggX1_colourAt_X1_cell
set_option maxRecDepth 20000 in
theorem ggX1_colourAt_X0_colourOf : GoodIn wsX1_colourAt wsX0_colourOf := goodIn_r _ [18, 19, 20, 21, 17, 22, 28, 29, 30, 31, 32, 33] (by decide +kernel) (by decide +kernel)
set_option maxRecDepth 20000 in
theorem gX1_colourAt_X0_colourOf : GoodIn wsX1_colourAt (wsV RX1 60 RX0 yX0_colourOf wsX0_colourOf) := goodIn_app (goodIn_of _ (by decide +kernel)) ggX1_colourAt_X0_colourOf
set_option maxRecDepth 20000 in
theorem ggX1_isStubborn_X1_isOnMap : GoodIn wsX1_isStubborn wsX1_isOnMap := goodIn_r _ [9, 10, 11, 15, 16, 17, 18, 19] (by decide +kernel) (by decide +kernel)
set_option maxRecDepth 20000 in
theorem gX1_isStubborn_X1_isOnMap : GoodIn wsX1_isStubborn (wsV RX1 44 RX1 yX1_isOnMap wsX1_isOnMap) := goodIn_app (goodIn_of _ (by decide +kernel)) ggX1_isStubborn_X1_isOnMap
set_option maxRecDepth 20000 in
theorem ggX1_isStubborn_X1_cell : GoodIn wsX1_isStubborn wsX1_cell := goodIn_r _ [14] (by decide +kernel) (by decide +kernel)
set_option maxRecDepth 20000 in
theorem gX1_isStubborn_X1_cell : GoodIn wsX1_isStubborn (va_wsS RX1 56 yX1_cell wsX1_cell) := goodIn_app (goodIn_of _ (by decide +kernel)) ggX1_isStubborn_X1_cell
set_option maxRecDepth 20000 in
theorem ggX1_neighboursWith_X1_isOnMap : GoodIn wsX1_neighboursWith wsX1_isOnMap := goodIn_r _ [8, 9, 10, 36, 37, 38, 39, 40] (by decide +kernel) (by decide +kernel)
set_option maxRecDepth 20000 in
theorem gX1_neighboursWith_X1_isOnMap : GoodIn wsX1_neighboursWith (wsV RX1 44 RX1 yX1_isOnMap wsX1_isOnMap) := goodIn_app (goodIn_of _ (by decide +kernel)) ggX1_neighboursWith_X1_isOnMap
set_option maxRecDepth 20000 in
theorem ggX1_neighboursWith_X1_isColourOrBare : GoodIn wsX1_neighboursWith wsX1_isColourOrBare := goodIn_r _ [13, 14, 15, 7, 16] (by decide +kernel) (by decide +kernel)
set_option maxRecDepth 20000 in
theorem gX1_neighboursWith_X1_isColourOrBare : GoodIn wsX1_neighboursWith (va_wsS RX1 48 yX1_isColourOrBare wsX1_isColourOrBare) := goodIn_app (goodIn_of _ (by decide +kernel)) ggX1_neighboursWith_X1_isColourOrBare
set_option maxRecDepth 20000 in
theorem ggX1_neighboursWith_X1_cell : GoodIn wsX1_neighboursWith wsX1_cell := goodIn_r _ [19] (by decide +kernel) (by decide +kernel)
set_option maxRecDepth 20000 in
theorem gX1_neighboursWith_X1_cell : GoodIn wsX1_neighboursWith (va_wsS RX1 56 yX1_cell wsX1_cell) := goodIn_app (goodIn_of _ (by decide +kernel)) ggX1_neighboursWith_X1_cell
set_option maxRecDepth 20000 in
theorem ggX1_neighboursWith_X1_nextTo : GoodIn wsX1_neighboursWith wsX1_nextTo := goodIn_r _ [22] (by decide +kernel) (by decide +kernel)
set_option maxRecDepth 20000 in
theorem gX1_neighboursWith_X1_nextTo : GoodIn wsX1_neighboursWith (va_wsS RX1 87 yX1_nextTo wsX1_nextTo) := goodIn_app (goodIn_of _ (by decide +kernel)) ggX1_neighboursWith_X1_nextTo
set_option maxRecDepth 20000 in
theorem ggX1_neighboursWith_X0_cellsWith : GoodIn wsX1_neighboursWith wsX0_cellsWith := goodIn_r _ [27, 28, 41, 42, 43, 44, 45, 46] (by decide +kernel) (by decide +kernel)
set_option maxRecDepth 20000 in
theorem gX1_neighboursWith_X0_cellsWith : GoodIn wsX1_neighboursWith (wsV RX1 90 RX0 yX0_cellsWith wsX0_cellsWith) := goodIn_app (goodIn_of _ (by decide +kernel)) ggX1_neighboursWith_X0_cellsWith
set_option maxRecDepth 20000 in
theorem ggX1_neighboursWith_J6_bitCount_0f7a4 : GoodIn wsX1_neighboursWith wsJ6_bitCount_0f7a4 := goodIn_r _ [32, 33, 34, 35] (by decide +kernel) (by decide +kernel)
set_option maxRecDepth 20000 in
theorem gX1_neighboursWith_J6_bitCount_0f7a4 : GoodIn wsX1_neighboursWith (va_wsS RX1 82 yJ6_bitCount_0f7a4 wsJ6_bitCount_0f7a4) := goodIn_app (goodIn_of _ (by decide +kernel)) ggX1_neighboursWith_J6_bitCount_0f7a4
set_option maxRecDepth 20000 in
theorem ggX1_nextColour_X1_isOnMap : GoodIn wsX1_nextColour wsX1_isOnMap := goodIn_r _ [8, 9, 10, 43, 44, 45, 46, 47] (by decide +kernel) (by decide +kernel)
set_option maxRecDepth 20000 in
theorem gX1_nextColour_X1_isOnMap : GoodIn wsX1_nextColour (wsV RX1 44 RX1 yX1_isOnMap wsX1_isOnMap) := goodIn_app (goodIn_of _ (by decide +kernel)) ggX1_nextColour_X1_isOnMap
set_option maxRecDepth 20000 in
theorem ggX1_nextColour_X0_foresee : GoodIn wsX1_nextColour wsX0_foresee := goodIn_r _ [15, 16, 17, 18, 19, 20, 21, 14, 22, 23, 24, 25, 26, 27, 28, 48, 49, 50, 51, 52, 53] (by decide +kernel) (by decide +kernel)
set_option maxRecDepth 20000 in
theorem gX1_nextColour_X0_foresee : GoodIn wsX1_nextColour (wsV RX1 93 RX0 yX0_foresee wsX0_foresee) := goodIn_app (goodIn_of _ (by decide +kernel)) ggX1_nextColour_X0_foresee
set_option maxRecDepth 20000 in
theorem ggX1_nextColour_X1_cell : GoodIn wsX1_nextColour wsX1_cell := goodIn_r _ [31] (by decide +kernel) (by decide +kernel)
set_option maxRecDepth 20000 in
theorem gX1_nextColour_X1_cell : GoodIn wsX1_nextColour (va_wsS RX1 56 yX1_cell wsX1_cell) := goodIn_app (goodIn_of _ (by decide +kernel)) ggX1_nextColour_X1_cell
set_option maxRecDepth 20000 in
theorem ggX1_nextColour_X0_foreseenColourOf : GoodIn wsX1_nextColour wsX0_foreseenColourOf := goodIn_r _ [35, 16, 36, 37, 14, 38, 39, 40, 41, 42, 18, 48, 49, 50, 51, 52, 53] (by decide +kernel) (by decide +kernel)
set_option maxRecDepth 20000 in
theorem gX1_nextColour_X0_foreseenColourOf : GoodIn wsX1_nextColour (wsV RX1 97 RX0 yX0_foreseenColourOf wsX0_foreseenColourOf) := goodIn_app (goodIn_of _ (by decide +kernel)) ggX1_nextColour_X0_foreseenColourOf
set_option maxRecDepth 20000 in
theorem ggX1_regionSize_X1_isOnMap : GoodIn wsX1_regionSize wsX1_isOnMap := goodIn_r _ [8, 9, 10, 43, 44, 45, 46, 47] (by decide +kernel) (by decide +kernel)
set_option maxRecDepth 20000 in
theorem gX1_regionSize_X1_isOnMap : GoodIn wsX1_regionSize (wsV RX1 44 RX1 yX1_isOnMap wsX1_isOnMap) := goodIn_app (goodIn_of _ (by decide +kernel)) ggX1_regionSize_X1_isOnMap
set_option maxRecDepth 20000 in
theorem ggX1_regionSize_X1_cell : GoodIn wsX1_regionSize wsX1_cell := goodIn_r _ [13] (by decide +kernel) (by decide +kernel)
set_option maxRecDepth 20000 in
theorem gX1_regionSize_X1_cell : GoodIn wsX1_regionSize (va_wsS RX1 56 yX1_cell wsX1_cell) := goodIn_app (goodIn_of _ (by decide +kernel)) ggX1_regionSize_X1_cell
set_option maxRecDepth 20000 in
theorem ggX1_regionSize_X0_sizeOfRegion : GoodIn wsX1_regionSize wsX0_sizeOfRegion := goodIn_r _ [18, 19, 20, 21, 17, 22, 23, 24, 25, 26, 27, 28, 29, 30, 31, 32, 33, 34, 7, 35, 36, 37, 38, 39, 40, 41, 42, 48, 49, 50, 51, 52, 53] (by decide +kernel) (by decide +kernel)
set_option maxRecDepth 20000 in
theorem gX1_regionSize_X0_sizeOfRegion : GoodIn wsX1_regionSize (wsV RX1 100 RX0 yX0_sizeOfRegion wsX0_sizeOfRegion) := goodIn_app (goodIn_of _ (by decide +kernel)) ggX1_regionSize_X0_sizeOfRegion
set_option maxRecDepth 20000 in
theorem ggX1_stubbornCells_J6_bitCount_0f7a4 : GoodIn wsX1_stubbornCells wsJ6_bitCount_0f7a4 := goodIn_r _ [6, 7, 8, 9] (by decide +kernel) (by decide +kernel)
set_option maxRecDepth 20000 in
theorem gX1_stubbornCells_J6_bitCount_0f7a4 : GoodIn wsX1_stubbornCells (va_wsS RX1 82 yJ6_bitCount_0f7a4 wsJ6_bitCount_0f7a4) := goodIn_app (goodIn_of _ (by decide +kernel)) ggX1_stubbornCells_J6_bitCount_0f7a4
set_option maxRecDepth 20000 in
theorem ggX1_cellsOf_X1_isColourOrBare : GoodIn wsX1_cellsOf wsX1_isColourOrBare := goodIn_r _ [7, 8, 9, 6, 10] (by decide +kernel) (by decide +kernel)
set_option maxRecDepth 20000 in
theorem gX1_cellsOf_X1_isColourOrBare : GoodIn wsX1_cellsOf (va_wsS RX1 48 yX1_isColourOrBare wsX1_isColourOrBare) := goodIn_app (goodIn_of _ (by decide +kernel)) ggX1_cellsOf_X1_isColourOrBare
set_option maxRecDepth 20000 in
theorem ggX1_cellsOf_X0_count : GoodIn wsX1_cellsOf wsX0_count := goodIn_r _ [15, 16, 17, 18, 14, 19, 20, 21, 22, 23, 24, 25, 26, 27, 33, 34, 35, 36, 37, 38] (by decide +kernel) (by decide +kernel)
set_option maxRecDepth 20000 in
theorem gX1_cellsOf_X0_count : GoodIn wsX1_cellsOf (wsV RX1 105 RX0 yX0_count wsX0_count) := goodIn_app (goodIn_of _ (by decide +kernel)) ggX1_cellsOf_X0_count
set_option maxRecDepth 20000 in
theorem ggX1_regionsOf_X1_isColour : GoodIn wsX1_regionsOf wsX1_isColour := goodIn_r _ [7] (by decide +kernel) (by decide +kernel)
set_option maxRecDepth 20000 in
theorem gX1_regionsOf_X1_isColour : GoodIn wsX1_regionsOf (va_wsS RX1 108 yX1_isColour wsX1_isColour) := goodIn_app (goodIn_of _ (by decide +kernel)) ggX1_regionsOf_X1_isColour
set_option maxRecDepth 20000 in
theorem ggX1_regionsOf_X0_countRegions : GoodIn wsX1_regionsOf wsX0_countRegions := goodIn_r _ [12, 13, 14, 15, 11, 16, 17, 18, 19, 20, 21, 6, 22, 28, 29, 30, 31, 32, 33] (by decide +kernel) (by decide +kernel)
set_option maxRecDepth 20000 in
theorem gX1_regionsOf_X0_countRegions : GoodIn wsX1_regionsOf (wsV RX1 111 RX0 yX0_countRegions wsX0_countRegions) := goodIn_app (goodIn_of _ (by decide +kernel)) ggX1_regionsOf_X0_countRegions
set_option maxRecDepth 20000 in
theorem ggX1_greatestRegion_X1_isColour : GoodIn wsX1_greatestRegion wsX1_isColour := goodIn_r _ [7] (by decide +kernel) (by decide +kernel)
set_option maxRecDepth 20000 in
theorem gX1_greatestRegion_X1_isColour : GoodIn wsX1_greatestRegion (va_wsS RX1 108 yX1_isColour wsX1_isColour) := goodIn_app (goodIn_of _ (by decide +kernel)) ggX1_greatestRegion_X1_isColour
set_option maxRecDepth 20000 in
theorem ggX1_greatestRegion_X0_sizeOfGreatestRegion : GoodIn wsX1_greatestRegion wsX0_sizeOfGreatestRegion := goodIn_r _ [12, 13, 14, 15, 16, 17, 18, 19, 11, 20, 21, 22, 23, 24, 25, 6, 26, 27, 28, 29, 30, 31, 32, 33, 39, 40, 41, 42, 43, 44] (by decide +kernel) (by decide +kernel)
set_option maxRecDepth 20000 in
theorem gX1_greatestRegion_X0_sizeOfGreatestRegion : GoodIn wsX1_greatestRegion (wsV RX1 114 RX0 yX0_sizeOfGreatestRegion wsX0_sizeOfGreatestRegion) := goodIn_app (goodIn_of _ (by decide +kernel)) ggX1_greatestRegion_X0_sizeOfGreatestRegion
set_option maxRecDepth 20000 in
theorem ggX1_borders_X0_countBorders : GoodIn wsX1_borders wsX0_countBorders := goodIn_r _ [6, 7, 8, 9, 10, 11, 5, 12, 13, 14, 15, 16, 17, 18, 19, 20, 21, 22, 28, 29, 30, 31, 32, 33] (by decide +kernel) (by decide +kernel)
set_option maxRecDepth 20000 in
theorem gX1_borders_X0_countBorders : GoodIn wsX1_borders (wsV RX1 117 RX0 yX0_countBorders wsX0_countBorders) := goodIn_app (goodIn_of _ (by decide +kernel)) ggX1_borders_X0_countBorders
set_option maxRecDepth 20000 in
theorem ggX1_leader_X0_count : GoodIn wsX1_leader wsX0_count := goodIn_r _ [6, 7, 8, 9, 5, 10, 11, 12, 13, 14, 15, 16, 17, 18, 24, 25, 26, 27, 28, 29] (by decide +kernel) (by decide +kernel)
set_option maxRecDepth 20000 in
theorem gX1_leader_X0_count : GoodIn wsX1_leader (wsV RX1 105 RX0 yX0_count wsX0_count) := goodIn_app (goodIn_of _ (by decide +kernel)) ggX1_leader_X0_count
set_option maxRecDepth 20000 in
theorem ggX1_isStill_X0_foresee : GoodIn wsX1_isStill wsX0_foresee := goodIn_r _ [6, 7, 8, 9, 10, 11, 12, 5, 13, 14, 15, 16, 17, 18, 19, 25, 26, 27, 28, 29, 30] (by decide +kernel) (by decide +kernel)
set_option maxRecDepth 20000 in
theorem gX1_isStill_X0_foresee : GoodIn wsX1_isStill (wsV RX1 93 RX0 yX0_foresee wsX0_foresee) := goodIn_app (goodIn_of _ (by decide +kernel)) ggX1_isStill_X0_foresee
set_option maxRecDepth 20000 in
theorem ggX1_winner_X0_isAll : GoodIn wsX1_winner wsX0_isAll := goodIn_r _ [6, 7, 8, 9, 10, 5, 11, 12, 18, 19, 20, 21, 22, 23] (by decide +kernel) (by decide +kernel)
set_option maxRecDepth 20000 in
theorem gX1_winner_X0_isAll : GoodIn wsX1_winner (wsV RX1 120 RX0 yX0_isAll wsX0_isAll) := goodIn_app (goodIn_of _ (by decide +kernel)) ggX1_winner_X0_isAll
set_option maxRecDepth 20000 in
theorem ggX1_share_X1_isColourOrBare : GoodIn wsX1_share wsX1_isColourOrBare := goodIn_r _ [9, 10, 11, 8, 12] (by decide +kernel) (by decide +kernel)
set_option maxRecDepth 20000 in
theorem gX1_share_X1_isColourOrBare : GoodIn wsX1_share (va_wsS RX1 48 yX1_isColourOrBare wsX1_isColourOrBare) := goodIn_app (goodIn_of _ (by decide +kernel)) ggX1_share_X1_isColourOrBare
set_option maxRecDepth 20000 in
theorem ggX1_share_X0_count : GoodIn wsX1_share wsX0_count := goodIn_r _ [17, 18, 19, 20, 16, 21, 22, 23, 24, 25, 26, 27, 28, 29, 35, 36, 37, 38, 39, 40] (by decide +kernel) (by decide +kernel)
set_option maxRecDepth 20000 in
theorem gX1_share_X0_count : GoodIn wsX1_share (wsV RX1 105 RX0 yX0_count wsX0_count) := goodIn_app (goodIn_of _ (by decide +kernel)) ggX1_share_X0_count
set_option maxRecDepth 20000 in
theorem ggX1_isColourOrBare_X1_isColour : GoodIn wsX1_isColourOrBare wsX1_isColour := goodIn_r _ [4] (by decide +kernel) (by decide +kernel)
set_option maxRecDepth 20000 in
theorem gX1_isColourOrBare_X1_isColour : GoodIn wsX1_isColourOrBare (va_wsS RX1 108 yX1_isColour wsX1_isColour) := goodIn_app (goodIn_of _ (by decide +kernel)) ggX1_isColourOrBare_X1_isColour
end
section
set_option maxRecDepth 20000 in
theorem ggX2_beside_X2_at : GoodIn wsX2_beside wsX2_at := goodIn_r _ [5, 6, 7, 8, 9, 10, 11, 12, 13, 14] (by decide +kernel) (by decide +kernel)
set_option maxRecDepth 20000 in
theorem gX2_beside_X2_at : GoodIn wsX2_beside (wsV RX2 29 RX2 yX2_at wsX2_at) := goodIn_app (goodIn_of _ (by decide +kernel)) ggX2_beside_X2_at
set_option maxRecDepth 20000 in
theorem ggX2_bare_X2_beside : GoodIn wsX2_bare wsX2_beside := goodIn_r _ [7, 8, 9, 10, 6, 11, 1, 2, 12, 13, 14, 15, 16, 17, 18] (by decide +kernel) (by decide +kernel)
set_option maxRecDepth 20000 in
theorem gX2_bare_X2_beside : GoodIn wsX2_bare (wsV RX2 33 RX2 yX2_beside wsX2_beside) := goodIn_app (goodIn_of _ (by decide +kernel)) ggX2_bare_X2_beside
set_option maxRecDepth 20000 in
theorem ggX2_next_X2_beside : GoodIn wsX2_next wsX2_beside := goodIn_r _ [8, 9, 10, 11, 7, 12, 13, 14, 2, 15, 16, 17, 18, 19, 20] (by decide +kernel) (by decide +kernel)
set_option maxRecDepth 20000 in
theorem gX2_next_X2_beside : GoodIn wsX2_next (wsV RX2 33 RX2 yX2_beside wsX2_beside) := goodIn_app (goodIn_of _ (by decide +kernel)) ggX2_next_X2_beside
set_option maxRecDepth 20000 in
theorem ggX2_wave_X2_next : GoodIn wsX2_wave wsX2_next := goodIn_r _ [10, 11, 5, 12, 13, 14, 15, 9, 16, 17, 18, 19, 20, 1, 2, 21, 22, 23, 24, 25, 26] (by decide +kernel) (by decide +kernel)
set_option maxRecDepth 20000 in
theorem gX2_wave_X2_next : GoodIn wsX2_wave (wsV RX2 37 RX2 yX2_next wsX2_next) := goodIn_app (goodIn_of _ (by decide +kernel)) ggX2_wave_X2_next
set_option maxRecDepth 20000 in
theorem ggX2_regions_X2_at : GoodIn wsX2_regions wsX2_at := goodIn_r _ [14, 1, 2, 5, 15, 16, 17, 18, 19, 20] (by decide +kernel) (by decide +kernel)
set_option maxRecDepth 20000 in
theorem gX2_regions_X2_at : GoodIn wsX2_regions (wsV RX2 29 RX2 yX2_at wsX2_at) := goodIn_app (goodIn_of _ (by decide +kernel)) ggX2_regions_X2_at
set_option maxRecDepth 20000 in
theorem ggX2_isSame_X1_width : GoodIn wsX2_isSame wsX1_width := goodIn_r _ [16, 17, 218, 219, 220, 221, 222] (by decide +kernel) (by decide +kernel)
set_option maxRecDepth 20000 in
theorem gX2_isSame_X1_width : GoodIn wsX2_isSame (wsV RX2 63 RX1 yX1_width wsX1_width) := goodIn_app (goodIn_of _ (by decide +kernel)) ggX2_isSame_X1_width
set_option maxRecDepth 20000 in
theorem ggX2_isSame_X1_height : GoodIn wsX2_isSame wsX1_height := goodIn_r _ [21, 22, 218, 219, 220, 221, 222] (by decide +kernel) (by decide +kernel)
set_option maxRecDepth 20000 in
theorem gX2_isSame_X1_height : GoodIn wsX2_isSame (wsV RX2 68 RX1 yX1_height wsX1_height) := goodIn_app (goodIn_of _ (by decide +kernel)) ggX2_isSame_X1_height
set_option maxRecDepth 20000 in
theorem ggX2_isSame_X1_need : GoodIn wsX2_isSame wsX1_need := goodIn_r _ [26, 27, 28, 218, 219, 220, 221, 222, 223, 224, 225, 226, 227, 228] (by decide +kernel) (by decide +kernel)
set_option maxRecDepth 20000 in
theorem gX2_isSame_X1_need : GoodIn wsX2_isSame (wsV RX2 71 RX1 yX1_need wsX1_need) := goodIn_app (goodIn_of _ (by decide +kernel)) ggX2_isSame_X1_need
set_option maxRecDepth 20000 in
theorem ggX2_isSame_X1_waves : GoodIn wsX2_isSame wsX1_waves := goodIn_r _ [32, 33, 218, 219, 220, 221, 222] (by decide +kernel) (by decide +kernel)
set_option maxRecDepth 20000 in
theorem gX2_isSame_X1_waves : GoodIn wsX2_isSame (wsV RX2 73 RX1 yX1_waves wsX1_waves) := goodIn_app (goodIn_of _ (by decide +kernel)) ggX2_isSame_X1_waves
set_option maxRecDepth 20000 in
theorem ggX2_isSame_X2_regions : GoodIn wsX2_isSame wsX2_regions := goodIn_r _ [38, 1, 2, 39, 5, 7, 40, 41, 10, 42, 43, 44, 45, 37, 46, 212, 213, 214, 215, 216, 217] (by decide +kernel) (by decide +kernel)
set_option maxRecDepth 20000 in
theorem gX2_isSame_X2_regions : GoodIn wsX2_isSame (wsV RX2 75 RX2 yX2_regions wsX2_regions) := goodIn_app (goodIn_of _ (by decide +kernel)) ggX2_isSame_X2_regions
set_option maxRecDepth 20000 in
theorem ggX2_isSame_X2_next : GoodIn wsX2_isSame wsX2_next := goodIn_r _ [50, 6, 7, 3, 51, 52, 53, 37, 54, 43, 44, 45, 46, 1, 2, 212, 213, 214, 215, 216, 217] (by decide +kernel) (by decide +kernel)
set_option maxRecDepth 20000 in
theorem gX2_isSame_X2_next : GoodIn wsX2_isSame (wsV RX2 37 RX2 yX2_next wsX2_next) := goodIn_app (goodIn_of _ (by decide +kernel)) ggX2_isSame_X2_next
set_option maxRecDepth 20000 in
theorem ggX2_isSame_X2_at : GoodIn wsX2_isSame wsX2_at := goodIn_r _ [46, 1, 2, 7, 212, 213, 214, 215, 216, 217] (by decide +kernel) (by decide +kernel)
set_option maxRecDepth 20000 in
theorem gX2_isSame_X2_at : GoodIn wsX2_isSame (wsV RX2 29 RX2 yX2_at wsX2_at) := goodIn_app (goodIn_of _ (by decide +kernel)) ggX2_isSame_X2_at
set_option maxRecDepth 20000 in
theorem ggX2_isSame_X1_regionsOf : GoodIn wsX2_isSame wsX1_regionsOf := goodIn_ca (goodIn_r _ [58, 59, 60, 27, 61, 62, 15, 63, 64, 65, 66, 67, 68, 69, 70, 71, 72, 73, 74, 75, 76, 77, 78, 218, 219, 220, 221, 222, 223, 224, 225, 226, 227, 228] (by decide +kernel) (by decide +kernel)) (goodIn_sub (fun _ h => List.mem_cons_of_mem _ (List.mem_append_right _ h)) (by decide +kernel))
set_option maxRecDepth 20000 in
theorem gX2_isSame_X1_regionsOf : GoodIn wsX2_isSame (wsV RX2 82 RX1 yX1_regionsOf wsX1_regionsOf) := goodIn_app (goodIn_of _ (by decide +kernel)) ggX2_isSame_X1_regionsOf
set_option maxRecDepth 20000 in
theorem ggX2_isSame_X1_greatestRegion : GoodIn wsX2_isSame wsX1_greatestRegion := goodIn_ca (goodIn_r _ [82, 59, 60, 27, 61, 62, 15, 63, 83, 84, 85, 67, 86, 87, 9, 10, 11, 69, 70, 71, 72, 73, 74, 75, 76, 77, 78, 88, 89, 90, 91, 92, 93, 94, 218, 219, 220, 221, 222, 223, 224, 225, 226, 227, 228] (by decide +kernel) (by decide +kernel)) (goodIn_sub (fun _ h => List.mem_cons_of_mem _ (List.mem_append_right _ h)) (by decide +kernel))
set_option maxRecDepth 20000 in
theorem gX2_isSame_X1_greatestRegion : GoodIn wsX2_isSame (wsV RX2 85 RX1 yX1_greatestRegion wsX1_greatestRegion) := goodIn_app (goodIn_of _ (by decide +kernel)) ggX2_isSame_X1_greatestRegion
set_option maxRecDepth 20000 in
theorem ggX2_isSame_X2_cells : GoodIn wsX2_isSame wsX2_cells := goodIn_r _ [98, 7, 212, 213, 214, 215, 216, 217] (by decide +kernel) (by decide +kernel)
set_option maxRecDepth 20000 in
theorem gX2_isSame_X2_cells : GoodIn wsX2_isSame (wsV RX2 55 RX2 yX2_cells wsX2_cells) := goodIn_app (goodIn_of _ (by decide +kernel)) ggX2_isSame_X2_cells
set_option maxRecDepth 20000 in
theorem ggX2_isSame_X1_cellsOf : GoodIn wsX2_isSame wsX1_cellsOf := goodIn_ca (goodIn_r _ [102, 59, 60, 27, 103, 104, 15, 105, 61, 62, 63, 106, 107, 108, 67, 109, 69, 70, 71, 72, 73, 88, 89, 90, 91, 92, 93, 94, 218, 219, 220, 221, 222, 223, 224, 225, 226, 227, 228] (by decide +kernel) (by decide +kernel)) (goodIn_sub (fun _ h => List.mem_cons_of_mem _ (List.mem_append_right _ h)) (by decide +kernel))
set_option maxRecDepth 20000 in
theorem gX2_isSame_X1_cellsOf : GoodIn wsX2_isSame (wsV RX2 88 RX1 yX1_cellsOf wsX1_cellsOf) := goodIn_app (goodIn_of _ (by decide +kernel)) ggX2_isSame_X1_cellsOf
set_option maxRecDepth 20000 in
theorem ggX2_isSame_X1_share : GoodIn wsX2_isSame wsX1_share := goodIn_ca (goodIn_r _ [113, 59, 60, 17, 22, 27, 103, 104, 15, 105, 61, 62, 63, 106, 107, 108, 67, 109, 69, 70, 71, 72, 73, 88, 89, 90, 91, 92, 93, 94, 218, 219, 220, 221, 222, 223, 224, 225, 226, 227, 228] (by decide +kernel) (by decide +kernel)) (goodIn_sub (fun _ h => List.mem_cons_of_mem _ (List.mem_append_right _ h)) (by decide +kernel))
set_option maxRecDepth 20000 in
theorem gX2_isSame_X1_share : GoodIn wsX2_isSame (wsV RX2 91 RX1 yX1_share wsX1_share) := goodIn_app (goodIn_of _ (by decide +kernel)) ggX2_isSame_X1_share
set_option maxRecDepth 20000 in
theorem ggX2_isSame_X1_colourAt : GoodIn wsX2_isSame wsX1_colourAt := goodIn_ca (goodIn_r _ [117, 59, 60, 27, 118, 119, 120, 15, 121, 17, 22, 122, 123, 124, 125, 126, 127, 67, 128, 73, 129, 130, 131, 218, 219, 220, 221, 222, 223, 224, 225, 226, 227, 228] (by decide +kernel) (by decide +kernel)) (goodIn_sub (fun _ h => List.mem_cons_of_mem _ (List.mem_append_right _ h)) (by decide +kernel))
set_option maxRecDepth 20000 in
theorem gX2_isSame_X1_colourAt : GoodIn wsX2_isSame (wsV RX2 95 RX1 yX1_colourAt wsX1_colourAt) := goodIn_app (goodIn_of _ (by decide +kernel)) ggX2_isSame_X1_colourAt
set_option maxRecDepth 20000 in
theorem ggX2_isSame_X1_isStubborn : GoodIn wsX2_isSame wsX1_isStubborn := goodIn_ca (goodIn_r _ [135, 59, 60, 27, 136, 118, 119, 120, 15, 121, 17, 22, 122, 123, 124, 218, 219, 220, 221, 222, 223, 224, 225, 226, 227, 228] (by decide +kernel) (by decide +kernel)) (goodIn_sub (fun _ h => List.mem_cons_of_mem _ (List.mem_append_right _ h)) (by decide +kernel))
set_option maxRecDepth 20000 in
theorem gX2_isSame_X1_isStubborn : GoodIn wsX2_isSame (wsV RX2 98 RX1 yX1_isStubborn wsX1_isStubborn) := goodIn_app (goodIn_of _ (by decide +kernel)) ggX2_isSame_X1_isStubborn
set_option maxRecDepth 20000 in
theorem ggX2_isSame_X1_nextColour : GoodIn wsX2_isSame wsX1_nextColour := goodIn_ca (goodIn_r _ [140, 59, 60, 27, 118, 119, 120, 15, 121, 17, 22, 141, 142, 143, 67, 144, 145, 146, 73, 147, 148, 149, 150, 151, 152, 153, 154, 155, 156, 122, 123, 124, 157, 158, 159, 160, 129, 130, 131, 161, 126, 127, 128, 218, 219, 220, 221, 222, 223, 224, 225, 226, 227, 228] (by decide +kernel) (by decide +kernel)) (goodIn_sub (fun _ h => List.mem_cons_of_mem _ (List.mem_append_right _ h)) (by decide +kernel))
set_option maxRecDepth 20000 in
theorem gX2_isSame_X1_nextColour : GoodIn wsX2_isSame (wsV RX2 102 RX1 yX1_nextColour wsX1_nextColour) := goodIn_app (goodIn_of _ (by decide +kernel)) ggX2_isSame_X1_nextColour
set_option maxRecDepth 20000 in
theorem ggX2_isSame_X1_regionSize : GoodIn wsX2_isSame wsX1_regionSize := goodIn_ca (goodIn_r _ [165, 59, 60, 27, 118, 119, 120, 15, 121, 17, 22, 122, 123, 124, 166, 167, 168, 67, 169, 161, 126, 127, 128, 73, 129, 130, 131, 69, 70, 71, 72, 74, 75, 76, 77, 78, 88, 89, 90, 91, 92, 93, 94, 218, 219, 220, 221, 222, 223, 224, 225, 226, 227, 228] (by decide +kernel) (by decide +kernel)) (goodIn_sub (fun _ h => List.mem_cons_of_mem _ (List.mem_append_right _ h)) (by decide +kernel))
set_option maxRecDepth 20000 in
theorem gX2_isSame_X1_regionSize : GoodIn wsX2_isSame (wsV RX2 105 RX1 yX1_regionSize wsX1_regionSize) := goodIn_app (goodIn_of _ (by decide +kernel)) ggX2_isSame_X1_regionSize
set_option maxRecDepth 20000 in
theorem ggX2_isSame_X1_neighboursWith : GoodIn wsX2_isSame wsX1_neighboursWith := goodIn_ca (goodIn_r _ [173, 59, 60, 27, 118, 119, 120, 15, 121, 17, 22, 103, 104, 105, 61, 62, 63, 122, 123, 124, 174, 77, 78, 175, 70, 71, 67, 72, 73, 176, 89, 90, 91, 92, 93, 94, 218, 219, 220, 221, 222, 223, 224, 225, 226, 227, 228] (by decide +kernel) (by decide +kernel)) (goodIn_sub (fun _ h => List.mem_cons_of_mem _ (List.mem_append_right _ h)) (by decide +kernel))
set_option maxRecDepth 20000 in
theorem gX2_isSame_X1_neighboursWith : GoodIn wsX2_isSame (wsV RX2 108 RX1 yX1_neighboursWith wsX1_neighboursWith) := goodIn_app (goodIn_of _ (by decide +kernel)) ggX2_isSame_X1_neighboursWith
set_option maxRecDepth 20000 in
theorem ggX2_isSame_X2_bare : GoodIn wsX2_isSame wsX2_bare := goodIn_r _ [180, 1, 2, 51, 52, 53, 37, 54, 43, 44, 45, 46, 7, 212, 213, 214, 215, 216, 217] (by decide +kernel) (by decide +kernel)
set_option maxRecDepth 20000 in
theorem gX2_isSame_X2_bare : GoodIn wsX2_isSame (wsV RX2 111 RX2 yX2_bare wsX2_bare) := goodIn_app (goodIn_of _ (by decide +kernel)) ggX2_isSame_X2_bare
set_option maxRecDepth 20000 in
theorem ggX2_isSame_X2_beside : GoodIn wsX2_isSame wsX2_beside := goodIn_r _ [54, 43, 44, 45, 37, 46, 1, 2, 7, 212, 213, 214, 215, 216, 217] (by decide +kernel) (by decide +kernel)
set_option maxRecDepth 20000 in
theorem gX2_isSame_X2_beside : GoodIn wsX2_isSame (wsV RX2 33 RX2 yX2_beside wsX2_beside) := goodIn_app (goodIn_of _ (by decide +kernel)) ggX2_isSame_X2_beside
set_option maxRecDepth 20000 in
theorem ggX2_isSame_X1_stubbornCells : GoodIn wsX2_isSame wsX1_stubbornCells := goodIn_r _ [184, 27, 136, 176, 89, 90, 91, 92, 93, 94, 218, 219, 220, 221, 222, 223, 224, 225, 226, 227, 228] (by decide +kernel) (by decide +kernel)
set_option maxRecDepth 20000 in
theorem gX2_isSame_X1_stubbornCells : GoodIn wsX2_isSame (wsV RX2 114 RX1 yX1_stubbornCells wsX1_stubbornCells) := goodIn_app (goodIn_of _ (by decide +kernel)) ggX2_isSame_X1_stubbornCells
set_option maxRecDepth 20000 in
theorem ggX2_isSame_X1_borders : GoodIn wsX2_isSame wsX1_borders := goodIn_r _ [188, 27, 189, 190, 191, 67, 192, 152, 73, 69, 70, 71, 72, 193, 194, 195, 88, 89, 90, 91, 92, 93, 94, 218, 219, 220, 221, 222, 223, 224, 225, 226, 227, 228] (by decide +kernel) (by decide +kernel)
set_option maxRecDepth 20000 in
theorem gX2_isSame_X1_borders : GoodIn wsX2_isSame (wsV RX2 117 RX1 yX1_borders wsX1_borders) := goodIn_app (goodIn_of _ (by decide +kernel)) ggX2_isSame_X1_borders
set_option maxRecDepth 20000 in
theorem ggX2_isSame_X1_leader : GoodIn wsX2_isSame wsX1_leader := goodIn_r _ [199, 27, 106, 107, 108, 67, 109, 69, 70, 71, 72, 73, 88, 89, 90, 91, 92, 93, 94, 218, 219, 220, 221, 222, 223, 224, 225, 226, 227, 228] (by decide +kernel) (by decide +kernel)
set_option maxRecDepth 20000 in
theorem gX2_isSame_X1_leader : GoodIn wsX2_isSame (wsV RX2 120 RX1 yX1_leader wsX1_leader) := goodIn_app (goodIn_of _ (by decide +kernel)) ggX2_isSame_X1_leader
set_option maxRecDepth 20000 in
theorem ggX2_isSame_X1_winner : GoodIn wsX2_isSame wsX1_winner := goodIn_r _ [203, 27, 204, 205, 206, 67, 207, 152, 69, 70, 71, 72, 73, 218, 219, 220, 221, 222, 223, 224, 225, 226, 227, 228] (by decide +kernel) (by decide +kernel)
set_option maxRecDepth 20000 in
theorem gX2_isSame_X1_winner : GoodIn wsX2_isSame (wsV RX2 123 RX1 yX1_winner wsX1_winner) := goodIn_app (goodIn_of _ (by decide +kernel)) ggX2_isSame_X1_winner
set_option maxRecDepth 20000 in
theorem ggX2_isSame_X1_isStill : GoodIn wsX2_isSame wsX1_isStill := goodIn_r _ [211, 27, 141, 142, 143, 67, 144, 145, 146, 73, 147, 148, 149, 150, 151, 152, 153, 154, 155, 156, 218, 219, 220, 221, 222, 223, 224, 225, 226, 227, 228] (by decide +kernel) (by decide +kernel)
set_option maxRecDepth 20000 in
theorem gX2_isSame_X1_isStill : GoodIn wsX2_isSame (wsV RX2 126 RX1 yX1_isStill wsX1_isStill) := goodIn_app (goodIn_of _ (by decide +kernel)) ggX2_isSame_X1_isStill
end
section
set_option maxRecDepth 20000 in
theorem ggL_act_L_below : GoodIn wsL_act wsL_below := goodIn_r _ [13, 14] (by decide +kernel) (by decide +kernel)
set_option maxRecDepth 20000 in
theorem gL_act_L_below : GoodIn wsL_act (va_wsS RL 15 yL_below wsL_below) := goodIn_app (goodIn_of _ (by decide +kernel)) ggL_act_L_below
set_option maxRecDepth 20000 in
theorem ggL_act_X2_init : GoodIn wsL_act wsX2_init := goodIn_r _ [17, 18, 19, 20, 21, 22, 23, 24, 25, 26, 27, 28, 29, 141, 142, 143, 144, 145, 146] (by decide +kernel) (by decide +kernel)
set_option maxRecDepth 20000 in
theorem gL_act_X2_init : GoodIn wsL_act (wsX2_init) := ggL_act_X2_init
set_option maxRecDepth 20000 in
theorem ggL_act_X1_newMap : GoodIn wsL_act wsX1_newMap := goodIn_ca (goodIn_r _ [34, 35, 36, 37, 38, 39, 40, 41, 42, 33, 43, 44, 45, 46, 47, 48, 49, 50, 51, 52, 53, 147, 148, 149, 150, 151, 152, 153, 154, 155, 156, 157] (by decide +kernel) (by decide +kernel)) (goodIn_sub (fun _ h => List.mem_cons_of_mem _ (List.mem_append_left _ (List.mem_append_right _ h))) (by decide +kernel))
set_option maxRecDepth 20000 in
theorem gL_act_X1_newMap : GoodIn wsL_act (wsV RL 30 RX1 yX1_newMap wsX1_newMap) := goodIn_app (goodIn_of _ (by decide +kernel)) ggL_act_X1_newMap
set_option maxRecDepth 20000 in
theorem ggL_act_X1_turnStubborn : GoodIn wsL_act wsX1_turnStubborn := goodIn_ca (goodIn_r _ [57, 58, 59, 40, 60, 61, 62, 63, 33, 64, 37, 38, 65, 52, 53, 147, 148, 149, 150, 151, 152, 153, 154, 155, 156, 157] (by decide +kernel) (by decide +kernel)) (goodIn_sub (fun _ h => List.mem_cons_of_mem _ (List.mem_append_right _ h)) (by decide +kernel))
set_option maxRecDepth 20000 in
theorem gL_act_X1_turnStubborn : GoodIn wsL_act (wsV RL 39 RX1 yX1_turnStubborn wsX1_turnStubborn) := goodIn_app (goodIn_of _ (by decide +kernel)) ggL_act_X1_turnStubborn
set_option maxRecDepth 20000 in
theorem ggL_act_X1_setNeed : GoodIn wsL_act wsX1_setNeed := goodIn_ca (goodIn_r _ [69, 35, 36, 40, 70, 147, 148, 149, 150, 151, 152, 153, 154, 155, 156, 157] (by decide +kernel) (by decide +kernel)) (goodIn_sub (fun _ h => List.mem_cons_of_mem _ (List.mem_append_left _ (List.mem_append_right _ h))) (by decide +kernel))
set_option maxRecDepth 20000 in
theorem gL_act_X1_setNeed : GoodIn wsL_act (wsV RL 43 RX1 yX1_setNeed wsX1_setNeed) := goodIn_app (goodIn_of _ (by decide +kernel)) ggL_act_X1_setNeed
set_option maxRecDepth 20000 in
theorem ggL_act_X2_wave : GoodIn wsL_act wsX2_wave := goodIn_r _ [74, 22, 23, 24, 25, 26, 75, 76, 77, 5, 78, 29, 21, 79, 80, 81, 82, 83, 84, 85, 86, 141, 142, 143, 144, 145, 146] (by decide +kernel) (by decide +kernel)
set_option maxRecDepth 20000 in
theorem gL_act_X2_wave : GoodIn wsL_act (wsV RL 47 RX2 yX2_wave wsX2_wave) := goodIn_app (goodIn_of _ (by decide +kernel)) ggL_act_X2_wave
set_option maxRecDepth 20000 in
theorem ggL_act_X1_pass : GoodIn wsL_act wsX1_pass := goodIn_ca (goodIn_r _ [90, 35, 36, 39, 40, 91, 92, 93, 47, 94, 95, 96, 97, 98, 99, 100, 51, 101, 102, 103, 104, 105, 49, 50, 106, 107, 108, 109, 110, 111, 112, 113, 114, 115, 116, 117, 118, 119, 147, 148, 149, 150, 151, 152, 153, 154, 155, 156, 157] (by decide +kernel) (by decide +kernel)) (goodIn_sub (fun _ h => List.mem_cons_of_mem _ (List.mem_append_left _ (List.mem_append_right _ h))) (by decide +kernel))
set_option maxRecDepth 20000 in
theorem gL_act_X1_pass : GoodIn wsL_act (wsV RL 54 RX1 yX1_pass wsX1_pass) := goodIn_app (goodIn_of _ (by decide +kernel)) ggL_act_X1_pass
set_option maxRecDepth 20000 in
theorem ggL_act_X1_paint : GoodIn wsL_act wsX1_paint := goodIn_ca (goodIn_r _ [123, 58, 59, 40, 61, 62, 63, 33, 64, 37, 38, 124, 125, 126, 127, 128, 129, 65, 52, 53, 130, 131, 132, 47, 133, 51, 134, 135, 136, 137, 138, 139, 140, 147, 148, 149, 150, 151, 152, 153, 154, 155, 156, 157] (by decide +kernel) (by decide +kernel)) (goodIn_sub (fun _ h => List.mem_cons_of_mem _ (List.mem_append_right _ h)) (by decide +kernel))
set_option maxRecDepth 20000 in
theorem gL_act_X1_paint : GoodIn wsL_act (wsV RL 61 RX1 yX1_paint wsX1_paint) := goodIn_app (goodIn_of _ (by decide +kernel)) ggL_act_X1_paint
set_option maxRecDepth 20000 in
theorem ggL_build_L_cell : GoodIn wsL_build wsL_cell := goodIn_r _ [9, 10] (by decide +kernel) (by decide +kernel)
set_option maxRecDepth 20000 in
theorem gL_build_L_cell : GoodIn wsL_build (va_wsS RL 65 yL_cell wsL_cell) := goodIn_app (goodIn_of _ (by decide +kernel)) ggL_build_L_cell
set_option maxRecDepth 20000 in
theorem ggL_build_L_below : GoodIn wsL_build wsL_below := goodIn_r _ [13, 14] (by decide +kernel) (by decide +kernel)
set_option maxRecDepth 20000 in
theorem gL_build_L_below : GoodIn wsL_build (va_wsS RL 15 yL_below wsL_below) := goodIn_app (goodIn_of _ (by decide +kernel)) ggL_build_L_below
set_option maxRecDepth 20000 in
theorem ggL_build_X2_init : GoodIn wsL_build wsX2_init := goodIn_r _ [17, 18, 19, 20, 21, 22, 23, 24, 25, 26, 27, 28, 29, 148, 149, 150, 151, 152, 153] (by decide +kernel) (by decide +kernel)
set_option maxRecDepth 20000 in
theorem gL_build_X2_init : GoodIn wsL_build (wsX2_init) := ggL_build_X2_init
set_option maxRecDepth 20000 in
theorem ggL_build_X1_newMap : GoodIn wsL_build wsX1_newMap := goodIn_ca (goodIn_r _ [34, 35, 36, 37, 38, 39, 40, 41, 42, 33, 43, 44, 45, 46, 47, 48, 49, 50, 51, 52, 53, 154, 155, 156, 157, 158, 159, 160, 161, 162, 163, 164] (by decide +kernel) (by decide +kernel)) (goodIn_sub (fun _ h => List.mem_cons_of_mem _ (List.mem_append_left _ (List.mem_append_right _ h))) (by decide +kernel))
set_option maxRecDepth 20000 in
theorem gL_build_X1_newMap : GoodIn wsL_build (wsV RL 30 RX1 yX1_newMap wsX1_newMap) := goodIn_app (goodIn_of _ (by decide +kernel)) ggL_build_X1_newMap
set_option maxRecDepth 20000 in
theorem ggL_build_L_act : GoodIn wsL_build wsL_act := goodIn_ca (goodIn_ca (goodIn_r _ [56, 4, 5, 1, 2, 3, 57, 58, 59, 60, 11, 12, 8, 13, 14, 15, 16, 17, 18, 19, 20, 21, 22, 23, 24, 25, 26, 27, 28, 29, 30, 31, 32, 33, 34, 35, 36, 37, 38, 39, 40, 41, 42, 43, 44, 45, 46, 47, 48, 49, 50, 51, 52, 53, 61, 62, 63, 64, 65, 66, 67, 68, 69, 70, 71, 72, 73, 74, 75, 76, 77, 78, 79, 80, 81, 82, 83, 84, 85, 86, 87, 88, 89, 90, 91, 92, 93, 94, 95, 96, 97, 98, 99, 100, 101, 102, 103, 104, 105, 106, 107, 108, 109, 110, 111, 112, 113, 114, 115, 116, 117, 118, 119, 120, 121, 122, 123, 124, 125, 126, 127, 128, 129, 130, 131, 132, 133, 134, 135, 136, 137, 138, 139, 140, 141, 142, 143, 144, 145, 146, 147, 148, 149, 150, 151, 152, 153, 154, 155, 156, 157, 158, 159, 160, 161, 162, 163, 164] (by decide +kernel) (by decide +kernel)) (goodIn_sub (fun _ h => List.mem_cons_of_mem _ (List.mem_append_left _ (List.mem_append_right _ h))) (by decide +kernel))) (goodIn_sub (fun _ h => List.mem_cons_of_mem _ (List.mem_append_right _ h)) (by decide +kernel))
set_option maxRecDepth 20000 in
theorem gL_build_L_act : GoodIn wsL_build (va_wsS RL 69 yL_act wsL_act) := goodIn_app (goodIn_of _ (by decide +kernel)) ggL_build_L_act
end
section
set_option maxRecDepth 20000 in
theorem ggL_law_X1_init : GoodIn wsL_law wsX1_init := goodIn_r _ [10, 11, 12, 13, 14, 15, 16, 17, 18, 19, 20, 21, 22, 23, 24, 25, 26, 3, 27, 28, 29, 30, 31, 32, 33, 34, 35, 36, 2, 37, 334, 335, 336, 337, 338, 339, 323, 324, 325, 326, 327] (by decide +kernel) (by decide +kernel)
set_option maxRecDepth 20000 in
theorem gL_law_X1_init : GoodIn wsL_law (wsX1_init) := ggL_law_X1_init
set_option maxRecDepth 20000 in
theorem ggL_law_L_build : GoodIn wsL_law wsL_build := goodIn_ca (goodIn_ca (goodIn_r _ [41, 42, 43, 44, 45, 46, 47, 48, 40, 49, 50, 51, 52, 53, 54, 55, 56, 57, 58, 12, 13, 59, 60, 61, 62, 3, 63, 64, 65, 66, 67, 68, 69, 2, 70, 71, 72, 19, 20, 21, 17, 73, 74, 75, 30, 31, 32, 16, 33, 34, 35, 27, 36, 37, 76, 77, 78, 79, 80, 5, 81, 82, 83, 84, 85, 86, 87, 88, 89, 90, 91, 92, 93, 94, 95, 96, 97, 98, 99, 100, 101, 102, 103, 104, 105, 106, 107, 108, 109, 110, 111, 112, 113, 114, 115, 116, 117, 118, 119, 120, 121, 122, 123, 124, 125, 126, 29, 26, 127, 128, 129, 130, 28, 131, 132, 133, 134, 135, 136, 137, 138, 139, 140, 141, 142, 143, 144, 145, 146, 147, 148, 149, 150, 151, 152, 153, 154, 155, 156, 157, 158, 159, 160, 161, 162, 163, 164, 165, 328, 329, 330, 331, 332, 333, 323, 324, 325, 326, 327, 334, 335, 336, 337, 338, 339] rfl (by decide +kernel)) (goodIn_sub (fun _ h => List.mem_append_left _ (List.mem_append_right _ h)) (by decide +kernel))) (goodIn_sub (fun _ h => List.mem_append_right _ h) (by decide +kernel))
set_option maxRecDepth 20000 in
theorem gL_law_L_build : GoodIn wsL_law (va_wsS RL 74 yL_build wsL_build) := goodIn_app (goodIn_of _ (by decide +kernel)) ggL_law_L_build
set_option maxRecDepth 20000 in
theorem ggL_law_L_cell : GoodIn wsL_law wsL_cell := goodIn_r _ [49, 50] (by decide +kernel) (by decide +kernel)
set_option maxRecDepth 20000 in
theorem gL_law_L_cell : GoodIn wsL_law (va_wsS RL 65 yL_cell wsL_cell) := goodIn_app (goodIn_of _ (by decide +kernel)) ggL_law_L_cell
set_option maxRecDepth 20000 in
theorem ggL_law_L_act : GoodIn wsL_law wsL_act := goodIn_ca (goodIn_ca (goodIn_r _ [78, 45, 46, 42, 43, 44, 79, 80, 5, 81, 51, 52, 40, 53, 54, 55, 56, 57, 58, 12, 13, 59, 60, 61, 62, 3, 63, 64, 65, 66, 67, 68, 69, 2, 70, 71, 72, 19, 20, 21, 17, 73, 74, 75, 30, 31, 32, 16, 33, 34, 35, 27, 36, 37, 82, 83, 84, 85, 86, 87, 88, 89, 90, 91, 92, 93, 94, 95, 96, 97, 98, 99, 100, 101, 102, 103, 104, 105, 106, 107, 108, 109, 110, 111, 112, 113, 114, 115, 116, 117, 118, 119, 120, 121, 122, 123, 124, 125, 126, 29, 26, 127, 128, 129, 130, 28, 131, 132, 133, 134, 135, 136, 137, 138, 139, 140, 141, 142, 143, 144, 145, 146, 147, 148, 149, 150, 151, 152, 153, 154, 155, 156, 157, 158, 159, 160, 161, 162, 163, 164, 165, 328, 329, 330, 331, 332, 333, 323, 324, 325, 326, 327, 334, 335, 336, 337, 338, 339] rfl (by decide +kernel)) (goodIn_sub (fun _ h => List.mem_append_left _ (List.mem_append_right _ h)) (by decide +kernel))) (goodIn_sub (fun _ h => List.mem_append_right _ h) (by decide +kernel))
set_option maxRecDepth 20000 in
theorem gL_law_L_act : GoodIn wsL_law (va_wsS RL 69 yL_act wsL_act) := goodIn_app (goodIn_of _ (by decide +kernel)) ggL_law_L_act
set_option maxRecDepth 20000 in
theorem ggL_law_X1_width : GoodIn wsL_law wsX1_width := goodIn_r _ [169, 19, 323, 324, 325, 326, 327] (by decide +kernel) (by decide +kernel)
set_option maxRecDepth 20000 in
theorem gL_law_X1_width : GoodIn wsL_law (wsV RL 78 RX1 yX1_width wsX1_width) := goodIn_app (goodIn_of _ (by decide +kernel)) ggL_law_X1_width
set_option maxRecDepth 20000 in
theorem ggL_law_X1_height : GoodIn wsL_law wsX1_height := goodIn_r _ [173, 20, 323, 324, 325, 326, 327] (by decide +kernel) (by decide +kernel)
set_option maxRecDepth 20000 in
theorem gL_law_X1_height : GoodIn wsL_law (wsV RL 81 RX1 yX1_height wsX1_height) := goodIn_app (goodIn_of _ (by decide +kernel)) ggL_law_X1_height
set_option maxRecDepth 20000 in
theorem ggL_law_X1_cellsOf : GoodIn wsL_law wsX1_cellsOf := goodIn_ca (goodIn_r _ [177, 86, 87, 17, 149, 150, 2, 151, 152, 153, 154, 178, 179, 180, 16, 181, 182, 183, 184, 185, 27, 186, 139, 140, 141, 142, 143, 144, 323, 324, 325, 326, 327, 334, 335, 336, 337, 338, 339] (by decide +kernel) (by decide +kernel)) (goodIn_sub (fun _ h => List.mem_append_right _ h) (by decide +kernel))
set_option maxRecDepth 20000 in
theorem gL_law_X1_cellsOf : GoodIn wsL_law (wsV RL 84 RX1 yX1_cellsOf wsX1_cellsOf) := goodIn_app (goodIn_of _ (by decide +kernel)) ggL_law_X1_cellsOf
set_option maxRecDepth 20000 in
theorem ggL_law_X1_colourAt : GoodIn wsL_law wsX1_colourAt := goodIn_ca (goodIn_r _ [190, 86, 87, 17, 89, 90, 91, 2, 92, 19, 20, 93, 36, 37, 155, 156, 157, 16, 158, 27, 159, 160, 161, 323, 324, 325, 326, 327, 334, 335, 336, 337, 338, 339] (by decide +kernel) (by decide +kernel)) (goodIn_sub (fun _ h => List.mem_append_right _ h) (by decide +kernel))
set_option maxRecDepth 20000 in
theorem gL_law_X1_colourAt : GoodIn wsL_law (wsV RL 88 RX1 yX1_colourAt wsX1_colourAt) := goodIn_app (goodIn_of _ (by decide +kernel)) ggL_law_X1_colourAt
set_option maxRecDepth 20000 in
theorem ggL_law_X1_neighboursWith : GoodIn wsL_law wsX1_neighboursWith := goodIn_ca (goodIn_r _ [194, 86, 87, 17, 89, 90, 91, 2, 92, 19, 20, 149, 150, 151, 152, 153, 154, 93, 36, 37, 195, 196, 197, 198, 183, 184, 16, 185, 27, 138, 139, 140, 141, 142, 143, 144, 323, 324, 325, 326, 327, 334, 335, 336, 337, 338, 339] (by decide +kernel) (by decide +kernel)) (goodIn_sub (fun _ h => List.mem_append_right _ h) (by decide +kernel))
set_option maxRecDepth 20000 in
theorem gL_law_X1_neighboursWith : GoodIn wsL_law (wsV RL 91 RX1 yX1_neighboursWith wsX1_neighboursWith) := goodIn_app (goodIn_of _ (by decide +kernel)) ggL_law_X1_neighboursWith
set_option maxRecDepth 20000 in
theorem ggL_law_X1_waves : GoodIn wsL_law wsX1_waves := goodIn_r _ [202, 21, 323, 324, 325, 326, 327] (by decide +kernel) (by decide +kernel)
set_option maxRecDepth 20000 in
theorem gL_law_X1_waves : GoodIn wsL_law (wsV RL 94 RX1 yX1_waves wsX1_waves) := goodIn_app (goodIn_of _ (by decide +kernel)) ggL_law_X1_waves
set_option maxRecDepth 20000 in
theorem ggL_law_X1_pass : GoodIn wsL_law wsX1_pass := goodIn_ca (goodIn_r _ [118, 71, 72, 21, 17, 119, 120, 121, 16, 122, 123, 124, 125, 126, 29, 26, 27, 127, 128, 129, 130, 28, 34, 35, 131, 132, 133, 134, 135, 136, 137, 138, 139, 140, 141, 142, 143, 144, 323, 324, 325, 326, 327, 334, 335, 336, 337, 338, 339] (by decide +kernel) (by decide +kernel)) (goodIn_sub (fun _ h => List.mem_append_left _ (List.mem_append_right _ h)) (by decide +kernel))
set_option maxRecDepth 20000 in
theorem gL_law_X1_pass : GoodIn wsL_law (wsV RL 54 RX1 yX1_pass wsX1_pass) := goodIn_app (goodIn_of _ (by decide +kernel)) ggL_law_X1_pass
set_option maxRecDepth 20000 in
theorem ggL_law_X2_wave : GoodIn wsL_law wsX2_wave := goodIn_r _ [102, 60, 61, 62, 3, 63, 103, 104, 105, 44, 106, 66, 59, 107, 108, 109, 110, 111, 112, 113, 114, 328, 329, 330, 331, 332, 333] (by decide +kernel) (by decide +kernel)
set_option maxRecDepth 20000 in
theorem gL_law_X2_wave : GoodIn wsL_law (wsV RL 47 RX2 yX2_wave wsX2_wave) := goodIn_app (goodIn_of _ (by decide +kernel)) ggL_law_X2_wave
set_option maxRecDepth 20000 in
theorem ggL_law_X1_isStubborn : GoodIn wsL_law wsX1_isStubborn := goodIn_ca (goodIn_r _ [206, 86, 87, 17, 88, 89, 90, 91, 2, 92, 19, 20, 93, 36, 37, 323, 324, 325, 326, 327, 334, 335, 336, 337, 338, 339] (by decide +kernel) (by decide +kernel)) (goodIn_sub (fun _ h => List.mem_append_right _ h) (by decide +kernel))
set_option maxRecDepth 20000 in
theorem gL_law_X1_isStubborn : GoodIn wsL_law (wsV RL 96 RX1 yX1_isStubborn wsX1_isStubborn) := goodIn_app (goodIn_of _ (by decide +kernel)) ggL_law_X1_isStubborn
set_option maxRecDepth 20000 in
theorem ggL_law_X1_need : GoodIn wsL_law wsX1_need := goodIn_r _ [210, 17, 98, 323, 324, 325, 326, 327, 334, 335, 336, 337, 338, 339] (by decide +kernel) (by decide +kernel)
set_option maxRecDepth 20000 in
theorem gL_law_X1_need : GoodIn wsL_law (wsV RL 99 RX1 yX1_need wsX1_need) := goodIn_app (goodIn_of _ (by decide +kernel)) ggL_law_X1_need
set_option maxRecDepth 20000 in
theorem ggL_law_X1_stubbornCells : GoodIn wsL_law wsX1_stubbornCells := goodIn_r _ [214, 17, 88, 138, 139, 140, 141, 142, 143, 144, 323, 324, 325, 326, 327, 334, 335, 336, 337, 338, 339] (by decide +kernel) (by decide +kernel)
set_option maxRecDepth 20000 in
theorem gL_law_X1_stubbornCells : GoodIn wsL_law (wsV RL 101 RX1 yX1_stubbornCells wsX1_stubbornCells) := goodIn_app (goodIn_of _ (by decide +kernel)) ggL_law_X1_stubbornCells
set_option maxRecDepth 20000 in
theorem ggL_law_X1_leader : GoodIn wsL_law wsX1_leader := goodIn_r _ [218, 17, 178, 179, 180, 16, 181, 182, 183, 184, 185, 27, 186, 139, 140, 141, 142, 143, 144, 323, 324, 325, 326, 327, 334, 335, 336, 337, 338, 339] (by decide +kernel) (by decide +kernel)
set_option maxRecDepth 20000 in
theorem gL_law_X1_leader : GoodIn wsL_law (wsV RL 104 RX1 yX1_leader wsX1_leader) := goodIn_app (goodIn_of _ (by decide +kernel)) ggL_law_X1_leader
set_option maxRecDepth 20000 in
theorem ggL_law_X1_share : GoodIn wsL_law wsX1_share := goodIn_ca (goodIn_r _ [222, 86, 87, 19, 20, 17, 149, 150, 2, 151, 152, 153, 154, 178, 179, 180, 16, 181, 182, 183, 184, 185, 27, 186, 139, 140, 141, 142, 143, 144, 323, 324, 325, 326, 327, 334, 335, 336, 337, 338, 339] (by decide +kernel) (by decide +kernel)) (goodIn_sub (fun _ h => List.mem_append_right _ h) (by decide +kernel))
set_option maxRecDepth 20000 in
theorem gL_law_X1_share : GoodIn wsL_law (wsV RL 107 RX1 yX1_share wsX1_share) := goodIn_app (goodIn_of _ (by decide +kernel)) ggL_law_X1_share
set_option maxRecDepth 20000 in
theorem ggL_law_X1_regionsOf : GoodIn wsL_law wsX1_regionsOf := goodIn_ca (goodIn_r _ [226, 86, 87, 17, 152, 153, 2, 154, 227, 228, 229, 16, 230, 182, 183, 184, 185, 27, 231, 232, 233, 196, 197, 323, 324, 325, 326, 327, 334, 335, 336, 337, 338, 339] (by decide +kernel) (by decide +kernel)) (goodIn_sub (fun _ h => List.mem_append_right _ h) (by decide +kernel))
set_option maxRecDepth 20000 in
theorem gL_law_X1_regionsOf : GoodIn wsL_law (wsV RL 111 RX1 yX1_regionsOf wsX1_regionsOf) := goodIn_app (goodIn_of _ (by decide +kernel)) ggL_law_X1_regionsOf
set_option maxRecDepth 20000 in
theorem ggL_law_X1_greatestRegion : GoodIn wsL_law wsX1_greatestRegion := goodIn_ca (goodIn_r _ [237, 86, 87, 17, 152, 153, 2, 154, 238, 239, 240, 16, 241, 242, 243, 244, 245, 182, 183, 184, 185, 27, 231, 232, 233, 196, 197, 186, 139, 140, 141, 142, 143, 144, 323, 324, 325, 326, 327, 334, 335, 336, 337, 338, 339] (by decide +kernel) (by decide +kernel)) (goodIn_sub (fun _ h => List.mem_append_right _ h) (by decide +kernel))
set_option maxRecDepth 20000 in
theorem gL_law_X1_greatestRegion : GoodIn wsL_law (wsV RL 114 RX1 yX1_greatestRegion wsX1_greatestRegion) := goodIn_app (goodIn_of _ (by decide +kernel)) ggL_law_X1_greatestRegion
set_option maxRecDepth 20000 in
theorem ggL_law_X1_winner : GoodIn wsL_law wsX1_winner := goodIn_r _ [249, 17, 250, 251, 252, 16, 253, 34, 182, 183, 184, 185, 27, 323, 324, 325, 326, 327, 334, 335, 336, 337, 338, 339] (by decide +kernel) (by decide +kernel)
set_option maxRecDepth 20000 in
theorem gL_law_X1_winner : GoodIn wsL_law (wsV RL 117 RX1 yX1_winner wsX1_winner) := goodIn_app (goodIn_of _ (by decide +kernel)) ggL_law_X1_winner
set_option maxRecDepth 20000 in
theorem ggL_law_X1_borders : GoodIn wsL_law wsX1_borders := goodIn_r _ [257, 17, 258, 259, 260, 16, 261, 34, 27, 182, 183, 184, 185, 262, 263, 264, 186, 139, 140, 141, 142, 143, 144, 323, 324, 325, 326, 327, 334, 335, 336, 337, 338, 339] (by decide +kernel) (by decide +kernel)
set_option maxRecDepth 20000 in
theorem gL_law_X1_borders : GoodIn wsL_law (wsV RL 124 RX1 yX1_borders wsX1_borders) := goodIn_app (goodIn_of _ (by decide +kernel)) ggL_law_X1_borders
set_option maxRecDepth 20000 in
theorem ggL_law_X2_isSame : GoodIn wsL_law wsX2_isSame := goodIn_ca (goodIn_r _ [268, 60, 61, 59, 269, 3, 66, 63, 270, 243, 244, 245, 271, 167, 168, 2, 169, 19, 272, 171, 172, 173, 20, 273, 208, 209, 210, 17, 98, 274, 200, 201, 202, 21, 275, 276, 277, 44, 278, 62, 279, 280, 281, 111, 112, 113, 114, 103, 104, 105, 106, 107, 108, 109, 110, 282, 224, 225, 226, 86, 87, 152, 153, 154, 227, 228, 229, 16, 230, 182, 183, 184, 185, 27, 231, 232, 233, 196, 197, 283, 235, 236, 237, 238, 239, 240, 241, 242, 186, 139, 140, 141, 142, 143, 144, 284, 285, 286, 287, 288, 175, 176, 177, 149, 150, 151, 178, 179, 180, 181, 289, 220, 221, 222, 290, 188, 189, 190, 89, 90, 91, 92, 93, 36, 37, 155, 156, 157, 158, 159, 160, 161, 291, 204, 205, 206, 88, 292, 293, 294, 295, 296, 124, 125, 126, 29, 26, 127, 128, 129, 130, 28, 34, 35, 131, 132, 133, 297, 298, 299, 300, 301, 302, 303, 304, 305, 306, 307, 308, 309, 310, 192, 193, 194, 195, 198, 138, 311, 312, 313, 314, 315, 212, 213, 214, 316, 255, 256, 257, 258, 259, 260, 261, 262, 263, 264, 317, 216, 217, 218, 318, 247, 248, 249, 250, 251, 252, 253, 319, 320, 321, 322, 328, 329, 330, 331, 332, 333, 323, 324, 325, 326, 327, 334, 335, 336, 337, 338, 339] rfl (by decide +kernel)) (goodIn_sub (fun _ h => List.mem_append_right _ h) (by decide +kernel))
set_option maxRecDepth 20000 in
theorem gL_law_X2_isSame : GoodIn wsL_law (wsV RL 127 RX2 yX2_isSame wsX2_isSame) := goodIn_app (goodIn_of _ (by decide +kernel)) ggL_law_X2_isSame
end
