/-! an answer that is a double -/
def zDb (l : Launch) (D : va_G) (T : zT) (y : MethodName) (ws : List Cond) (rm : Room) (W : va_W) (av : List Value) {S : Type} (W1 : S → va_W) (post : UInt64 → S → Prop) : Prop := ∀ sz, Met l y ws rm (zPc D T W av sz) (va_Qd post (fun u t => va_P D vwCl (W1 u) t.heap) (va_A W sz)) 0 0 (va_A W sz)
section ZDL
variable {p : Program} {l : Launch} {e : Env} {R : Room} {s : State} {m : MethodId} {args : Array Value} {below : List Frame} {meth : Method} {c : Code} {H : Heap} {locs : List Loc} {cells slots : Nat}
variable {cc : ByteArray} {pc : Nat} {ls : Array Slot} {D : va_G} {A : Nat → Prop} {ws : va_W} {S : Type} {W1 : S → va_W}
theorem z_dret {post : UInt64 → S → Prop} {v : UInt64} (hx : p.tables.exec = Jvm.exec) (hb : c.code = cc) (hr : meth.sig.returnType = some .double) (hlocks : meth.locks = false) (hP : va_P D vwCl ws H) (hS : va_S A s.heap H locs) (u : S) (hw : W1 u = ws) (hp : post v u) (hdg : decode cc pc = .ok (.dreturn, 1)) : W p l e R s m args below meth c H locs 0 0 (MQ below (va_Qd post (fun u t => va_P D vwCl (W1 u) t.heap) A) args s 0 0 A) (F0 m pc ls [.double v]) :=
  W.dret hx hb hr (fun t ht _ => ⟨⟨v, u, rfl, hp, by show va_P D vwCl (W1 u) t.heap; rw [hw, ht]; exact hP⟩, hS.F ht⟩) hS.2.2 hdg hlocks
end ZDL
theorem z_quot : ∀ a, a < 33 → ∀ b, b < 26 → 4 ≤ b → vf_n64 (FP.ddiv (FP.i2d (nI a)) (FP.i2d (nI b))) := by
  unfold vf_n64
  decide +kernel
theorem z_sideN {n : Nat} (h : 2 ≤ n ∧ n ≤ 5) : pSide (nI n) := ⟨nI_nlt (b := 2) (a := n) h.1 (by omega), nI_nlt (b := n) (a := 5) h.2 (by decide)⟩
