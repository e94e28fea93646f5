/-! answers that are doubles or longs, of the reference: a quotient, a digest with an array of its own -/
def zDb (l : Launch) (D : va_G) (T : zT) (y : MethodName) (ws : List Cond) (rm : Room) (W : va_W) (av : List Value) {S : Type} (W1 : S → va_W) (post : UInt64 → S → Prop) : Prop := ∀ sz, Met l y ws rm (zPc D T W av sz) (va_Qd post (fun u t => va_P D vwCl (W1 u) t.heap) (va_A W sz)) 0 0 (va_A W sz)
def zLc (l : Launch) (D : va_G) (T : zT) (y : MethodName) (ws : List Cond) (rm : Room) (W : va_W) (av : List Value) {S : Type} (W1 : S → va_W) (post : Int64 → S → Prop) (mc ms : Nat) : Prop := ∀ sz, Met l y ws rm (zPc D T W av sz) (va_Ql post (fun u t => va_P D vwCl (W1 u) t.heap) (va_A W sz)) mc ms (va_A W sz)
section ZDL
variable {p : Program} {l : Launch} {e : Env} {R : Room} {s : State} {m : MethodId} {args : Array Value} {below : List Frame} {meth : Method} {c : Code} {H : Heap} {locs : List Loc} {cells slots : Nat}
variable {cc : ByteArray} {pc : Nat} {ls : Array Slot} {D : va_G} {A : Nat → Prop} {ws : va_W} {S : Type} {W1 : S → va_W}
theorem z_dret {post : UInt64 → S → Prop} {v : UInt64} (hx : p.tables.exec = Jvm.exec) (hb : c.code = cc) (hr : meth.sig.returnType = some .double) (hlocks : meth.locks = false) (hP : va_P D vwCl ws H) (hS : va_S A s.heap H locs) (u : S) (hw : W1 u = ws) (hp : post v u) (hdg : decode cc pc = .ok (.dreturn, 1)) : W p l e R s m args below meth c H locs 0 0 (MQ below (va_Qd post (fun u t => va_P D vwCl (W1 u) t.heap) A) args s 0 0 A) (F0 m pc ls [.double v]) :=
  W.dret hx hb hr (fun t ht _ => ⟨⟨v, u, rfl, hp, by show va_P D vwCl (W1 u) t.heap; rw [hw, ht]; exact hP⟩, hS.F ht⟩) hS.2.2 hdg hlocks
theorem z_lcret {post : Int64 → S → Prop} {v : Int64} (hx : p.tables.exec = Jvm.exec) (hb : c.code = cc) (hr : meth.sig.returnType = some .long) (hlocks : meth.locks = false) (hP : va_P D vwCl ws H) (hS : va_S A s.heap H locs) (isC : List Nat) (u : S) (hw : isC.map (fun i => ws[i]?) = (W1 u).map some) (hp : post v u) (hdg : decode cc pc = .ok (.lreturn, 1)) : W p l e R s m args below meth c H locs cells slots (MQ below (va_Ql post (fun u t => va_P D vwCl (W1 u) t.heap) A) args s cells slots A) (F0 m pc ls [.long v]) :=
  W.lret hx hb hr (fun t ht _ => ⟨⟨v, u, rfl, hp, by show va_P D vwCl (W1 u) t.heap; rw [ht]; exact z_subP hP isC hw⟩, hS.F ht⟩) hS.2.2 hdg hlocks
end ZDL
def dgA (v0 v1 v2 v3 v4 v5 v6 v7 v8 : Int32) : Nat → Int32 := upd (upd (upd (upd (upd (upd (upd (upd (upd (fun _ => 0) 0 v0) 1 v1) 2 v2) 3 v3) 4 v4) 5 v5) 6 v6) 7 v7) 8 v8
def dgL (f : Nat → Int32) : Nat → Int64
  | 0 => 1871
  | i + 1 => (dgL f i * 31) + (f i).toInt64
noncomputable def dgC (w h : Nat) (K : Nat → Nat) (d : Int64) : Nat → Int64
  | 0 => d
  | i + 1 => ((((((dgC w h K d i) * 31) + (nI (ccN K (i + 1) (w * h))).toInt64) * 31) + (nI (rsm w h K (i + 1) (w * h))).toInt64) * 31) + (nI (rmx w h K (i + 1) (w * h))).toInt64
noncomputable def dgD (w h nd : Nat) (T : Nat → Bool) (K : Nat → Nat) (d : Int64) : Nat → Int64
  | 0 => d
  | i + 1 => ((((((((dgD w h nd T K d i) * 31) + (nI (K i)).toInt64) * 31) + (bz (T i)).toInt64) * 31) + (nI (nxt w h nd T K i)).toInt64) * 31) + (nI (sz0 w h K i)).toInt64
