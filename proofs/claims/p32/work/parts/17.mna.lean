/-! new T[n][m] by hand: what the machine's loop makes, step by step, and the row for it; after the first i rows: the outer array zmO, the state zmS -/
def zmO (cO N h0 i : Nat) : Cell := arrV cO N (fun j => va_rf (if j < i then some (h0 + 1 + j) else none))
theorem zmO_0 (cO N h0 : Nat) : ({ cls := cO, slots := Array.replicate N .null, vm := .none } : Cell) = zmO cO N h0 0 := by
  rw [arrV_new]
  exact congrArg (arrV cO N) (funext fun j => by simp [va_rf])
theorem zmO_s (cO N h0 i : Nat) : (zmO cO N h0 i).setSlot i (.ref (h0 + 1 + i)) = zmO cO N h0 (i + 1) := by
  unfold zmO
  rw [arrV_store]
  refine congrArg (arrV cO N) (funext fun j => ?_)
  rcases Nat.lt_trichotomy j i with q | q | q
  · simp [updV, q, Nat.ne_of_lt q, Nat.lt_succ_of_lt q]
  · subst q; simp [updV, va_rf]
  · have h1 : ¬ j < i := by omega
    have h2 : ¬ j < i + 1 := by omega
    have h3 : j ≠ i := by omega
    simp [updV, h1, h2, h3]
def zmS (u : State) (cO cR N M : Nat) (dv : Value) : Nat → State
  | 0 => u.pushCell (zmO cO N u.heap.size 0)
  | i + 1 => ((zmS u cO cR N M dv i).pushCell (arrV cR M (fun _ => dv))).setCell u.heap.size (zmO cO N u.heap.size (i + 1))
theorem zmS_top (u : State) (f : JFrame) (cO cR N M : Nat) (dv : Value) : ∀ i, zmS (u.setTop f) cO cR N M dv i = (zmS u cO cR N M dv i).setTop f
  | 0 => rfl
  | i + 1 => by
    rw [zmS, zmS_top u f cO cR N M dv i, State.heap_setTop, State.pushCell_setTop, State.setCell_setTop]
    rfl
theorem zmS_at (u : State) (cO cR N M : Nat) (dv : Value) : ∀ i, (zmS u cO cR N M dv i).heap.size = u.heap.size + 1 + i ∧ (zmS u cO cR N M dv i).vm = u.vm ∧ (zmS u cO cR N M dv i).slotsUsed = u.slotsUsed + N + i * M ∧
    (zmS u cO cR N M dv i).heap[u.heap.size]? = some (zmO cO N u.heap.size i) ∧ (∀ a, a < u.heap.size → (zmS u cO cR N M dv i).heap[a]? = u.heap[a]?) ∧ ∀ j, j < i → (zmS u cO cR N M dv i).heap[u.heap.size + 1 + j]? = some (arrV cR M (fun _ => dv))
  | 0 => ⟨by simp [zmS], rfl, by simp [zmS, zmO, arrV_size], by simp [zmS], fun a h => State.heap_pushCell_of_lt _ _ h, fun j h => absurd h (Nat.not_lt_zero j)⟩
  | i + 1 => by
    obtain ⟨h1, h2, h3, h4, h5, h6⟩ := zmS_at u cO cR N M dv i
    have hlt : u.heap.size < (zmS u cO cR N M dv i).heap.size := by omega
    have hc : ((zmS u cO cR N M dv i).pushCell (arrV cR M (fun _ => dv))).heap[u.heap.size]? = some (zmO cO N u.heap.size i) := by
      rw [State.heap_pushCell_of_lt (h := hlt)]; exact h4
    refine ⟨?_, by simp [zmS, h2], ?_, State.heap_setCell_self hc, fun a ha => ?_, fun j hj => ?_⟩
    · simp [zmS, State.setCell, h1]; omega
    · simp [zmS, h3, arrV_size, Nat.succ_mul]; omega
    · show (((zmS u cO cR N M dv i).pushCell _).setCell u.heap.size _).heap[a]? = _
      have ha2 : a < (zmS u cO cR N M dv i).heap.size := by omega
      rw [State.heap_setCell_other (Nat.ne_of_gt ha), State.heap_pushCell_of_lt (h := ha2)]
      exact h5 a ha
    · show (((zmS u cO cR N M dv i).pushCell _).setCell u.heap.size _).heap[u.heap.size + 1 + j]? = _
      rw [State.heap_setCell_other (show u.heap.size ≠ u.heap.size + 1 + j by omega)]
      rcases Nat.lt_succ_iff_lt_or_eq.mp hj with q | q
      · have ha2 : u.heap.size + 1 + j < (zmS u cO cR N M dv i).heap.size := by omega
        rw [State.heap_pushCell_of_lt (h := ha2)]
        exact h6 j q
      · subst q
        rw [← h1]
        exact State.heap_pushCell_size _ _
section ZMM
variable {E : CtlPost} {e : Env} {d : Bool} {acts : List Action} {u : State}
theorem zm_new {cA cc : ClassId} {k : Class} {ty : FieldType} {len : Nat} {v : Value} (hk : u.vm.classes[cA]? = some k) (hkind : k.kind = .array cc ty) (hl : ¬ len > e.platform.arrayLengthLimit) (hh : ¬ len * componentBytes ty > e.platform.maxHeapBytes) (hf : fits ty v = true) (hd : v.isDefault = true)
    (h1 : u.heap.size < e.platform.maxCells) (h2 : u.slotsUsed + len ≤ e.platform.maxSlots) {Q : Addr → Pre} (hq : Q u.heap.size d acts (u.pushCell { cls := cA, slots := Array.replicate len v, vm := .none })) : wp (Jvm.newArray cA len v) Q E e d acts u := by
  have hfit : ∀ i w, (Array.replicate len v)[i]? = some w → u.fitsSlot cA .none i w = true := by
    intro i w hw
    rw [Array.getElem?_replicate] at hw
    by_cases hi : i < len
    · rw [if_pos hi] at hw
      cases hw
      simp [State.fitsSlot, State.slotType?, hk, hkind, hf]
    · rw [if_neg hi] at hw; cases hw
  have hact : allocActs (Array.replicate len v) u.heap.size acts = acts := by
    have hall : ((Array.replicate len v).all (·.isDefault)) = true := by
      rw [Array.all_replicate]
      by_cases hz : len = 0
      · simp [hz]
      · simp [hz, hd]
    unfold allocActs
    rw [if_pos hall]
  simp only [Jvm.newArray, Jvm.arrayFits, wp_bind', W.ask, W.ite, hl, if_false, wp_pure', W.theClass, hk, hkind, hh, W.alloc, W.stop, Option.some.injEq, exists_eq_left', Array.size_replicate, hact]
  rw [if_neg (by omega)]
  exact ⟨h1, h2, hfit, hq⟩
theorem zm_row {cR cc : ClassId} {k : Class} {ty : FieldType} {m : Int32} (hk : u.vm.classes[cR]? = some k) (hkind : k.kind = .array cc ty) (hm : ¬ m < 0) (hl : ¬ m.toNatClampNeg > e.platform.arrayLengthLimit) (hh : ¬ m.toNatClampNeg * componentBytes ty > e.platform.maxHeapBytes)
    (hf : fits ty (defaultValue ty) = true) (hd : (defaultValue ty).isDefault = true) (h1 : u.heap.size < e.platform.maxCells) (h2 : u.slotsUsed + m.toNatClampNeg ≤ e.platform.maxSlots) {Q : Addr → Pre} (hq : Q u.heap.size d acts (u.pushCell (arrV cR m.toNatClampNeg (fun _ => defaultValue ty)))) :
    wp (multianewarray.make cR [m]) Q E e d acts u := by
  rw [multianewarray.make]
  simp only [wp_bind', W.ite, hm, if_false, wp_pure', W.theClass, hk, hkind, Option.some.injEq, exists_eq_left']
  refine zm_new hk hkind hl hh hf hd h1 h2 ?_
  rw [arrV_new]
  exact hq
theorem zm_ref {ty : FieldType} (v : Value) (hv : v = .null ∨ ∃ a, v = .ref a) : fits (.array ty) v = true := by
  rcases hv with rfl | ⟨a, rfl⟩ <;> rfl
theorem zm_grid {cO cR cc : ClassId} {kO kR : Class} {ty : FieldType} {n m : Int32} (hkO : u.vm.classes[cO]? = some kO) (hO : kO.kind = .array cR (.array ty)) (hkR : u.vm.classes[cR]? = some kR) (hR : kR.kind = .array cc ty) (hn : ¬ n < 0) (hm : ¬ m < 0)
    (hl1 : ¬ n.toNatClampNeg > e.platform.arrayLengthLimit) (hh1 : ¬ n.toNatClampNeg * 4 > e.platform.maxHeapBytes) (hl2 : ¬ m.toNatClampNeg > e.platform.arrayLengthLimit) (hh2 : ¬ m.toNatClampNeg * componentBytes ty > e.platform.maxHeapBytes)
    (hf : fits ty (defaultValue ty) = true) (hd : (defaultValue ty).isDefault = true) (hc : u.heap.size + 1 + n.toNatClampNeg ≤ e.platform.maxCells) (hs : u.slotsUsed + n.toNatClampNeg + n.toNatClampNeg * m.toNatClampNeg ≤ e.platform.maxSlots)
    {Q : Addr → Pre} (hq : ∀ d' acts', Q u.heap.size d' acts' (zmS u cO cR n.toNatClampNeg m.toNatClampNeg (defaultValue ty) n.toNatClampNeg)) : wp (multianewarray.make cO [n, m]) Q E e d acts u := by
  have hnone : ([m].find? (· < 0)) = none := by simp [hm]
  rw [multianewarray.make]
  simp only [wp_bind', W.ite, hn, if_false, wp_pure', W.theClass, hkO, hO, Option.some.injEq, exists_eq_left']
  refine zm_new hkO hO hl1 hh1 (zm_ref _ (Or.inl rfl)) rfl (by omega) (by have := Nat.zero_le (n.toNatClampNeg * m.toNatClampNeg); omega) ?_
  simp only [hnone]
  rw [ite_self, wp_bind', Std.Legacy.Range.forIn_eq_forIn_range', show ([:n.toNatClampNeg] : Std.Legacy.Range).size = n.toNatClampNeg by simp [Std.Legacy.Range.size]]
  generalize hN : n.toNatClampNeg = N at *
  generalize hM : m.toNatClampNeg = M at *
  show wp (forIn (List.range' 0 N 1) PUnit.unit _) _ E e d acts _
  refine wp_forIn_inv (fun rest u' => ∃ i, i ≤ N ∧ rest = List.range' i (N - i) ∧ u' = zmS u cO cR N M (defaultValue ty) i) _ _ ⟨0, Nat.zero_le _, rfl, by rw [zmO_0 cO N u.heap.size]; rfl⟩ ?_ ?_
  · rintro x rest u' d' acts' Q' ⟨i, hi, hl, rfl⟩ hnext
    have hlt : i < N := Nat.lt_of_not_le fun q => by rw [show N - i = 0 by omega] at hl; cases hl
    rw [show N - i = (N - (i + 1)) + 1 by omega, List.range'_succ] at hl
    obtain ⟨rfl, hrest⟩ := List.cons.inj hl
    obtain ⟨f1, f2, f3, f4, -, -⟩ := zmS_at u cO cR N M (defaultValue ty) x
    have hmul : x * M + M ≤ N * M := by
      rw [← Nat.succ_mul]
      exact Nat.mul_le_mul_right M hlt
    simp only [wp_bind']
    refine zm_row (m := m) (by rw [f2]; exact hkR) hR hm (by rw [hM]; exact hl2) (by rw [hM]; exact hh2) hf hd (by rw [f1]; omega) (by rw [f3, hM]; omega) ?_
    rw [hM]
    have hlt0 : u.heap.size < (zmS u cO cR N M (defaultValue ty) x).heap.size := by omega
    simp only [wp_bind', W.writeLoc, wp_pure']
    refine ⟨zmO cO N u.heap.size x, by rw [State.heap_pushCell_of_lt (h := hlt0)]; exact f4, (fun q => by cases q), (by show _ < (arrV _ _ _).slots.size; rw [arrV_size]; exact hlt), ?_, hnext _ _ _ ⟨x + 1, hlt, hrest, ?_⟩⟩
    · show State.fitsSlot _ cO .none x _ = true
      simp [State.fitsSlot, State.slotType?, f2, hkO, hO, zm_ref _ (Or.inr ⟨_, rfl⟩)]
    · rw [f1, zmO_s]; rfl
  · rintro u' d' acts' ⟨i, hi, hl, rfl⟩
    have hiN : i = N := by
      rcases Nat.lt_or_ge i N with q | q
      · rw [show N - i = (N - (i + 1)) + 1 by omega, List.range'_succ] at hl; cases hl
      · omega
    subst hiN
    simp only [wp_pure']
    exact hq _ _
end ZMM
section ZMS
variable {p : Program} {l : Launch} {e : Env} {R : Room} {s : State} {m : MethodId} {args : Array Value} {below : List Frame} {meth : Method} {c : Code} {T : State} {locs : List Loc} {cells slots : Nat}
theorem zm_stand (X : Stand p l e R s m args below meth c T locs cells slots) (cO cR N M : Nat) (dv : Value) : ∀ i, Stand p l e R s m args below meth c (zmS T cO cR N M dv i) locs (cells + 1 + i) (slots + N + i * M)
  | 0 => by
    have h := X.pushed (zmO cO N T.heap.size 0)
    rw [show (zmO cO N T.heap.size 0).slots.size = N by rw [zmO, arrV_size]] at h
    simpa [zmS] using h
  | i + 1 => by
    have Xi := zm_stand X cO cR N M dv i
    obtain ⟨f1, -, -, f4, -, -⟩ := zmS_at T cO cR N M dv i
    have hc : ((zmS T cO cR N M dv i).pushCell (arrV cR M (fun _ => dv))).heap[T.heap.size]? = some (zmO cO N T.heap.size i) := by
      have hlt : T.heap.size < (zmS T cO cR N M dv i).heap.size := by omega
      rw [State.heap_pushCell_of_lt (h := hlt)]; exact f4
    have h := (Xi.pushed (arrV cR M (fun _ => dv))).stored hc i (.ref (T.heap.size + 1 + i))
    rw [arrV_size, zmO_s] at h
    have h2 := h.dropFresh (J := [⟨T.heap.size, i⟩]) (fun x hx => by rw [List.mem_singleton.mp hx]; exact X.heapGrown)
    rw [show slots + N + (i + 1) * M = slots + N + i * M + M by rw [Nat.succ_mul]; omega]
    exact h2
end ZMS
