/-! the law's start: what the tables give, and the walk from there -/
theorem lw_arr {ty : FieldType} {args : Array Value} {s : State} (h : (Cond.arrayClass ty).before args s = true) : ∃ cA, ArrOfT s cA ty ∧ s.vm.findClass ("[" ++ ty.toString) = some cA := by
  obtain ⟨cA, kA, comp, h1, h2, h3⟩ := Cond.arrayClass_spec (args := args) (first := s) (o := none) (s := s) (idx := []) h
  exact ⟨cA, fun n z => ⟨fun k h => (by cases h), kA, h2, comp, h3⟩, h1⟩
/-- an array of arrays, by what the tables say of it -/
theorem lw_over {ty : FieldType} {args : Array Value} {s : State} (h : (Cond.arrayOver (.array ty)).before args s = true) : zAO ty s := by
  have h : (Cond.arrayOver (.array ty)).holds args s none s [] = true := h
  simp only [Cond.holds, Cond.value, beq_iff_eq] at h
  obtain ⟨d, hd, h⟩ := Option.bind_eq_some_iff.mp h
  obtain ⟨c, hi, h⟩ := Option.bind_eq_some_iff.mp h
  obtain ⟨k, hk, h⟩ := Option.map_eq_some_iff.mp h
  obtain ⟨hlt, hp, -⟩ := Array.findIdx?_eq_some_iff_getElem.mp hi
  rw [(Array.getElem?_eq_some_iff.mp hk).2] at hp
  cases e : k.kind with
  | array d2 t2 =>
    rw [e] at h hp
    have e1 : d2 = d := by simpa using hp
    have e2 : t2 = .array ty ∧ s.vm.findClass ("[" ++ (FieldType.array ty).toString) = some c := by simpa using h
    refine ⟨c, d, k, hd, hk, ?_, e2.2⟩
    rw [e, e1, e2.1]
  | _ => rw [e] at hp; cases hp
theorem lw_ao {ty : FieldType} {s : State} (h : zAO ty s) : ∃ cA, ArrOfT s cA (.array ty) ∧ s.vm.findClass ("[" ++ (FieldType.array ty).toString) = some cA := by
  obtain ⟨c, d, k, h1, h2, h3, h4⟩ := h
  exact ⟨c, fun n z => ⟨fun k h => (by cases h), k, h2, d, h3⟩, h4⟩
set_option maxHeartbeats 4000000 in
set_option maxRecDepth 100000 in
theorem lw_zN {s : State} {args : Array Value} (hts : ∀ w ∈ lw_tbl, w.before args s = true) : zN s :=
  ⟨va_Nw.of rfl (hts (nwA) (List.mem_of_getElem? (i := 55) (by decide +kernel))), va_Nw.of rfl (hts (nwB) (List.mem_of_getElem? (i := 266) (by decide +kernel))), lw_over (hts (.arrayOver (.array .int)) (List.mem_of_getElem? (i := 310) (by decide +kernel))), lw_over (hts (.arrayOver (.array .boolean)) (List.mem_of_getElem? (i := 398) (by decide +kernel)))⟩
set_option maxHeartbeats 4000000 in
set_option maxRecDepth 100000 in
theorem whole_start {p : Program} {e : Env} {s : State} {m : MethodId} {below : List Frame} {meth : Method} {c : Code} (l : Launch) (hflags : l.flags = flags0) {b L : Nat} {xs : Nat → Int32} (hL : L ≤ 260) (C0 : lw_At p s m meth c b L xs) : W p l e room_1 s m #[Value.ref b] below meth c s.heap [] 0 0 (lw_Z below #[Value.ref b] s) (entryFrame m ([Value.ref b] : List Value).toArray 22) := by
  obtain ⟨hx, hb, hr, hml, hown, hts, hX, hbl, hlocks, hgv⟩ := C0
  have htsL : ∀ w ∈ wsL_law, w.before #[Value.ref b] s = true := fun w h => hts w (wsL_law_in w h)
  have hN := lw_zN hts
  obtain ⟨c0, i0, k0⟩ := u_known (C := RX0) (T := TX0) (N := 6) (n := 6) hts inX0 (hts (.instantiable RX0 6) (List.mem_of_getElem? (i := 24) (by decide +kernel)))
  obtain ⟨c1, i1, k1⟩ := u_known (C := RX1) (T := TX1) (N := 5) (n := 5) hts inX1 (hts (.instantiable RX1 5) (List.mem_of_getElem? (i := 16) (by decide +kernel)))
  obtain ⟨c2, i2, k2⟩ := u_known (C := RX2) (T := TX2) (N := 6) (n := 6) hts inX2 (hts (.instantiable RX2 6) (List.mem_of_getElem? (i := 392) (by decide +kernel)))
  obtain ⟨cI, eI, fI⟩ := lw_arr (hts (.arrayClass .int) (List.mem_of_getElem? (i := 50) (by decide +kernel)))
  obtain ⟨cZ, eZ, fZ⟩ := lw_arr (hts (.arrayClass .boolean) (List.mem_of_getElem? (i := 424) (by decide +kernel)))
  obtain ⟨cJ, eJ, fJ⟩ := lw_ao hN.2.2.1
  obtain ⟨cD, eD, fD⟩ := lw_ao hN.2.2.2
  have hK : va_K ((fun k => if k = 0 then c0 else if k = 1 then c1 else c2), (fun k => if k = 0 then i0 else if k = 1 then i1 else i2)) vwCl (wT cI cZ cJ cD) s := by
    refine ⟨?_, ?_⟩
    · intro k q hq
      match k, hq with
      | 0, hq => cases hq; exact k0
      | 1, hq => cases hq; exact k1
      | 2, hq => cases hq; exact k2
      | k + 3, hq => simp [vwCl] at hq
    · intro k q hq
      match k, hq with
      | 0, hq => cases hq; exact ⟨eI, fI⟩
      | 1, hq => cases hq; exact ⟨eZ, fZ⟩
      | 2, hq => cases hq; exact ⟨eJ, fJ⟩
      | 3, hq => cases hq; exact ⟨eD, fD⟩
      | k + 4, hq => simp [wT] at hq
  have fin : ∀ (H : Heap) (locs : List Loc) (ls : Array Slot), va_S (fun q : Nat => s.heap.size ≤ q) s.heap H locs → W p l e room_1 s m #[Value.ref b] below meth c H locs 669352 7093412 (lw_Z below #[Value.ref b] s) (F0 m 819 ls [.int 1]) := by
    intro H locs ls hS
    refine va_forget (fun q hq => hS.2.2 q hq) ?_
    exact lw_ret (d0 := s.drawn) (Drawn.sameBut.refl s.drawn lw_cs) hx hb hr hlocks dL_law_819
  generalize lw_Z below #[Value.ref b] s = Q at fin ⊢
  have hl := lv_entry ([.ref b]) (n := 22) (Nat.le_of_ble_eq_true rfl)
  rw [lg_entry_eq]
  generalize (lg_sl ([.ref b]) ++ List.replicate (22 - (lg_sl ([.ref b])).length) Slot.unset).toArray = ls at hl ⊢
  have hl : lv_has ls 22 [(0, .ref b)] := hl
  exact lw_body (A := fun q : Nat => s.heap.size ≤ q) ⟨hx, hb, hml, hown, htsL⟩ hK hN hX hbl (Nat.not_le.mpr hbl) hL (fun _ h => h) fin ls hl
