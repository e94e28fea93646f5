abbrev rmX1_cell : Room := { frames := 0, cells := 0, slots := 0, locals := 0 }
set_option maxHeartbeats 4000000 in
set_option maxRecDepth 100000 in
theorem m_X1_cell (l : Launch) (dC : Nat → ClassId) (dI : Nat → Nat → Nat) (cI cZ cJ cD : ClassId) (x0 : Int32) (y0 : Int32)  : zI l (dC, dI) (wT cI cZ cJ cD) yX1_cell wsX1_cell rmX1_cell [] [.int x0, .int y0] (fun (_ : Unit) => []) (fun (r : Int32) (_ : Unit) => r = pCell x0 y0) := by
  intro sz
  refine Met.ofW (cc := cX1_cell) (maxL := 2) (ret := (some .int)) (by decide) rfl ?_
  intro p e s m args below meth c s₁ B hml hv
  obtain ⟨ha, hsz, hP, hK, hD0, hN⟩ := hv
  have hx := B.exec
  have hb := B.bytes
  have hr := B.returns
  have hts := atoms_spec (ws := wsX1_cell) B.pre
  have hown : s.vm.findClass RX1 = some m.cls := findClass_of_methodNamed B.named
  have hlocks := B.notSynchronized
  subst hsz
  have hD := hD0.self (sz := s.heap.size)
  generalize hAe : va_A [] s.heap.size = A at hD ⊢
  have hA : ∀ q : Nat, s.heap.size ≤ q → A q := fun q h => by rw [← hAe]; exact Or.inr h
  have hS : va_S A s.heap s.heap [] := va_S.rf
  generalize hQ : MQ below (va_Qi (fun (r : Int32) (_ : Unit) => r = pCell x0 y0) (fun u t => va_P (dC, dI) vwCl ((fun (_ : Unit) => []) u) t.heap) A) args s 0 0 A = Q
  have F9 : CallFix p m c cX1_cell 2 s args wsX1_cell RX1 := ⟨hx, hb, hml, hown, hts⟩
  refine z_entry (R := rmX1_cell) ha (Nat.le_of_ble_eq_true rfl) (fun ls hl => ?_)
  have hl : lv_has ls 2 [(0, .int x0), (1, .int y0)] := hl
  refine lv_iconst (v := 1) hx hb dX1_cell_0 (by decide) ?_
  refine lv_iload_n hx hb dX1_cell_1 rfl (lv_at hl 0 rfl) ?_
  refine lv_bipush (v := 6) hx hb dX1_cell_2 (by decide +kernel) ?_
  refine lv_iload_n hx hb dX1_cell_4 rfl (lv_at hl 1 rfl) ?_
  refine lv_imul hx hb dX1_cell_5 ?_
  refine lv_iadd hx hb dX1_cell_6 ?_
  refine lv_ishl hx hb dX1_cell_7 ?_
  rw [← hQ]
  exact z_iret (W1 := (fun (_ : Unit) => [])) hx hb hr hlocks hP hS () (rfl) (rfl) dX1_cell_8
abbrev rmX1_nextTo : Room := { frames := 0, cells := 0, slots := 0, locals := 0 }
set_option maxHeartbeats 4000000 in
set_option maxRecDepth 100000 in
theorem m_X1_nextTo (l : Launch) (dC : Nat → ClassId) (dI : Nat → Nat → Nat) (cI cZ cJ cD : ClassId) (z0 : Int32)  : zI l (dC, dI) (wT cI cZ cJ cD) yX1_nextTo wsX1_nextTo rmX1_nextTo [] [.int z0] (fun (_ : Unit) => []) (fun (r : Int32) (_ : Unit) => r = pNext z0) := by
  intro sz
  refine Met.ofW (cc := cX1_nextTo) (maxL := 1) (ret := (some .int)) (by decide) rfl ?_
  intro p e s m args below meth c s₁ B hml hv
  obtain ⟨ha, hsz, hP, hK, hD0, hN⟩ := hv
  have hx := B.exec
  have hb := B.bytes
  have hr := B.returns
  have hts := atoms_spec (ws := wsX1_nextTo) B.pre
  have hown : s.vm.findClass RX1 = some m.cls := findClass_of_methodNamed B.named
  have hlocks := B.notSynchronized
  subst hsz
  have hD := hD0.self (sz := s.heap.size)
  generalize hAe : va_A [] s.heap.size = A at hD ⊢
  have hA : ∀ q : Nat, s.heap.size ≤ q → A q := fun q h => by rw [← hAe]; exact Or.inr h
  have hS : va_S A s.heap s.heap [] := va_S.rf
  generalize hQ : MQ below (va_Qi (fun (r : Int32) (_ : Unit) => r = pNext z0) (fun u t => va_P (dC, dI) vwCl ((fun (_ : Unit) => []) u) t.heap) A) args s 0 0 A = Q
  have F9 : CallFix p m c cX1_nextTo 1 s args wsX1_nextTo RX1 := ⟨hx, hb, hml, hown, hts⟩
  refine z_entry (R := rmX1_nextTo) ha (Nat.le_of_ble_eq_true rfl) (fun ls hl => ?_)
  have hl : lv_has ls 1 [(0, .int z0)] := hl
  refine lv_iload_n hx hb dX1_nextTo_0 rfl (lv_at hl 0 rfl) ?_
  refine lv_iconst (v := 1) hx hb dX1_nextTo_1 (by decide) ?_
  refine lv_ishl hx hb dX1_nextTo_2 ?_
  refine lv_iload_n hx hb dX1_nextTo_3 rfl (lv_at hl 0 rfl) ?_
  refine lv_iconst (v := 1) hx hb dX1_nextTo_4 (by decide) ?_
  refine lv_iushr (v := ushr z0 1) hx hb dX1_nextTo_5 rfl ?_
  refine lv_ior hx hb dX1_nextTo_6 ?_
  refine lv_iload_n hx hb dX1_nextTo_7 rfl (lv_at hl 0 rfl) ?_
  refine lv_bipush (v := 6) hx hb dX1_nextTo_8 (by decide +kernel) ?_
  refine lv_ishl hx hb dX1_nextTo_10 ?_
  refine lv_ior hx hb dX1_nextTo_11 ?_
  refine lv_iload_n hx hb dX1_nextTo_12 rfl (lv_at hl 0 rfl) ?_
  refine lv_bipush (v := 6) hx hb dX1_nextTo_13 (by decide +kernel) ?_
  refine lv_iushr (v := ushr z0 6) hx hb dX1_nextTo_15 rfl ?_
  refine lv_ior hx hb dX1_nextTo_16 ?_
  rw [← hQ]
  exact z_iret (W1 := (fun (_ : Unit) => [])) hx hb hr hlocks hP hS () (rfl) (rfl) dX1_nextTo_17
abbrev rmJ6_bitCount_0f7a4 : Room := { frames := 0, cells := 0, slots := 0, locals := 0 }
set_option maxHeartbeats 4000000 in
set_option maxRecDepth 100000 in
theorem m_J6_bitCount_0f7a4 (l : Launch) (dC : Nat → ClassId) (dI : Nat → Nat → Nat) (cI cZ cJ cD : ClassId) (z0 : Int32)  : zI l (dC, dI) (wT cI cZ cJ cD) yJ6_bitCount_0f7a4 wsJ6_bitCount_0f7a4 rmJ6_bitCount_0f7a4 [] [.int z0] (fun (_ : Unit) => []) (fun (r : Int32) (_ : Unit) => r = pBC z0) := by
  intro sz
  refine Met.ofW (cc := cJ6_bitCount_0f7a4) (maxL := 1) (ret := (some .int)) (by decide) rfl ?_
  intro p e s m args below meth c s₁ B hml hv
  obtain ⟨ha, hsz, hP, hK, hD0, hN⟩ := hv
  have hx := B.exec
  have hb := B.bytes
  have hr := B.returns
  have hts := atoms_spec (ws := wsJ6_bitCount_0f7a4) B.pre
  have hown : s.vm.findClass RJ6 = some m.cls := findClass_of_methodNamed B.named
  have hlocks := B.notSynchronized
  subst hsz
  have hD := hD0.self (sz := s.heap.size)
  generalize hAe : va_A [] s.heap.size = A at hD ⊢
  have hA : ∀ q : Nat, s.heap.size ≤ q → A q := fun q h => by rw [← hAe]; exact Or.inr h
  have hS : va_S A s.heap s.heap [] := va_S.rf
  generalize hQ : MQ below (va_Qi (fun (r : Int32) (_ : Unit) => r = pBC z0) (fun u t => va_P (dC, dI) vwCl ((fun (_ : Unit) => []) u) t.heap) A) args s 0 0 A = Q
  have F9 : CallFix p m c cJ6_bitCount_0f7a4 1 s args wsJ6_bitCount_0f7a4 RJ6 := ⟨hx, hb, hml, hown, hts⟩
  refine z_entry (R := rmJ6_bitCount_0f7a4) ha (Nat.le_of_ble_eq_true rfl) (fun ls hl => ?_)
  have hl : lv_has ls 1 [(0, .int z0)] := hl
  refine lv_iload_n hx hb dJ6_bitCount_0f7a4_0 rfl (lv_at hl 0 rfl) ?_
  refine lv_iload_n hx hb dJ6_bitCount_0f7a4_1 rfl (lv_at hl 0 rfl) ?_
  refine lv_iconst (v := 1) hx hb dJ6_bitCount_0f7a4_2 (by decide) ?_
  refine lv_iushr (v := ushr z0 1) hx hb dJ6_bitCount_0f7a4_3 rfl ?_
  refine lv_ldcw hx hb hown (hts (.constant RJ6 265 (1431655765)) (List.mem_of_getElem? (i := 1) rfl)) dJ6_bitCount_0f7a4_4 ?_
  refine lv_iand hx hb dJ6_bitCount_0f7a4_7 ?_
  refine lv_isub hx hb dJ6_bitCount_0f7a4_8 ?_
  refine z_topi (y := bc1 z0) (rfl) ?_
  refine lv_istore_n (lv' := [(0, .int (bc1 z0))]) hx hb dJ6_bitCount_0f7a4_9 rfl hl (by decide) rfl (fun ls hl => ?_)
  refine lv_iload_n hx hb dJ6_bitCount_0f7a4_10 rfl (lv_at hl 0 rfl) ?_
  refine lv_ldcw hx hb hown (hts (.constant RJ6 266 (858993459)) (List.mem_of_getElem? (i := 2) rfl)) dJ6_bitCount_0f7a4_11 ?_
  refine lv_iand hx hb dJ6_bitCount_0f7a4_14 ?_
  refine lv_iload_n hx hb dJ6_bitCount_0f7a4_15 rfl (lv_at hl 0 rfl) ?_
  refine lv_iconst (v := 2) hx hb dJ6_bitCount_0f7a4_16 (by decide) ?_
  refine lv_iushr (v := ushr (bc1 z0) 2) hx hb dJ6_bitCount_0f7a4_17 rfl ?_
  refine lv_ldcw hx hb hown (hts (.constant RJ6 266 (858993459)) (List.mem_of_getElem? (i := 2) rfl)) dJ6_bitCount_0f7a4_18 ?_
  refine lv_iand hx hb dJ6_bitCount_0f7a4_21 ?_
  refine lv_iadd hx hb dJ6_bitCount_0f7a4_22 ?_
  refine z_topi (y := bc2 (bc1 z0)) (rfl) ?_
  refine lv_istore_n (lv' := [(0, .int (bc2 (bc1 z0)))]) hx hb dJ6_bitCount_0f7a4_23 rfl hl (by decide) rfl (fun ls hl => ?_)
  refine lv_iload_n hx hb dJ6_bitCount_0f7a4_24 rfl (lv_at hl 0 rfl) ?_
  refine lv_iload_n hx hb dJ6_bitCount_0f7a4_25 rfl (lv_at hl 0 rfl) ?_
  refine lv_iconst (v := 4) hx hb dJ6_bitCount_0f7a4_26 (by decide) ?_
  refine lv_iushr (v := ushr (bc2 (bc1 z0)) 4) hx hb dJ6_bitCount_0f7a4_27 rfl ?_
  refine lv_iadd hx hb dJ6_bitCount_0f7a4_28 ?_
  refine lv_ldcw hx hb hown (hts (.constant RJ6 267 (252645135)) (List.mem_of_getElem? (i := 3) rfl)) dJ6_bitCount_0f7a4_29 ?_
  refine lv_iand hx hb dJ6_bitCount_0f7a4_32 ?_
  refine z_topi (y := bc3 (bc2 (bc1 z0))) (rfl) ?_
  refine lv_istore_n (lv' := [(0, .int (bc3 (bc2 (bc1 z0))))]) hx hb dJ6_bitCount_0f7a4_33 rfl hl (by decide) rfl (fun ls hl => ?_)
  refine lv_iload_n hx hb dJ6_bitCount_0f7a4_34 rfl (lv_at hl 0 rfl) ?_
  refine lv_iload_n hx hb dJ6_bitCount_0f7a4_35 rfl (lv_at hl 0 rfl) ?_
  refine lv_bipush (v := 8) hx hb dJ6_bitCount_0f7a4_36 (by decide +kernel) ?_
  refine lv_iushr (v := ushr (bc3 (bc2 (bc1 z0))) 8) hx hb dJ6_bitCount_0f7a4_38 rfl ?_
  refine lv_iadd hx hb dJ6_bitCount_0f7a4_39 ?_
  refine z_topi (y := bc4 (bc3 (bc2 (bc1 z0)))) (rfl) ?_
  refine lv_istore_n (lv' := [(0, .int (bc4 (bc3 (bc2 (bc1 z0)))))]) hx hb dJ6_bitCount_0f7a4_40 rfl hl (by decide) rfl (fun ls hl => ?_)
  refine lv_iload_n hx hb dJ6_bitCount_0f7a4_41 rfl (lv_at hl 0 rfl) ?_
  refine lv_iload_n hx hb dJ6_bitCount_0f7a4_42 rfl (lv_at hl 0 rfl) ?_
  refine lv_bipush (v := 16) hx hb dJ6_bitCount_0f7a4_43 (by decide +kernel) ?_
  refine lv_iushr (v := ushr (bc4 (bc3 (bc2 (bc1 z0)))) 16) hx hb dJ6_bitCount_0f7a4_45 rfl ?_
  refine lv_iadd hx hb dJ6_bitCount_0f7a4_46 ?_
  refine z_topi (y := bc5 (bc4 (bc3 (bc2 (bc1 z0))))) (rfl) ?_
  refine lv_istore_n (lv' := [(0, .int (bc5 (bc4 (bc3 (bc2 (bc1 z0))))))]) hx hb dJ6_bitCount_0f7a4_47 rfl hl (by decide) rfl (fun ls hl => ?_)
  refine lv_iload_n hx hb dJ6_bitCount_0f7a4_48 rfl (lv_at hl 0 rfl) ?_
  refine lv_bipush (v := 63) hx hb dJ6_bitCount_0f7a4_49 (by decide +kernel) ?_
  refine lv_iand hx hb dJ6_bitCount_0f7a4_51 ?_
  rw [← hQ]
  exact z_iret (W1 := (fun (_ : Unit) => [])) hx hb hr hlocks hP hS () (rfl) (rfl) dJ6_bitCount_0f7a4_52
abbrev rmX0_withNeighbours : Room := { frames := 0, cells := 0, slots := 0, locals := 0 }
set_option maxHeartbeats 4000000 in
set_option maxRecDepth 100000 in
theorem m_X0_withNeighbours (l : Launch) (dC : Nat → ClassId) (dI : Nat → Nat → Nat) (cI cZ cJ cD : ClassId) (z0 : Int32) (q0 : Nat) (hq : 1 ≤ q0 ∧ q0 ≤ 4) : zI l (dC, dI) (wT cI cZ cJ cD) yX0_withNeighbours wsX0_withNeighbours rmX0_withNeighbours [] [.int z0, .int (nI q0)] (fun (_ : Unit) => []) (fun (r : Int32) (_ : Unit) => r = wN z0 q0) := by
  intro sz
  refine Met.ofW (cc := cX0_withNeighbours) (maxL := 6) (ret := (some .int)) (by decide) rfl ?_
  intro p e s m args below meth c s₁ B hml hv
  obtain ⟨ha, hsz, hP, hK, hD0, hN⟩ := hv
  have hx := B.exec
  have hb := B.bytes
  have hr := B.returns
  have hts := atoms_spec (ws := wsX0_withNeighbours) B.pre
  have hown : s.vm.findClass RX0 = some m.cls := findClass_of_methodNamed B.named
  have hlocks := B.notSynchronized
  subst hsz
  have hD := hD0.self (sz := s.heap.size)
  generalize hAe : va_A [] s.heap.size = A at hD ⊢
  have hA : ∀ q : Nat, s.heap.size ≤ q → A q := fun q h => by rw [← hAe]; exact Or.inr h
  have hS : va_S A s.heap s.heap [] := va_S.rf
  generalize hQ : MQ below (va_Qi (fun (r : Int32) (_ : Unit) => r = wN z0 q0) (fun u t => va_P (dC, dI) vwCl ((fun (_ : Unit) => []) u) t.heap) A) args s 0 0 A = Q
  have F9 : CallFix p m c cX0_withNeighbours 6 s args wsX0_withNeighbours RX0 := ⟨hx, hb, hml, hown, hts⟩
  refine z_entry (R := rmX0_withNeighbours) ha (Nat.le_of_ble_eq_true rfl) (fun ls hl => ?_)
  have hl : lv_has ls 6 [(0, .int z0), (1, .int (nI q0))] := hl
  refine lv_iload_n hx hb dX0_withNeighbours_0 rfl (lv_at hl 0 rfl) ?_
  refine lv_iconst (v := 1) hx hb dX0_withNeighbours_1 (by decide) ?_
  refine lv_ishl hx hb dX0_withNeighbours_2 ?_
  refine lv_iload_n hx hb dX0_withNeighbours_3 rfl (lv_at hl 0 rfl) ?_
  refine lv_iconst (v := 1) hx hb dX0_withNeighbours_4 (by decide) ?_
  refine lv_iushr (v := ushr z0 1) hx hb dX0_withNeighbours_5 rfl ?_
  refine lv_ior hx hb dX0_withNeighbours_6 ?_
  refine z_topi (y := oB z0) (rfl) ?_
  refine lv_istore_n (lv' := [(2, .int (oB z0)), (0, .int z0), (1, .int (nI q0))]) hx hb dX0_withNeighbours_7 rfl hl (by decide) rfl (fun ls hl => ?_)
  refine lv_iload_n hx hb dX0_withNeighbours_8 rfl (lv_at hl 1 rfl) ?_
  refine lv_iconst (v := 1) hx hb dX0_withNeighbours_9 (by decide) ?_
  refine lv_ishl hx hb dX0_withNeighbours_10 ?_
  refine lv_iload_n hx hb dX0_withNeighbours_11 rfl (lv_at hl 1 rfl) ?_
  refine lv_iconst (v := 1) hx hb dX0_withNeighbours_12 (by decide) ?_
  refine lv_iushr (v := ushr z0 1) hx hb dX0_withNeighbours_13 rfl ?_
  refine lv_iand hx hb dX0_withNeighbours_14 ?_
  refine z_topi (y := bB z0) (rfl) ?_
  refine lv_istore_n (lv' := [(3, .int (bB z0)), (2, .int (oB z0)), (0, .int z0), (1, .int (nI q0))]) hx hb dX0_withNeighbours_15 rfl hl (by decide) rfl (fun ls hl => ?_)
  refine lv_iload_n hx hb dX0_withNeighbours_16 rfl (lv_at hl 2 rfl) ?_
  refine lv_bipush (v := 6) hx hb dX0_withNeighbours_17 (by decide +kernel) ?_
  refine lv_ishl hx hb dX0_withNeighbours_19 ?_
  refine lv_iload_n hx hb dX0_withNeighbours_20 rfl (lv_at hl 2 rfl) ?_
  refine lv_bipush (v := 6) hx hb dX0_withNeighbours_21 (by decide +kernel) ?_
  refine lv_iushr (v := ushr z0 6) hx hb dX0_withNeighbours_23 rfl ?_
  refine lv_ior hx hb dX0_withNeighbours_24 ?_
  refine z_topi (y := oA z0) (rfl) ?_
  refine lv_istore (lv' := [(4, .int (oA z0)), (3, .int (bB z0)), (2, .int (oB z0)), (0, .int z0), (1, .int (nI q0))]) hx hb dX0_withNeighbours_25 hl (by decide) rfl (fun ls hl => ?_)
  refine lv_iload_n hx hb dX0_withNeighbours_27 rfl (lv_at hl 3 rfl) ?_
  refine lv_bipush (v := 6) hx hb dX0_withNeighbours_28 (by decide +kernel) ?_
  refine lv_ishl hx hb dX0_withNeighbours_30 ?_
  refine lv_iload_n hx hb dX0_withNeighbours_31 rfl (lv_at hl 3 rfl) ?_
  refine lv_bipush (v := 6) hx hb dX0_withNeighbours_32 (by decide +kernel) ?_
  refine lv_iushr (v := ushr z0 6) hx hb dX0_withNeighbours_34 rfl ?_
  refine lv_iand hx hb dX0_withNeighbours_35 ?_
  refine z_topi (y := bA z0) (rfl) ?_
  refine lv_istore (lv' := [(5, .int (bA z0)), (4, .int (oA z0)), (3, .int (bB z0)), (2, .int (oB z0)), (0, .int z0), (1, .int (nI q0))]) hx hb dX0_withNeighbours_36 hl (by decide) rfl (fun ls hl => ?_)
  refine lv_iload_n hx hb dX0_withNeighbours_38 rfl (lv_at hl 5 rfl) ?_
  rcases (show q0 = 1 ∨ q0 = 2 ∨ q0 = 3 ∨ q0 = 4 by omega) with rfl | rfl | rfl | rfl
  · refine lv_tableIn (tgt := 68) hx hb dX0_withNeighbours_39 (by decide +kernel) (by decide +kernel) (off := 29) (by decide +kernel) (by decide) ?_
    refine lv_iload_n hx hb dX0_withNeighbours_68 rfl (lv_at hl 3 rfl) ?_
    refine lv_iload hx hb dX0_withNeighbours_69 (lv_at hl 1 rfl) ?_
    refine lv_ior hx hb dX0_withNeighbours_71 ?_
    rw [← hQ]
    exact z_iret (W1 := (fun (_ : Unit) => [])) hx hb hr hlocks hP hS () (rfl) (rfl) dX0_withNeighbours_72
  · refine lv_tableIn (tgt := 73) hx hb dX0_withNeighbours_39 (by decide +kernel) (by decide +kernel) (off := 34) (by decide +kernel) (by decide) ?_
    refine lv_iload_n hx hb dX0_withNeighbours_73 rfl (lv_at hl 2 rfl) ?_
    refine lv_iload hx hb dX0_withNeighbours_74 (lv_at hl 0 rfl) ?_
    refine lv_ior hx hb dX0_withNeighbours_76 ?_
    refine lv_iload_n hx hb dX0_withNeighbours_77 rfl (lv_at hl 3 rfl) ?_
    refine lv_iload hx hb dX0_withNeighbours_78 (lv_at hl 1 rfl) ?_
    refine lv_iand hx hb dX0_withNeighbours_80 ?_
    refine lv_ior hx hb dX0_withNeighbours_81 ?_
    rw [← hQ]
    exact z_iret (W1 := (fun (_ : Unit) => [])) hx hb hr hlocks hP hS () (rfl) (rfl) dX0_withNeighbours_82
  · refine lv_tableIn (tgt := 83) hx hb dX0_withNeighbours_39 (by decide +kernel) (by decide +kernel) (off := 44) (by decide +kernel) (by decide) ?_
    refine lv_iload_n hx hb dX0_withNeighbours_83 rfl (lv_at hl 2 rfl) ?_
    refine lv_iload hx hb dX0_withNeighbours_84 (lv_at hl 1 rfl) ?_
    refine lv_iand hx hb dX0_withNeighbours_86 ?_
    refine lv_iload_n hx hb dX0_withNeighbours_87 rfl (lv_at hl 3 rfl) ?_
    refine lv_iload hx hb dX0_withNeighbours_88 (lv_at hl 0 rfl) ?_
    refine lv_iand hx hb dX0_withNeighbours_90 ?_
    refine lv_ior hx hb dX0_withNeighbours_91 ?_
    rw [← hQ]
    exact z_iret (W1 := (fun (_ : Unit) => [])) hx hb hr hlocks hP hS () (rfl) (rfl) dX0_withNeighbours_92
  · refine lv_tableIn (tgt := 93) hx hb dX0_withNeighbours_39 (by decide +kernel) (by decide +kernel) (off := 54) (by decide +kernel) (by decide) ?_
    refine lv_iload_n hx hb dX0_withNeighbours_93 rfl (lv_at hl 2 rfl) ?_
    refine lv_iload hx hb dX0_withNeighbours_94 (lv_at hl 0 rfl) ?_
    refine lv_iand hx hb dX0_withNeighbours_96 ?_
    rw [← hQ]
    exact z_iret (W1 := (fun (_ : Unit) => [])) hx hb hr hlocks hP hS () (rfl) (rfl) dX0_withNeighbours_97
abbrev rmX0_firstColourWith : Room := { frames := 0, cells := 0, slots := 0, locals := 0 }
set_option maxHeartbeats 4000000 in
set_option maxRecDepth 100000 in
theorem m_X0_firstColourWith (l : Launch) (dC : Nat → ClassId) (dI : Nat → Nat → Nat) (cI cZ cJ cD : ClassId) (aS : Nat) (S0 : Nat → Int32) (z0 : Int32)  : zI l (dC, dI) (wT cI cZ cJ cD) yX0_firstColourWith wsX0_firstColourWith rmX0_firstColourWith [(aS, .inl (cI, 5, .inl S0))] [.int z0, .ref aS] (fun (_ : Unit) => [(aS, .inl (cI, 5, .inl S0))]) (fun (r : Int32) (_ : Unit) => r = pFirst S0 z0) := by
  intro sz
  refine Met.ofW (cc := cX0_firstColourWith) (maxL := 3) (ret := (some .int)) (by decide) rfl ?_
  intro p e s m args below meth c s₁ B hml hv
  obtain ⟨ha, hsz, hP, hK, hD0, hN⟩ := hv
  have hx := B.exec
  have hb := B.bytes
  have hr := B.returns
  have hts := atoms_spec (ws := wsX0_firstColourWith) B.pre
  have hown : s.vm.findClass RX0 = some m.cls := findClass_of_methodNamed B.named
  have hlocks := B.notSynchronized
  subst hsz
  have hD := hD0.self (sz := s.heap.size)
  generalize hAe : va_A [(aS, .inl (cI, 5, .inl S0))] s.heap.size = A at hD ⊢
  have hA : ∀ q : Nat, s.heap.size ≤ q → A q := fun q h => by rw [← hAe]; exact Or.inr h
  have hS : va_S A s.heap s.heap [] := va_S.rf
  generalize hQ : MQ below (va_Qi (fun (r : Int32) (_ : Unit) => r = pFirst S0 z0) (fun u t => va_P (dC, dI) vwCl ((fun (_ : Unit) => [(aS, .inl (cI, 5, .inl S0))]) u) t.heap) A) args s 0 0 A = Q
  have F9 : CallFix p m c cX0_firstColourWith 3 s args wsX0_firstColourWith RX0 := ⟨hx, hb, hml, hown, hts⟩
  refine z_entry (R := rmX0_firstColourWith) ha (Nat.le_of_ble_eq_true rfl) (fun ls hl => ?_)
  have hl : lv_has ls 3 [(0, .int z0), (1, .ref aS)] := hl
  refine lv_iconst (v := 1) hx hb dX0_firstColourWith_0 (by decide) ?_
  refine lv_istore_n (lv' := [(2, .int 1), (0, .int z0), (1, .ref aS)]) hx hb dX0_firstColourWith_1 rfl hl (by decide) rfl (fun ls hl => ?_)
  have loop_2 : ∀ (n : Nat) (k : Nat) (hkn : k + n = 5) (h1 : 1 ≤ k) (hz : ∀ j, 1 ≤ j → j < k → S0 j &&& z0 = 0) (H : Heap) (locs : List Loc) (ls : Array Slot) (hP : va_P (dC, dI) vwCl [(aS, .inl (cI, 5, .inl S0))] H) (hD : va_D A [(aS, .inl (cI, 5, .inl S0))]) (hS : va_S A s.heap H locs) (hl : lv_has ls 3 [(0, .int z0), (1, .ref aS), (2, .int (nI k))]), W p l e rmX0_firstColourWith s m args below meth c H locs 0 0 Q (F0 m 2 ls []) := by
    intro n
    induction n with
    | zero =>
      intro k hkn h1 hz H locs ls hP hD hS hl
      refine lv_iload_n hx hb dX0_firstColourWith_2 rfl (lv_at hl 2 rfl) ?_
      refine lv_aload_n hx hb dX0_firstColourWith_3 rfl (lv_at hl 1 rfl) ?_
      refine va_alen (v := 5) hx hb hK hP 0 0 rfl rfl rfl dX0_firstColourWith_4 ?_
      refine lv_icmp_ge (tgt := 24) hx hb dX0_firstColourWith_5 (by decide) (fun c_5 => ?_) (fun c_5 => ?_)
      · skip
        have n_5 := zc_le_t (a := 5) (b := k) (by omega) (by omega) c_5
        refine lv_iconst (v := 0) hx hb dX0_firstColourWith_24 (by decide) ?_
        rw [← hQ]
        exact z_iret (W1 := (fun (_ : Unit) => [(aS, .inl (cI, 5, .inl S0))])) hx hb hr hlocks hP hS () (rfl) (pFirst_no (fun j h1 h2 => hz j h1 (by omega))) dX0_firstColourWith_25
      · skip
        have n_5 := zc_le_f (a := 5) (b := k) (by omega) (by omega) c_5
        exact absurd n_5 (by omega)
    | succ n ih_2 =>
      intro k hkn h1 hz H locs ls hP hD hS hl
      refine lv_iload_n hx hb dX0_firstColourWith_2 rfl (lv_at hl 2 rfl) ?_
      refine lv_aload_n hx hb dX0_firstColourWith_3 rfl (lv_at hl 1 rfl) ?_
      refine va_alen (v := 5) hx hb hK hP 0 0 rfl rfl rfl dX0_firstColourWith_4 ?_
      refine lv_icmp_ge (tgt := 24) hx hb dX0_firstColourWith_5 (by decide) (fun c_5 => ?_) (fun c_5 => ?_)
      · skip
        have n_5 := zc_le_t (a := 5) (b := k) (by omega) (by omega) c_5
        exact absurd n_5 (by omega)
      · skip
        have n_5 := zc_le_f (a := 5) (b := k) (by omega) (by omega) c_5
        refine lv_aload_n hx hb dX0_firstColourWith_8 rfl (lv_at hl 1 rfl) ?_
        refine lv_iload_n hx hb dX0_firstColourWith_9 rfl (lv_at hl 2 rfl) ?_
        refine z_iald hx hb hK hP 0 0 rfl rfl k (rfl) (by omega) (by decide) dX0_firstColourWith_10 ?_
        refine lv_iload_n hx hb dX0_firstColourWith_11 rfl (lv_at hl 0 rfl) ?_
        refine lv_iand hx hb dX0_firstColourWith_12 ?_
        refine lv_if_eq (tgt := 18) hx hb dX0_firstColourWith_13 (by decide) (fun c_13 => ?_) (fun c_13 => ?_)
        · skip
          refine lv_iinc (v := nI (k + 1)) (lv' := [(2, .int (nI (k + 1))), (0, .int z0), (1, .ref aS)]) hx hb dX0_firstColourWith_18 hl (k := 2) rfl (nI_1 k) (by decide) rfl (fun ls hl => ?_)
          refine lv_goto (tgt := 2) hx hb dX0_firstColourWith_21 (by decide) ?_
          exact ih_2 (k + 1) (by omega) (by omega) (fun j h1 h2 => by rcases Nat.lt_succ_iff_lt_or_eq.mp h2 with h | rfl; exact hz j h1 h; exact c_13) _ _ _ hP hD hS (lv_sub hl [1, 2, 0] rfl)
        · skip
          refine lv_iload_n hx hb dX0_firstColourWith_16 rfl (lv_at hl 2 rfl) ?_
          rw [← hQ]
          exact z_iret (W1 := (fun (_ : Unit) => [(aS, .inl (cI, 5, .inl S0))])) hx hb hr hlocks hP hS () (rfl) (pFirst_at h1 (by omega) hz c_13) dX0_firstColourWith_17
  exact loop_2 4 1 (by omega) (Nat.le_refl 1) (fun j h1 h2 => absurd h2 (by omega)) _ _ _ hP hD hS (lv_sub hl [1, 2, 0] rfl)
abbrev rmX0_cellsWith : Room := { frames := 0, cells := 0, slots := 0, locals := 0 }
set_option maxRecDepth 20000 in
theorem iX0_cellsWith_X0 : ∀ w ∈ wsX00, w ∈ wsX0_cellsWith := fun w h => (goodIn_r (big := wsX0_cellsWith) wsX00 [2, 3, 4, 5, 6, 7] (by decide +kernel) (by decide +kernel) w h).1
set_option maxHeartbeats 4000000 in
set_option maxRecDepth 100000 in
theorem m_X0_cellsWith (l : Launch) (dC : Nat → ClassId) (dI : Nat → Nat → Nat) (cI cZ cJ cD : ClassId) (hT : Nat) (aS : Nat) (aC : Nat) (aG : Nat) (bd : Int32) (sb : Int32) (nd : Int32) (S0 : Nat → Int32) (Cr : Nat → Int32) (G0 : Nat → Int32) (col : Int32)  : zI l (dC, dI) (wT cI cZ cJ cD) yX0_cellsWith wsX0_cellsWith rmX0_cellsWith [(hT, .inr (0, [.int bd, .int sb, .int nd, .ref aS, .ref aC, .ref aG])), (aS, .inl (cI, 5, .inl S0)), (aC, .inl (cI, 5, .inl Cr)), (aG, .inl (cI, 5, .inl G0))] [.ref hT, .int col] (fun (_ : Unit) => [(hT, .inr (0, [.int bd, .int sb, .int nd, .ref aS, .ref aC, .ref aG])), (aS, .inl (cI, 5, .inl S0)), (aC, .inl (cI, 5, .inl Cr)), (aG, .inl (cI, 5, .inl G0))]) (fun (r : Int32) (_ : Unit) => r = pCW S0 col) := by
  intro sz
  refine Met.ofW (cc := cX0_cellsWith) (maxL := 2) (ret := (some .int)) (by decide) rfl ?_
  intro p e s m args below meth c s₁ B hml hv
  obtain ⟨ha, hsz, hP, hK, hD0, hN⟩ := hv
  have hx := B.exec
  have hb := B.bytes
  have hr := B.returns
  have hts := atoms_spec (ws := wsX0_cellsWith) B.pre
  have hown : s.vm.findClass RX0 = some m.cls := findClass_of_methodNamed B.named
  have hlocks := B.notSynchronized
  subst hsz
  have hD := hD0.self (sz := s.heap.size)
  generalize hAe : va_A [(hT, .inr (0, [.int bd, .int sb, .int nd, .ref aS, .ref aC, .ref aG])), (aS, .inl (cI, 5, .inl S0)), (aC, .inl (cI, 5, .inl Cr)), (aG, .inl (cI, 5, .inl G0))] s.heap.size = A at hD ⊢
  have hA : ∀ q : Nat, s.heap.size ≤ q → A q := fun q h => by rw [← hAe]; exact Or.inr h
  have hS : va_S A s.heap s.heap [] := va_S.rf
  generalize hQ : MQ below (va_Qi (fun (r : Int32) (_ : Unit) => r = pCW S0 col) (fun u t => va_P (dC, dI) vwCl ((fun (_ : Unit) => [(hT, .inr (0, [.int bd, .int sb, .int nd, .ref aS, .ref aC, .ref aG])), (aS, .inl (cI, 5, .inl S0)), (aC, .inl (cI, 5, .inl Cr)), (aG, .inl (cI, 5, .inl G0))]) u) t.heap) A) args s 0 0 A = Q
  have F9 : CallFix p m c cX0_cellsWith 2 s args wsX0_cellsWith RX0 := ⟨hx, hb, hml, hown, hts⟩
  refine z_entry (R := rmX0_cellsWith) ha (Nat.le_of_ble_eq_true rfl) (fun ls hl => ?_)
  have hl : lv_has ls 2 [(0, .ref hT), (1, .int col)] := hl
  refine lv_iload_n hx hb dX0_cellsWith_0 rfl (lv_at hl 1 rfl) ?_
  refine lv_if_lt (tgt := 18) hx hb dX0_cellsWith_1 (by decide) (fun c_1 => ?_) (fun c_1 => ?_)
  · skip
    refine lv_iconst (v := 0) hx hb dX0_cellsWith_18 (by decide) ?_
    rw [← hQ]
    exact z_iret (W1 := (fun (_ : Unit) => [(hT, .inr (0, [.int bd, .int sb, .int nd, .ref aS, .ref aC, .ref aG])), (aS, .inl (cI, 5, .inl S0)), (aC, .inl (cI, 5, .inl Cr)), (aG, .inl (cI, 5, .inl G0))])) hx hb hr hlocks hP hS () (rfl) (pCW_out S0 (Or.inl c_1)) dX0_cellsWith_19
  · skip
    refine lv_iload_n hx hb dX0_cellsWith_4 rfl (lv_at hl 1 rfl) ?_
    refine lv_iconst (v := 5) hx hb dX0_cellsWith_5 (by decide) ?_
    refine lv_icmp_ge (tgt := 18) hx hb dX0_cellsWith_6 (by decide) (fun c_6 => ?_) (fun c_6 => ?_)
    · skip
      refine lv_iconst (v := 0) hx hb dX0_cellsWith_18 (by decide) ?_
      rw [← hQ]
      exact z_iret (W1 := (fun (_ : Unit) => [(hT, .inr (0, [.int bd, .int sb, .int nd, .ref aS, .ref aC, .ref aG])), (aS, .inl (cI, 5, .inl S0)), (aC, .inl (cI, 5, .inl Cr)), (aG, .inl (cI, 5, .inl G0))])) hx hb hr hlocks hP hS () (rfl) (pCW_out S0 (Or.inr c_6)) dX0_cellsWith_19
    · skip
      obtain ⟨j, hj, rfl⟩ := z_five c_1 c_6
      refine lv_aload_n hx hb dX0_cellsWith_9 rfl (lv_at hl 0 rfl) ?_
      refine va_get (D := (dC, dI)) (ci := 0) (v := .ref aS) (C := RX0) (T := TX0) (N := 6) hx hb hts iX0_cellsWith_X0 hown hK hP 0 rfl rfl 3 (by decide) (hts (.fieldLink RX0 15 "ColourTide$Tide" "sets" "[I") (List.mem_of_getElem? (i := 1) rfl)) (fun _ h9 => h9) rfl dX0_cellsWith_10 ?_
      refine lv_iload_n hx hb dX0_cellsWith_13 rfl (lv_at hl 1 rfl) ?_
      refine z_iald hx hb hK hP 1 0 rfl rfl j (rfl) (hj) (by decide) dX0_cellsWith_14 ?_
      refine lv_goto (tgt := 19) hx hb dX0_cellsWith_15 (by decide) ?_
      rw [← hQ]
      exact z_iret (W1 := (fun (_ : Unit) => [(hT, .inr (0, [.int bd, .int sb, .int nd, .ref aS, .ref aC, .ref aG])), (aS, .inl (cI, 5, .inl S0)), (aC, .inl (cI, 5, .inl Cr)), (aG, .inl (cI, 5, .inl G0))])) hx hb hr hlocks hP hS () (rfl) (pCW_at S0 hj) dX0_cellsWith_19
abbrev rmX0_count : Room := { frames := 1, cells := 0, slots := 0, locals := 21 }
set_option maxRecDepth 20000 in
theorem iX0_count_X0 : ∀ w ∈ wsX00, w ∈ wsX0_count := fun w h => (goodIn_r (big := wsX0_count) wsX00 [14, 15, 16, 17, 18, 19] (by decide +kernel) (by decide +kernel) w h).1
set_option maxHeartbeats 4000000 in
set_option maxRecDepth 100000 in
theorem m_X0_count (l : Launch) (dC : Nat → ClassId) (dI : Nat → Nat → Nat) (cI cZ cJ cD : ClassId) (hT : Nat) (aS : Nat) (aC : Nat) (aG : Nat) (bd : Int32) (sb : Int32) (nd : Int32) (S0 : Nat → Int32) (Cr : Nat → Int32) (G0 : Nat → Int32) (col : Int32)  : zI l (dC, dI) (wT cI cZ cJ cD) yX0_count wsX0_count rmX0_count [(hT, .inr (0, [.int bd, .int sb, .int nd, .ref aS, .ref aC, .ref aG])), (aS, .inl (cI, 5, .inl S0)), (aC, .inl (cI, 5, .inl Cr)), (aG, .inl (cI, 5, .inl G0))] [.ref hT, .int col] (fun (_ : Unit) => [(hT, .inr (0, [.int bd, .int sb, .int nd, .ref aS, .ref aC, .ref aG])), (aS, .inl (cI, 5, .inl S0)), (aC, .inl (cI, 5, .inl Cr)), (aG, .inl (cI, 5, .inl G0))]) (fun (r : Int32) (_ : Unit) => r = pBC (pCW S0 col)) := by
  intro sz
  refine Met.ofW (cc := cX0_count) (maxL := 2) (ret := (some .int)) (by decide) rfl ?_
  intro p e s m args below meth c s₁ B hml hv
  obtain ⟨ha, hsz, hP, hK, hD0, hN⟩ := hv
  have hx := B.exec
  have hb := B.bytes
  have hr := B.returns
  have hts := atoms_spec (ws := wsX0_count) B.pre
  have hown : s.vm.findClass RX0 = some m.cls := findClass_of_methodNamed B.named
  have hlocks := B.notSynchronized
  subst hsz
  have hD := hD0.self (sz := s.heap.size)
  generalize hAe : va_A [(hT, .inr (0, [.int bd, .int sb, .int nd, .ref aS, .ref aC, .ref aG])), (aS, .inl (cI, 5, .inl S0)), (aC, .inl (cI, 5, .inl Cr)), (aG, .inl (cI, 5, .inl G0))] s.heap.size = A at hD ⊢
  have hA : ∀ q : Nat, s.heap.size ≤ q → A q := fun q h => by rw [← hAe]; exact Or.inr h
  have hS : va_S A s.heap s.heap [] := va_S.rf
  generalize hQ : MQ below (va_Qi (fun (r : Int32) (_ : Unit) => r = pBC (pCW S0 col)) (fun u t => va_P (dC, dI) vwCl ((fun (_ : Unit) => [(hT, .inr (0, [.int bd, .int sb, .int nd, .ref aS, .ref aC, .ref aG])), (aS, .inl (cI, 5, .inl S0)), (aC, .inl (cI, 5, .inl Cr)), (aG, .inl (cI, 5, .inl G0))]) u) t.heap) A) args s 0 0 A = Q
  have F9 : CallFix p m c cX0_count 2 s args wsX0_count RX0 := ⟨hx, hb, hml, hown, hts⟩
  refine z_entry (R := rmX0_count) ha (Nat.le_of_ble_eq_true rfl) (fun ls hl => ?_)
  have hl : lv_has ls 2 [(0, .ref hT), (1, .int col)] := hl
  refine lv_aload_n hx hb dX0_count_0 rfl (lv_at hl 0 rfl) ?_
  refine lv_iload_n hx hb dX0_count_1 rfl (lv_at hl 1 rfl) ?_
  refine z_callVi (As := [.int col]) (rest := []) F9 (m_X0_cellsWith l dC dI cI cZ cJ cD hT aS aC aG bd sb nd S0 Cr G0 col ) (cwV 1 hts gX0_count_X0_cellsWith rfl rfl rfl (by decide +kernel) ⟨Nat.le_of_ble_eq_true rfl, Nat.le_of_ble_eq_true rfl⟩) hK hN hP hD hS hA [0, 1, 2, 3] rfl rfl (fun _ => rfl) 0 (ci := 0) rfl rfl rfl rfl hl.1 rfl (Nat.le_of_ble_eq_true rfl) dX0_count_2 ⟨Nat.zero_le _, Nat.zero_le _⟩ (fun r_1 u H locs hp_2 hP hD hS => ?_)
  have hP : va_P (dC, dI) vwCl [(hT, .inr (0, [.int bd, .int sb, .int nd, .ref aS, .ref aC, .ref aG])), (aS, .inl (cI, 5, .inl S0)), (aC, .inl (cI, 5, .inl Cr)), (aG, .inl (cI, 5, .inl G0))] H := hP
  have hD : va_D A [(hT, .inr (0, [.int bd, .int sb, .int nd, .ref aS, .ref aC, .ref aG])), (aS, .inl (cI, 5, .inl S0)), (aC, .inl (cI, 5, .inl Cr)), (aG, .inl (cI, 5, .inl G0))] := hD
  have hp_2 : r_1 = pCW S0 col := hp_2
  refine z_topi (y := pCW S0 col) hp_2 ?_
  refine z_callSi (As := [.int (pCW S0 col)]) (rest := []) F9 (m_J6_bitCount_0f7a4 l dC dI cI cZ cJ cD (pCW S0 col) ) (va_cwS 1 hts gX0_count_J6_bitCount_0f7a4 rfl rfl rfl (by decide +kernel) ⟨Nat.le_of_ble_eq_true rfl, Nat.le_of_ble_eq_true rfl⟩) hK hN hP hD hS hA rfl hl.1 rfl (Nat.le_of_ble_eq_true rfl) dX0_count_5 ⟨Nat.zero_le _, Nat.zero_le _⟩ (fun r_2 H locs hp_5 hP hS => ?_)
  have hp_5 : r_2 = pBC (pCW S0 col) := hp_5
  refine z_topi (y := pBC (pCW S0 col)) hp_5 ?_
  rw [← hQ]
  exact z_iret (W1 := (fun (_ : Unit) => [(hT, .inr (0, [.int bd, .int sb, .int nd, .ref aS, .ref aC, .ref aG])), (aS, .inl (cI, 5, .inl S0)), (aC, .inl (cI, 5, .inl Cr)), (aG, .inl (cI, 5, .inl G0))])) hx hb hr hlocks hP hS () (rfl) (rfl) dX0_count_8
abbrev rmX0_isAll : Room := { frames := 1, cells := 0, slots := 0, locals := 21 }
set_option maxRecDepth 20000 in
theorem iX0_isAll_X0 : ∀ w ∈ wsX00, w ∈ wsX0_isAll := fun w h => (goodIn_r (big := wsX0_isAll) wsX00 [8, 9, 10, 11, 12, 13] (by decide +kernel) (by decide +kernel) w h).1
set_option maxHeartbeats 4000000 in
set_option maxRecDepth 100000 in
theorem m_X0_isAll (l : Launch) (dC : Nat → ClassId) (dI : Nat → Nat → Nat) (cI cZ cJ cD : ClassId) (hT : Nat) (aS : Nat) (aC : Nat) (aG : Nat) (bd : Int32) (sb : Int32) (nd : Int32) (S0 : Nat → Int32) (Cr : Nat → Int32) (G0 : Nat → Int32) (col : Int32)  : zI l (dC, dI) (wT cI cZ cJ cD) yX0_isAll wsX0_isAll rmX0_isAll [(hT, .inr (0, [.int bd, .int sb, .int nd, .ref aS, .ref aC, .ref aG])), (aS, .inl (cI, 5, .inl S0)), (aC, .inl (cI, 5, .inl Cr)), (aG, .inl (cI, 5, .inl G0))] [.ref hT, .int col] (fun (_ : Unit) => [(hT, .inr (0, [.int bd, .int sb, .int nd, .ref aS, .ref aC, .ref aG])), (aS, .inl (cI, 5, .inl S0)), (aC, .inl (cI, 5, .inl Cr)), (aG, .inl (cI, 5, .inl G0))]) (fun (r : Int32) (_ : Unit) => r = if pCW S0 col = bd then 1 else 0) := by
  intro sz
  refine Met.ofW (cc := cX0_isAll) (maxL := 2) (ret := (some .boolean)) (by decide) rfl ?_
  intro p e s m args below meth c s₁ B hml hv
  obtain ⟨ha, hsz, hP, hK, hD0, hN⟩ := hv
  have hx := B.exec
  have hb := B.bytes
  have hr := B.returns
  have hts := atoms_spec (ws := wsX0_isAll) B.pre
  have hown : s.vm.findClass RX0 = some m.cls := findClass_of_methodNamed B.named
  have hlocks := B.notSynchronized
  subst hsz
  have hD := hD0.self (sz := s.heap.size)
  generalize hAe : va_A [(hT, .inr (0, [.int bd, .int sb, .int nd, .ref aS, .ref aC, .ref aG])), (aS, .inl (cI, 5, .inl S0)), (aC, .inl (cI, 5, .inl Cr)), (aG, .inl (cI, 5, .inl G0))] s.heap.size = A at hD ⊢
  have hA : ∀ q : Nat, s.heap.size ≤ q → A q := fun q h => by rw [← hAe]; exact Or.inr h
  have hS : va_S A s.heap s.heap [] := va_S.rf
  generalize hQ : MQ below (va_Qi (fun (r : Int32) (_ : Unit) => r = if pCW S0 col = bd then 1 else 0) (fun u t => va_P (dC, dI) vwCl ((fun (_ : Unit) => [(hT, .inr (0, [.int bd, .int sb, .int nd, .ref aS, .ref aC, .ref aG])), (aS, .inl (cI, 5, .inl S0)), (aC, .inl (cI, 5, .inl Cr)), (aG, .inl (cI, 5, .inl G0))]) u) t.heap) A) args s 0 0 A = Q
  have F9 : CallFix p m c cX0_isAll 2 s args wsX0_isAll RX0 := ⟨hx, hb, hml, hown, hts⟩
  refine z_entry (R := rmX0_isAll) ha (Nat.le_of_ble_eq_true rfl) (fun ls hl => ?_)
  have hl : lv_has ls 2 [(0, .ref hT), (1, .int col)] := hl
  refine lv_aload_n hx hb dX0_isAll_0 rfl (lv_at hl 0 rfl) ?_
  refine lv_iload_n hx hb dX0_isAll_1 rfl (lv_at hl 1 rfl) ?_
  refine z_callVi (As := [.int col]) (rest := []) F9 (m_X0_cellsWith l dC dI cI cZ cJ cD hT aS aC aG bd sb nd S0 Cr G0 col ) (cwV 1 hts gX0_isAll_X0_cellsWith rfl rfl rfl (by decide +kernel) ⟨Nat.le_of_ble_eq_true rfl, Nat.le_of_ble_eq_true rfl⟩) hK hN hP hD hS hA [0, 1, 2, 3] rfl rfl (fun _ => rfl) 0 (ci := 0) rfl rfl rfl rfl hl.1 rfl (Nat.le_of_ble_eq_true rfl) dX0_isAll_2 ⟨Nat.zero_le _, Nat.zero_le _⟩ (fun r_1 u H locs hp_2 hP hD hS => ?_)
  have hP : va_P (dC, dI) vwCl [(hT, .inr (0, [.int bd, .int sb, .int nd, .ref aS, .ref aC, .ref aG])), (aS, .inl (cI, 5, .inl S0)), (aC, .inl (cI, 5, .inl Cr)), (aG, .inl (cI, 5, .inl G0))] H := hP
  have hD : va_D A [(hT, .inr (0, [.int bd, .int sb, .int nd, .ref aS, .ref aC, .ref aG])), (aS, .inl (cI, 5, .inl S0)), (aC, .inl (cI, 5, .inl Cr)), (aG, .inl (cI, 5, .inl G0))] := hD
  have hp_2 : r_1 = pCW S0 col := hp_2
  refine z_topi (y := pCW S0 col) hp_2 ?_
  refine lv_aload_n hx hb dX0_isAll_5 rfl (lv_at hl 0 rfl) ?_
  refine va_get (D := (dC, dI)) (ci := 0) (v := .int bd) (C := RX0) (T := TX0) (N := 6) hx hb hts iX0_isAll_X0 hown hK hP 0 rfl rfl 0 (by decide) (hts (.fieldLink RX0 25 "ColourTide$Tide" "board" "I") (List.mem_of_getElem? (i := 1) rfl)) (fun _ h9 => h9) rfl dX0_isAll_6 ?_
  refine lv_icmp_ne (tgt := 16) hx hb dX0_isAll_9 (by decide) (fun c_9 => ?_) (fun c_9 => ?_)
  · skip
    refine lv_iconst (v := 0) hx hb dX0_isAll_16 (by decide) ?_
    rw [← hQ]
    exact z_zret (W1 := (fun (_ : Unit) => [(hT, .inr (0, [.int bd, .int sb, .int nd, .ref aS, .ref aC, .ref aG])), (aS, .inl (cI, 5, .inl S0)), (aC, .inl (cI, 5, .inl Cr)), (aG, .inl (cI, 5, .inl G0))])) hx hb hr hlocks (by decide +kernel) hP hS () (rfl) (by simp [c_9]) dX0_isAll_17
  · skip
    refine lv_iconst (v := 1) hx hb dX0_isAll_12 (by decide) ?_
    refine lv_goto (tgt := 17) hx hb dX0_isAll_13 (by decide) ?_
    rw [← hQ]
    exact z_zret (W1 := (fun (_ : Unit) => [(hT, .inr (0, [.int bd, .int sb, .int nd, .ref aS, .ref aC, .ref aG])), (aS, .inl (cI, 5, .inl S0)), (aC, .inl (cI, 5, .inl Cr)), (aG, .inl (cI, 5, .inl G0))])) hx hb hr hlocks (by decide +kernel) hP hS () (rfl) (by simp [c_9]) dX0_isAll_17
abbrev rmX0_colourOf : Room := { frames := 1, cells := 0, slots := 0, locals := 22 }
set_option maxRecDepth 20000 in
theorem iX0_colourOf_X0 : ∀ w ∈ wsX00, w ∈ wsX0_colourOf := fun w h => (goodIn_r (big := wsX0_colourOf) wsX00 [6, 7, 8, 9, 10, 11] (by decide +kernel) (by decide +kernel) w h).1
set_option maxHeartbeats 4000000 in
set_option maxRecDepth 100000 in
theorem m_X0_colourOf (l : Launch) (dC : Nat → ClassId) (dI : Nat → Nat → Nat) (cI cZ cJ cD : ClassId) (hT : Nat) (aS : Nat) (aC : Nat) (aG : Nat) (bd : Int32) (sb : Int32) (nd : Int32) (S0 : Nat → Int32) (Cr : Nat → Int32) (G0 : Nat → Int32) (z0 : Int32)  : zI l (dC, dI) (wT cI cZ cJ cD) yX0_colourOf wsX0_colourOf rmX0_colourOf [(hT, .inr (0, [.int bd, .int sb, .int nd, .ref aS, .ref aC, .ref aG])), (aS, .inl (cI, 5, .inl S0)), (aC, .inl (cI, 5, .inl Cr)), (aG, .inl (cI, 5, .inl G0))] [.ref hT, .int z0] (fun (_ : Unit) => [(hT, .inr (0, [.int bd, .int sb, .int nd, .ref aS, .ref aC, .ref aG])), (aS, .inl (cI, 5, .inl S0)), (aC, .inl (cI, 5, .inl Cr)), (aG, .inl (cI, 5, .inl G0))]) (fun (r : Int32) (_ : Unit) => r = pFirst S0 z0) := by
  intro sz
  refine Met.ofW (cc := cX0_colourOf) (maxL := 2) (ret := (some .int)) (by decide) rfl ?_
  intro p e s m args below meth c s₁ B hml hv
  obtain ⟨ha, hsz, hP, hK, hD0, hN⟩ := hv
  have hx := B.exec
  have hb := B.bytes
  have hr := B.returns
  have hts := atoms_spec (ws := wsX0_colourOf) B.pre
  have hown : s.vm.findClass RX0 = some m.cls := findClass_of_methodNamed B.named
  have hlocks := B.notSynchronized
  subst hsz
  have hD := hD0.self (sz := s.heap.size)
  generalize hAe : va_A [(hT, .inr (0, [.int bd, .int sb, .int nd, .ref aS, .ref aC, .ref aG])), (aS, .inl (cI, 5, .inl S0)), (aC, .inl (cI, 5, .inl Cr)), (aG, .inl (cI, 5, .inl G0))] s.heap.size = A at hD ⊢
  have hA : ∀ q : Nat, s.heap.size ≤ q → A q := fun q h => by rw [← hAe]; exact Or.inr h
  have hS : va_S A s.heap s.heap [] := va_S.rf
  generalize hQ : MQ below (va_Qi (fun (r : Int32) (_ : Unit) => r = pFirst S0 z0) (fun u t => va_P (dC, dI) vwCl ((fun (_ : Unit) => [(hT, .inr (0, [.int bd, .int sb, .int nd, .ref aS, .ref aC, .ref aG])), (aS, .inl (cI, 5, .inl S0)), (aC, .inl (cI, 5, .inl Cr)), (aG, .inl (cI, 5, .inl G0))]) u) t.heap) A) args s 0 0 A = Q
  have F9 : CallFix p m c cX0_colourOf 2 s args wsX0_colourOf RX0 := ⟨hx, hb, hml, hown, hts⟩
  refine z_entry (R := rmX0_colourOf) ha (Nat.le_of_ble_eq_true rfl) (fun ls hl => ?_)
  have hl : lv_has ls 2 [(0, .ref hT), (1, .int z0)] := hl
  refine lv_iload_n hx hb dX0_colourOf_0 rfl (lv_at hl 1 rfl) ?_
  refine lv_aload_n hx hb dX0_colourOf_1 rfl (lv_at hl 0 rfl) ?_
  refine va_get (D := (dC, dI)) (ci := 0) (v := .ref aS) (C := RX0) (T := TX0) (N := 6) hx hb hts iX0_colourOf_X0 hown hK hP 0 rfl rfl 3 (by decide) (hts (.fieldLink RX0 15 "ColourTide$Tide" "sets" "[I") (List.mem_of_getElem? (i := 1) rfl)) (fun _ h9 => h9) rfl dX0_colourOf_2 ?_
  refine z_callSWi (As := [.int z0, .ref aS]) (rest := []) F9 (m_X0_firstColourWith l dC dI cI cZ cJ cD aS S0 z0 ) (va_cwS 2 hts gX0_colourOf_X0_firstColourWith rfl rfl rfl (by decide +kernel) ⟨Nat.le_of_ble_eq_true rfl, Nat.le_of_ble_eq_true rfl⟩) hK hN hP hD hS hA [1] rfl rfl (fun _ => rfl) rfl hl.1 rfl (Nat.le_of_ble_eq_true rfl) dX0_colourOf_5 ⟨Nat.zero_le _, Nat.zero_le _⟩ (fun r_1 u H locs hp_5 hP hD hS => ?_)
  have hP : va_P (dC, dI) vwCl [(hT, .inr (0, [.int bd, .int sb, .int nd, .ref aS, .ref aC, .ref aG])), (aS, .inl (cI, 5, .inl S0)), (aC, .inl (cI, 5, .inl Cr)), (aG, .inl (cI, 5, .inl G0))] H := hP
  have hD : va_D A [(hT, .inr (0, [.int bd, .int sb, .int nd, .ref aS, .ref aC, .ref aG])), (aS, .inl (cI, 5, .inl S0)), (aC, .inl (cI, 5, .inl Cr)), (aG, .inl (cI, 5, .inl G0))] := hD
  have hp_5 : r_1 = pFirst S0 z0 := hp_5
  refine z_topi (y := pFirst S0 z0) hp_5 ?_
  rw [← hQ]
  exact z_iret (W1 := (fun (_ : Unit) => [(hT, .inr (0, [.int bd, .int sb, .int nd, .ref aS, .ref aC, .ref aG])), (aS, .inl (cI, 5, .inl S0)), (aC, .inl (cI, 5, .inl Cr)), (aG, .inl (cI, 5, .inl G0))])) hx hb hr hlocks hP hS () (rfl) (rfl) dX0_colourOf_8
abbrev rmX0_dye : Room := { frames := 0, cells := 0, slots := 0, locals := 0 }
set_option maxRecDepth 20000 in
theorem iX0_dye_X0 : ∀ w ∈ wsX00, w ∈ wsX0_dye := fun w h => (goodIn_r (big := wsX0_dye) wsX00 [2, 3, 4, 5, 6, 7] (by decide +kernel) (by decide +kernel) w h).1
set_option maxHeartbeats 4000000 in
set_option maxRecDepth 100000 in
theorem m_X0_dye (l : Launch) (dC : Nat → ClassId) (dI : Nat → Nat → Nat) (cI cZ cJ cD : ClassId) (hT : Nat) (aS : Nat) (aC : Nat) (aG : Nat) (bd : Int32) (sb : Int32) (nd : Int32) (S0 : Nat → Int32) (Cr : Nat → Int32) (G0 : Nat → Int32) (z0 : Int32) (col : Int32)  : zV l (dC, dI) (wT cI cZ cJ cD) yX0_dye wsX0_dye rmX0_dye [(hT, .inr (0, [.int bd, .int sb, .int nd, .ref aS, .ref aC, .ref aG])), (aS, .inl (cI, 5, .inl S0)), (aC, .inl (cI, 5, .inl Cr)), (aG, .inl (cI, 5, .inl G0))] [.ref hT, .int z0, .int col] (fun (_ : Unit) => [(hT, .inr (0, [.int bd, .int sb, .int nd, .ref aS, .ref aC, .ref aG])), (aS, .inl (cI, 5, .inl (pDye S0 z0 col))), (aC, .inl (cI, 5, .inl Cr)), (aG, .inl (cI, 5, .inl G0))]) (fun (_ : Unit) => True) := by
  intro sz
  refine Met.ofW (cc := cX0_dye) (maxL := 4) (ret := none) (by decide) rfl ?_
  intro p e s m args below meth c s₁ B hml hv
  obtain ⟨ha, hsz, hP, hK, hD0, hN⟩ := hv
  have hx := B.exec
  have hb := B.bytes
  have hr := B.returns
  have hts := atoms_spec (ws := wsX0_dye) B.pre
  have hown : s.vm.findClass RX0 = some m.cls := findClass_of_methodNamed B.named
  have hlocks := B.notSynchronized
  subst hsz
  have hD := hD0.self (sz := s.heap.size)
  generalize hAe : va_A [(hT, .inr (0, [.int bd, .int sb, .int nd, .ref aS, .ref aC, .ref aG])), (aS, .inl (cI, 5, .inl S0)), (aC, .inl (cI, 5, .inl Cr)), (aG, .inl (cI, 5, .inl G0))] s.heap.size = A at hD ⊢
  have hA : ∀ q : Nat, s.heap.size ≤ q → A q := fun q h => by rw [← hAe]; exact Or.inr h
  have hS : va_S A s.heap s.heap [] := va_S.rf
  generalize hQ : MQ below (va_Qv (fun (_ : Unit) => True) (fun u t => va_P (dC, dI) vwCl ((fun (_ : Unit) => [(hT, .inr (0, [.int bd, .int sb, .int nd, .ref aS, .ref aC, .ref aG])), (aS, .inl (cI, 5, .inl (pDye S0 z0 col))), (aC, .inl (cI, 5, .inl Cr)), (aG, .inl (cI, 5, .inl G0))]) u) t.heap) A) args s 0 0 A = Q
  have F9 : CallFix p m c cX0_dye 4 s args wsX0_dye RX0 := ⟨hx, hb, hml, hown, hts⟩
  refine z_entry (R := rmX0_dye) ha (Nat.le_of_ble_eq_true rfl) (fun ls hl => ?_)
  have hl : lv_has ls 4 [(0, .ref hT), (1, .int z0), (2, .int col)] := hl
  refine lv_iconst (v := 0) hx hb dX0_dye_0 (by decide) ?_
  refine lv_istore_n (lv' := [(3, .int 0), (0, .ref hT), (1, .int z0), (2, .int col)]) hx hb dX0_dye_1 rfl hl (by decide) rfl (fun ls hl => ?_)
  have loop_2 : ∀ (n : Nat) (k : Nat) (hkn : k + n = 5) (H : Heap) (locs : List Loc) (ls : Array Slot) (hP : va_P (dC, dI) vwCl [(hT, .inr (0, [.int bd, .int sb, .int nd, .ref aS, .ref aC, .ref aG])), (aS, .inl (cI, 5, .inl (zfill (pDyeF S0 z0 col) S0 k))), (aC, .inl (cI, 5, .inl Cr)), (aG, .inl (cI, 5, .inl G0))] H) (hD : va_D A [(hT, .inr (0, [.int bd, .int sb, .int nd, .ref aS, .ref aC, .ref aG])), (aS, .inl (cI, 5, .inl (zfill (pDyeF S0 z0 col) S0 k))), (aC, .inl (cI, 5, .inl Cr)), (aG, .inl (cI, 5, .inl G0))]) (hS : va_S A s.heap H locs) (hl : lv_has ls 4 [(0, .ref hT), (1, .int z0), (2, .int col), (3, .int (nI k))]), W p l e rmX0_dye s m args below meth c H locs 0 0 Q (F0 m 2 ls []) := by
    intro n
    induction n with
    | zero =>
      intro k hkn  H locs ls hP hD hS hl
      refine lv_iload_n hx hb dX0_dye_2 rfl (lv_at hl 3 rfl) ?_
      refine lv_iconst (v := 5) hx hb dX0_dye_3 (by decide) ?_
      refine lv_icmp_ge (tgt := 45) hx hb dX0_dye_4 (by decide) (fun c_4 => ?_) (fun c_4 => ?_)
      · skip
        have n_4 := zc_le_t (a := 5) (b := k) (by omega) (by omega) c_4
        have hl9 := hl
        have hP9 := hP
        have hD9 := hD
        have hS9 := hS
        obtain rfl : k = 5 := by omega
        have hl := hl9
        have hP := hP9
        have hD := hD9
        have hS := hS9
        rw [← hQ]
        exact z_vret (W1 := (fun (_ : Unit) => [(hT, .inr (0, [.int bd, .int sb, .int nd, .ref aS, .ref aC, .ref aG])), (aS, .inl (cI, 5, .inl (pDye S0 z0 col))), (aC, .inl (cI, 5, .inl Cr)), (aG, .inl (cI, 5, .inl G0))])) hx hb hr hlocks hP hS () (rfl) (trivial) dX0_dye_45
      · skip
        have n_4 := zc_le_f (a := 5) (b := k) (by omega) (by omega) c_4
        exact absurd n_4 (by omega)
    | succ n ih_2 =>
      intro k hkn  H locs ls hP hD hS hl
      refine lv_iload_n hx hb dX0_dye_2 rfl (lv_at hl 3 rfl) ?_
      refine lv_iconst (v := 5) hx hb dX0_dye_3 (by decide) ?_
      refine lv_icmp_ge (tgt := 45) hx hb dX0_dye_4 (by decide) (fun c_4 => ?_) (fun c_4 => ?_)
      · skip
        have n_4 := zc_le_t (a := 5) (b := k) (by omega) (by omega) c_4
        exact absurd n_4 (by omega)
      · skip
        have n_4 := zc_le_f (a := 5) (b := k) (by omega) (by omega) c_4
        refine lv_aload_n hx hb dX0_dye_7 rfl (lv_at hl 0 rfl) ?_
        refine va_get (D := (dC, dI)) (ci := 0) (v := .ref aS) (C := RX0) (T := TX0) (N := 6) hx hb hts iX0_dye_X0 hown hK hP 0 rfl rfl 3 (by decide) (hts (.fieldLink RX0 15 "ColourTide$Tide" "sets" "[I") (List.mem_of_getElem? (i := 1) rfl)) (fun _ h9 => h9) rfl dX0_dye_8 ?_
        refine lv_iload_n hx hb dX0_dye_11 rfl (lv_at hl 3 rfl) ?_
        refine lv_iload_n hx hb dX0_dye_12 rfl (lv_at hl 3 rfl) ?_
        refine lv_iload_n hx hb dX0_dye_13 rfl (lv_at hl 2 rfl) ?_
        suffices j_38 : ∀ v_38 : Int32, v_38 = (if nI k = col then S0 k ||| z0 else S0 k &&& (z0 ^^^ (-1))) → W p l e rmX0_dye s m args below meth c H locs 0 0 Q (F0 m 38 ls [.int v_38, .int (nI k), .ref aS]) by
          refine lv_icmp_ne (tgt := 28) hx hb dX0_dye_14 (by decide) (fun c_14 => ?_) (fun c_14 => ?_)
          · skip
            refine lv_aload_n hx hb dX0_dye_28 rfl (lv_at hl 0 rfl) ?_
            refine va_get (D := (dC, dI)) (ci := 0) (v := .ref aS) (C := RX0) (T := TX0) (N := 6) hx hb hts iX0_dye_X0 hown hK hP 0 rfl rfl 3 (by decide) (hts (.fieldLink RX0 15 "ColourTide$Tide" "sets" "[I") (List.mem_of_getElem? (i := 1) rfl)) (fun _ h9 => h9) rfl dX0_dye_29 ?_
            refine lv_iload_n hx hb dX0_dye_32 rfl (lv_at hl 3 rfl) ?_
            refine z_iald hx hb hK hP 1 0 rfl rfl k (rfl) (by omega) (by decide) dX0_dye_33 ?_
            refine z_topi (y := S0 k) (zfill_at (Nat.le_refl _)) ?_
            refine lv_iload_n hx hb dX0_dye_34 rfl (lv_at hl 1 rfl) ?_
            refine lv_iconst (v := (-1)) hx hb dX0_dye_35 (by decide) ?_
            refine lv_ixor hx hb dX0_dye_36 ?_
            refine lv_iand hx hb dX0_dye_37 ?_
            exact j_38 _ (by rw [if_neg c_14])
          · skip
            refine lv_aload_n hx hb dX0_dye_17 rfl (lv_at hl 0 rfl) ?_
            refine va_get (D := (dC, dI)) (ci := 0) (v := .ref aS) (C := RX0) (T := TX0) (N := 6) hx hb hts iX0_dye_X0 hown hK hP 0 rfl rfl 3 (by decide) (hts (.fieldLink RX0 15 "ColourTide$Tide" "sets" "[I") (List.mem_of_getElem? (i := 1) rfl)) (fun _ h9 => h9) rfl dX0_dye_18 ?_
            refine lv_iload_n hx hb dX0_dye_21 rfl (lv_at hl 3 rfl) ?_
            refine z_iald hx hb hK hP 1 0 rfl rfl k (rfl) (by omega) (by decide) dX0_dye_22 ?_
            refine z_topi (y := S0 k) (zfill_at (Nat.le_refl _)) ?_
            refine lv_iload_n hx hb dX0_dye_23 rfl (lv_at hl 1 rfl) ?_
            refine lv_ior hx hb dX0_dye_24 ?_
            refine lv_goto (tgt := 38) hx hb dX0_dye_25 (by decide) ?_
            exact j_38 _ (by rw [if_pos c_14])
        intro v_38 h_v_38
        refine z_iast hx hb hK hP hD hS 1 0 rfl rfl k (rfl) (by omega) (by decide) dX0_dye_38 (fun H locs hP hD hS => ?_)
        have hP : va_P (dC, dI) vwCl [(hT, .inr (0, [.int bd, .int sb, .int nd, .ref aS, .ref aC, .ref aG])), (aS, .inl (cI, 5, .inl (upd (zfill (pDyeF S0 z0 col) S0 k) k v_38))), (aC, .inl (cI, 5, .inl Cr)), (aG, .inl (cI, 5, .inl G0))] H := hP
        have hD : va_D A [(hT, .inr (0, [.int bd, .int sb, .int nd, .ref aS, .ref aC, .ref aG])), (aS, .inl (cI, 5, .inl (upd (zfill (pDyeF S0 z0 col) S0 k) k v_38))), (aC, .inl (cI, 5, .inl Cr)), (aG, .inl (cI, 5, .inl G0))] := hD
        have e_38 : upd (zfill (pDyeF S0 z0 col) S0 k) k v_38 = zfill (pDyeF S0 z0 col) S0 (k + 1) := by rw [h_v_38]; exact zfill_succ _ _ _
        rw [e_38] at hP hD
        refine lv_iinc (v := nI (k + 1)) (lv' := [(3, .int (nI (k + 1))), (0, .ref hT), (1, .int z0), (2, .int col)]) hx hb dX0_dye_39 hl (k := 3) rfl (nI_1 k) (by decide) rfl (fun ls hl => ?_)
        refine lv_goto (tgt := 2) hx hb dX0_dye_42 (by decide) ?_
        exact ih_2 (k + 1) (by omega)  _ _ _ hP hD hS (lv_sub hl [1, 2, 3, 0] rfl)
  rw [← zfill_0 (pDyeF S0 z0 col) S0] at hP hD
  exact loop_2 5 0 (by omega)  _ _ _ hP hD hS (lv_sub hl [1, 2, 3, 0] rfl)
