abbrev rmX0_countPairs : Room := { frames := 1, cells := 0, slots := 0, locals := 20 }
set_option maxHeartbeats 4000000 in
set_option maxRecDepth 100000 in
theorem m_X0_countPairs (l : Launch) (dC : Nat → ClassId) (dI : Nat → Nat → Nat) (cI cZ cJ cD : ClassId) (z0 : Int32)  : zI l (dC, dI) (wT cI cZ cJ cD) yX0_countPairs wsX0_countPairs rmX0_countPairs [] [.int z0] (fun (_ : Unit) => []) (fun (r : Int32) (_ : Unit) => r = pPairs z0) := by
  intro sz
  refine Met.ofW (cc := cX0_countPairs) (maxL := 1) (ret := (some .int)) (by decide) rfl ?_
  intro p e s m args below meth c s₁ B hml hv
  obtain ⟨ha, hsz, hP, hK, hD0, hN⟩ := hv
  have hx := B.exec
  have hb := B.bytes
  have hr := B.returns
  have hts := atoms_spec (ws := wsX0_countPairs) B.pre
  have hown : s.vm.findClass RX0 = some m.cls := findClass_of_methodNamed B.named
  have hlocks := B.notSynchronized
  subst hsz
  have hD := hD0.self (sz := s.heap.size)
  generalize hAe : va_A [] s.heap.size = A at hD ⊢
  have hA : ∀ q : Nat, s.heap.size ≤ q → A q := fun q h => by rw [← hAe]; exact Or.inr h
  have hS : va_S A s.heap s.heap [] := va_S.rf
  generalize hQ : MQ below (va_Qi (fun (r : Int32) (_ : Unit) => r = pPairs z0) (fun u t => va_P (dC, dI) vwCl ((fun (_ : Unit) => []) u) t.heap) A) args s 0 0 A = Q
  have F9 : CallFix p m c cX0_countPairs 1 s args wsX0_countPairs RX0 := ⟨hx, hb, hml, hown, hts⟩
  refine z_entry (R := rmX0_countPairs) ha (Nat.le_of_ble_eq_true rfl) (fun ls hl => ?_)
  have hl : lv_has ls 1 [(0, .int z0)] := hl
  refine lv_iload_n hx hb dX0_countPairs_0 rfl (lv_at hl 0 rfl) ?_
  refine lv_iload_n hx hb dX0_countPairs_1 rfl (lv_at hl 0 rfl) ?_
  refine lv_iconst (v := 1) hx hb dX0_countPairs_2 (by decide) ?_
  refine lv_ishl hx hb dX0_countPairs_3 ?_
  refine lv_iand hx hb dX0_countPairs_4 ?_
  refine z_callSi (As := [.int (z0 &&& (z0 <<< (1 &&& 31)))]) (rest := []) F9 (m_J6_bitCount_0f7a4 l dC dI cI cZ cJ cD (z0 &&& (z0 <<< (1 &&& 31))) ) (va_cwS 1 hts gX0_countPairs_J6_bitCount_0f7a4 rfl rfl rfl (by decide +kernel) ⟨Nat.le_of_ble_eq_true rfl, Nat.le_of_ble_eq_true rfl⟩) hK hN hP hD hS hA rfl hl.1 rfl (Nat.le_of_ble_eq_true rfl) dX0_countPairs_5 ⟨Nat.zero_le _, Nat.zero_le _⟩ (fun r_1 H locs hp_5 hP hS => ?_)
  have hp_5 : r_1 = pBC (z0 &&& (z0 <<< (1 &&& 31))) := hp_5
  refine z_topi (y := pBC (z0 &&& (z0 <<< (1 &&& 31)))) hp_5 ?_
  refine lv_iload_n hx hb dX0_countPairs_8 rfl (lv_at hl 0 rfl) ?_
  refine lv_iload_n hx hb dX0_countPairs_9 rfl (lv_at hl 0 rfl) ?_
  refine lv_bipush (v := 6) hx hb dX0_countPairs_10 (by decide +kernel) ?_
  refine lv_ishl hx hb dX0_countPairs_12 ?_
  refine lv_iand hx hb dX0_countPairs_13 ?_
  refine z_callSi (As := [.int (z0 &&& (z0 <<< (6 &&& 31)))]) (rest := [.int (pBC (z0 &&& (z0 <<< (1 &&& 31))))]) F9 (m_J6_bitCount_0f7a4 l dC dI cI cZ cJ cD (z0 &&& (z0 <<< (6 &&& 31))) ) (va_cwS 1 hts gX0_countPairs_J6_bitCount_0f7a4 rfl rfl rfl (by decide +kernel) ⟨Nat.le_of_ble_eq_true rfl, Nat.le_of_ble_eq_true rfl⟩) hK hN hP hD hS hA rfl hl.1 rfl (Nat.le_of_ble_eq_true rfl) dX0_countPairs_14 ⟨Nat.zero_le _, Nat.zero_le _⟩ (fun r_2 H locs hp_14 hP hS => ?_)
  have hp_14 : r_2 = pBC (z0 &&& (z0 <<< (6 &&& 31))) := hp_14
  refine z_topi (y := pBC (z0 &&& (z0 <<< (6 &&& 31)))) hp_14 ?_
  refine lv_iadd hx hb dX0_countPairs_17 ?_
  rw [← hQ]
  exact z_iret (W1 := (fun (_ : Unit) => [])) hx hb hr hlocks hP hS () (rfl) (rfl) dX0_countPairs_18
abbrev rmX0_regionFrom : Room := { frames := 1, cells := 0, slots := 0, locals := 20 }
set_option maxHeartbeats 4000000 in
set_option maxRecDepth 100000 in
theorem m_X0_regionFrom (l : Launch) (dC : Nat → ClassId) (dI : Nat → Nat → Nat) (cI cZ cJ cD : ClassId) (z0 : Int32) (cl0 : Int32)  : zI l (dC, dI) (wT cI cZ cJ cD) yX0_regionFrom wsX0_regionFrom rmX0_regionFrom [] [.int z0, .int cl0] (fun (_ : Unit) => []) (fun (r : Int32) (_ : Unit) => r = pRF cl0 25 z0) := by
  intro sz
  refine Met.ofW (cc := cX0_regionFrom) (maxL := 5) (ret := (some .int)) (by decide) rfl ?_
  intro p e s m args below meth c s₁ B hml hv
  obtain ⟨ha, hsz, hP, hK, hD0, hN⟩ := hv
  have hx := B.exec
  have hb := B.bytes
  have hr := B.returns
  have hts := atoms_spec (ws := wsX0_regionFrom) B.pre
  have hown : s.vm.findClass RX0 = some m.cls := findClass_of_methodNamed B.named
  have hlocks := B.notSynchronized
  subst hsz
  have hD := hD0.self (sz := s.heap.size)
  generalize hAe : va_A [] s.heap.size = A at hD ⊢
  have hA : ∀ q : Nat, s.heap.size ≤ q → A q := fun q h => by rw [← hAe]; exact Or.inr h
  have hS : va_S A s.heap s.heap [] := va_S.rf
  generalize hQ : MQ below (va_Qi (fun (r : Int32) (_ : Unit) => r = pRF cl0 25 z0) (fun u t => va_P (dC, dI) vwCl ((fun (_ : Unit) => []) u) t.heap) A) args s 0 0 A = Q
  have F9 : CallFix p m c cX0_regionFrom 5 s args wsX0_regionFrom RX0 := ⟨hx, hb, hml, hown, hts⟩
  refine z_entry (R := rmX0_regionFrom) ha (Nat.le_of_ble_eq_true rfl) (fun ls hl => ?_)
  have hl : lv_has ls 5 [(0, .int z0), (1, .int cl0)] := hl
  refine lv_iload_n hx hb dX0_regionFrom_0 rfl (lv_at hl 0 rfl) ?_
  refine lv_istore_n (lv' := [(2, .int z0), (0, .int z0), (1, .int cl0)]) hx hb dX0_regionFrom_1 rfl hl (by decide) rfl (fun ls hl => ?_)
  refine lv_iconst (v := 0) hx hb dX0_regionFrom_2 (by decide) ?_
  refine lv_istore_n (lv' := [(3, .int 0), (2, .int z0), (0, .int z0), (1, .int cl0)]) hx hb dX0_regionFrom_3 rfl hl (by decide) rfl (fun ls hl => ?_)
  have loop_4 : ∀ (n : Nat) (k : Nat) (rg : Int32) (hkn : k + n = 25) (hh : pRF cl0 (25 - k) rg = pRF cl0 25 z0) (H : Heap) (locs : List Loc) (ls : Array Slot) (hP : va_P (dC, dI) vwCl [] H) (hD : va_D A []) (hS : va_S A s.heap H locs) (hl : lv_has ls 5 [(0, .int z0), (1, .int cl0), (2, .int rg), (3, .int (nI k))]), W p l e rmX0_regionFrom s m args below meth c H locs 0 0 Q (F0 m 4 ls []) := by
    intro n
    induction n with
    | zero =>
      intro k rg hkn hh H locs ls hP hD hS hl
      refine lv_iload_n hx hb dX0_regionFrom_4 rfl (lv_at hl 3 rfl) ?_
      refine lv_bipush (v := 25) hx hb dX0_regionFrom_5 (by decide +kernel) ?_
      refine lv_icmp_ge (tgt := 37) hx hb dX0_regionFrom_7 (by decide) (fun c_7 => ?_) (fun c_7 => ?_)
      · skip
        have n_7 := zc_le_t (a := 25) (b := k) (by omega) (by omega) c_7
        refine lv_iload_n hx hb dX0_regionFrom_37 rfl (lv_at hl 2 rfl) ?_
        have hl9 := hl
        have hP9 := hP
        have hD9 := hD
        have hS9 := hS
        obtain rfl : k = 25 := by omega
        have hl := hl9
        have hP := hP9
        have hD := hD9
        have hS := hS9
        rw [← hQ]
        exact z_iret (W1 := (fun (_ : Unit) => [])) hx hb hr hlocks hP hS () (rfl) (hh) dX0_regionFrom_38
      · skip
        have n_7 := zc_le_f (a := 25) (b := k) (by omega) (by omega) c_7
        exact absurd n_7 (by omega)
    | succ n ih_4 =>
      intro k rg hkn hh H locs ls hP hD hS hl
      refine lv_iload_n hx hb dX0_regionFrom_4 rfl (lv_at hl 3 rfl) ?_
      refine lv_bipush (v := 25) hx hb dX0_regionFrom_5 (by decide +kernel) ?_
      refine lv_icmp_ge (tgt := 37) hx hb dX0_regionFrom_7 (by decide) (fun c_7 => ?_) (fun c_7 => ?_)
      · skip
        have n_7 := zc_le_t (a := 25) (b := k) (by omega) (by omega) c_7
        exact absurd n_7 (by omega)
      · skip
        have n_7 := zc_le_f (a := 25) (b := k) (by omega) (by omega) c_7
        refine lv_iload_n hx hb dX0_regionFrom_10 rfl (lv_at hl 2 rfl) ?_
        refine lv_iload_n hx hb dX0_regionFrom_11 rfl (lv_at hl 2 rfl) ?_
        refine z_callNi (As := [.int rg]) (rest := [.int rg]) (host := RX1) F9 (m_X1_nextTo l dC dI cI cZ cJ cD rg ) ⟨va_cnB 1 hts gX0_regionFrom_X1_nextTo_n76 rfl rfl rfl hN.2.1 (hts (.initialized RX1) (List.mem_of_getElem? (i := 2) rfl)) (by decide +kernel) ⟨Nat.le_of_ble_eq_true rfl, Nat.le_of_ble_eq_true rfl⟩, (hts (.static yX1_nextTo) (List.mem_of_getElem? (i := 1) rfl)), trivial⟩ hK hN hP hD hS hA rfl hl.1 rfl (Nat.le_of_ble_eq_true rfl) dX0_regionFrom_12 ⟨Nat.zero_le _, Nat.zero_le _⟩ (fun r_1 H locs hp_12 hP hS => ?_)
        have hp_12 : r_1 = pNext rg := hp_12
        refine z_topi (y := pNext rg) hp_12 ?_
        refine lv_iload_n hx hb dX0_regionFrom_15 rfl (lv_at hl 1 rfl) ?_
        refine lv_iand hx hb dX0_regionFrom_16 ?_
        refine lv_ior hx hb dX0_regionFrom_17 ?_
        refine lv_istore (lv' := [(4, .int (rg ||| ((pNext rg) &&& cl0))), (0, .int z0), (1, .int cl0), (2, .int rg), (3, .int (nI k))]) hx hb dX0_regionFrom_18 hl (by decide) rfl (fun ls hl => ?_)
        refine lv_iload hx hb dX0_regionFrom_20 (lv_at hl 0 rfl) ?_
        refine lv_iload_n hx hb dX0_regionFrom_22 rfl (lv_at hl 3 rfl) ?_
        refine lv_icmp_ne (tgt := 28) hx hb dX0_regionFrom_23 (by decide) (fun c_23 => ?_) (fun c_23 => ?_)
        · skip
          refine lv_iload hx hb dX0_regionFrom_28 (lv_at hl 0 rfl) ?_
          refine lv_istore_n (lv' := [(2, .int (rg ||| ((pNext rg) &&& cl0))), (4, .int (rg ||| ((pNext rg) &&& cl0))), (0, .int z0), (1, .int cl0), (3, .int (nI k))]) hx hb dX0_regionFrom_30 rfl hl (by decide) rfl (fun ls hl => ?_)
          refine lv_iinc (v := nI (k + 1)) (lv' := [(3, .int (nI (k + 1))), (2, .int (rg ||| ((pNext rg) &&& cl0))), (4, .int (rg ||| ((pNext rg) &&& cl0))), (0, .int z0), (1, .int cl0)]) hx hb dX0_regionFrom_31 hl (k := 4) rfl (nI_1 k) (by decide) rfl (fun ls hl => ?_)
          refine lv_goto (tgt := 4) hx hb dX0_regionFrom_34 (by decide) ?_
          exact ih_4 (k + 1) (rg ||| (pNext rg &&& cl0)) (by omega) (by rw [← hh, show 25 - k = (25 - (k + 1)) + 1 by omega, pRF, if_neg c_23]) _ _ _ hP hD hS (lv_sub hl [3, 4, 1, 0] rfl)
        · skip
          refine lv_iload_n hx hb dX0_regionFrom_26 rfl (lv_at hl 3 rfl) ?_
          rw [← hQ]
          exact z_iret (W1 := (fun (_ : Unit) => [])) hx hb hr hlocks hP hS () (rfl) (by rw [← hh, show 25 - k = (25 - (k + 1)) + 1 by omega, pRF, if_pos c_23]) dX0_regionFrom_27
  exact loop_4 25 0 z0 (by omega) (rfl) _ _ _ hP hD hS (lv_sub hl [2, 3, 1, 0] rfl)
abbrev rmX0_sizeOfRegion : Room := { frames := 2, cells := 0, slots := 0, locals := 44 }
set_option maxRecDepth 20000 in
theorem iX0_sizeOfRegion_X0 : ∀ w ∈ wsX00, w ∈ wsX0_sizeOfRegion := fun w h => (goodIn_r (big := wsX0_sizeOfRegion) wsX00 [27, 28, 29, 30, 31, 32] (by decide +kernel) (by decide +kernel) w h).1
set_option maxHeartbeats 4000000 in
set_option maxRecDepth 100000 in
theorem m_X0_sizeOfRegion (l : Launch) (dC : Nat → ClassId) (dI : Nat → Nat → Nat) (cI cZ cJ cD : ClassId) (hT : Nat) (aS : Nat) (aC : Nat) (aG : Nat) (bd : Int32) (sb : Int32) (nd : Int32) (S0 : Nat → Int32) (Cr : Nat → Int32) (G0 : Nat → Int32) (z0 : Int32)  : zI l (dC, dI) (wT cI cZ cJ cD) yX0_sizeOfRegion wsX0_sizeOfRegion rmX0_sizeOfRegion [(hT, .inr (0, [.int bd, .int sb, .int nd, .ref aS, .ref aC, .ref aG])), (aS, .inl (cI, 5, .inl S0)), (aC, .inl (cI, 5, .inl Cr)), (aG, .inl (cI, 5, .inl G0))] [.ref hT, .int z0] (fun (_ : Unit) => [(hT, .inr (0, [.int bd, .int sb, .int nd, .ref aS, .ref aC, .ref aG])), (aS, .inl (cI, 5, .inl S0)), (aC, .inl (cI, 5, .inl Cr)), (aG, .inl (cI, 5, .inl G0))]) (fun (r : Int32) (_ : Unit) => r = pSoR S0 z0) := by
  intro sz
  refine Met.ofW (cc := cX0_sizeOfRegion) (maxL := 3) (ret := (some .int)) (by decide) rfl ?_
  intro p e s m args below meth c s₁ B hml hv
  obtain ⟨ha, hsz, hP, hK, hD0, hN⟩ := hv
  have hx := B.exec
  have hb := B.bytes
  have hr := B.returns
  have hts := atoms_spec (ws := wsX0_sizeOfRegion) B.pre
  have hown : s.vm.findClass RX0 = some m.cls := findClass_of_methodNamed B.named
  have hlocks := B.notSynchronized
  subst hsz
  have hD := hD0.self (sz := s.heap.size)
  generalize hAe : va_A [(hT, .inr (0, [.int bd, .int sb, .int nd, .ref aS, .ref aC, .ref aG])), (aS, .inl (cI, 5, .inl S0)), (aC, .inl (cI, 5, .inl Cr)), (aG, .inl (cI, 5, .inl G0))] s.heap.size = A at hD ⊢
  have hA : ∀ q : Nat, s.heap.size ≤ q → A q := fun q h => by rw [← hAe]; exact Or.inr h
  have hS : va_S A s.heap s.heap [] := va_S.rf
  generalize hQ : MQ below (va_Qi (fun (r : Int32) (_ : Unit) => r = pSoR S0 z0) (fun u t => va_P (dC, dI) vwCl ((fun (_ : Unit) => [(hT, .inr (0, [.int bd, .int sb, .int nd, .ref aS, .ref aC, .ref aG])), (aS, .inl (cI, 5, .inl S0)), (aC, .inl (cI, 5, .inl Cr)), (aG, .inl (cI, 5, .inl G0))]) u) t.heap) A) args s 0 0 A = Q
  have F9 : CallFix p m c cX0_sizeOfRegion 3 s args wsX0_sizeOfRegion RX0 := ⟨hx, hb, hml, hown, hts⟩
  refine z_entry (R := rmX0_sizeOfRegion) ha (Nat.le_of_ble_eq_true rfl) (fun ls hl => ?_)
  have hl : lv_has ls 3 [(0, .ref hT), (1, .int z0)] := hl
  refine lv_aload_n hx hb dX0_sizeOfRegion_0 rfl (lv_at hl 0 rfl) ?_
  refine lv_iload_n hx hb dX0_sizeOfRegion_1 rfl (lv_at hl 1 rfl) ?_
  refine z_callVi (As := [.int z0]) (rest := []) F9 (m_X0_colourOf l dC dI cI cZ cJ cD hT aS aC aG bd sb nd S0 Cr G0 z0 ) (cwV 1 hts gX0_sizeOfRegion_X0_colourOf rfl rfl rfl (by decide +kernel) ⟨Nat.le_of_ble_eq_true rfl, Nat.le_of_ble_eq_true rfl⟩) hK hN hP hD hS hA [0, 1, 2, 3] rfl rfl (fun _ => rfl) 0 (ci := 0) rfl rfl rfl rfl hl.1 rfl (Nat.le_of_ble_eq_true rfl) dX0_sizeOfRegion_2 ⟨Nat.zero_le _, Nat.zero_le _⟩ (fun r_1 u H locs hp_2 hP hD hS => ?_)
  have hP : va_P (dC, dI) vwCl [(hT, .inr (0, [.int bd, .int sb, .int nd, .ref aS, .ref aC, .ref aG])), (aS, .inl (cI, 5, .inl S0)), (aC, .inl (cI, 5, .inl Cr)), (aG, .inl (cI, 5, .inl G0))] H := hP
  have hD : va_D A [(hT, .inr (0, [.int bd, .int sb, .int nd, .ref aS, .ref aC, .ref aG])), (aS, .inl (cI, 5, .inl S0)), (aC, .inl (cI, 5, .inl Cr)), (aG, .inl (cI, 5, .inl G0))] := hD
  have hp_2 : r_1 = pFirst S0 z0 := hp_2
  refine z_topi (y := pFirst S0 z0) hp_2 ?_
  refine lv_istore_n (lv' := [(2, .int (pFirst S0 z0)), (0, .ref hT), (1, .int z0)]) hx hb dX0_sizeOfRegion_5 rfl hl (by decide) rfl (fun ls hl => ?_)
  refine lv_iload_n hx hb dX0_sizeOfRegion_6 rfl (lv_at hl 0 rfl) ?_
  refine lv_if_ne (tgt := 14) hx hb dX0_sizeOfRegion_7 (by decide) (fun c_7 => ?_) (fun c_7 => ?_)
  · skip
    refine lv_iload_n hx hb dX0_sizeOfRegion_14 rfl (lv_at hl 2 rfl) ?_
    refine lv_aload_n hx hb dX0_sizeOfRegion_15 rfl (lv_at hl 1 rfl) ?_
    refine lv_iload_n hx hb dX0_sizeOfRegion_16 rfl (lv_at hl 0 rfl) ?_
    refine z_callVi (As := [.int (pFirst S0 z0)]) (rest := [.int z0]) F9 (m_X0_cellsWith l dC dI cI cZ cJ cD hT aS aC aG bd sb nd S0 Cr G0 (pFirst S0 z0) ) (cwV 1 hts gX0_sizeOfRegion_X0_cellsWith rfl rfl rfl (by decide +kernel) ⟨Nat.le_of_ble_eq_true rfl, Nat.le_of_ble_eq_true rfl⟩) hK hN hP hD hS hA [0, 1, 2, 3] rfl rfl (fun _ => rfl) 0 (ci := 0) rfl rfl rfl rfl hl.1 rfl (Nat.le_of_ble_eq_true rfl) dX0_sizeOfRegion_17 ⟨Nat.zero_le _, Nat.zero_le _⟩ (fun r_2 u H locs hp_17 hP hD hS => ?_)
    have hP : va_P (dC, dI) vwCl [(hT, .inr (0, [.int bd, .int sb, .int nd, .ref aS, .ref aC, .ref aG])), (aS, .inl (cI, 5, .inl S0)), (aC, .inl (cI, 5, .inl Cr)), (aG, .inl (cI, 5, .inl G0))] H := hP
    have hD : va_D A [(hT, .inr (0, [.int bd, .int sb, .int nd, .ref aS, .ref aC, .ref aG])), (aS, .inl (cI, 5, .inl S0)), (aC, .inl (cI, 5, .inl Cr)), (aG, .inl (cI, 5, .inl G0))] := hD
    have hp_17 : r_2 = pCW S0 (pFirst S0 z0) := hp_17
    refine z_topi (y := pCW S0 (pFirst S0 z0)) hp_17 ?_
    refine z_callSi (As := [.int z0, .int (pCW S0 (pFirst S0 z0))]) (rest := []) F9 (m_X0_regionFrom l dC dI cI cZ cJ cD z0 (pCW S0 (pFirst S0 z0)) ) (va_cwS 2 hts gX0_sizeOfRegion_X0_regionFrom rfl rfl rfl (by decide +kernel) ⟨Nat.le_of_ble_eq_true rfl, Nat.le_of_ble_eq_true rfl⟩) hK hN hP hD hS hA rfl hl.1 rfl (Nat.le_of_ble_eq_true rfl) dX0_sizeOfRegion_20 ⟨Nat.zero_le _, Nat.zero_le _⟩ (fun r_3 H locs hp_20 hP hS => ?_)
    have hp_20 : r_3 = pRF (pCW S0 (pFirst S0 z0)) 25 z0 := hp_20
    refine z_topi (y := pRF (pCW S0 (pFirst S0 z0)) 25 z0) hp_20 ?_
    refine z_callSi (As := [.int (pRF (pCW S0 (pFirst S0 z0)) 25 z0)]) (rest := []) F9 (m_J6_bitCount_0f7a4 l dC dI cI cZ cJ cD (pRF (pCW S0 (pFirst S0 z0)) 25 z0) ) (va_cwS 1 hts gX0_sizeOfRegion_J6_bitCount_0f7a4 rfl rfl rfl (by decide +kernel) ⟨Nat.le_of_ble_eq_true rfl, Nat.le_of_ble_eq_true rfl⟩) hK hN hP hD hS hA rfl hl.1 rfl (Nat.le_of_ble_eq_true rfl) dX0_sizeOfRegion_23 ⟨Nat.zero_le _, Nat.zero_le _⟩ (fun r_4 H locs hp_23 hP hS => ?_)
    have hp_23 : r_4 = pBC (pRF (pCW S0 (pFirst S0 z0)) 25 z0) := hp_23
    refine z_topi (y := pBC (pRF (pCW S0 (pFirst S0 z0)) 25 z0)) hp_23 ?_
    rw [← hQ]
    exact z_iret (W1 := (fun (_ : Unit) => [(hT, .inr (0, [.int bd, .int sb, .int nd, .ref aS, .ref aC, .ref aG])), (aS, .inl (cI, 5, .inl S0)), (aC, .inl (cI, 5, .inl Cr)), (aG, .inl (cI, 5, .inl G0))])) hx hb hr hlocks hP hS () (rfl) (by unfold pSoR; simp [c_7]) dX0_sizeOfRegion_26
  · skip
    refine lv_iconst (v := 0) hx hb dX0_sizeOfRegion_10 (by decide) ?_
    refine lv_goto (tgt := 26) hx hb dX0_sizeOfRegion_11 (by decide) ?_
    rw [← hQ]
    exact z_iret (W1 := (fun (_ : Unit) => [(hT, .inr (0, [.int bd, .int sb, .int nd, .ref aS, .ref aC, .ref aG])), (aS, .inl (cI, 5, .inl S0)), (aC, .inl (cI, 5, .inl Cr)), (aG, .inl (cI, 5, .inl G0))])) hx hb hr hlocks hP hS () (rfl) (by unfold pSoR; simp [c_7]) dX0_sizeOfRegion_26
abbrev rmX0_countRegions : Room := { frames := 2, cells := 0, slots := 0, locals := 44 }
set_option maxRecDepth 20000 in
theorem iX0_countRegions_X0 : ∀ w ∈ wsX00, w ∈ wsX0_countRegions := fun w h => (goodIn_r (big := wsX0_countRegions) wsX00 [13, 14, 15, 16, 17, 18] (by decide +kernel) (by decide +kernel) w h).1
set_option maxHeartbeats 4000000 in
set_option maxRecDepth 100000 in
theorem m_X0_countRegions (l : Launch) (dC : Nat → ClassId) (dI : Nat → Nat → Nat) (cI cZ cJ cD : ClassId) (hT : Nat) (aS : Nat) (aC : Nat) (aG : Nat) (bd : Int32) (sb : Int32) (nd : Int32) (S0 : Nat → Int32) (Cr : Nat → Int32) (G0 : Nat → Int32) (col : Int32)  : zI l (dC, dI) (wT cI cZ cJ cD) yX0_countRegions wsX0_countRegions rmX0_countRegions [(hT, .inr (0, [.int bd, .int sb, .int nd, .ref aS, .ref aC, .ref aG])), (aS, .inl (cI, 5, .inl S0)), (aC, .inl (cI, 5, .inl Cr)), (aG, .inl (cI, 5, .inl G0))] [.ref hT, .int col] (fun (_ : Unit) => [(hT, .inr (0, [.int bd, .int sb, .int nd, .ref aS, .ref aC, .ref aG])), (aS, .inl (cI, 5, .inl S0)), (aC, .inl (cI, 5, .inl Cr)), (aG, .inl (cI, 5, .inl G0))]) (fun (r : Int32) (_ : Unit) => r = nI (pCR 25 (pCW S0 col) 0)) := by
  intro sz
  refine Met.ofW (cc := cX0_countRegions) (maxL := 5) (ret := (some .int)) (by decide) rfl ?_
  intro p e s m args below meth c s₁ B hml hv
  obtain ⟨ha, hsz, hP, hK, hD0, hN⟩ := hv
  have hx := B.exec
  have hb := B.bytes
  have hr := B.returns
  have hts := atoms_spec (ws := wsX0_countRegions) B.pre
  have hown : s.vm.findClass RX0 = some m.cls := findClass_of_methodNamed B.named
  have hlocks := B.notSynchronized
  subst hsz
  have hD := hD0.self (sz := s.heap.size)
  generalize hAe : va_A [(hT, .inr (0, [.int bd, .int sb, .int nd, .ref aS, .ref aC, .ref aG])), (aS, .inl (cI, 5, .inl S0)), (aC, .inl (cI, 5, .inl Cr)), (aG, .inl (cI, 5, .inl G0))] s.heap.size = A at hD ⊢
  have hA : ∀ q : Nat, s.heap.size ≤ q → A q := fun q h => by rw [← hAe]; exact Or.inr h
  have hS : va_S A s.heap s.heap [] := va_S.rf
  generalize hQ : MQ below (va_Qi (fun (r : Int32) (_ : Unit) => r = nI (pCR 25 (pCW S0 col) 0)) (fun u t => va_P (dC, dI) vwCl ((fun (_ : Unit) => [(hT, .inr (0, [.int bd, .int sb, .int nd, .ref aS, .ref aC, .ref aG])), (aS, .inl (cI, 5, .inl S0)), (aC, .inl (cI, 5, .inl Cr)), (aG, .inl (cI, 5, .inl G0))]) u) t.heap) A) args s 0 0 A = Q
  have F9 : CallFix p m c cX0_countRegions 5 s args wsX0_countRegions RX0 := ⟨hx, hb, hml, hown, hts⟩
  refine z_entry (R := rmX0_countRegions) ha (Nat.le_of_ble_eq_true rfl) (fun ls hl => ?_)
  have hl : lv_has ls 5 [(0, .ref hT), (1, .int col)] := hl
  refine lv_aload_n hx hb dX0_countRegions_0 rfl (lv_at hl 0 rfl) ?_
  refine lv_iload_n hx hb dX0_countRegions_1 rfl (lv_at hl 1 rfl) ?_
  refine z_callVi (As := [.int col]) (rest := []) F9 (m_X0_cellsWith l dC dI cI cZ cJ cD hT aS aC aG bd sb nd S0 Cr G0 col ) (cwV 1 hts gX0_countRegions_X0_cellsWith rfl rfl rfl (by decide +kernel) ⟨Nat.le_of_ble_eq_true rfl, Nat.le_of_ble_eq_true rfl⟩) hK hN hP hD hS hA [0, 1, 2, 3] rfl rfl (fun _ => rfl) 0 (ci := 0) rfl rfl rfl rfl hl.1 rfl (Nat.le_of_ble_eq_true rfl) dX0_countRegions_2 ⟨Nat.zero_le _, Nat.zero_le _⟩ (fun r_1 u H locs hp_2 hP hD hS => ?_)
  have hP : va_P (dC, dI) vwCl [(hT, .inr (0, [.int bd, .int sb, .int nd, .ref aS, .ref aC, .ref aG])), (aS, .inl (cI, 5, .inl S0)), (aC, .inl (cI, 5, .inl Cr)), (aG, .inl (cI, 5, .inl G0))] H := hP
  have hD : va_D A [(hT, .inr (0, [.int bd, .int sb, .int nd, .ref aS, .ref aC, .ref aG])), (aS, .inl (cI, 5, .inl S0)), (aC, .inl (cI, 5, .inl Cr)), (aG, .inl (cI, 5, .inl G0))] := hD
  have hp_2 : r_1 = pCW S0 col := hp_2
  refine z_topi (y := pCW S0 col) hp_2 ?_
  refine lv_istore_n (lv' := [(2, .int (pCW S0 col)), (0, .ref hT), (1, .int col)]) hx hb dX0_countRegions_5 rfl hl (by decide) rfl (fun ls hl => ?_)
  refine lv_iconst (v := 0) hx hb dX0_countRegions_6 (by decide) ?_
  refine lv_istore_n (lv' := [(3, .int 0), (2, .int (pCW S0 col)), (0, .ref hT), (1, .int col)]) hx hb dX0_countRegions_7 rfl hl (by decide) rfl (fun ls hl => ?_)
  refine lv_iconst (v := 0) hx hb dX0_countRegions_8 (by decide) ?_
  refine lv_istore (lv' := [(4, .int 0), (3, .int 0), (2, .int (pCW S0 col)), (0, .ref hT), (1, .int col)]) hx hb dX0_countRegions_9 hl (by decide) rfl (fun ls hl => ?_)
  have loop_11 : ∀ (n : Nat) (k : Nat) (lf : Int32) (rn : Nat) (hkn : k + n = 25) (hh : pCR (25 - k) lf rn = pCR 25 (pCW S0 col) 0) (H : Heap) (locs : List Loc) (ls : Array Slot) (hP : va_P (dC, dI) vwCl [(hT, .inr (0, [.int bd, .int sb, .int nd, .ref aS, .ref aC, .ref aG])), (aS, .inl (cI, 5, .inl S0)), (aC, .inl (cI, 5, .inl Cr)), (aG, .inl (cI, 5, .inl G0))] H) (hD : va_D A [(hT, .inr (0, [.int bd, .int sb, .int nd, .ref aS, .ref aC, .ref aG])), (aS, .inl (cI, 5, .inl S0)), (aC, .inl (cI, 5, .inl Cr)), (aG, .inl (cI, 5, .inl G0))]) (hS : va_S A s.heap H locs) (hl : lv_has ls 5 [(0, .ref hT), (1, .int col), (2, .int lf), (3, .int (nI rn)), (4, .int (nI k))]), W p l e rmX0_countRegions s m args below meth c H locs 0 0 Q (F0 m 11 ls []) := by
    intro n
    induction n with
    | zero =>
      intro k lf rn hkn hh H locs ls hP hD hS hl
      refine lv_iload hx hb dX0_countRegions_11 (lv_at hl 4 rfl) ?_
      refine lv_bipush (v := 25) hx hb dX0_countRegions_13 (by decide +kernel) ?_
      refine lv_icmp_ge (tgt := 44) hx hb dX0_countRegions_15 (by decide) (fun c_15 => ?_) (fun c_15 => ?_)
      · skip
        have n_15 := zc_le_t (a := 25) (b := k) (by omega) (by omega) c_15
        refine lv_iload_n hx hb dX0_countRegions_44 rfl (lv_at hl 3 rfl) ?_
        have hl9 := hl
        have hP9 := hP
        have hD9 := hD
        have hS9 := hS
        obtain rfl : k = 25 := by omega
        have hl := hl9
        have hP := hP9
        have hD := hD9
        have hS := hS9
        rw [← hQ]
        exact z_iret (W1 := (fun (_ : Unit) => [(hT, .inr (0, [.int bd, .int sb, .int nd, .ref aS, .ref aC, .ref aG])), (aS, .inl (cI, 5, .inl S0)), (aC, .inl (cI, 5, .inl Cr)), (aG, .inl (cI, 5, .inl G0))])) hx hb hr hlocks hP hS () (rfl) (by rw [← hh]; rfl) dX0_countRegions_45
      · skip
        have n_15 := zc_le_f (a := 25) (b := k) (by omega) (by omega) c_15
        exact absurd n_15 (by omega)
    | succ n ih_11 =>
      intro k lf rn hkn hh H locs ls hP hD hS hl
      refine lv_iload hx hb dX0_countRegions_11 (lv_at hl 4 rfl) ?_
      refine lv_bipush (v := 25) hx hb dX0_countRegions_13 (by decide +kernel) ?_
      refine lv_icmp_ge (tgt := 44) hx hb dX0_countRegions_15 (by decide) (fun c_15 => ?_) (fun c_15 => ?_)
      · skip
        have n_15 := zc_le_t (a := 25) (b := k) (by omega) (by omega) c_15
        exact absurd n_15 (by omega)
      · skip
        have n_15 := zc_le_f (a := 25) (b := k) (by omega) (by omega) c_15
        refine lv_iload_n hx hb dX0_countRegions_18 rfl (lv_at hl 2 rfl) ?_
        refine lv_if_eq (tgt := 44) hx hb dX0_countRegions_19 (by decide) (fun c_19 => ?_) (fun c_19 => ?_)
        · skip
          refine lv_iload_n hx hb dX0_countRegions_44 rfl (lv_at hl 3 rfl) ?_
          rw [← hQ]
          exact z_iret (W1 := (fun (_ : Unit) => [(hT, .inr (0, [.int bd, .int sb, .int nd, .ref aS, .ref aC, .ref aG])), (aS, .inl (cI, 5, .inl S0)), (aC, .inl (cI, 5, .inl Cr)), (aG, .inl (cI, 5, .inl G0))])) hx hb hr hlocks hP hS () (rfl) (by rw [← hh, show 25 - k = (25 - (k + 1)) + 1 by omega, pCR, if_pos c_19]) dX0_countRegions_45
        · skip
          refine lv_iload_n hx hb dX0_countRegions_22 rfl (lv_at hl 2 rfl) ?_
          refine lv_iload_n hx hb dX0_countRegions_23 rfl (lv_at hl 2 rfl) ?_
          refine lv_iload_n hx hb dX0_countRegions_24 rfl (lv_at hl 2 rfl) ?_
          refine lv_ineg hx hb dX0_countRegions_25 ?_
          refine lv_iand hx hb dX0_countRegions_26 ?_
          refine lv_iload_n hx hb dX0_countRegions_27 rfl (lv_at hl 2 rfl) ?_
          refine z_callSi (As := [.int (lf &&& (-lf)), .int lf]) (rest := [.int lf]) F9 (m_X0_regionFrom l dC dI cI cZ cJ cD (lf &&& (-lf)) lf ) (va_cwS 2 hts gX0_countRegions_X0_regionFrom rfl rfl rfl (by decide +kernel) ⟨Nat.le_of_ble_eq_true rfl, Nat.le_of_ble_eq_true rfl⟩) hK hN hP hD hS hA rfl hl.1 rfl (Nat.le_of_ble_eq_true rfl) dX0_countRegions_28 ⟨Nat.zero_le _, Nat.zero_le _⟩ (fun r_2 H locs hp_28 hP hS => ?_)
          have hp_28 : r_2 = pRF lf 25 (lf &&& (-lf)) := hp_28
          refine z_topi (y := pRF lf 25 (lf &&& (-lf))) hp_28 ?_
          refine lv_iconst (v := (-1)) hx hb dX0_countRegions_31 (by decide) ?_
          refine lv_ixor hx hb dX0_countRegions_32 ?_
          refine lv_iand hx hb dX0_countRegions_33 ?_
          refine z_topi (y := pCut lf) (rfl) ?_
          refine lv_istore_n (lv' := [(2, .int (pCut lf)), (0, .ref hT), (1, .int col), (3, .int (nI rn)), (4, .int (nI k))]) hx hb dX0_countRegions_34 rfl hl (by decide) rfl (fun ls hl => ?_)
          refine lv_iinc (v := nI (rn + 1)) (lv' := [(3, .int (nI (rn + 1))), (2, .int (pCut lf)), (0, .ref hT), (1, .int col), (4, .int (nI k))]) hx hb dX0_countRegions_35 hl (k := 3) rfl (nI_1 rn) (by decide) rfl (fun ls hl => ?_)
          refine lv_iinc (v := nI (k + 1)) (lv' := [(4, .int (nI (k + 1))), (3, .int (nI (rn + 1))), (2, .int (pCut lf)), (0, .ref hT), (1, .int col)]) hx hb dX0_countRegions_38 hl (k := 4) rfl (nI_1 k) (by decide) rfl (fun ls hl => ?_)
          refine lv_goto (tgt := 11) hx hb dX0_countRegions_41 (by decide) ?_
          exact ih_11 (k + 1) (pCut lf) (rn + 1) (by omega) (by rw [← hh, show 25 - k = (25 - (k + 1)) + 1 by omega, pCR, if_neg c_19]) _ _ _ hP hD hS (lv_sub hl [3, 4, 2, 1, 0] rfl)
  exact loop_11 25 0 (pCW S0 col) 0 (by omega) (rfl) _ _ _ hP hD hS (lv_sub hl [3, 4, 2, 1, 0] rfl)
abbrev rmX0_sizeOfGreatestRegion : Room := { frames := 2, cells := 0, slots := 0, locals := 44 }
set_option maxRecDepth 20000 in
theorem iX0_sizeOfGreatestRegion_X0 : ∀ w ∈ wsX00, w ∈ wsX0_sizeOfGreatestRegion := fun w h => (goodIn_r (big := wsX0_sizeOfGreatestRegion) wsX00 [24, 25, 26, 27, 28, 29] (by decide +kernel) (by decide +kernel) w h).1
set_option maxHeartbeats 4000000 in
set_option maxRecDepth 100000 in
theorem m_X0_sizeOfGreatestRegion (l : Launch) (dC : Nat → ClassId) (dI : Nat → Nat → Nat) (cI cZ cJ cD : ClassId) (hT : Nat) (aS : Nat) (aC : Nat) (aG : Nat) (bd : Int32) (sb : Int32) (nd : Int32) (S0 : Nat → Int32) (Cr : Nat → Int32) (G0 : Nat → Int32) (col : Int32)  : zI l (dC, dI) (wT cI cZ cJ cD) yX0_sizeOfGreatestRegion wsX0_sizeOfGreatestRegion rmX0_sizeOfGreatestRegion [(hT, .inr (0, [.int bd, .int sb, .int nd, .ref aS, .ref aC, .ref aG])), (aS, .inl (cI, 5, .inl S0)), (aC, .inl (cI, 5, .inl Cr)), (aG, .inl (cI, 5, .inl G0))] [.ref hT, .int col] (fun (_ : Unit) => [(hT, .inr (0, [.int bd, .int sb, .int nd, .ref aS, .ref aC, .ref aG])), (aS, .inl (cI, 5, .inl S0)), (aC, .inl (cI, 5, .inl Cr)), (aG, .inl (cI, 5, .inl G0))]) (fun (r : Int32) (_ : Unit) => r = pGR 25 (pCW S0 col) 0) := by
  intro sz
  refine Met.ofW (cc := cX0_sizeOfGreatestRegion) (maxL := 6) (ret := (some .int)) (by decide) rfl ?_
  intro p e s m args below meth c s₁ B hml hv
  obtain ⟨ha, hsz, hP, hK, hD0, hN⟩ := hv
  have hx := B.exec
  have hb := B.bytes
  have hr := B.returns
  have hts := atoms_spec (ws := wsX0_sizeOfGreatestRegion) B.pre
  have hown : s.vm.findClass RX0 = some m.cls := findClass_of_methodNamed B.named
  have hlocks := B.notSynchronized
  subst hsz
  have hD := hD0.self (sz := s.heap.size)
  generalize hAe : va_A [(hT, .inr (0, [.int bd, .int sb, .int nd, .ref aS, .ref aC, .ref aG])), (aS, .inl (cI, 5, .inl S0)), (aC, .inl (cI, 5, .inl Cr)), (aG, .inl (cI, 5, .inl G0))] s.heap.size = A at hD ⊢
  have hA : ∀ q : Nat, s.heap.size ≤ q → A q := fun q h => by rw [← hAe]; exact Or.inr h
  have hS : va_S A s.heap s.heap [] := va_S.rf
  generalize hQ : MQ below (va_Qi (fun (r : Int32) (_ : Unit) => r = pGR 25 (pCW S0 col) 0) (fun u t => va_P (dC, dI) vwCl ((fun (_ : Unit) => [(hT, .inr (0, [.int bd, .int sb, .int nd, .ref aS, .ref aC, .ref aG])), (aS, .inl (cI, 5, .inl S0)), (aC, .inl (cI, 5, .inl Cr)), (aG, .inl (cI, 5, .inl G0))]) u) t.heap) A) args s 0 0 A = Q
  have F9 : CallFix p m c cX0_sizeOfGreatestRegion 6 s args wsX0_sizeOfGreatestRegion RX0 := ⟨hx, hb, hml, hown, hts⟩
  refine z_entry (R := rmX0_sizeOfGreatestRegion) ha (Nat.le_of_ble_eq_true rfl) (fun ls hl => ?_)
  have hl : lv_has ls 6 [(0, .ref hT), (1, .int col)] := hl
  refine lv_aload_n hx hb dX0_sizeOfGreatestRegion_0 rfl (lv_at hl 0 rfl) ?_
  refine lv_iload_n hx hb dX0_sizeOfGreatestRegion_1 rfl (lv_at hl 1 rfl) ?_
  refine z_callVi (As := [.int col]) (rest := []) F9 (m_X0_cellsWith l dC dI cI cZ cJ cD hT aS aC aG bd sb nd S0 Cr G0 col ) (cwV 1 hts gX0_sizeOfGreatestRegion_X0_cellsWith rfl rfl rfl (by decide +kernel) ⟨Nat.le_of_ble_eq_true rfl, Nat.le_of_ble_eq_true rfl⟩) hK hN hP hD hS hA [0, 1, 2, 3] rfl rfl (fun _ => rfl) 0 (ci := 0) rfl rfl rfl rfl hl.1 rfl (Nat.le_of_ble_eq_true rfl) dX0_sizeOfGreatestRegion_2 ⟨Nat.zero_le _, Nat.zero_le _⟩ (fun r_1 u H locs hp_2 hP hD hS => ?_)
  have hP : va_P (dC, dI) vwCl [(hT, .inr (0, [.int bd, .int sb, .int nd, .ref aS, .ref aC, .ref aG])), (aS, .inl (cI, 5, .inl S0)), (aC, .inl (cI, 5, .inl Cr)), (aG, .inl (cI, 5, .inl G0))] H := hP
  have hD : va_D A [(hT, .inr (0, [.int bd, .int sb, .int nd, .ref aS, .ref aC, .ref aG])), (aS, .inl (cI, 5, .inl S0)), (aC, .inl (cI, 5, .inl Cr)), (aG, .inl (cI, 5, .inl G0))] := hD
  have hp_2 : r_1 = pCW S0 col := hp_2
  refine z_topi (y := pCW S0 col) hp_2 ?_
  refine lv_istore_n (lv' := [(2, .int (pCW S0 col)), (0, .ref hT), (1, .int col)]) hx hb dX0_sizeOfGreatestRegion_5 rfl hl (by decide) rfl (fun ls hl => ?_)
  refine lv_iconst (v := 0) hx hb dX0_sizeOfGreatestRegion_6 (by decide) ?_
  refine lv_istore_n (lv' := [(3, .int 0), (2, .int (pCW S0 col)), (0, .ref hT), (1, .int col)]) hx hb dX0_sizeOfGreatestRegion_7 rfl hl (by decide) rfl (fun ls hl => ?_)
  refine lv_iconst (v := 0) hx hb dX0_sizeOfGreatestRegion_8 (by decide) ?_
  refine lv_istore (lv' := [(4, .int 0), (3, .int 0), (2, .int (pCW S0 col)), (0, .ref hT), (1, .int col)]) hx hb dX0_sizeOfGreatestRegion_9 hl (by decide) rfl (fun ls hl => ?_)
  have loop_11 : ∀ (n : Nat) (k : Nat) (lf : Int32) (gt : Int32) (hkn : k + n = 25) (hh : pGR (25 - k) lf gt = pGR 25 (pCW S0 col) 0) (H : Heap) (locs : List Loc) (ls : Array Slot) (hP : va_P (dC, dI) vwCl [(hT, .inr (0, [.int bd, .int sb, .int nd, .ref aS, .ref aC, .ref aG])), (aS, .inl (cI, 5, .inl S0)), (aC, .inl (cI, 5, .inl Cr)), (aG, .inl (cI, 5, .inl G0))] H) (hD : va_D A [(hT, .inr (0, [.int bd, .int sb, .int nd, .ref aS, .ref aC, .ref aG])), (aS, .inl (cI, 5, .inl S0)), (aC, .inl (cI, 5, .inl Cr)), (aG, .inl (cI, 5, .inl G0))]) (hS : va_S A s.heap H locs) (hl : lv_has ls 6 [(0, .ref hT), (1, .int col), (2, .int lf), (3, .int gt), (4, .int (nI k))]), W p l e rmX0_sizeOfGreatestRegion s m args below meth c H locs 0 0 Q (F0 m 11 ls []) := by
    intro n
    induction n with
    | zero =>
      intro k lf gt hkn hh H locs ls hP hD hS hl
      refine lv_iload hx hb dX0_sizeOfGreatestRegion_11 (lv_at hl 4 rfl) ?_
      refine lv_bipush (v := 25) hx hb dX0_sizeOfGreatestRegion_13 (by decide +kernel) ?_
      refine lv_icmp_ge (tgt := 55) hx hb dX0_sizeOfGreatestRegion_15 (by decide) (fun c_15 => ?_) (fun c_15 => ?_)
      · skip
        have n_15 := zc_le_t (a := 25) (b := k) (by omega) (by omega) c_15
        refine lv_iload_n hx hb dX0_sizeOfGreatestRegion_55 rfl (lv_at hl 3 rfl) ?_
        have hl9 := hl
        have hP9 := hP
        have hD9 := hD
        have hS9 := hS
        obtain rfl : k = 25 := by omega
        have hl := hl9
        have hP := hP9
        have hD := hD9
        have hS := hS9
        rw [← hQ]
        exact z_iret (W1 := (fun (_ : Unit) => [(hT, .inr (0, [.int bd, .int sb, .int nd, .ref aS, .ref aC, .ref aG])), (aS, .inl (cI, 5, .inl S0)), (aC, .inl (cI, 5, .inl Cr)), (aG, .inl (cI, 5, .inl G0))])) hx hb hr hlocks hP hS () (rfl) (by rw [← hh]; rfl) dX0_sizeOfGreatestRegion_56
      · skip
        have n_15 := zc_le_f (a := 25) (b := k) (by omega) (by omega) c_15
        exact absurd n_15 (by omega)
    | succ n ih_11 =>
      intro k lf gt hkn hh H locs ls hP hD hS hl
      refine lv_iload hx hb dX0_sizeOfGreatestRegion_11 (lv_at hl 4 rfl) ?_
      refine lv_bipush (v := 25) hx hb dX0_sizeOfGreatestRegion_13 (by decide +kernel) ?_
      refine lv_icmp_ge (tgt := 55) hx hb dX0_sizeOfGreatestRegion_15 (by decide) (fun c_15 => ?_) (fun c_15 => ?_)
      · skip
        have n_15 := zc_le_t (a := 25) (b := k) (by omega) (by omega) c_15
        exact absurd n_15 (by omega)
      · skip
        have n_15 := zc_le_f (a := 25) (b := k) (by omega) (by omega) c_15
        refine lv_iload_n hx hb dX0_sizeOfGreatestRegion_18 rfl (lv_at hl 2 rfl) ?_
        refine lv_if_eq (tgt := 55) hx hb dX0_sizeOfGreatestRegion_19 (by decide) (fun c_19 => ?_) (fun c_19 => ?_)
        · skip
          refine lv_iload_n hx hb dX0_sizeOfGreatestRegion_55 rfl (lv_at hl 3 rfl) ?_
          rw [← hQ]
          exact z_iret (W1 := (fun (_ : Unit) => [(hT, .inr (0, [.int bd, .int sb, .int nd, .ref aS, .ref aC, .ref aG])), (aS, .inl (cI, 5, .inl S0)), (aC, .inl (cI, 5, .inl Cr)), (aG, .inl (cI, 5, .inl G0))])) hx hb hr hlocks hP hS () (rfl) (by rw [← hh, show 25 - k = (25 - (k + 1)) + 1 by omega, pGR, if_pos c_19]) dX0_sizeOfGreatestRegion_56
        · skip
          refine lv_iload_n hx hb dX0_sizeOfGreatestRegion_22 rfl (lv_at hl 2 rfl) ?_
          refine lv_iload_n hx hb dX0_sizeOfGreatestRegion_23 rfl (lv_at hl 2 rfl) ?_
          refine lv_ineg hx hb dX0_sizeOfGreatestRegion_24 ?_
          refine lv_iand hx hb dX0_sizeOfGreatestRegion_25 ?_
          refine lv_iload_n hx hb dX0_sizeOfGreatestRegion_26 rfl (lv_at hl 2 rfl) ?_
          refine z_callSi (As := [.int (lf &&& (-lf)), .int lf]) (rest := []) F9 (m_X0_regionFrom l dC dI cI cZ cJ cD (lf &&& (-lf)) lf ) (va_cwS 2 hts gX0_sizeOfGreatestRegion_X0_regionFrom rfl rfl rfl (by decide +kernel) ⟨Nat.le_of_ble_eq_true rfl, Nat.le_of_ble_eq_true rfl⟩) hK hN hP hD hS hA rfl hl.1 rfl (Nat.le_of_ble_eq_true rfl) dX0_sizeOfGreatestRegion_27 ⟨Nat.zero_le _, Nat.zero_le _⟩ (fun r_2 H locs hp_27 hP hS => ?_)
          have hp_27 : r_2 = pRF lf 25 (lf &&& (-lf)) := hp_27
          refine z_topi (y := pRF lf 25 (lf &&& (-lf))) hp_27 ?_
          refine z_topi (y := pLow lf) (rfl) ?_
          refine lv_istore (lv' := [(5, .int (pLow lf)), (0, .ref hT), (1, .int col), (2, .int lf), (3, .int gt), (4, .int (nI k))]) hx hb dX0_sizeOfGreatestRegion_30 hl (by decide) rfl (fun ls hl => ?_)
          refine lv_iload_n hx hb dX0_sizeOfGreatestRegion_32 rfl (lv_at hl 3 rfl) ?_
          refine lv_iload hx hb dX0_sizeOfGreatestRegion_33 (lv_at hl 0 rfl) ?_
          refine lv_iconst (v := (-1)) hx hb dX0_sizeOfGreatestRegion_35 (by decide) ?_
          refine lv_ixor hx hb dX0_sizeOfGreatestRegion_36 ?_
          refine lv_iand hx hb dX0_sizeOfGreatestRegion_37 ?_
          refine z_topi (y := pCut lf) (rfl) ?_
          refine lv_istore_n (lv' := [(2, .int (pCut lf)), (5, .int (pLow lf)), (0, .ref hT), (1, .int col), (3, .int gt), (4, .int (nI k))]) hx hb dX0_sizeOfGreatestRegion_38 rfl hl (by decide) rfl (fun ls hl => ?_)
          refine lv_iload_n hx hb dX0_sizeOfGreatestRegion_39 rfl (lv_at hl 4 rfl) ?_
          refine lv_iload hx hb dX0_sizeOfGreatestRegion_40 (lv_at hl 1 rfl) ?_
          refine z_callSi (As := [.int (pLow lf)]) (rest := [.int gt]) F9 (m_J6_bitCount_0f7a4 l dC dI cI cZ cJ cD (pLow lf) ) (va_cwS 1 hts gX0_sizeOfGreatestRegion_J6_bitCount_0f7a4 rfl rfl rfl (by decide +kernel) ⟨Nat.le_of_ble_eq_true rfl, Nat.le_of_ble_eq_true rfl⟩) hK hN hP hD hS hA rfl hl.1 rfl (Nat.le_of_ble_eq_true rfl) dX0_sizeOfGreatestRegion_42 ⟨Nat.zero_le _, Nat.zero_le _⟩ (fun r_3 H locs hp_42 hP hS => ?_)
          have hp_42 : r_3 = pBC (pLow lf) := hp_42
          refine z_topi (y := pBC (pLow lf)) hp_42 ?_
          refine va_mmax hx hb (by rw [hml]; exact hl.1.symm) hown (hts (.methodLink RX0 65 Lib.Math.max.name) (List.mem_of_getElem? (i := 1) rfl)) (hts (.static Lib.Math.max.name) (List.mem_of_getElem? (i := 2) rfl)) (hts (.initialized "java/lang/Math") (List.mem_of_getElem? (i := 3) rfl)) (hts (.code Lib.Math.max.name Lib.Math.max.code 2 (some .int)) (List.mem_of_getElem? (i := 4) rfl)) (Nat.le_of_ble_eq_true rfl) (Nat.le_of_ble_eq_true rfl) (Nat.zero_le _) (Nat.zero_le _) dX0_sizeOfGreatestRegion_45 ?_
          refine lv_istore_n (lv' := [(3, .int (if gt < pBC (pLow lf) then pBC (pLow lf) else gt)), (2, .int (pCut lf)), (5, .int (pLow lf)), (0, .ref hT), (1, .int col), (4, .int (nI k))]) hx hb dX0_sizeOfGreatestRegion_48 rfl hl (by decide) rfl (fun ls hl => ?_)
          refine lv_iinc (v := nI (k + 1)) (lv' := [(4, .int (nI (k + 1))), (3, .int (if gt < pBC (pLow lf) then pBC (pLow lf) else gt)), (2, .int (pCut lf)), (5, .int (pLow lf)), (0, .ref hT), (1, .int col)]) hx hb dX0_sizeOfGreatestRegion_49 hl (k := 5) rfl (nI_1 k) (by decide) rfl (fun ls hl => ?_)
          refine lv_goto (tgt := 11) hx hb dX0_sizeOfGreatestRegion_52 (by decide) ?_
          exact ih_11 (k + 1) (pCut lf) (if gt < pBC (pLow lf) then pBC (pLow lf) else gt) (by omega) (by rw [← hh, show 25 - k = (25 - (k + 1)) + 1 by omega, pGR, if_neg c_19]) _ _ _ hP hD hS (lv_sub hl [4, 5, 2, 1, 0] rfl)
  exact loop_11 25 0 (pCW S0 col) 0 (by omega) (rfl) _ _ _ hP hD hS (lv_sub hl [3, 4, 2, 1, 0] rfl)
abbrev rmX0_countBorders : Room := { frames := 2, cells := 0, slots := 0, locals := 40 }
set_option maxRecDepth 20000 in
theorem iX0_countBorders_X0 : ∀ w ∈ wsX00, w ∈ wsX0_countBorders := fun w h => (goodIn_r (big := wsX0_countBorders) wsX00 [18, 19, 20, 21, 22, 23] (by decide +kernel) (by decide +kernel) w h).1
set_option maxHeartbeats 4000000 in
set_option maxRecDepth 100000 in
theorem m_X0_countBorders (l : Launch) (dC : Nat → ClassId) (dI : Nat → Nat → Nat) (cI cZ cJ cD : ClassId) (hT : Nat) (aS : Nat) (aC : Nat) (aG : Nat) (bd : Int32) (sb : Int32) (nd : Int32) (S0 : Nat → Int32) (Cr : Nat → Int32) (G0 : Nat → Int32)  : zI l (dC, dI) (wT cI cZ cJ cD) yX0_countBorders wsX0_countBorders rmX0_countBorders [(hT, .inr (0, [.int bd, .int sb, .int nd, .ref aS, .ref aC, .ref aG])), (aS, .inl (cI, 5, .inl S0)), (aC, .inl (cI, 5, .inl Cr)), (aG, .inl (cI, 5, .inl G0))] [.ref hT] (fun (_ : Unit) => [(hT, .inr (0, [.int bd, .int sb, .int nd, .ref aS, .ref aC, .ref aG])), (aS, .inl (cI, 5, .inl S0)), (aC, .inl (cI, 5, .inl Cr)), (aG, .inl (cI, 5, .inl G0))]) (fun (r : Int32) (_ : Unit) => r = pBo S0 bd 4) := by
  intro sz
  refine Met.ofW (cc := cX0_countBorders) (maxL := 3) (ret := (some .int)) (by decide) rfl ?_
  intro p e s m args below meth c s₁ B hml hv
  obtain ⟨ha, hsz, hP, hK, hD0, hN⟩ := hv
  have hx := B.exec
  have hb := B.bytes
  have hr := B.returns
  have hts := atoms_spec (ws := wsX0_countBorders) B.pre
  have hown : s.vm.findClass RX0 = some m.cls := findClass_of_methodNamed B.named
  have hlocks := B.notSynchronized
  subst hsz
  have hD := hD0.self (sz := s.heap.size)
  generalize hAe : va_A [(hT, .inr (0, [.int bd, .int sb, .int nd, .ref aS, .ref aC, .ref aG])), (aS, .inl (cI, 5, .inl S0)), (aC, .inl (cI, 5, .inl Cr)), (aG, .inl (cI, 5, .inl G0))] s.heap.size = A at hD ⊢
  have hA : ∀ q : Nat, s.heap.size ≤ q → A q := fun q h => by rw [← hAe]; exact Or.inr h
  have hS : va_S A s.heap s.heap [] := va_S.rf
  generalize hQ : MQ below (va_Qi (fun (r : Int32) (_ : Unit) => r = pBo S0 bd 4) (fun u t => va_P (dC, dI) vwCl ((fun (_ : Unit) => [(hT, .inr (0, [.int bd, .int sb, .int nd, .ref aS, .ref aC, .ref aG])), (aS, .inl (cI, 5, .inl S0)), (aC, .inl (cI, 5, .inl Cr)), (aG, .inl (cI, 5, .inl G0))]) u) t.heap) A) args s 0 0 A = Q
  have F9 : CallFix p m c cX0_countBorders 3 s args wsX0_countBorders RX0 := ⟨hx, hb, hml, hown, hts⟩
  refine z_entry (R := rmX0_countBorders) ha (Nat.le_of_ble_eq_true rfl) (fun ls hl => ?_)
  have hl : lv_has ls 3 [(0, .ref hT)] := hl
  refine lv_aload_n hx hb dX0_countBorders_0 rfl (lv_at hl 0 rfl) ?_
  refine va_get (D := (dC, dI)) (ci := 0) (v := .int bd) (C := RX0) (T := TX0) (N := 6) hx hb hts iX0_countBorders_X0 hown hK hP 0 rfl rfl 0 (by decide) (hts (.fieldLink RX0 25 "ColourTide$Tide" "board" "I") (List.mem_of_getElem? (i := 1) rfl)) (fun _ h9 => h9) rfl dX0_countBorders_1 ?_
  refine lv_aload_n hx hb dX0_countBorders_4 rfl (lv_at hl 0 rfl) ?_
  refine lv_iconst (v := 0) hx hb dX0_countBorders_5 (by decide) ?_
  refine z_callVi (As := [.int 0]) (rest := [.int bd]) F9 (m_X0_cellsWith l dC dI cI cZ cJ cD hT aS aC aG bd sb nd S0 Cr G0 0 ) (cwV 1 hts gX0_countBorders_X0_cellsWith rfl rfl rfl (by decide +kernel) ⟨Nat.le_of_ble_eq_true rfl, Nat.le_of_ble_eq_true rfl⟩) hK hN hP hD hS hA [0, 1, 2, 3] rfl rfl (fun _ => rfl) 0 (ci := 0) rfl rfl rfl rfl hl.1 rfl (Nat.le_of_ble_eq_true rfl) dX0_countBorders_6 ⟨Nat.zero_le _, Nat.zero_le _⟩ (fun r_1 u H locs hp_6 hP hD hS => ?_)
  have hP : va_P (dC, dI) vwCl [(hT, .inr (0, [.int bd, .int sb, .int nd, .ref aS, .ref aC, .ref aG])), (aS, .inl (cI, 5, .inl S0)), (aC, .inl (cI, 5, .inl Cr)), (aG, .inl (cI, 5, .inl G0))] H := hP
  have hD : va_D A [(hT, .inr (0, [.int bd, .int sb, .int nd, .ref aS, .ref aC, .ref aG])), (aS, .inl (cI, 5, .inl S0)), (aC, .inl (cI, 5, .inl Cr)), (aG, .inl (cI, 5, .inl G0))] := hD
  have hp_6 : r_1 = pCW S0 0 := hp_6
  refine z_topi (y := pCW S0 0) hp_6 ?_
  refine z_topi (y := S0 0) ((pCW_at S0 (j := 0) (by decide)).symm) ?_
  refine lv_iconst (v := (-1)) hx hb dX0_countBorders_9 (by decide) ?_
  refine lv_ixor hx hb dX0_countBorders_10 ?_
  refine lv_iand hx hb dX0_countBorders_11 ?_
  refine z_callSi (As := [.int (bd &&& ((S0 0) ^^^ (-1)))]) (rest := []) F9 (m_X0_countPairs l dC dI cI cZ cJ cD (bd &&& ((S0 0) ^^^ (-1))) ) (va_cwS 1 hts gX0_countBorders_X0_countPairs rfl rfl rfl (by decide +kernel) ⟨Nat.le_of_ble_eq_true rfl, Nat.le_of_ble_eq_true rfl⟩) hK hN hP hD hS hA rfl hl.1 rfl (Nat.le_of_ble_eq_true rfl) dX0_countBorders_12 ⟨Nat.zero_le _, Nat.zero_le _⟩ (fun r_2 H locs hp_12 hP hS => ?_)
  have hp_12 : r_2 = pPairs (bd &&& ((S0 0) ^^^ (-1))) := hp_12
  refine z_topi (y := pPairs (bd &&& ((S0 0) ^^^ (-1)))) hp_12 ?_
  refine z_topi (y := pBo S0 bd 0) (rfl) ?_
  refine lv_istore_n (lv' := [(1, .int (pBo S0 bd 0)), (0, .ref hT)]) hx hb dX0_countBorders_15 rfl hl (by decide) rfl (fun ls hl => ?_)
  refine lv_iconst (v := 1) hx hb dX0_countBorders_16 (by decide) ?_
  refine lv_istore_n (lv' := [(2, .int 1), (1, .int (pBo S0 bd 0)), (0, .ref hT)]) hx hb dX0_countBorders_17 rfl hl (by decide) rfl (fun ls hl => ?_)
  have loop_18 : ∀ (n : Nat) (i : Nat) (hkn : i + n = 4) (H : Heap) (locs : List Loc) (ls : Array Slot) (hP : va_P (dC, dI) vwCl [(hT, .inr (0, [.int bd, .int sb, .int nd, .ref aS, .ref aC, .ref aG])), (aS, .inl (cI, 5, .inl S0)), (aC, .inl (cI, 5, .inl Cr)), (aG, .inl (cI, 5, .inl G0))] H) (hD : va_D A [(hT, .inr (0, [.int bd, .int sb, .int nd, .ref aS, .ref aC, .ref aG])), (aS, .inl (cI, 5, .inl S0)), (aC, .inl (cI, 5, .inl Cr)), (aG, .inl (cI, 5, .inl G0))]) (hS : va_S A s.heap H locs) (hl : lv_has ls 3 [(0, .ref hT), (1, .int (pBo S0 bd i)), (2, .int (nI (i + 1)))]), W p l e rmX0_countBorders s m args below meth c H locs 0 0 Q (F0 m 18 ls []) := by
    intro n
    induction n with
    | zero =>
      intro i hkn  H locs ls hP hD hS hl
      refine lv_iload_n hx hb dX0_countBorders_18 rfl (lv_at hl 2 rfl) ?_
      refine lv_iconst (v := 5) hx hb dX0_countBorders_19 (by decide) ?_
      refine lv_icmp_ge (tgt := 41) hx hb dX0_countBorders_20 (by decide) (fun c_20 => ?_) (fun c_20 => ?_)
      · skip
        have n_20 := zc_le_t (a := 5) (b := (i + 1)) (by omega) (by omega) c_20
        refine lv_iload_n hx hb dX0_countBorders_41 rfl (lv_at hl 1 rfl) ?_
        have hl9 := hl
        have hP9 := hP
        have hD9 := hD
        have hS9 := hS
        obtain rfl : i = 4 := by omega
        have hl := hl9
        have hP := hP9
        have hD := hD9
        have hS := hS9
        rw [← hQ]
        exact z_iret (W1 := (fun (_ : Unit) => [(hT, .inr (0, [.int bd, .int sb, .int nd, .ref aS, .ref aC, .ref aG])), (aS, .inl (cI, 5, .inl S0)), (aC, .inl (cI, 5, .inl Cr)), (aG, .inl (cI, 5, .inl G0))])) hx hb hr hlocks hP hS () (rfl) (rfl) dX0_countBorders_42
      · skip
        have n_20 := zc_le_f (a := 5) (b := (i + 1)) (by omega) (by omega) c_20
        exact absurd n_20 (by omega)
    | succ n ih_18 =>
      intro i hkn  H locs ls hP hD hS hl
      refine lv_iload_n hx hb dX0_countBorders_18 rfl (lv_at hl 2 rfl) ?_
      refine lv_iconst (v := 5) hx hb dX0_countBorders_19 (by decide) ?_
      refine lv_icmp_ge (tgt := 41) hx hb dX0_countBorders_20 (by decide) (fun c_20 => ?_) (fun c_20 => ?_)
      · skip
        have n_20 := zc_le_t (a := 5) (b := (i + 1)) (by omega) (by omega) c_20
        exact absurd n_20 (by omega)
      · skip
        have n_20 := zc_le_f (a := 5) (b := (i + 1)) (by omega) (by omega) c_20
        refine lv_iload_n hx hb dX0_countBorders_23 rfl (lv_at hl 1 rfl) ?_
        refine lv_aload_n hx hb dX0_countBorders_24 rfl (lv_at hl 0 rfl) ?_
        refine va_get (D := (dC, dI)) (ci := 0) (v := .ref aS) (C := RX0) (T := TX0) (N := 6) hx hb hts iX0_countBorders_X0 hown hK hP 0 rfl rfl 3 (by decide) (hts (.fieldLink RX0 15 "ColourTide$Tide" "sets" "[I") (List.mem_of_getElem? (i := 2) rfl)) (fun _ h9 => h9) rfl dX0_countBorders_25 ?_
        refine lv_iload_n hx hb dX0_countBorders_28 rfl (lv_at hl 2 rfl) ?_
        refine z_iald hx hb hK hP 1 0 rfl rfl (i + 1) (rfl) (by omega) (by decide) dX0_countBorders_29 ?_
        refine z_callSi (As := [.int (S0 (i + 1))]) (rest := [.int (pBo S0 bd i)]) F9 (m_X0_countPairs l dC dI cI cZ cJ cD (S0 (i + 1)) ) (va_cwS 1 hts gX0_countBorders_X0_countPairs rfl rfl rfl (by decide +kernel) ⟨Nat.le_of_ble_eq_true rfl, Nat.le_of_ble_eq_true rfl⟩) hK hN hP hD hS hA rfl hl.1 rfl (Nat.le_of_ble_eq_true rfl) dX0_countBorders_30 ⟨Nat.zero_le _, Nat.zero_le _⟩ (fun r_3 H locs hp_30 hP hS => ?_)
        have hp_30 : r_3 = pPairs (S0 (i + 1)) := hp_30
        refine z_topi (y := pPairs (S0 (i + 1))) hp_30 ?_
        refine lv_isub hx hb dX0_countBorders_33 ?_
        refine z_topi (y := pBo S0 bd (i + 1)) (rfl) ?_
        refine lv_istore_n (lv' := [(1, .int (pBo S0 bd (i + 1))), (0, .ref hT), (2, .int (nI (i + 1)))]) hx hb dX0_countBorders_34 rfl hl (by decide) rfl (fun ls hl => ?_)
        refine lv_iinc (v := nI ((i + 1) + 1)) (lv' := [(2, .int (nI ((i + 1) + 1))), (1, .int (pBo S0 bd (i + 1))), (0, .ref hT)]) hx hb dX0_countBorders_35 hl (k := 2) rfl (nI_1 (i + 1)) (by decide) rfl (fun ls hl => ?_)
        refine lv_goto (tgt := 18) hx hb dX0_countBorders_38 (by decide) ?_
        exact ih_18 (i + 1) (by omega)  _ _ _ hP hD hS (lv_sub hl [2, 1, 0] rfl)
  exact loop_18 4 0 (by omega)  _ _ _ hP hD hS (lv_sub hl [2, 1, 0] rfl)
abbrev rmX0_addGains : Room := { frames := 1, cells := 0, slots := 0, locals := 25 }
set_option maxRecDepth 20000 in
theorem iX0_addGains_X0 : ∀ w ∈ wsX00, w ∈ wsX0_addGains := fun w h => (goodIn_r (big := wsX0_addGains) wsX00 [10, 11, 12, 13, 14, 15] (by decide +kernel) (by decide +kernel) w h).1
set_option maxHeartbeats 4000000 in
set_option maxRecDepth 100000 in
theorem m_X0_addGains (l : Launch) (dC : Nat → ClassId) (dI : Nat → Nat → Nat) (cI cZ cJ cD : ClassId) (hT : Nat) (aS : Nat) (aC : Nat) (aG : Nat) (bd : Int32) (sb : Int32) (nd : Int32) (S0 : Nat → Int32) (Cr : Nat → Int32) (G0 : Nat → Int32) (q0 : Nat) (hq : 1 ≤ q0 ∧ q0 ≤ 4) : zV l (dC, dI) (wT cI cZ cJ cD) yX0_addGains wsX0_addGains rmX0_addGains [(hT, .inr (0, [.int bd, .int sb, .int nd, .ref aS, .ref aC, .ref aG])), (aS, .inl (cI, 5, .inl S0)), (aC, .inl (cI, 5, .inl Cr)), (aG, .inl (cI, 5, .inl G0))] [.ref hT, .int (nI q0)] (fun (_ : Unit) => [(hT, .inr (0, [.int bd, .int sb, .int nd, .ref aS, .ref aC, .ref aG])), (aS, .inl (cI, 5, .inl S0)), (aC, .inl (cI, 5, .inl (zfrom (pCrF S0 q0) Cr 4))), (aG, .inl (cI, 5, .inl (zfrom (pAddF S0 bd sb q0 G0) G0 4)))]) (fun (_ : Unit) => True) := by
  intro sz
  refine Met.ofW (cc := cX0_addGains) (maxL := 5) (ret := none) (by decide) rfl ?_
  intro p e s m args below meth c s₁ B hml hv
  obtain ⟨ha, hsz, hP, hK, hD0, hN⟩ := hv
  have hx := B.exec
  have hb := B.bytes
  have hr := B.returns
  have hts := atoms_spec (ws := wsX0_addGains) B.pre
  have hown : s.vm.findClass RX0 = some m.cls := findClass_of_methodNamed B.named
  have hlocks := B.notSynchronized
  subst hsz
  have hD := hD0.self (sz := s.heap.size)
  generalize hAe : va_A [(hT, .inr (0, [.int bd, .int sb, .int nd, .ref aS, .ref aC, .ref aG])), (aS, .inl (cI, 5, .inl S0)), (aC, .inl (cI, 5, .inl Cr)), (aG, .inl (cI, 5, .inl G0))] s.heap.size = A at hD ⊢
  have hA : ∀ q : Nat, s.heap.size ≤ q → A q := fun q h => by rw [← hAe]; exact Or.inr h
  have hS : va_S A s.heap s.heap [] := va_S.rf
  generalize hQ : MQ below (va_Qv (fun (_ : Unit) => True) (fun u t => va_P (dC, dI) vwCl ((fun (_ : Unit) => [(hT, .inr (0, [.int bd, .int sb, .int nd, .ref aS, .ref aC, .ref aG])), (aS, .inl (cI, 5, .inl S0)), (aC, .inl (cI, 5, .inl (zfrom (pCrF S0 q0) Cr 4))), (aG, .inl (cI, 5, .inl (zfrom (pAddF S0 bd sb q0 G0) G0 4)))]) u) t.heap) A) args s 0 0 A = Q
  have F9 : CallFix p m c cX0_addGains 5 s args wsX0_addGains RX0 := ⟨hx, hb, hml, hown, hts⟩
  refine z_entry (R := rmX0_addGains) ha (Nat.le_of_ble_eq_true rfl) (fun ls hl => ?_)
  have hl : lv_has ls 5 [(0, .ref hT), (1, .int (nI q0))] := hl
  refine lv_iconst (v := 0) hx hb dX0_addGains_0 (by decide) ?_
  refine lv_istore_n (lv' := [(2, .int 0), (0, .ref hT), (1, .int (nI q0))]) hx hb dX0_addGains_1 rfl hl (by decide) rfl (fun ls hl => ?_)
  refine lv_iconst (v := 0) hx hb dX0_addGains_2 (by decide) ?_
  refine lv_istore_n (lv' := [(3, .int 0), (2, .int 0), (0, .ref hT), (1, .int (nI q0))]) hx hb dX0_addGains_3 rfl hl (by decide) rfl (fun ls hl => ?_)
  refine lv_iconst (v := 1) hx hb dX0_addGains_4 (by decide) ?_
  refine lv_istore (lv' := [(4, .int 1), (3, .int 0), (2, .int 0), (0, .ref hT), (1, .int (nI q0))]) hx hb dX0_addGains_5 hl (by decide) rfl (fun ls hl => ?_)
  have loop_7 : ∀ (n : Nat) (i : Nat) (hkn : i + n = 4) (H : Heap) (locs : List Loc) (ls : Array Slot) (hP : va_P (dC, dI) vwCl [(hT, .inr (0, [.int bd, .int sb, .int nd, .ref aS, .ref aC, .ref aG])), (aS, .inl (cI, 5, .inl S0)), (aC, .inl (cI, 5, .inl (zfrom (pCrF S0 q0) Cr i))), (aG, .inl (cI, 5, .inl G0))] H) (hD : va_D A [(hT, .inr (0, [.int bd, .int sb, .int nd, .ref aS, .ref aC, .ref aG])), (aS, .inl (cI, 5, .inl S0)), (aC, .inl (cI, 5, .inl (zfrom (pCrF S0 q0) Cr i))), (aG, .inl (cI, 5, .inl G0))]) (hS : va_S A s.heap H locs) (hl : lv_has ls 5 [(0, .ref hT), (1, .int (nI q0)), (2, .int (pSo S0 q0 i)), (3, .int (pSe S0 q0 i)), (4, .int (nI (i + 1)))]), W p l e rmX0_addGains s m args below meth c H locs 0 0 Q (F0 m 7 ls []) := by
    intro n
    induction n with
    | zero =>
      intro i hkn  H locs ls hP hD hS hl
      refine lv_iload hx hb dX0_addGains_7 (lv_at hl 4 rfl) ?_
      refine lv_iconst (v := 5) hx hb dX0_addGains_9 (by decide) ?_
      refine lv_icmp_ge (tgt := 59) hx hb dX0_addGains_10 (by decide) (fun c_10 => ?_) (fun c_10 => ?_)
      · skip
        have n_10 := zc_le_t (a := 5) (b := (i + 1)) (by omega) (by omega) c_10
        refine lv_iconst (v := 1) hx hb dX0_addGains_59 (by decide) ?_
        refine lv_istore (lv' := [(4, .int 1), (0, .ref hT), (1, .int (nI q0)), (2, .int (pSo S0 q0 i)), (3, .int (pSe S0 q0 i))]) hx hb dX0_addGains_60 hl (by decide) rfl (fun ls hl => ?_)
        have loop_62 : ∀ (n : Nat) (i : Nat) (hkn : i + n = 4) (H : Heap) (locs : List Loc) (ls : Array Slot) (hP : va_P (dC, dI) vwCl [(hT, .inr (0, [.int bd, .int sb, .int nd, .ref aS, .ref aC, .ref aG])), (aS, .inl (cI, 5, .inl S0)), (aC, .inl (cI, 5, .inl (zfrom (pCrF S0 q0) Cr 4))), (aG, .inl (cI, 5, .inl (zfrom (pAddF S0 bd sb q0 G0) G0 i)))] H) (hD : va_D A [(hT, .inr (0, [.int bd, .int sb, .int nd, .ref aS, .ref aC, .ref aG])), (aS, .inl (cI, 5, .inl S0)), (aC, .inl (cI, 5, .inl (zfrom (pCrF S0 q0) Cr 4))), (aG, .inl (cI, 5, .inl (zfrom (pAddF S0 bd sb q0 G0) G0 i)))]) (hS : va_S A s.heap H locs) (hl : lv_has ls 5 [(0, .ref hT), (3, .int (pSe S0 q0 4)), (4, .int (nI (i + 1)))]), W p l e rmX0_addGains s m args below meth c H locs 0 0 Q (F0 m 62 ls []) := by
          intro n
          induction n with
          | zero =>
            intro i hkn  H locs ls hP hD hS hl
            refine lv_iload hx hb dX0_addGains_62 (lv_at hl 2 rfl) ?_
            refine lv_iconst (v := 5) hx hb dX0_addGains_64 (by decide) ?_
            refine lv_icmp_ge (tgt := 107) hx hb dX0_addGains_65 (by decide) (fun c_65 => ?_) (fun c_65 => ?_)
            · skip
              have n_65 := zc_le_t (a := 5) (b := (i + 1)) (by omega) (by omega) c_65
              have hl9 := hl
              have hP9 := hP
              have hD9 := hD
              have hS9 := hS
              obtain rfl : i = 4 := by omega
              have hl := hl9
              have hP := hP9
              have hD := hD9
              have hS := hS9
              rw [← hQ]
              exact z_vret (W1 := (fun (_ : Unit) => [(hT, .inr (0, [.int bd, .int sb, .int nd, .ref aS, .ref aC, .ref aG])), (aS, .inl (cI, 5, .inl S0)), (aC, .inl (cI, 5, .inl (zfrom (pCrF S0 q0) Cr 4))), (aG, .inl (cI, 5, .inl (zfrom (pAddF S0 bd sb q0 G0) G0 4)))])) hx hb hr hlocks hP hS () (rfl) (trivial) dX0_addGains_107
            · skip
              have n_65 := zc_le_f (a := 5) (b := (i + 1)) (by omega) (by omega) c_65
              exact absurd n_65 (by omega)
          | succ n ih_62 =>
            intro i hkn  H locs ls hP hD hS hl
            refine lv_iload hx hb dX0_addGains_62 (lv_at hl 2 rfl) ?_
            refine lv_iconst (v := 5) hx hb dX0_addGains_64 (by decide) ?_
            refine lv_icmp_ge (tgt := 107) hx hb dX0_addGains_65 (by decide) (fun c_65 => ?_) (fun c_65 => ?_)
            · skip
              have n_65 := zc_le_t (a := 5) (b := (i + 1)) (by omega) (by omega) c_65
              exact absurd n_65 (by omega)
            · skip
              have n_65 := zc_le_f (a := 5) (b := (i + 1)) (by omega) (by omega) c_65
              refine lv_aload_n hx hb dX0_addGains_68 rfl (lv_at hl 0 rfl) ?_
              refine va_get (D := (dC, dI)) (ci := 0) (v := .ref aG) (C := RX0) (T := TX0) (N := 6) hx hb hts iX0_addGains_X0 hown hK hP 0 rfl rfl 5 (by decide) (hts (.fieldLink RX0 22 "ColourTide$Tide" "gains" "[I") (List.mem_of_getElem? (i := 3) rfl)) (fun _ h9 => h9) rfl dX0_addGains_69 ?_
              refine lv_iload hx hb dX0_addGains_72 (lv_at hl 2 rfl) ?_
              refine lv_dup2_11 hx hb dX0_addGains_74 rfl rfl ?_
              refine z_iald hx hb hK hP 3 0 rfl rfl (i + 1) (rfl) (by omega) (by decide) dX0_addGains_75 ?_
              refine z_topi (y := G0 (i + 1)) (zfrom_at (Nat.lt_succ_self _)) ?_
              refine lv_aload_n hx hb dX0_addGains_76 rfl (lv_at hl 0 rfl) ?_
              refine va_get (D := (dC, dI)) (ci := 0) (v := .ref aC) (C := RX0) (T := TX0) (N := 6) hx hb hts iX0_addGains_X0 hown hK hP 0 rfl rfl 4 (by decide) (hts (.fieldLink RX0 19 "ColourTide$Tide" "crowds" "[I") (List.mem_of_getElem? (i := 1) rfl)) (fun _ h9 => h9) rfl dX0_addGains_77 ?_
              refine lv_iload hx hb dX0_addGains_80 (lv_at hl 2 rfl) ?_
              refine z_iald hx hb hK hP 2 0 rfl rfl (i + 1) (rfl) (by omega) (by decide) dX0_addGains_82 ?_
              refine z_topi (y := wN (S0 (i + 1)) q0) (zfrom_in (by omega) (by omega)) ?_
              refine lv_iload_n hx hb dX0_addGains_83 rfl (lv_at hl 1 rfl) ?_
              refine lv_iconst (v := (-1)) hx hb dX0_addGains_84 (by decide) ?_
              refine lv_ixor hx hb dX0_addGains_85 ?_
              refine lv_iand hx hb dX0_addGains_86 ?_
              refine lv_aload_n hx hb dX0_addGains_87 rfl (lv_at hl 0 rfl) ?_
              refine va_get (D := (dC, dI)) (ci := 0) (v := .int bd) (C := RX0) (T := TX0) (N := 6) hx hb hts iX0_addGains_X0 hown hK hP 0 rfl rfl 0 (by decide) (hts (.fieldLink RX0 25 "ColourTide$Tide" "board" "I") (List.mem_of_getElem? (i := 4) rfl)) (fun _ h9 => h9) rfl dX0_addGains_88 ?_
              refine lv_iand hx hb dX0_addGains_91 ?_
              refine lv_aload_n hx hb dX0_addGains_92 rfl (lv_at hl 0 rfl) ?_
              refine va_get (D := (dC, dI)) (ci := 0) (v := .int sb) (C := RX0) (T := TX0) (N := 6) hx hb hts iX0_addGains_X0 hown hK hP 0 rfl rfl 1 (by decide) (hts (.fieldLink RX0 32 "ColourTide$Tide" "stubborn" "I") (List.mem_of_getElem? (i := 5) rfl)) (fun _ h9 => h9) rfl dX0_addGains_93 ?_
              refine lv_iconst (v := (-1)) hx hb dX0_addGains_96 (by decide) ?_
              refine lv_ixor hx hb dX0_addGains_97 ?_
              refine lv_iand hx hb dX0_addGains_98 ?_
              refine lv_ior hx hb dX0_addGains_99 ?_
              refine z_topi (y := pAddF S0 bd sb q0 G0 (i + 1)) (rfl) ?_
              refine z_iast hx hb hK hP hD hS 3 0 rfl rfl (i + 1) (rfl) (by omega) (by decide) dX0_addGains_100 (fun H locs hP hD hS => ?_)
              have hP : va_P (dC, dI) vwCl [(hT, .inr (0, [.int bd, .int sb, .int nd, .ref aS, .ref aC, .ref aG])), (aS, .inl (cI, 5, .inl S0)), (aC, .inl (cI, 5, .inl (zfrom (pCrF S0 q0) Cr 4))), (aG, .inl (cI, 5, .inl (upd (zfrom (pAddF S0 bd sb q0 G0) G0 i) (i + 1) (pAddF S0 bd sb q0 G0 (i + 1)))))] H := hP
              have hD : va_D A [(hT, .inr (0, [.int bd, .int sb, .int nd, .ref aS, .ref aC, .ref aG])), (aS, .inl (cI, 5, .inl S0)), (aC, .inl (cI, 5, .inl (zfrom (pCrF S0 q0) Cr 4))), (aG, .inl (cI, 5, .inl (upd (zfrom (pAddF S0 bd sb q0 G0) G0 i) (i + 1) (pAddF S0 bd sb q0 G0 (i + 1)))))] := hD
              have e_100 : upd (zfrom (pAddF S0 bd sb q0 G0) G0 i) (i + 1) (pAddF S0 bd sb q0 G0 (i + 1)) = zfrom (pAddF S0 bd sb q0 G0) G0 (i + 1) := zfrom_succ _ _ _
              rw [e_100] at hP hD
              refine lv_iinc (v := nI ((i + 1) + 1)) (lv' := [(4, .int (nI ((i + 1) + 1))), (0, .ref hT), (3, .int (pSe S0 q0 4))]) hx hb dX0_addGains_101 hl (k := 2) rfl (nI_1 (i + 1)) (by decide) rfl (fun ls hl => ?_)
              refine lv_goto (tgt := 62) hx hb dX0_addGains_104 (by decide) ?_
              exact ih_62 (i + 1) (by omega)  _ _ _ hP hD hS (lv_sub hl [1, 2, 0] rfl)
        have hl9 := hl
        have hP9 := hP
        have hD9 := hD
        have hS9 := hS
        obtain rfl : i = 4 := by omega
        have hl := hl9
        have hP := hP9
        have hD := hD9
        have hS := hS9
        have hP : va_P (dC, dI) vwCl [(hT, .inr (0, [.int bd, .int sb, .int nd, .ref aS, .ref aC, .ref aG])), (aS, .inl (cI, 5, .inl S0)), (aC, .inl (cI, 5, .inl (zfrom (pCrF S0 q0) Cr 4))), (aG, .inl (cI, 5, .inl (zfrom (pAddF S0 bd sb q0 G0) G0 0)))] H := by rw [zfrom_0]; exact hP
        have hD : va_D A [(hT, .inr (0, [.int bd, .int sb, .int nd, .ref aS, .ref aC, .ref aG])), (aS, .inl (cI, 5, .inl S0)), (aC, .inl (cI, 5, .inl (zfrom (pCrF S0 q0) Cr 4))), (aG, .inl (cI, 5, .inl (zfrom (pAddF S0 bd sb q0 G0) G0 0)))] := by rw [zfrom_0]; exact hD
        exact loop_62 4 0 (by omega)  _ _ _ hP hD hS (lv_sub hl [1, 4, 0] rfl)
      · skip
        have n_10 := zc_le_f (a := 5) (b := (i + 1)) (by omega) (by omega) c_10
        exact absurd n_10 (by omega)
    | succ n ih_7 =>
      intro i hkn  H locs ls hP hD hS hl
      refine lv_iload hx hb dX0_addGains_7 (lv_at hl 4 rfl) ?_
      refine lv_iconst (v := 5) hx hb dX0_addGains_9 (by decide) ?_
      refine lv_icmp_ge (tgt := 59) hx hb dX0_addGains_10 (by decide) (fun c_10 => ?_) (fun c_10 => ?_)
      · skip
        have n_10 := zc_le_t (a := 5) (b := (i + 1)) (by omega) (by omega) c_10
        exact absurd n_10 (by omega)
      · skip
        have n_10 := zc_le_f (a := 5) (b := (i + 1)) (by omega) (by omega) c_10
        refine lv_aload_n hx hb dX0_addGains_13 rfl (lv_at hl 0 rfl) ?_
        refine va_get (D := (dC, dI)) (ci := 0) (v := .ref aC) (C := RX0) (T := TX0) (N := 6) hx hb hts iX0_addGains_X0 hown hK hP 0 rfl rfl 4 (by decide) (hts (.fieldLink RX0 19 "ColourTide$Tide" "crowds" "[I") (List.mem_of_getElem? (i := 1) rfl)) (fun _ h9 => h9) rfl dX0_addGains_14 ?_
        refine lv_iload hx hb dX0_addGains_17 (lv_at hl 4 rfl) ?_
        refine lv_aload_n hx hb dX0_addGains_19 rfl (lv_at hl 0 rfl) ?_
        refine va_get (D := (dC, dI)) (ci := 0) (v := .ref aS) (C := RX0) (T := TX0) (N := 6) hx hb hts iX0_addGains_X0 hown hK hP 0 rfl rfl 3 (by decide) (hts (.fieldLink RX0 15 "ColourTide$Tide" "sets" "[I") (List.mem_of_getElem? (i := 2) rfl)) (fun _ h9 => h9) rfl dX0_addGains_20 ?_
        refine lv_iload hx hb dX0_addGains_23 (lv_at hl 4 rfl) ?_
        refine z_iald hx hb hK hP 1 0 rfl rfl (i + 1) (rfl) (by omega) (by decide) dX0_addGains_25 ?_
        refine lv_iload_n hx hb dX0_addGains_26 rfl (lv_at hl 1 rfl) ?_
        refine z_callSi (As := [.int (S0 (i + 1)), .int (nI q0)]) (rest := [.int (nI (i + 1)), .ref aC]) F9 (m_X0_withNeighbours l dC dI cI cZ cJ cD (S0 (i + 1)) q0 (hq)) (va_cwS 2 hts gX0_addGains_X0_withNeighbours rfl rfl rfl (by decide +kernel) ⟨Nat.le_of_ble_eq_true rfl, Nat.le_of_ble_eq_true rfl⟩) hK hN hP hD hS hA rfl hl.1 rfl (Nat.le_of_ble_eq_true rfl) dX0_addGains_27 ⟨Nat.zero_le _, Nat.zero_le _⟩ (fun r_1 H locs hp_27 hP hS => ?_)
        have hp_27 : r_1 = wN (S0 (i + 1)) q0 := hp_27
        refine z_topi (y := wN (S0 (i + 1)) q0) hp_27 ?_
        refine z_iast hx hb hK hP hD hS 2 0 rfl rfl (i + 1) (rfl) (by omega) (by decide) dX0_addGains_30 (fun H locs hP hD hS => ?_)
        have hP : va_P (dC, dI) vwCl [(hT, .inr (0, [.int bd, .int sb, .int nd, .ref aS, .ref aC, .ref aG])), (aS, .inl (cI, 5, .inl S0)), (aC, .inl (cI, 5, .inl (upd (zfrom (pCrF S0 q0) Cr i) (i + 1) (wN (S0 (i + 1)) q0)))), (aG, .inl (cI, 5, .inl G0))] H := hP
        have hD : va_D A [(hT, .inr (0, [.int bd, .int sb, .int nd, .ref aS, .ref aC, .ref aG])), (aS, .inl (cI, 5, .inl S0)), (aC, .inl (cI, 5, .inl (upd (zfrom (pCrF S0 q0) Cr i) (i + 1) (wN (S0 (i + 1)) q0)))), (aG, .inl (cI, 5, .inl G0))] := hD
        have e_30 : upd (zfrom (pCrF S0 q0) Cr i) (i + 1) (wN (S0 (i + 1)) q0) = zfrom (pCrF S0 q0) Cr (i + 1) := zfrom_succ _ _ _
        rw [e_30] at hP hD
        refine lv_iload_n hx hb dX0_addGains_31 rfl (lv_at hl 3 rfl) ?_
        refine lv_iload_n hx hb dX0_addGains_32 rfl (lv_at hl 2 rfl) ?_
        refine lv_aload_n hx hb dX0_addGains_33 rfl (lv_at hl 0 rfl) ?_
        refine va_get (D := (dC, dI)) (ci := 0) (v := .ref aC) (C := RX0) (T := TX0) (N := 6) hx hb hts iX0_addGains_X0 hown hK hP 0 rfl rfl 4 (by decide) (hts (.fieldLink RX0 19 "ColourTide$Tide" "crowds" "[I") (List.mem_of_getElem? (i := 1) rfl)) (fun _ h9 => h9) rfl dX0_addGains_34 ?_
        refine lv_iload hx hb dX0_addGains_37 (lv_at hl 4 rfl) ?_
        refine z_iald hx hb hK hP 2 0 rfl rfl (i + 1) (rfl) (by omega) (by decide) dX0_addGains_39 ?_
        refine z_topi (y := wN (S0 (i + 1)) q0) (zfrom_in (by omega) (Nat.le_refl _)) ?_
        refine lv_iand hx hb dX0_addGains_40 ?_
        refine lv_ior hx hb dX0_addGains_41 ?_
        refine z_topi (y := pSe S0 q0 (i + 1)) (rfl) ?_
        refine lv_istore_n (lv' := [(3, .int (pSe S0 q0 (i + 1))), (0, .ref hT), (1, .int (nI q0)), (2, .int (pSo S0 q0 i)), (4, .int (nI (i + 1)))]) hx hb dX0_addGains_42 rfl hl (by decide) rfl (fun ls hl => ?_)
        refine lv_iload_n hx hb dX0_addGains_43 rfl (lv_at hl 3 rfl) ?_
        refine lv_aload_n hx hb dX0_addGains_44 rfl (lv_at hl 1 rfl) ?_
        refine va_get (D := (dC, dI)) (ci := 0) (v := .ref aC) (C := RX0) (T := TX0) (N := 6) hx hb hts iX0_addGains_X0 hown hK hP 0 rfl rfl 4 (by decide) (hts (.fieldLink RX0 19 "ColourTide$Tide" "crowds" "[I") (List.mem_of_getElem? (i := 1) rfl)) (fun _ h9 => h9) rfl dX0_addGains_45 ?_
        refine lv_iload hx hb dX0_addGains_48 (lv_at hl 4 rfl) ?_
        refine z_iald hx hb hK hP 2 0 rfl rfl (i + 1) (rfl) (by omega) (by decide) dX0_addGains_50 ?_
        refine z_topi (y := wN (S0 (i + 1)) q0) (zfrom_in (by omega) (Nat.le_refl _)) ?_
        refine lv_ior hx hb dX0_addGains_51 ?_
        refine z_topi (y := pSo S0 q0 (i + 1)) (rfl) ?_
        refine lv_istore_n (lv' := [(2, .int (pSo S0 q0 (i + 1))), (3, .int (pSe S0 q0 (i + 1))), (0, .ref hT), (1, .int (nI q0)), (4, .int (nI (i + 1)))]) hx hb dX0_addGains_52 rfl hl (by decide) rfl (fun ls hl => ?_)
        refine lv_iinc (v := nI ((i + 1) + 1)) (lv' := [(4, .int (nI ((i + 1) + 1))), (2, .int (pSo S0 q0 (i + 1))), (3, .int (pSe S0 q0 (i + 1))), (0, .ref hT), (1, .int (nI q0))]) hx hb dX0_addGains_53 hl (k := 4) rfl (nI_1 (i + 1)) (by decide) rfl (fun ls hl => ?_)
        refine lv_goto (tgt := 7) hx hb dX0_addGains_56 (by decide) ?_
        exact ih_7 (i + 1) (by omega)  _ _ _ hP hD hS (lv_sub hl [3, 4, 1, 2, 0] rfl)
  rw [← zfrom_0 (pCrF S0 q0) Cr] at hP hD
  exact loop_7 4 0 (by omega)  _ _ _ hP hD hS (lv_sub hl [3, 4, 2, 1, 0] rfl)
abbrev rmX0_takeGains : Room := { frames := 0, cells := 0, slots := 0, locals := 0 }
set_option maxRecDepth 20000 in
theorem iX0_takeGains_X0 : ∀ w ∈ wsX00, w ∈ wsX0_takeGains := fun w h => (goodIn_r (big := wsX0_takeGains) wsX00 [3, 4, 5, 6, 7, 8] (by decide +kernel) (by decide +kernel) w h).1
set_option maxHeartbeats 4000000 in
set_option maxRecDepth 100000 in
theorem m_X0_takeGains (l : Launch) (dC : Nat → ClassId) (dI : Nat → Nat → Nat) (cI cZ cJ cD : ClassId) (hT : Nat) (aS : Nat) (aC : Nat) (aG : Nat) (bd : Int32) (sb : Int32) (nd : Int32) (S0 : Nat → Int32) (Cr : Nat → Int32) (G0 : Nat → Int32) (ch : Int32)  : zV l (dC, dI) (wT cI cZ cJ cD) yX0_takeGains wsX0_takeGains rmX0_takeGains [(hT, .inr (0, [.int bd, .int sb, .int nd, .ref aS, .ref aC, .ref aG])), (aS, .inl (cI, 5, .inl S0)), (aC, .inl (cI, 5, .inl Cr)), (aG, .inl (cI, 5, .inl G0))] [.ref hT, .int ch] (fun (_ : Unit) => [(hT, .inr (0, [.int bd, .int sb, .int nd, .ref aS, .ref aC, .ref aG])), (aS, .inl (cI, 5, .inl (pTake S0 G0 ch))), (aC, .inl (cI, 5, .inl Cr)), (aG, .inl (cI, 5, .inl G0))]) (fun (_ : Unit) => True) := by
  intro sz
  refine Met.ofW (cc := cX0_takeGains) (maxL := 3) (ret := none) (by decide) rfl ?_
  intro p e s m args below meth c s₁ B hml hv
  obtain ⟨ha, hsz, hP, hK, hD0, hN⟩ := hv
  have hx := B.exec
  have hb := B.bytes
  have hr := B.returns
  have hts := atoms_spec (ws := wsX0_takeGains) B.pre
  have hown : s.vm.findClass RX0 = some m.cls := findClass_of_methodNamed B.named
  have hlocks := B.notSynchronized
  subst hsz
  have hD := hD0.self (sz := s.heap.size)
  generalize hAe : va_A [(hT, .inr (0, [.int bd, .int sb, .int nd, .ref aS, .ref aC, .ref aG])), (aS, .inl (cI, 5, .inl S0)), (aC, .inl (cI, 5, .inl Cr)), (aG, .inl (cI, 5, .inl G0))] s.heap.size = A at hD ⊢
  have hA : ∀ q : Nat, s.heap.size ≤ q → A q := fun q h => by rw [← hAe]; exact Or.inr h
  have hS : va_S A s.heap s.heap [] := va_S.rf
  generalize hQ : MQ below (va_Qv (fun (_ : Unit) => True) (fun u t => va_P (dC, dI) vwCl ((fun (_ : Unit) => [(hT, .inr (0, [.int bd, .int sb, .int nd, .ref aS, .ref aC, .ref aG])), (aS, .inl (cI, 5, .inl (pTake S0 G0 ch))), (aC, .inl (cI, 5, .inl Cr)), (aG, .inl (cI, 5, .inl G0))]) u) t.heap) A) args s 0 0 A = Q
  have F9 : CallFix p m c cX0_takeGains 3 s args wsX0_takeGains RX0 := ⟨hx, hb, hml, hown, hts⟩
  refine z_entry (R := rmX0_takeGains) ha (Nat.le_of_ble_eq_true rfl) (fun ls hl => ?_)
  have hl : lv_has ls 3 [(0, .ref hT), (1, .int ch)] := hl
  refine lv_iconst (v := 0) hx hb dX0_takeGains_0 (by decide) ?_
  refine lv_istore_n (lv' := [(2, .int 0), (0, .ref hT), (1, .int ch)]) hx hb dX0_takeGains_1 rfl hl (by decide) rfl (fun ls hl => ?_)
  have loop_2 : ∀ (n : Nat) (k : Nat) (hkn : k + n = 5) (H : Heap) (locs : List Loc) (ls : Array Slot) (hP : va_P (dC, dI) vwCl [(hT, .inr (0, [.int bd, .int sb, .int nd, .ref aS, .ref aC, .ref aG])), (aS, .inl (cI, 5, .inl (zfill (pTakeF S0 G0 ch) S0 k))), (aC, .inl (cI, 5, .inl Cr)), (aG, .inl (cI, 5, .inl G0))] H) (hD : va_D A [(hT, .inr (0, [.int bd, .int sb, .int nd, .ref aS, .ref aC, .ref aG])), (aS, .inl (cI, 5, .inl (zfill (pTakeF S0 G0 ch) S0 k))), (aC, .inl (cI, 5, .inl Cr)), (aG, .inl (cI, 5, .inl G0))]) (hS : va_S A s.heap H locs) (hl : lv_has ls 3 [(0, .ref hT), (1, .int ch), (2, .int (nI k))]), W p l e rmX0_takeGains s m args below meth c H locs 0 0 Q (F0 m 2 ls []) := by
    intro n
    induction n with
    | zero =>
      intro k hkn  H locs ls hP hD hS hl
      refine lv_iload_n hx hb dX0_takeGains_2 rfl (lv_at hl 2 rfl) ?_
      refine lv_iconst (v := 5) hx hb dX0_takeGains_3 (by decide) ?_
      refine lv_icmp_ge (tgt := 38) hx hb dX0_takeGains_4 (by decide) (fun c_4 => ?_) (fun c_4 => ?_)
      · skip
        have n_4 := zc_le_t (a := 5) (b := k) (by omega) (by omega) c_4
        have hl9 := hl
        have hP9 := hP
        have hD9 := hD
        have hS9 := hS
        obtain rfl : k = 5 := by omega
        have hl := hl9
        have hP := hP9
        have hD := hD9
        have hS := hS9
        rw [← hQ]
        exact z_vret (W1 := (fun (_ : Unit) => [(hT, .inr (0, [.int bd, .int sb, .int nd, .ref aS, .ref aC, .ref aG])), (aS, .inl (cI, 5, .inl (pTake S0 G0 ch))), (aC, .inl (cI, 5, .inl Cr)), (aG, .inl (cI, 5, .inl G0))])) hx hb hr hlocks hP hS () (rfl) (trivial) dX0_takeGains_38
      · skip
        have n_4 := zc_le_f (a := 5) (b := k) (by omega) (by omega) c_4
        exact absurd n_4 (by omega)
    | succ n ih_2 =>
      intro k hkn  H locs ls hP hD hS hl
      refine lv_iload_n hx hb dX0_takeGains_2 rfl (lv_at hl 2 rfl) ?_
      refine lv_iconst (v := 5) hx hb dX0_takeGains_3 (by decide) ?_
      refine lv_icmp_ge (tgt := 38) hx hb dX0_takeGains_4 (by decide) (fun c_4 => ?_) (fun c_4 => ?_)
      · skip
        have n_4 := zc_le_t (a := 5) (b := k) (by omega) (by omega) c_4
        exact absurd n_4 (by omega)
      · skip
        have n_4 := zc_le_f (a := 5) (b := k) (by omega) (by omega) c_4
        refine lv_aload_n hx hb dX0_takeGains_7 rfl (lv_at hl 0 rfl) ?_
        refine va_get (D := (dC, dI)) (ci := 0) (v := .ref aS) (C := RX0) (T := TX0) (N := 6) hx hb hts iX0_takeGains_X0 hown hK hP 0 rfl rfl 3 (by decide) (hts (.fieldLink RX0 15 "ColourTide$Tide" "sets" "[I") (List.mem_of_getElem? (i := 1) rfl)) (fun _ h9 => h9) rfl dX0_takeGains_8 ?_
        refine lv_iload_n hx hb dX0_takeGains_11 rfl (lv_at hl 2 rfl) ?_
        refine lv_aload_n hx hb dX0_takeGains_12 rfl (lv_at hl 0 rfl) ?_
        refine va_get (D := (dC, dI)) (ci := 0) (v := .ref aS) (C := RX0) (T := TX0) (N := 6) hx hb hts iX0_takeGains_X0 hown hK hP 0 rfl rfl 3 (by decide) (hts (.fieldLink RX0 15 "ColourTide$Tide" "sets" "[I") (List.mem_of_getElem? (i := 1) rfl)) (fun _ h9 => h9) rfl dX0_takeGains_13 ?_
        refine lv_iload_n hx hb dX0_takeGains_16 rfl (lv_at hl 2 rfl) ?_
        refine z_iald hx hb hK hP 1 0 rfl rfl k (rfl) (by omega) (by decide) dX0_takeGains_17 ?_
        refine z_topi (y := S0 k) (zfill_at (Nat.le_refl _)) ?_
        refine lv_iload_n hx hb dX0_takeGains_18 rfl (lv_at hl 1 rfl) ?_
        refine lv_iconst (v := (-1)) hx hb dX0_takeGains_19 (by decide) ?_
        refine lv_ixor hx hb dX0_takeGains_20 ?_
        refine lv_iand hx hb dX0_takeGains_21 ?_
        refine lv_aload_n hx hb dX0_takeGains_22 rfl (lv_at hl 0 rfl) ?_
        refine va_get (D := (dC, dI)) (ci := 0) (v := .ref aG) (C := RX0) (T := TX0) (N := 6) hx hb hts iX0_takeGains_X0 hown hK hP 0 rfl rfl 5 (by decide) (hts (.fieldLink RX0 22 "ColourTide$Tide" "gains" "[I") (List.mem_of_getElem? (i := 2) rfl)) (fun _ h9 => h9) rfl dX0_takeGains_23 ?_
        refine lv_iload_n hx hb dX0_takeGains_26 rfl (lv_at hl 2 rfl) ?_
        refine z_iald hx hb hK hP 3 0 rfl rfl k (rfl) (by omega) (by decide) dX0_takeGains_27 ?_
        refine lv_iload_n hx hb dX0_takeGains_28 rfl (lv_at hl 1 rfl) ?_
        refine lv_iand hx hb dX0_takeGains_29 ?_
        refine lv_ior hx hb dX0_takeGains_30 ?_
        refine z_iast hx hb hK hP hD hS 1 0 rfl rfl k (rfl) (by omega) (by decide) dX0_takeGains_31 (fun H locs hP hD hS => ?_)
        have hP : va_P (dC, dI) vwCl [(hT, .inr (0, [.int bd, .int sb, .int nd, .ref aS, .ref aC, .ref aG])), (aS, .inl (cI, 5, .inl (upd (zfill (pTakeF S0 G0 ch) S0 k) k (((S0 k) &&& (ch ^^^ (-1))) ||| ((G0 k) &&& ch))))), (aC, .inl (cI, 5, .inl Cr)), (aG, .inl (cI, 5, .inl G0))] H := hP
        have hD : va_D A [(hT, .inr (0, [.int bd, .int sb, .int nd, .ref aS, .ref aC, .ref aG])), (aS, .inl (cI, 5, .inl (upd (zfill (pTakeF S0 G0 ch) S0 k) k (((S0 k) &&& (ch ^^^ (-1))) ||| ((G0 k) &&& ch))))), (aC, .inl (cI, 5, .inl Cr)), (aG, .inl (cI, 5, .inl G0))] := hD
        have e_31 : upd (zfill (pTakeF S0 G0 ch) S0 k) k (((S0 k) &&& (ch ^^^ (-1))) ||| ((G0 k) &&& ch)) = zfill (pTakeF S0 G0 ch) S0 (k + 1) := zfill_succ _ _ _
        rw [e_31] at hP hD
        refine lv_iinc (v := nI (k + 1)) (lv' := [(2, .int (nI (k + 1))), (0, .ref hT), (1, .int ch)]) hx hb dX0_takeGains_32 hl (k := 2) rfl (nI_1 k) (by decide) rfl (fun ls hl => ?_)
        refine lv_goto (tgt := 2) hx hb dX0_takeGains_35 (by decide) ?_
        exact ih_2 (k + 1) (by omega)  _ _ _ hP hD hS (lv_sub hl [1, 2, 0] rfl)
  rw [← zfill_0 (pTakeF S0 G0 ch) S0] at hP hD
  exact loop_2 5 0 (by omega)  _ _ _ hP hD hS (lv_sub hl [1, 2, 0] rfl)
abbrev rmX0_foresee : Room := { frames := 2, cells := 0, slots := 0, locals := 49 }
set_option maxRecDepth 20000 in
theorem iX0_foresee_X0 : ∀ w ∈ wsX00, w ∈ wsX0_foresee := fun w h => (goodIn_r (big := wsX0_foresee) wsX00 [15, 16, 17, 18, 19, 20] (by decide +kernel) (by decide +kernel) w h).1
set_option maxHeartbeats 4000000 in
set_option maxRecDepth 100000 in
theorem m_X0_foresee (l : Launch) (dC : Nat → ClassId) (dI : Nat → Nat → Nat) (cI cZ cJ cD : ClassId) (hT : Nat) (aS : Nat) (aC : Nat) (aG : Nat) (bd : Int32) (sb : Int32) (nd : Int32) (S0 : Nat → Int32) (Cr : Nat → Int32) (G0 : Nat → Int32) (q0 : Nat) (hq : 1 ≤ q0 ∧ q0 ≤ 4) (hnd : nd = nI q0) : zI l (dC, dI) (wT cI cZ cJ cD) yX0_foresee wsX0_foresee rmX0_foresee [(hT, .inr (0, [.int bd, .int sb, .int nd, .ref aS, .ref aC, .ref aG])), (aS, .inl (cI, 5, .inl S0)), (aC, .inl (cI, 5, .inl Cr)), (aG, .inl (cI, 5, .inl G0))] [.ref hT] (fun (_ : Unit) => [(hT, .inr (0, [.int bd, .int sb, .int nd, .ref aS, .ref aC, .ref aG])), (aS, .inl (cI, 5, .inl S0)), (aC, .inl (cI, 5, .inl (pCs S0 q0 Cr (5 - q0)))), (aG, .inl (cI, 5, .inl (pGf S0 bd sb q0 G0)))]) (fun (r : Int32) (_ : Unit) => r = pC0 S0 bd sb q0) := by
  intro sz
  refine Met.ofW (cc := cX0_foresee) (maxL := 3) (ret := (some .int)) (by decide) rfl ?_
  intro p e s m args below meth c s₁ B hml hv
  obtain ⟨ha, hsz, hP, hK, hD0, hN⟩ := hv
  have hx := B.exec
  have hb := B.bytes
  have hr := B.returns
  have hts := atoms_spec (ws := wsX0_foresee) B.pre
  have hown : s.vm.findClass RX0 = some m.cls := findClass_of_methodNamed B.named
  have hlocks := B.notSynchronized
  subst hsz
  have hD := hD0.self (sz := s.heap.size)
  generalize hAe : va_A [(hT, .inr (0, [.int bd, .int sb, .int nd, .ref aS, .ref aC, .ref aG])), (aS, .inl (cI, 5, .inl S0)), (aC, .inl (cI, 5, .inl Cr)), (aG, .inl (cI, 5, .inl G0))] s.heap.size = A at hD ⊢
  have hA : ∀ q : Nat, s.heap.size ≤ q → A q := fun q h => by rw [← hAe]; exact Or.inr h
  have hS : va_S A s.heap s.heap [] := va_S.rf
  generalize hQ : MQ below (va_Qi (fun (r : Int32) (_ : Unit) => r = pC0 S0 bd sb q0) (fun u t => va_P (dC, dI) vwCl ((fun (_ : Unit) => [(hT, .inr (0, [.int bd, .int sb, .int nd, .ref aS, .ref aC, .ref aG])), (aS, .inl (cI, 5, .inl S0)), (aC, .inl (cI, 5, .inl (pCs S0 q0 Cr (5 - q0)))), (aG, .inl (cI, 5, .inl (pGf S0 bd sb q0 G0)))]) u) t.heap) A) args s 0 0 A = Q
  have F9 : CallFix p m c cX0_foresee 3 s args wsX0_foresee RX0 := ⟨hx, hb, hml, hown, hts⟩
  refine z_entry (R := rmX0_foresee) ha (Nat.le_of_ble_eq_true rfl) (fun ls hl => ?_)
  have hl : lv_has ls 3 [(0, .ref hT)] := hl
  refine lv_iconst (v := 0) hx hb dX0_foresee_0 (by decide) ?_
  refine lv_istore_n (lv' := [(1, .int 0), (0, .ref hT)]) hx hb dX0_foresee_1 rfl hl (by decide) rfl (fun ls hl => ?_)
  have loop_2 : ∀ (n : Nat) (k : Nat) (hkn : k + n = 5) (H : Heap) (locs : List Loc) (ls : Array Slot) (hP : va_P (dC, dI) vwCl [(hT, .inr (0, [.int bd, .int sb, .int nd, .ref aS, .ref aC, .ref aG])), (aS, .inl (cI, 5, .inl S0)), (aC, .inl (cI, 5, .inl Cr)), (aG, .inl (cI, 5, .inl (zfill (fun _ => 0) G0 k)))] H) (hD : va_D A [(hT, .inr (0, [.int bd, .int sb, .int nd, .ref aS, .ref aC, .ref aG])), (aS, .inl (cI, 5, .inl S0)), (aC, .inl (cI, 5, .inl Cr)), (aG, .inl (cI, 5, .inl (zfill (fun _ => 0) G0 k)))]) (hS : va_S A s.heap H locs) (hl : lv_has ls 3 [(0, .ref hT), (1, .int (nI k))]), W p l e rmX0_foresee s m args below meth c H locs 0 0 Q (F0 m 2 ls []) := by
    intro n
    induction n with
    | zero =>
      intro k hkn  H locs ls hP hD hS hl
      refine lv_iload_n hx hb dX0_foresee_2 rfl (lv_at hl 1 rfl) ?_
      refine lv_iconst (v := 5) hx hb dX0_foresee_3 (by decide) ?_
      refine lv_icmp_ge (tgt := 20) hx hb dX0_foresee_4 (by decide) (fun c_4 => ?_) (fun c_4 => ?_)
      · skip
        have n_4 := zc_le_t (a := 5) (b := k) (by omega) (by omega) c_4
        refine lv_aload_n hx hb dX0_foresee_20 rfl (lv_at hl 0 rfl) ?_
        refine va_get (D := (dC, dI)) (ci := 0) (v := .int nd) (C := RX0) (T := TX0) (N := 6) hx hb hts iX0_foresee_X0 hown hK hP 0 rfl rfl 2 (by decide) (hts (.fieldLink RX0 9 "ColourTide$Tide" "need" "I") (List.mem_of_getElem? (i := 2) rfl)) (fun _ h9 => h9) rfl dX0_foresee_21 ?_
        refine z_topi (y := nI (q0 + 0)) (hnd) ?_
        refine lv_istore_n (lv' := [(1, .int (nI (q0 + 0))), (0, .ref hT)]) hx hb dX0_foresee_24 rfl hl (by decide) rfl (fun ls hl => ?_)
        have loop_25 : ∀ (n : Nat) (i : Nat) (hkn : i + n = 5 - q0) (H : Heap) (locs : List Loc) (ls : Array Slot) (hP : va_P (dC, dI) vwCl [(hT, .inr (0, [.int bd, .int sb, .int nd, .ref aS, .ref aC, .ref aG])), (aS, .inl (cI, 5, .inl S0)), (aC, .inl (cI, 5, .inl (pCs S0 q0 Cr i))), (aG, .inl (cI, 5, .inl (pGs S0 bd sb q0 (zfill (fun _ => 0) G0 5) i)))] H) (hD : va_D A [(hT, .inr (0, [.int bd, .int sb, .int nd, .ref aS, .ref aC, .ref aG])), (aS, .inl (cI, 5, .inl S0)), (aC, .inl (cI, 5, .inl (pCs S0 q0 Cr i))), (aG, .inl (cI, 5, .inl (pGs S0 bd sb q0 (zfill (fun _ => 0) G0 5) i)))]) (hS : va_S A s.heap H locs) (hl : lv_has ls 3 [(0, .ref hT), (1, .int (nI (q0 + i)))]), W p l e rmX0_foresee s m args below meth c H locs 0 0 Q (F0 m 25 ls []) := by
          intro n
          induction n with
          | zero =>
            intro i hkn  H locs ls hP hD hS hl
            refine lv_iload_n hx hb dX0_foresee_25 rfl (lv_at hl 1 rfl) ?_
            refine lv_iconst (v := 4) hx hb dX0_foresee_26 (by decide) ?_
            refine lv_icmp_gt (tgt := 41) hx hb dX0_foresee_27 (by decide) (fun c_27 => ?_) (fun c_27 => ?_)
            · skip
              have n_27 := zc_lt_t (a := 4) (b := (q0 + i)) (by omega) (by omega) c_27
              refine lv_iconst (v := 0) hx hb dX0_foresee_41 (by decide) ?_
              refine lv_istore_n (lv' := [(1, .int 0), (0, .ref hT)]) hx hb dX0_foresee_42 rfl hl (by decide) rfl (fun ls hl => ?_)
              refine lv_iconst (v := 1) hx hb dX0_foresee_43 (by decide) ?_
              refine lv_istore_n (lv' := [(2, .int 1), (1, .int 0), (0, .ref hT)]) hx hb dX0_foresee_44 rfl hl (by decide) rfl (fun ls hl => ?_)
              have loop_45 : ∀ (n : Nat) (i2 : Nat) (hkn : i2 + n = 4) (H : Heap) (locs : List Loc) (ls : Array Slot) (hP : va_P (dC, dI) vwCl [(hT, .inr (0, [.int bd, .int sb, .int nd, .ref aS, .ref aC, .ref aG])), (aS, .inl (cI, 5, .inl S0)), (aC, .inl (cI, 5, .inl (pCs S0 q0 Cr (5 - q0)))), (aG, .inl (cI, 5, .inl (pGf S0 bd sb q0 G0)))] H) (hD : va_D A [(hT, .inr (0, [.int bd, .int sb, .int nd, .ref aS, .ref aC, .ref aG])), (aS, .inl (cI, 5, .inl S0)), (aC, .inl (cI, 5, .inl (pCs S0 q0 Cr (5 - q0)))), (aG, .inl (cI, 5, .inl (pGf S0 bd sb q0 G0)))]) (hS : va_S A s.heap H locs) (hl : lv_has ls 3 [(0, .ref hT), (1, .int (pCh S0 (pGf S0 bd sb q0 G0) i2)), (2, .int (nI (i2 + 1)))]), W p l e rmX0_foresee s m args below meth c H locs 0 0 Q (F0 m 45 ls []) := by
                intro n
                induction n with
                | zero =>
                  intro i2 hkn  H locs ls hP hD hS hl
                  refine lv_iload_n hx hb dX0_foresee_45 rfl (lv_at hl 2 rfl) ?_
                  refine lv_iconst (v := 5) hx hb dX0_foresee_46 (by decide) ?_
                  refine lv_icmp_ge (tgt := 74) hx hb dX0_foresee_47 (by decide) (fun c_47 => ?_) (fun c_47 => ?_)
                  · skip
                    have n_47 := zc_le_t (a := 5) (b := (i2 + 1)) (by omega) (by omega) c_47
                    refine lv_iload_n hx hb dX0_foresee_74 rfl (lv_at hl 1 rfl) ?_
                    have hl9 := hl
                    have hP9 := hP
                    have hD9 := hD
                    have hS9 := hS
                    obtain rfl : i2 = 4 := by omega
                    have hl := hl9
                    have hP := hP9
                    have hD := hD9
                    have hS := hS9
                    rw [← hQ]
                    exact z_iret (W1 := (fun (_ : Unit) => [(hT, .inr (0, [.int bd, .int sb, .int nd, .ref aS, .ref aC, .ref aG])), (aS, .inl (cI, 5, .inl S0)), (aC, .inl (cI, 5, .inl (pCs S0 q0 Cr (5 - q0)))), (aG, .inl (cI, 5, .inl (pGf S0 bd sb q0 G0)))])) hx hb hr hlocks hP hS () (rfl) (pChg_0 S0 bd sb q0 G0) dX0_foresee_75
                  · skip
                    have n_47 := zc_le_f (a := 5) (b := (i2 + 1)) (by omega) (by omega) c_47
                    exact absurd n_47 (by omega)
                | succ n ih_45 =>
                  intro i2 hkn  H locs ls hP hD hS hl
                  refine lv_iload_n hx hb dX0_foresee_45 rfl (lv_at hl 2 rfl) ?_
                  refine lv_iconst (v := 5) hx hb dX0_foresee_46 (by decide) ?_
                  refine lv_icmp_ge (tgt := 74) hx hb dX0_foresee_47 (by decide) (fun c_47 => ?_) (fun c_47 => ?_)
                  · skip
                    have n_47 := zc_le_t (a := 5) (b := (i2 + 1)) (by omega) (by omega) c_47
                    exact absurd n_47 (by omega)
                  · skip
                    have n_47 := zc_le_f (a := 5) (b := (i2 + 1)) (by omega) (by omega) c_47
                    refine lv_iload_n hx hb dX0_foresee_50 rfl (lv_at hl 1 rfl) ?_
                    refine lv_aload_n hx hb dX0_foresee_51 rfl (lv_at hl 0 rfl) ?_
                    refine va_get (D := (dC, dI)) (ci := 0) (v := .ref aG) (C := RX0) (T := TX0) (N := 6) hx hb hts iX0_foresee_X0 hown hK hP 0 rfl rfl 5 (by decide) (hts (.fieldLink RX0 22 "ColourTide$Tide" "gains" "[I") (List.mem_of_getElem? (i := 1) rfl)) (fun _ h9 => h9) rfl dX0_foresee_52 ?_
                    refine lv_iload_n hx hb dX0_foresee_55 rfl (lv_at hl 2 rfl) ?_
                    refine z_iald hx hb hK hP 3 0 rfl rfl (i2 + 1) (rfl) (by omega) (by decide) dX0_foresee_56 ?_
                    refine lv_aload_n hx hb dX0_foresee_57 rfl (lv_at hl 0 rfl) ?_
                    refine va_get (D := (dC, dI)) (ci := 0) (v := .ref aS) (C := RX0) (T := TX0) (N := 6) hx hb hts iX0_foresee_X0 hown hK hP 0 rfl rfl 3 (by decide) (hts (.fieldLink RX0 15 "ColourTide$Tide" "sets" "[I") (List.mem_of_getElem? (i := 3) rfl)) (fun _ h9 => h9) rfl dX0_foresee_58 ?_
                    refine lv_iload_n hx hb dX0_foresee_61 rfl (lv_at hl 2 rfl) ?_
                    refine z_iald hx hb hK hP 1 0 rfl rfl (i2 + 1) (rfl) (by omega) (by decide) dX0_foresee_62 ?_
                    refine lv_iconst (v := (-1)) hx hb dX0_foresee_63 (by decide) ?_
                    refine lv_ixor hx hb dX0_foresee_64 ?_
                    refine lv_iand hx hb dX0_foresee_65 ?_
                    refine lv_ior hx hb dX0_foresee_66 ?_
                    refine z_topi (y := pCh S0 (pGf S0 bd sb q0 G0) (i2 + 1)) (rfl) ?_
                    refine lv_istore_n (lv' := [(1, .int (pCh S0 (pGf S0 bd sb q0 G0) (i2 + 1))), (0, .ref hT), (2, .int (nI (i2 + 1)))]) hx hb dX0_foresee_67 rfl hl (by decide) rfl (fun ls hl => ?_)
                    refine lv_iinc (v := nI ((i2 + 1) + 1)) (lv' := [(2, .int (nI ((i2 + 1) + 1))), (1, .int (pCh S0 (pGf S0 bd sb q0 G0) (i2 + 1))), (0, .ref hT)]) hx hb dX0_foresee_68 hl (k := 2) rfl (nI_1 (i2 + 1)) (by decide) rfl (fun ls hl => ?_)
                    refine lv_goto (tgt := 45) hx hb dX0_foresee_71 (by decide) ?_
                    exact ih_45 (i2 + 1) (by omega)  _ _ _ hP hD hS (lv_sub hl [2, 1, 0] rfl)
              have hl9 := hl
              have hP9 := hP
              have hD9 := hD
              have hS9 := hS
              obtain rfl : i = 5 - q0 := by omega
              have hl := hl9
              have hP := hP9
              have hD := hD9
              have hS := hS9
              exact loop_45 4 0 (by omega)  _ _ _ hP hD hS (lv_sub hl [2, 1, 0] rfl)
            · skip
              have n_27 := zc_lt_f (a := 4) (b := (q0 + i)) (by omega) (by omega) c_27
              exact absurd n_27 (by omega)
          | succ n ih_25 =>
            intro i hkn  H locs ls hP hD hS hl
            refine lv_iload_n hx hb dX0_foresee_25 rfl (lv_at hl 1 rfl) ?_
            refine lv_iconst (v := 4) hx hb dX0_foresee_26 (by decide) ?_
            refine lv_icmp_gt (tgt := 41) hx hb dX0_foresee_27 (by decide) (fun c_27 => ?_) (fun c_27 => ?_)
            · skip
              have n_27 := zc_lt_t (a := 4) (b := (q0 + i)) (by omega) (by omega) c_27
              exact absurd n_27 (by omega)
            · skip
              have n_27 := zc_lt_f (a := 4) (b := (q0 + i)) (by omega) (by omega) c_27
              refine lv_aload_n hx hb dX0_foresee_30 rfl (lv_at hl 0 rfl) ?_
              refine lv_iload_n hx hb dX0_foresee_31 rfl (lv_at hl 1 rfl) ?_
              refine z_callVv (As := [.int (nI (q0 + i))]) (rest := []) F9 (m_X0_addGains l dC dI cI cZ cJ cD hT aS aC aG bd sb nd S0 (pCs S0 q0 Cr i) (pGs S0 bd sb q0 (zfill (fun _ => 0) G0 5) i) (q0 + i) (by omega)) (cwV 1 hts gX0_foresee_X0_addGains rfl rfl rfl (by decide +kernel) ⟨Nat.le_of_ble_eq_true rfl, Nat.le_of_ble_eq_true rfl⟩) hK hN hP hD hS hA [0, 1, 2, 3] rfl rfl (fun _ => rfl) 0 (ci := 0) rfl rfl rfl rfl hl.1 rfl (Nat.le_of_ble_eq_true rfl) dX0_foresee_32 ⟨Nat.zero_le _, Nat.zero_le _⟩ (fun u H locs hp_32 hP hD hS => ?_)
              have hP : va_P (dC, dI) vwCl [(hT, .inr (0, [.int bd, .int sb, .int nd, .ref aS, .ref aC, .ref aG])), (aS, .inl (cI, 5, .inl S0)), (aC, .inl (cI, 5, .inl (zfrom (pCrF S0 (q0 + i)) (pCs S0 q0 Cr i) 4))), (aG, .inl (cI, 5, .inl (zfrom (pAddF S0 bd sb (q0 + i) (pGs S0 bd sb q0 (zfill (fun _ => 0) G0 5) i)) (pGs S0 bd sb q0 (zfill (fun _ => 0) G0 5) i) 4)))] H := hP
              have hD : va_D A [(hT, .inr (0, [.int bd, .int sb, .int nd, .ref aS, .ref aC, .ref aG])), (aS, .inl (cI, 5, .inl S0)), (aC, .inl (cI, 5, .inl (zfrom (pCrF S0 (q0 + i)) (pCs S0 q0 Cr i) 4))), (aG, .inl (cI, 5, .inl (zfrom (pAddF S0 bd sb (q0 + i) (pGs S0 bd sb q0 (zfill (fun _ => 0) G0 5) i)) (pGs S0 bd sb q0 (zfill (fun _ => 0) G0 5) i) 4)))] := hD
              refine lv_iinc (v := nI ((q0 + i) + 1)) (lv' := [(1, .int (nI ((q0 + i) + 1))), (0, .ref hT)]) hx hb dX0_foresee_35 hl (k := 1) rfl (nI_1 (q0 + i)) (by decide) rfl (fun ls hl => ?_)
              refine lv_goto (tgt := 25) hx hb dX0_foresee_38 (by decide) ?_
              exact ih_25 (i + 1) (by omega)  _ _ _ hP hD hS (lv_sub hl [1, 0] rfl)
        have hl9 := hl
        have hP9 := hP
        have hD9 := hD
        have hS9 := hS
        obtain rfl : k = 5 := by omega
        have hl := hl9
        have hP := hP9
        have hD := hD9
        have hS := hS9
        exact loop_25 (5 - q0) 0 (by omega)  _ _ _ hP hD hS (lv_sub hl [1, 0] rfl)
      · skip
        have n_4 := zc_le_f (a := 5) (b := k) (by omega) (by omega) c_4
        exact absurd n_4 (by omega)
    | succ n ih_2 =>
      intro k hkn  H locs ls hP hD hS hl
      refine lv_iload_n hx hb dX0_foresee_2 rfl (lv_at hl 1 rfl) ?_
      refine lv_iconst (v := 5) hx hb dX0_foresee_3 (by decide) ?_
      refine lv_icmp_ge (tgt := 20) hx hb dX0_foresee_4 (by decide) (fun c_4 => ?_) (fun c_4 => ?_)
      · skip
        have n_4 := zc_le_t (a := 5) (b := k) (by omega) (by omega) c_4
        exact absurd n_4 (by omega)
      · skip
        have n_4 := zc_le_f (a := 5) (b := k) (by omega) (by omega) c_4
        refine lv_aload_n hx hb dX0_foresee_7 rfl (lv_at hl 0 rfl) ?_
        refine va_get (D := (dC, dI)) (ci := 0) (v := .ref aG) (C := RX0) (T := TX0) (N := 6) hx hb hts iX0_foresee_X0 hown hK hP 0 rfl rfl 5 (by decide) (hts (.fieldLink RX0 22 "ColourTide$Tide" "gains" "[I") (List.mem_of_getElem? (i := 1) rfl)) (fun _ h9 => h9) rfl dX0_foresee_8 ?_
        refine lv_iload_n hx hb dX0_foresee_11 rfl (lv_at hl 1 rfl) ?_
        refine lv_iconst (v := 0) hx hb dX0_foresee_12 (by decide) ?_
        refine z_iast hx hb hK hP hD hS 3 0 rfl rfl k (rfl) (by omega) (by decide) dX0_foresee_13 (fun H locs hP hD hS => ?_)
        have hP : va_P (dC, dI) vwCl [(hT, .inr (0, [.int bd, .int sb, .int nd, .ref aS, .ref aC, .ref aG])), (aS, .inl (cI, 5, .inl S0)), (aC, .inl (cI, 5, .inl Cr)), (aG, .inl (cI, 5, .inl (upd (zfill (fun _ => 0) G0 k) k 0)))] H := hP
        have hD : va_D A [(hT, .inr (0, [.int bd, .int sb, .int nd, .ref aS, .ref aC, .ref aG])), (aS, .inl (cI, 5, .inl S0)), (aC, .inl (cI, 5, .inl Cr)), (aG, .inl (cI, 5, .inl (upd (zfill (fun _ => 0) G0 k) k 0)))] := hD
        have e_13 : upd (zfill (fun _ => 0) G0 k) k 0 = zfill (fun _ => 0) G0 (k + 1) := zfill_succ _ _ _
        rw [e_13] at hP hD
        refine lv_iinc (v := nI (k + 1)) (lv' := [(1, .int (nI (k + 1))), (0, .ref hT)]) hx hb dX0_foresee_14 hl (k := 1) rfl (nI_1 k) (by decide) rfl (fun ls hl => ?_)
        refine lv_goto (tgt := 2) hx hb dX0_foresee_17 (by decide) ?_
        exact ih_2 (k + 1) (by omega)  _ _ _ hP hD hS (lv_sub hl [1, 0] rfl)
  rw [← zfill_0 (fun _ => 0) G0] at hP hD
  exact loop_2 5 0 (by omega)  _ _ _ hP hD hS (lv_sub hl [1, 0] rfl)
abbrev rmX0_foreseenColourOf : Room := { frames := 2, cells := 0, slots := 0, locals := 43 }
set_option maxRecDepth 20000 in
theorem iX0_foreseenColourOf_X0 : ∀ w ∈ wsX00, w ∈ wsX0_foreseenColourOf := fun w h => (goodIn_r (big := wsX0_foreseenColourOf) wsX00 [11, 12, 13, 14, 15, 16] (by decide +kernel) (by decide +kernel) w h).1
set_option maxHeartbeats 4000000 in
set_option maxRecDepth 100000 in
theorem m_X0_foreseenColourOf (l : Launch) (dC : Nat → ClassId) (dI : Nat → Nat → Nat) (cI cZ cJ cD : ClassId) (hT : Nat) (aS : Nat) (aC : Nat) (aG : Nat) (bd : Int32) (sb : Int32) (nd : Int32) (S0 : Nat → Int32) (Cr : Nat → Int32) (G0 : Nat → Int32) (z0 : Int32)  : zI l (dC, dI) (wT cI cZ cJ cD) yX0_foreseenColourOf wsX0_foreseenColourOf rmX0_foreseenColourOf [(hT, .inr (0, [.int bd, .int sb, .int nd, .ref aS, .ref aC, .ref aG])), (aS, .inl (cI, 5, .inl S0)), (aC, .inl (cI, 5, .inl Cr)), (aG, .inl (cI, 5, .inl G0))] [.ref hT, .int z0] (fun (_ : Unit) => [(hT, .inr (0, [.int bd, .int sb, .int nd, .ref aS, .ref aC, .ref aG])), (aS, .inl (cI, 5, .inl S0)), (aC, .inl (cI, 5, .inl Cr)), (aG, .inl (cI, 5, .inl G0))]) (fun (r : Int32) (_ : Unit) => r = pFore S0 G0 z0) := by
  intro sz
  refine Met.ofW (cc := cX0_foreseenColourOf) (maxL := 3) (ret := (some .int)) (by decide) rfl ?_
  intro p e s m args below meth c s₁ B hml hv
  obtain ⟨ha, hsz, hP, hK, hD0, hN⟩ := hv
  have hx := B.exec
  have hb := B.bytes
  have hr := B.returns
  have hts := atoms_spec (ws := wsX0_foreseenColourOf) B.pre
  have hown : s.vm.findClass RX0 = some m.cls := findClass_of_methodNamed B.named
  have hlocks := B.notSynchronized
  subst hsz
  have hD := hD0.self (sz := s.heap.size)
  generalize hAe : va_A [(hT, .inr (0, [.int bd, .int sb, .int nd, .ref aS, .ref aC, .ref aG])), (aS, .inl (cI, 5, .inl S0)), (aC, .inl (cI, 5, .inl Cr)), (aG, .inl (cI, 5, .inl G0))] s.heap.size = A at hD ⊢
  have hA : ∀ q : Nat, s.heap.size ≤ q → A q := fun q h => by rw [← hAe]; exact Or.inr h
  have hS : va_S A s.heap s.heap [] := va_S.rf
  generalize hQ : MQ below (va_Qi (fun (r : Int32) (_ : Unit) => r = pFore S0 G0 z0) (fun u t => va_P (dC, dI) vwCl ((fun (_ : Unit) => [(hT, .inr (0, [.int bd, .int sb, .int nd, .ref aS, .ref aC, .ref aG])), (aS, .inl (cI, 5, .inl S0)), (aC, .inl (cI, 5, .inl Cr)), (aG, .inl (cI, 5, .inl G0))]) u) t.heap) A) args s 0 0 A = Q
  have F9 : CallFix p m c cX0_foreseenColourOf 3 s args wsX0_foreseenColourOf RX0 := ⟨hx, hb, hml, hown, hts⟩
  refine z_entry (R := rmX0_foreseenColourOf) ha (Nat.le_of_ble_eq_true rfl) (fun ls hl => ?_)
  have hl : lv_has ls 3 [(0, .ref hT), (1, .int z0)] := hl
  refine lv_iload_n hx hb dX0_foreseenColourOf_0 rfl (lv_at hl 1 rfl) ?_
  refine lv_aload_n hx hb dX0_foreseenColourOf_1 rfl (lv_at hl 0 rfl) ?_
  refine va_get (D := (dC, dI)) (ci := 0) (v := .ref aG) (C := RX0) (T := TX0) (N := 6) hx hb hts iX0_foreseenColourOf_X0 hown hK hP 0 rfl rfl 5 (by decide) (hts (.fieldLink RX0 22 "ColourTide$Tide" "gains" "[I") (List.mem_of_getElem? (i := 1) rfl)) (fun _ h9 => h9) rfl dX0_foreseenColourOf_2 ?_
  refine z_callSWi (As := [.int z0, .ref aG]) (rest := []) F9 (m_X0_firstColourWith l dC dI cI cZ cJ cD aG G0 z0 ) (va_cwS 2 hts gX0_foreseenColourOf_X0_firstColourWith rfl rfl rfl (by decide +kernel) ⟨Nat.le_of_ble_eq_true rfl, Nat.le_of_ble_eq_true rfl⟩) hK hN hP hD hS hA [3] rfl rfl (fun _ => rfl) rfl hl.1 rfl (Nat.le_of_ble_eq_true rfl) dX0_foreseenColourOf_5 ⟨Nat.zero_le _, Nat.zero_le _⟩ (fun r_1 u H locs hp_5 hP hD hS => ?_)
  have hP : va_P (dC, dI) vwCl [(hT, .inr (0, [.int bd, .int sb, .int nd, .ref aS, .ref aC, .ref aG])), (aS, .inl (cI, 5, .inl S0)), (aC, .inl (cI, 5, .inl Cr)), (aG, .inl (cI, 5, .inl G0))] H := hP
  have hD : va_D A [(hT, .inr (0, [.int bd, .int sb, .int nd, .ref aS, .ref aC, .ref aG])), (aS, .inl (cI, 5, .inl S0)), (aC, .inl (cI, 5, .inl Cr)), (aG, .inl (cI, 5, .inl G0))] := hD
  have hp_5 : r_1 = pFirst G0 z0 := hp_5
  refine z_topi (y := pFirst G0 z0) hp_5 ?_
  refine lv_istore_n (lv' := [(2, .int (pFirst G0 z0)), (0, .ref hT), (1, .int z0)]) hx hb dX0_foreseenColourOf_8 rfl hl (by decide) rfl (fun ls hl => ?_)
  refine lv_iload_n hx hb dX0_foreseenColourOf_9 rfl (lv_at hl 0 rfl) ?_
  refine lv_if_ne (tgt := 21) hx hb dX0_foreseenColourOf_10 (by decide) (fun c_10 => ?_) (fun c_10 => ?_)
  · skip
    refine lv_iload_n hx hb dX0_foreseenColourOf_21 rfl (lv_at hl 0 rfl) ?_
    rw [← hQ]
    exact z_iret (W1 := (fun (_ : Unit) => [(hT, .inr (0, [.int bd, .int sb, .int nd, .ref aS, .ref aC, .ref aG])), (aS, .inl (cI, 5, .inl S0)), (aC, .inl (cI, 5, .inl Cr)), (aG, .inl (cI, 5, .inl G0))])) hx hb hr hlocks hP hS () (rfl) (by unfold pFore; simp [c_10]) dX0_foreseenColourOf_22
  · skip
    refine lv_aload_n hx hb dX0_foreseenColourOf_13 rfl (lv_at hl 1 rfl) ?_
    refine lv_iload_n hx hb dX0_foreseenColourOf_14 rfl (lv_at hl 2 rfl) ?_
    refine z_callVi (As := [.int z0]) (rest := []) F9 (m_X0_colourOf l dC dI cI cZ cJ cD hT aS aC aG bd sb nd S0 Cr G0 z0 ) (cwV 1 hts gX0_foreseenColourOf_X0_colourOf rfl rfl rfl (by decide +kernel) ⟨Nat.le_of_ble_eq_true rfl, Nat.le_of_ble_eq_true rfl⟩) hK hN hP hD hS hA [0, 1, 2, 3] rfl rfl (fun _ => rfl) 0 (ci := 0) rfl rfl rfl rfl hl.1 rfl (Nat.le_of_ble_eq_true rfl) dX0_foreseenColourOf_15 ⟨Nat.zero_le _, Nat.zero_le _⟩ (fun r_2 u H locs hp_15 hP hD hS => ?_)
    have hP : va_P (dC, dI) vwCl [(hT, .inr (0, [.int bd, .int sb, .int nd, .ref aS, .ref aC, .ref aG])), (aS, .inl (cI, 5, .inl S0)), (aC, .inl (cI, 5, .inl Cr)), (aG, .inl (cI, 5, .inl G0))] H := hP
    have hD : va_D A [(hT, .inr (0, [.int bd, .int sb, .int nd, .ref aS, .ref aC, .ref aG])), (aS, .inl (cI, 5, .inl S0)), (aC, .inl (cI, 5, .inl Cr)), (aG, .inl (cI, 5, .inl G0))] := hD
    have hp_15 : r_2 = pFirst S0 z0 := hp_15
    refine z_topi (y := pFirst S0 z0) hp_15 ?_
    refine lv_goto (tgt := 22) hx hb dX0_foreseenColourOf_18 (by decide) ?_
    rw [← hQ]
    exact z_iret (W1 := (fun (_ : Unit) => [(hT, .inr (0, [.int bd, .int sb, .int nd, .ref aS, .ref aC, .ref aG])), (aS, .inl (cI, 5, .inl S0)), (aC, .inl (cI, 5, .inl Cr)), (aG, .inl (cI, 5, .inl G0))])) hx hb hr hlocks hP hS () (rfl) (by unfold pFore; simp [c_10]) dX0_foreseenColourOf_22
abbrev rmX0_surge : Room := { frames := 3, cells := 0, slots := 0, locals := 71 }
set_option maxRecDepth 20000 in
theorem iX0_surge_X0 : ∀ w ∈ wsX00, w ∈ wsX0_surge := fun w h => (goodIn_r (big := wsX0_surge) wsX00 [23, 24, 25, 26, 27, 28] (by decide +kernel) (by decide +kernel) w h).1
set_option maxHeartbeats 4000000 in
set_option maxRecDepth 100000 in
theorem m_X0_surge (l : Launch) (dC : Nat → ClassId) (dI : Nat → Nat → Nat) (cI cZ cJ cD : ClassId) (hT : Nat) (aS : Nat) (aC : Nat) (aG : Nat) (bd : Int32) (sb : Int32) (nd : Int32) (S0 : Nat → Int32) (Cr : Nat → Int32) (G0 : Nat → Int32) (q0 : Nat) (nw : Nat) (hq : 1 ≤ q0 ∧ q0 ≤ 4) (hnd : nd = nI q0) (hnw : nw < 1000) : zI l (dC, dI) (wT cI cZ cJ cD) yX0_surge wsX0_surge rmX0_surge [(hT, .inr (0, [.int bd, .int sb, .int nd, .ref aS, .ref aC, .ref aG])), (aS, .inl (cI, 5, .inl S0)), (aC, .inl (cI, 5, .inl Cr)), (aG, .inl (cI, 5, .inl G0))] [.ref hT, .int (nI nw)] (fun (u : (Nat → Int32) × (Nat → Int32)) => [(hT, .inr (0, [.int bd, .int sb, .int nd, .ref aS, .ref aC, .ref aG])), (aS, .inl (cI, 5, .inl (pIt bd sb q0 S0 nw))), (aC, .inl (cI, 5, .inl u.1)), (aG, .inl (cI, 5, .inl u.2))]) (fun (r : Int32) (u : (Nat → Int32) × (Nat → Int32)) => r = pLast bd sb q0 S0 nw) := by
  intro sz
  refine Met.ofW (cc := cX0_surge) (maxL := 4) (ret := (some .int)) (by decide) rfl ?_
  intro p e s m args below meth c s₁ B hml hv
  obtain ⟨ha, hsz, hP, hK, hD0, hN⟩ := hv
  have hx := B.exec
  have hb := B.bytes
  have hr := B.returns
  have hts := atoms_spec (ws := wsX0_surge) B.pre
  have hown : s.vm.findClass RX0 = some m.cls := findClass_of_methodNamed B.named
  have hlocks := B.notSynchronized
  subst hsz
  have hD := hD0.self (sz := s.heap.size)
  generalize hAe : va_A [(hT, .inr (0, [.int bd, .int sb, .int nd, .ref aS, .ref aC, .ref aG])), (aS, .inl (cI, 5, .inl S0)), (aC, .inl (cI, 5, .inl Cr)), (aG, .inl (cI, 5, .inl G0))] s.heap.size = A at hD ⊢
  have hA : ∀ q : Nat, s.heap.size ≤ q → A q := fun q h => by rw [← hAe]; exact Or.inr h
  have hS : va_S A s.heap s.heap [] := va_S.rf
  generalize hQ : MQ below (va_Qi (fun (r : Int32) (u : (Nat → Int32) × (Nat → Int32)) => r = pLast bd sb q0 S0 nw) (fun u t => va_P (dC, dI) vwCl ((fun (u : (Nat → Int32) × (Nat → Int32)) => [(hT, .inr (0, [.int bd, .int sb, .int nd, .ref aS, .ref aC, .ref aG])), (aS, .inl (cI, 5, .inl (pIt bd sb q0 S0 nw))), (aC, .inl (cI, 5, .inl u.1)), (aG, .inl (cI, 5, .inl u.2))]) u) t.heap) A) args s 0 0 A = Q
  have F9 : CallFix p m c cX0_surge 4 s args wsX0_surge RX0 := ⟨hx, hb, hml, hown, hts⟩
  refine z_entry (R := rmX0_surge) ha (Nat.le_of_ble_eq_true rfl) (fun ls hl => ?_)
  have hl : lv_has ls 4 [(0, .ref hT), (1, .int (nI nw))] := hl
  refine lv_iconst (v := 0) hx hb dX0_surge_0 (by decide) ?_
  refine lv_istore_n (lv' := [(2, .int 0), (0, .ref hT), (1, .int (nI nw))]) hx hb dX0_surge_1 rfl hl (by decide) rfl (fun ls hl => ?_)
  refine lv_iconst (v := 0) hx hb dX0_surge_2 (by decide) ?_
  refine lv_istore_n (lv' := [(3, .int 0), (2, .int 0), (0, .ref hT), (1, .int (nI nw))]) hx hb dX0_surge_3 rfl hl (by decide) rfl (fun ls hl => ?_)
  have loop_4 : ∀ (n : Nat) (k : Nat) (Crk : Nat → Int32) (Gk : Nat → Int32) (hkn : k + n = nw) (H : Heap) (locs : List Loc) (ls : Array Slot) (hP : va_P (dC, dI) vwCl [(hT, .inr (0, [.int bd, .int sb, .int nd, .ref aS, .ref aC, .ref aG])), (aS, .inl (cI, 5, .inl (pIt bd sb q0 S0 k))), (aC, .inl (cI, 5, .inl Crk)), (aG, .inl (cI, 5, .inl Gk))] H) (hD : va_D A [(hT, .inr (0, [.int bd, .int sb, .int nd, .ref aS, .ref aC, .ref aG])), (aS, .inl (cI, 5, .inl (pIt bd sb q0 S0 k))), (aC, .inl (cI, 5, .inl Crk)), (aG, .inl (cI, 5, .inl Gk))]) (hS : va_S A s.heap H locs) (hl : lv_has ls 4 [(0, .ref hT), (1, .int (nI nw)), (2, .int (pLast bd sb q0 S0 k)), (3, .int (nI k))]), W p l e rmX0_surge s m args below meth c H locs 0 0 Q (F0 m 4 ls []) := by
    intro n
    induction n with
    | zero =>
      intro k Crk Gk hkn  H locs ls hP hD hS hl
      refine lv_iload_n hx hb dX0_surge_4 rfl (lv_at hl 3 rfl) ?_
      refine lv_iload_n hx hb dX0_surge_5 rfl (lv_at hl 1 rfl) ?_
      refine lv_icmp_ge (tgt := 31) hx hb dX0_surge_6 (by decide) (fun c_6 => ?_) (fun c_6 => ?_)
      · skip
        have n_6 := zc_le_t (a := nw) (b := k) (by omega) (by omega) c_6
        refine lv_iload_n hx hb dX0_surge_31 rfl (lv_at hl 2 rfl) ?_
        have hl9 := hl
        have hP9 := hP
        have hD9 := hD
        have hS9 := hS
        obtain rfl : nw = k := by omega
        have hl := hl9
        have hP := hP9
        have hD := hD9
        have hS := hS9
        rw [← hQ]
        exact z_iret (W1 := (fun (u : (Nat → Int32) × (Nat → Int32)) => [(hT, .inr (0, [.int bd, .int sb, .int nd, .ref aS, .ref aC, .ref aG])), (aS, .inl (cI, 5, .inl (pIt bd sb q0 S0 nw))), (aC, .inl (cI, 5, .inl u.1)), (aG, .inl (cI, 5, .inl u.2))])) hx hb hr hlocks hP hS (Crk, Gk) (rfl) (rfl) dX0_surge_32
      · skip
        have n_6 := zc_le_f (a := nw) (b := k) (by omega) (by omega) c_6
        exact absurd n_6 (by omega)
    | succ n ih_4 =>
      intro k Crk Gk hkn  H locs ls hP hD hS hl
      refine lv_iload_n hx hb dX0_surge_4 rfl (lv_at hl 3 rfl) ?_
      refine lv_iload_n hx hb dX0_surge_5 rfl (lv_at hl 1 rfl) ?_
      refine lv_icmp_ge (tgt := 31) hx hb dX0_surge_6 (by decide) (fun c_6 => ?_) (fun c_6 => ?_)
      · skip
        have n_6 := zc_le_t (a := nw) (b := k) (by omega) (by omega) c_6
        exact absurd n_6 (by omega)
      · skip
        have n_6 := zc_le_f (a := nw) (b := k) (by omega) (by omega) c_6
        refine lv_aload_n hx hb dX0_surge_9 rfl (lv_at hl 0 rfl) ?_
        refine z_callVi (As := []) (rest := []) F9 (m_X0_foresee l dC dI cI cZ cJ cD hT aS aC aG bd sb nd (pIt bd sb q0 S0 k) Crk Gk q0 (hq) (hnd)) (cwV 0 hts gX0_surge_X0_foresee rfl rfl rfl (by decide +kernel) ⟨Nat.le_of_ble_eq_true rfl, Nat.le_of_ble_eq_true rfl⟩) hK hN hP hD hS hA [0, 1, 2, 3] rfl rfl (fun _ => rfl) 0 (ci := 0) rfl rfl rfl rfl hl.1 rfl (Nat.le_of_ble_eq_true rfl) dX0_surge_10 ⟨Nat.zero_le _, Nat.zero_le _⟩ (fun r_1 u H locs hp_10 hP hD hS => ?_)
        have hP : va_P (dC, dI) vwCl [(hT, .inr (0, [.int bd, .int sb, .int nd, .ref aS, .ref aC, .ref aG])), (aS, .inl (cI, 5, .inl (pIt bd sb q0 S0 k))), (aC, .inl (cI, 5, .inl (pCs (pIt bd sb q0 S0 k) q0 Crk (5 - q0)))), (aG, .inl (cI, 5, .inl (pGf (pIt bd sb q0 S0 k) bd sb q0 Gk)))] H := hP
        have hD : va_D A [(hT, .inr (0, [.int bd, .int sb, .int nd, .ref aS, .ref aC, .ref aG])), (aS, .inl (cI, 5, .inl (pIt bd sb q0 S0 k))), (aC, .inl (cI, 5, .inl (pCs (pIt bd sb q0 S0 k) q0 Crk (5 - q0)))), (aG, .inl (cI, 5, .inl (pGf (pIt bd sb q0 S0 k) bd sb q0 Gk)))] := hD
        have hp_10 : r_1 = pC0 (pIt bd sb q0 S0 k) bd sb q0 := hp_10
        refine z_topi (y := pC0 (pIt bd sb q0 S0 k) bd sb q0) hp_10 ?_
        refine z_topi (y := pLast bd sb q0 S0 (k + 1)) (rfl) ?_
        refine lv_istore_n (lv' := [(2, .int (pLast bd sb q0 S0 (k + 1))), (0, .ref hT), (1, .int (nI nw)), (3, .int (nI k))]) hx hb dX0_surge_13 rfl hl (by decide) rfl (fun ls hl => ?_)
        refine lv_iload_n hx hb dX0_surge_14 rfl (lv_at hl 0 rfl) ?_
        refine lv_if_ne (tgt := 20) hx hb dX0_surge_15 (by decide) (fun c_15 => ?_) (fun c_15 => ?_)
        · skip
          refine lv_aload_n hx hb dX0_surge_20 rfl (lv_at hl 1 rfl) ?_
          refine lv_iload_n hx hb dX0_surge_21 rfl (lv_at hl 0 rfl) ?_
          refine z_callVv (As := [.int (pLast bd sb q0 S0 (k + 1))]) (rest := []) F9 (m_X0_takeGains l dC dI cI cZ cJ cD hT aS aC aG bd sb nd (pIt bd sb q0 S0 k) (pCs (pIt bd sb q0 S0 k) q0 Crk (5 - q0)) (pGf (pIt bd sb q0 S0 k) bd sb q0 Gk) (pLast bd sb q0 S0 (k + 1)) ) (cwV 1 hts gX0_surge_X0_takeGains rfl rfl rfl (by decide +kernel) ⟨Nat.le_of_ble_eq_true rfl, Nat.le_of_ble_eq_true rfl⟩) hK hN hP hD hS hA [0, 1, 2, 3] rfl rfl (fun _ => rfl) 0 (ci := 0) rfl rfl rfl rfl hl.1 rfl (Nat.le_of_ble_eq_true rfl) dX0_surge_22 ⟨Nat.zero_le _, Nat.zero_le _⟩ (fun u H locs hp_22 hP hD hS => ?_)
          have hP : va_P (dC, dI) vwCl [(hT, .inr (0, [.int bd, .int sb, .int nd, .ref aS, .ref aC, .ref aG])), (aS, .inl (cI, 5, .inl (pTake (pIt bd sb q0 S0 k) (pGf (pIt bd sb q0 S0 k) bd sb q0 Gk) (pLast bd sb q0 S0 (k + 1))))), (aC, .inl (cI, 5, .inl (pCs (pIt bd sb q0 S0 k) q0 Crk (5 - q0)))), (aG, .inl (cI, 5, .inl (pGf (pIt bd sb q0 S0 k) bd sb q0 Gk)))] H := hP
          have hD : va_D A [(hT, .inr (0, [.int bd, .int sb, .int nd, .ref aS, .ref aC, .ref aG])), (aS, .inl (cI, 5, .inl (pTake (pIt bd sb q0 S0 k) (pGf (pIt bd sb q0 S0 k) bd sb q0 Gk) (pLast bd sb q0 S0 (k + 1))))), (aC, .inl (cI, 5, .inl (pCs (pIt bd sb q0 S0 k) q0 Crk (5 - q0)))), (aG, .inl (cI, 5, .inl (pGf (pIt bd sb q0 S0 k) bd sb q0 Gk)))] := hD
          have e_22 : pTake (pIt bd sb q0 S0 k) (pGf (pIt bd sb q0 S0 k) bd sb q0 Gk) (pLast bd sb q0 S0 (k + 1)) = pIt bd sb q0 S0 (k + 1) := by rw [pIt, if_neg (show ¬ pC0 (pIt bd sb q0 S0 k) bd sb q0 = 0 from c_15)]; exact pTake_in _ _ (fun j hj => pGf_in _ _ _ _ _ hj)
          rw [e_22] at hP hD
          refine lv_iinc (v := nI (k + 1)) (lv' := [(3, .int (nI (k + 1))), (2, .int (pLast bd sb q0 S0 (k + 1))), (0, .ref hT), (1, .int (nI nw))]) hx hb dX0_surge_25 hl (k := 3) rfl (nI_1 k) (by decide) rfl (fun ls hl => ?_)
          refine lv_goto (tgt := 4) hx hb dX0_surge_28 (by decide) ?_
          exact ih_4 (k + 1) (pCs (pIt bd sb q0 S0 k) q0 Crk (5 - q0)) (pGf (pIt bd sb q0 S0 k) bd sb q0 Gk) (by omega)  _ _ _ hP hD hS (lv_sub hl [2, 3, 1, 0] rfl)
        · skip
          refine lv_iconst (v := 0) hx hb dX0_surge_18 (by decide) ?_
          rw [← hQ]
          exact z_iret (W1 := (fun (u : (Nat → Int32) × (Nat → Int32)) => [(hT, .inr (0, [.int bd, .int sb, .int nd, .ref aS, .ref aC, .ref aG])), (aS, .inl (cI, 5, .inl (pIt bd sb q0 S0 nw))), (aC, .inl (cI, 5, .inl u.1)), (aG, .inl (cI, 5, .inl u.2))])) hx hb hr hlocks hP hS (pCs (pIt bd sb q0 S0 k) q0 Crk (5 - q0), pGf (pIt bd sb q0 S0 k) bd sb q0 Gk) (by rw [← (pIt_end (k := k) (N := nw) c_15 (by omega)).1]) ((pIt_end (k := k) (N := nw) c_15 (by omega)).2) dX0_surge_19
  exact loop_4 nw 0 Cr G0 (by omega)  _ _ _ hP hD hS (lv_sub hl [2, 3, 1, 0] rfl)
abbrev rmX0_clear : Room := { frames := 1, cells := 0, slots := 0, locals := 21 }
set_option maxRecDepth 20000 in
theorem iX0_clear_X0 : ∀ w ∈ wsX00, w ∈ wsX0_clear := fun w h => (goodIn_r (big := wsX0_clear) wsX00 [7, 8, 9, 10, 11, 12] (by decide +kernel) (by decide +kernel) w h).1
set_option maxHeartbeats 4000000 in
set_option maxRecDepth 100000 in
theorem m_X0_clear (l : Launch) (dC : Nat → ClassId) (dI : Nat → Nat → Nat) (cI cZ cJ cD : ClassId) (hT : Nat) (aS : Nat) (aC : Nat) (aG : Nat) (bd : Int32) (sb : Int32) (nd : Int32) (S0 : Nat → Int32) (Cr : Nat → Int32) (G0 : Nat → Int32) (wn : Nat) (hn : Nat) (hw : wn ≤ 5) (hh : hn ≤ 5) : zV l (dC, dI) (wT cI cZ cJ cD) yX0_clear wsX0_clear rmX0_clear [(hT, .inr (0, [.int bd, .int sb, .int nd, .ref aS, .ref aC, .ref aG])), (aS, .inl (cI, 5, .inl S0)), (aC, .inl (cI, 5, .inl Cr)), (aG, .inl (cI, 5, .inl G0))] [.ref hT, .int (nI wn), .int (nI hn)] (fun (_ : Unit) => [(hT, .inr (0, [.int (pBrd wn hn), .int 0, .int nd, .ref aS, .ref aC, .ref aG])), (aS, .inl (cI, 5, .inl (zfill (pClrF (pBrd wn hn)) S0 5))), (aC, .inl (cI, 5, .inl Cr)), (aG, .inl (cI, 5, .inl G0))]) (fun (_ : Unit) => True) := by
  intro sz
  refine Met.ofW (cc := cX0_clear) (maxL := 5) (ret := none) (by decide) rfl ?_
  intro p e s m args below meth c s₁ B hml hv
  obtain ⟨ha, hsz, hP, hK, hD0, hN⟩ := hv
  have hx := B.exec
  have hb := B.bytes
  have hr := B.returns
  have hts := atoms_spec (ws := wsX0_clear) B.pre
  have hown : s.vm.findClass RX0 = some m.cls := findClass_of_methodNamed B.named
  have hlocks := B.notSynchronized
  subst hsz
  have hD := hD0.self (sz := s.heap.size)
  generalize hAe : va_A [(hT, .inr (0, [.int bd, .int sb, .int nd, .ref aS, .ref aC, .ref aG])), (aS, .inl (cI, 5, .inl S0)), (aC, .inl (cI, 5, .inl Cr)), (aG, .inl (cI, 5, .inl G0))] s.heap.size = A at hD ⊢
  have hA : ∀ q : Nat, s.heap.size ≤ q → A q := fun q h => by rw [← hAe]; exact Or.inr h
  have hS : va_S A s.heap s.heap [] := va_S.rf
  generalize hQ : MQ below (va_Qv (fun (_ : Unit) => True) (fun u t => va_P (dC, dI) vwCl ((fun (_ : Unit) => [(hT, .inr (0, [.int (pBrd wn hn), .int 0, .int nd, .ref aS, .ref aC, .ref aG])), (aS, .inl (cI, 5, .inl (zfill (pClrF (pBrd wn hn)) S0 5))), (aC, .inl (cI, 5, .inl Cr)), (aG, .inl (cI, 5, .inl G0))]) u) t.heap) A) args s 0 0 A = Q
  have F9 : CallFix p m c cX0_clear 5 s args wsX0_clear RX0 := ⟨hx, hb, hml, hown, hts⟩
  refine z_entry (R := rmX0_clear) ha (Nat.le_of_ble_eq_true rfl) (fun ls hl => ?_)
  have hl : lv_has ls 5 [(0, .ref hT), (1, .int (nI wn)), (2, .int (nI hn))] := hl
  refine lv_aload_n hx hb dX0_clear_0 rfl (lv_at hl 0 rfl) ?_
  refine lv_iconst (v := 0) hx hb dX0_clear_1 (by decide) ?_
  refine va_put (D := (dC, dI)) (ci := 0) (v := .int 0) (ty := .int) (C := RX0) (T := TX0) (N := 6) hx hb hts iX0_clear_X0 tyX0 tyX0_ok nmX0 hown hK hP hD hS 0 rfl rfl 0 (by decide) (hts (.fieldLink RX0 25 "ColourTide$Tide" "board" "I") (List.mem_of_getElem? (i := 1) rfl)) (fun _ h9 => h9) rfl (by decide +kernel) rfl rfl (Nat.le_of_ble_eq_true rfl) dX0_clear_2 (fun H locs hP hD hS => ?_)
  have hP : va_P (dC, dI) vwCl [(hT, .inr (0, [.int 0, .int sb, .int nd, .ref aS, .ref aC, .ref aG])), (aS, .inl (cI, 5, .inl S0)), (aC, .inl (cI, 5, .inl Cr)), (aG, .inl (cI, 5, .inl G0))] H := hP
  have hD : va_D A [(hT, .inr (0, [.int 0, .int sb, .int nd, .ref aS, .ref aC, .ref aG])), (aS, .inl (cI, 5, .inl S0)), (aC, .inl (cI, 5, .inl Cr)), (aG, .inl (cI, 5, .inl G0))] := hD
  refine lv_iconst (v := 0) hx hb dX0_clear_5 (by decide) ?_
  refine lv_istore_n (lv' := [(3, .int 0), (0, .ref hT), (1, .int (nI wn)), (2, .int (nI hn))]) hx hb dX0_clear_6 rfl hl (by decide) rfl (fun ls hl => ?_)
  have loop_7 : ∀ (n : Nat) (y : Nat) (hkn : y + n = hn) (H : Heap) (locs : List Loc) (ls : Array Slot) (hP : va_P (dC, dI) vwCl [(hT, .inr (0, [.int (pBrd wn y), .int sb, .int nd, .ref aS, .ref aC, .ref aG])), (aS, .inl (cI, 5, .inl S0)), (aC, .inl (cI, 5, .inl Cr)), (aG, .inl (cI, 5, .inl G0))] H) (hD : va_D A [(hT, .inr (0, [.int (pBrd wn y), .int sb, .int nd, .ref aS, .ref aC, .ref aG])), (aS, .inl (cI, 5, .inl S0)), (aC, .inl (cI, 5, .inl Cr)), (aG, .inl (cI, 5, .inl G0))]) (hS : va_S A s.heap H locs) (hl : lv_has ls 5 [(0, .ref hT), (1, .int (nI wn)), (2, .int (nI hn)), (3, .int (nI y))]), W p l e rmX0_clear s m args below meth c H locs 0 0 Q (F0 m 7 ls []) := by
    intro n
    induction n with
    | zero =>
      intro y hkn  H locs ls hP hD hS hl
      refine lv_iload_n hx hb dX0_clear_7 rfl (lv_at hl 3 rfl) ?_
      refine lv_iload_n hx hb dX0_clear_8 rfl (lv_at hl 2 rfl) ?_
      refine lv_icmp_ge (tgt := 48) hx hb dX0_clear_9 (by decide) (fun c_9 => ?_) (fun c_9 => ?_)
      · skip
        have n_9 := zc_le_t (a := hn) (b := y) (by omega) (by omega) c_9
        refine lv_aload_n hx hb dX0_clear_48 rfl (lv_at hl 0 rfl) ?_
        refine lv_iconst (v := 0) hx hb dX0_clear_49 (by decide) ?_
        refine va_put (D := (dC, dI)) (ci := 0) (v := .int 0) (ty := .int) (C := RX0) (T := TX0) (N := 6) hx hb hts iX0_clear_X0 tyX0 tyX0_ok nmX0 hown hK hP hD hS 0 rfl rfl 1 (by decide) (hts (.fieldLink RX0 32 "ColourTide$Tide" "stubborn" "I") (List.mem_of_getElem? (i := 2) rfl)) (fun _ h9 => h9) rfl (by decide +kernel) rfl rfl (Nat.le_of_ble_eq_true rfl) dX0_clear_50 (fun H locs hP hD hS => ?_)
        have hP : va_P (dC, dI) vwCl [(hT, .inr (0, [.int (pBrd wn y), .int 0, .int nd, .ref aS, .ref aC, .ref aG])), (aS, .inl (cI, 5, .inl S0)), (aC, .inl (cI, 5, .inl Cr)), (aG, .inl (cI, 5, .inl G0))] H := hP
        have hD : va_D A [(hT, .inr (0, [.int (pBrd wn y), .int 0, .int nd, .ref aS, .ref aC, .ref aG])), (aS, .inl (cI, 5, .inl S0)), (aC, .inl (cI, 5, .inl Cr)), (aG, .inl (cI, 5, .inl G0))] := hD
        refine lv_iconst (v := 0) hx hb dX0_clear_53 (by decide) ?_
        refine lv_istore_n (lv' := [(3, .int 0), (0, .ref hT), (1, .int (nI wn)), (2, .int (nI hn))]) hx hb dX0_clear_54 rfl hl (by decide) rfl (fun ls hl => ?_)
        have loop_55 : ∀ (n : Nat) (k : Nat) (hkn : k + n = 5) (H : Heap) (locs : List Loc) (ls : Array Slot) (hP : va_P (dC, dI) vwCl [(hT, .inr (0, [.int (pBrd wn hn), .int 0, .int nd, .ref aS, .ref aC, .ref aG])), (aS, .inl (cI, 5, .inl (zfill (pClrF (pBrd wn hn)) S0 k))), (aC, .inl (cI, 5, .inl Cr)), (aG, .inl (cI, 5, .inl G0))] H) (hD : va_D A [(hT, .inr (0, [.int (pBrd wn hn), .int 0, .int nd, .ref aS, .ref aC, .ref aG])), (aS, .inl (cI, 5, .inl (zfill (pClrF (pBrd wn hn)) S0 k))), (aC, .inl (cI, 5, .inl Cr)), (aG, .inl (cI, 5, .inl G0))]) (hS : va_S A s.heap H locs) (hl : lv_has ls 5 [(0, .ref hT), (3, .int (nI k))]), W p l e rmX0_clear s m args below meth c H locs 0 0 Q (F0 m 55 ls []) := by
          intro n
          induction n with
          | zero =>
            intro k hkn  H locs ls hP hD hS hl
            refine lv_iload_n hx hb dX0_clear_55 rfl (lv_at hl 1 rfl) ?_
            refine lv_iconst (v := 5) hx hb dX0_clear_56 (by decide) ?_
            refine lv_icmp_ge (tgt := 84) hx hb dX0_clear_57 (by decide) (fun c_57 => ?_) (fun c_57 => ?_)
            · skip
              have n_57 := zc_le_t (a := 5) (b := k) (by omega) (by omega) c_57
              have hl9 := hl
              have hP9 := hP
              have hD9 := hD
              have hS9 := hS
              obtain rfl : k = 5 := by omega
              have hl := hl9
              have hP := hP9
              have hD := hD9
              have hS := hS9
              rw [← hQ]
              exact z_vret (W1 := (fun (_ : Unit) => [(hT, .inr (0, [.int (pBrd wn hn), .int 0, .int nd, .ref aS, .ref aC, .ref aG])), (aS, .inl (cI, 5, .inl (zfill (pClrF (pBrd wn hn)) S0 5))), (aC, .inl (cI, 5, .inl Cr)), (aG, .inl (cI, 5, .inl G0))])) hx hb hr hlocks hP hS () (rfl) (trivial) dX0_clear_84
            · skip
              have n_57 := zc_le_f (a := 5) (b := k) (by omega) (by omega) c_57
              exact absurd n_57 (by omega)
          | succ n ih_55 =>
            intro k hkn  H locs ls hP hD hS hl
            refine lv_iload_n hx hb dX0_clear_55 rfl (lv_at hl 1 rfl) ?_
            refine lv_iconst (v := 5) hx hb dX0_clear_56 (by decide) ?_
            refine lv_icmp_ge (tgt := 84) hx hb dX0_clear_57 (by decide) (fun c_57 => ?_) (fun c_57 => ?_)
            · skip
              have n_57 := zc_le_t (a := 5) (b := k) (by omega) (by omega) c_57
              exact absurd n_57 (by omega)
            · skip
              have n_57 := zc_le_f (a := 5) (b := k) (by omega) (by omega) c_57
              refine lv_aload_n hx hb dX0_clear_60 rfl (lv_at hl 0 rfl) ?_
              refine va_get (D := (dC, dI)) (ci := 0) (v := .ref aS) (C := RX0) (T := TX0) (N := 6) hx hb hts iX0_clear_X0 hown hK hP 0 rfl rfl 3 (by decide) (hts (.fieldLink RX0 15 "ColourTide$Tide" "sets" "[I") (List.mem_of_getElem? (i := 3) rfl)) (fun _ h9 => h9) rfl dX0_clear_61 ?_
              refine lv_iload_n hx hb dX0_clear_64 rfl (lv_at hl 1 rfl) ?_
              refine lv_iload_n hx hb dX0_clear_65 rfl (lv_at hl 1 rfl) ?_
              suffices j_77 : ∀ v_77 : Int32, v_77 = (if nI k = 0 then pBrd wn hn else 0) → W p l e rmX0_clear s m args below meth c H locs 0 0 Q (F0 m 77 ls [.int v_77, .int (nI k), .ref aS]) by
                refine lv_if_ne (tgt := 76) hx hb dX0_clear_66 (by decide) (fun c_66 => ?_) (fun c_66 => ?_)
                · skip
                  have n_66 := zc_eq_f (a := k) (b := 0) (by omega) (by omega) c_66
                  refine lv_iconst (v := 0) hx hb dX0_clear_76 (by decide) ?_
                  exact j_77 _ (by rw [if_neg c_66])
                · skip
                  have n_66 := zc_eq_t (a := k) (b := 0) (by omega) (by omega) c_66
                  refine lv_aload_n hx hb dX0_clear_69 rfl (lv_at hl 0 rfl) ?_
                  refine va_get (D := (dC, dI)) (ci := 0) (v := .int (pBrd wn hn)) (C := RX0) (T := TX0) (N := 6) hx hb hts iX0_clear_X0 hown hK hP 0 rfl rfl 0 (by decide) (hts (.fieldLink RX0 25 "ColourTide$Tide" "board" "I") (List.mem_of_getElem? (i := 1) rfl)) (fun _ h9 => h9) rfl dX0_clear_70 ?_
                  refine lv_goto (tgt := 77) hx hb dX0_clear_73 (by decide) ?_
                  exact j_77 _ (by rw [if_pos c_66])
              intro v_77 h_v_77
              refine z_iast hx hb hK hP hD hS 1 0 rfl rfl k (rfl) (by omega) (by decide) dX0_clear_77 (fun H locs hP hD hS => ?_)
              have hP : va_P (dC, dI) vwCl [(hT, .inr (0, [.int (pBrd wn hn), .int 0, .int nd, .ref aS, .ref aC, .ref aG])), (aS, .inl (cI, 5, .inl (upd (zfill (pClrF (pBrd wn hn)) S0 k) k v_77))), (aC, .inl (cI, 5, .inl Cr)), (aG, .inl (cI, 5, .inl G0))] H := hP
              have hD : va_D A [(hT, .inr (0, [.int (pBrd wn hn), .int 0, .int nd, .ref aS, .ref aC, .ref aG])), (aS, .inl (cI, 5, .inl (upd (zfill (pClrF (pBrd wn hn)) S0 k) k v_77))), (aC, .inl (cI, 5, .inl Cr)), (aG, .inl (cI, 5, .inl G0))] := hD
              have e_77 : upd (zfill (pClrF (pBrd wn hn)) S0 k) k v_77 = zfill (pClrF (pBrd wn hn)) S0 (k + 1) := by rw [h_v_77]; exact zfill_succ _ _ _
              rw [e_77] at hP hD
              refine lv_iinc (v := nI (k + 1)) (lv' := [(3, .int (nI (k + 1))), (0, .ref hT)]) hx hb dX0_clear_78 hl (k := 1) rfl (nI_1 k) (by decide) rfl (fun ls hl => ?_)
              refine lv_goto (tgt := 55) hx hb dX0_clear_81 (by decide) ?_
              exact ih_55 (k + 1) (by omega)  _ _ _ hP hD hS (lv_sub hl [1, 0] rfl)
        have hl9 := hl
        have hP9 := hP
        have hD9 := hD
        have hS9 := hS
        obtain rfl : hn = y := by omega
        have hl := hl9
        have hP := hP9
        have hD := hD9
        have hS := hS9
        rw [← zfill_0 (pClrF (pBrd wn hn)) S0] at hP hD
        exact loop_55 5 0 (by omega)  _ _ _ hP hD hS (lv_sub hl [1, 0] rfl)
      · skip
        have n_9 := zc_le_f (a := hn) (b := y) (by omega) (by omega) c_9
        exact absurd n_9 (by omega)
    | succ n ih_7 =>
      intro y hkn  H locs ls hP hD hS hl
      refine lv_iload_n hx hb dX0_clear_7 rfl (lv_at hl 3 rfl) ?_
      refine lv_iload_n hx hb dX0_clear_8 rfl (lv_at hl 2 rfl) ?_
      refine lv_icmp_ge (tgt := 48) hx hb dX0_clear_9 (by decide) (fun c_9 => ?_) (fun c_9 => ?_)
      · skip
        have n_9 := zc_le_t (a := hn) (b := y) (by omega) (by omega) c_9
        exact absurd n_9 (by omega)
      · skip
        have n_9 := zc_le_f (a := hn) (b := y) (by omega) (by omega) c_9
        refine lv_iconst (v := 0) hx hb dX0_clear_12 (by decide) ?_
        refine lv_istore (lv' := [(4, .int 0), (0, .ref hT), (1, .int (nI wn)), (2, .int (nI hn)), (3, .int (nI y))]) hx hb dX0_clear_13 hl (by decide) rfl (fun ls hl => ?_)
        have loop_15 : ∀ (n : Nat) (x : Nat) (hkn : x + n = wn) (H : Heap) (locs : List Loc) (ls : Array Slot) (hP : va_P (dC, dI) vwCl [(hT, .inr (0, [.int (pRow y (pBrd wn y) x), .int sb, .int nd, .ref aS, .ref aC, .ref aG])), (aS, .inl (cI, 5, .inl S0)), (aC, .inl (cI, 5, .inl Cr)), (aG, .inl (cI, 5, .inl G0))] H) (hD : va_D A [(hT, .inr (0, [.int (pRow y (pBrd wn y) x), .int sb, .int nd, .ref aS, .ref aC, .ref aG])), (aS, .inl (cI, 5, .inl S0)), (aC, .inl (cI, 5, .inl Cr)), (aG, .inl (cI, 5, .inl G0))]) (hS : va_S A s.heap H locs) (hl : lv_has ls 5 [(0, .ref hT), (1, .int (nI wn)), (2, .int (nI hn)), (3, .int (nI y)), (4, .int (nI x))]), W p l e rmX0_clear s m args below meth c H locs 0 0 Q (F0 m 15 ls []) := by
          intro n
          induction n with
          | zero =>
            intro x hkn  H locs ls hP hD hS hl
            refine lv_iload hx hb dX0_clear_15 (lv_at hl 4 rfl) ?_
            refine lv_iload_n hx hb dX0_clear_17 rfl (lv_at hl 1 rfl) ?_
            refine lv_icmp_ge (tgt := 42) hx hb dX0_clear_18 (by decide) (fun c_18 => ?_) (fun c_18 => ?_)
            · skip
              have n_18 := zc_le_t (a := wn) (b := x) (by omega) (by omega) c_18
              refine lv_iinc (v := nI (y + 1)) (lv' := [(3, .int (nI (y + 1))), (0, .ref hT), (1, .int (nI wn)), (2, .int (nI hn)), (4, .int (nI x))]) hx hb dX0_clear_42 hl (k := 3) rfl (nI_1 y) (by decide) rfl (fun ls hl => ?_)
              refine lv_goto (tgt := 7) hx hb dX0_clear_45 (by decide) ?_
              have hl9 := hl
              have hP9 := hP
              have hD9 := hD
              have hS9 := hS
              obtain rfl : wn = x := by omega
              have hl := hl9
              have hP := hP9
              have hD := hD9
              have hS := hS9
              exact ih_7 (y + 1) (by omega)  _ _ _ hP hD hS (lv_sub hl [1, 2, 3, 0] rfl)
            · skip
              have n_18 := zc_le_f (a := wn) (b := x) (by omega) (by omega) c_18
              exact absurd n_18 (by omega)
          | succ n ih_15 =>
            intro x hkn  H locs ls hP hD hS hl
            refine lv_iload hx hb dX0_clear_15 (lv_at hl 4 rfl) ?_
            refine lv_iload_n hx hb dX0_clear_17 rfl (lv_at hl 1 rfl) ?_
            refine lv_icmp_ge (tgt := 42) hx hb dX0_clear_18 (by decide) (fun c_18 => ?_) (fun c_18 => ?_)
            · skip
              have n_18 := zc_le_t (a := wn) (b := x) (by omega) (by omega) c_18
              exact absurd n_18 (by omega)
            · skip
              have n_18 := zc_le_f (a := wn) (b := x) (by omega) (by omega) c_18
              refine lv_aload_n hx hb dX0_clear_21 rfl (lv_at hl 0 rfl) ?_
              refine lv_dup hx hb dX0_clear_22 rfl ?_
              refine va_get (D := (dC, dI)) (ci := 0) (v := .int (pRow y (pBrd wn y) x)) (C := RX0) (T := TX0) (N := 6) hx hb hts iX0_clear_X0 hown hK hP 0 rfl rfl 0 (by decide) (hts (.fieldLink RX0 25 "ColourTide$Tide" "board" "I") (List.mem_of_getElem? (i := 1) rfl)) (fun _ h9 => h9) rfl dX0_clear_23 ?_
              refine lv_iload hx hb dX0_clear_26 (lv_at hl 4 rfl) ?_
              refine lv_iload_n hx hb dX0_clear_28 rfl (lv_at hl 3 rfl) ?_
              refine z_callNi (As := [.int (nI x), .int (nI y)]) (rest := [.int (pRow y (pBrd wn y) x), .ref hT]) (host := RX1) F9 (m_X1_cell l dC dI cI cZ cJ cD (nI x) (nI y) ) ⟨va_cnB 2 hts gX0_clear_X1_cell_n28 rfl rfl rfl hN.1 (hts (.initialized RX1) (List.mem_of_getElem? (i := 5) rfl)) (by decide +kernel) ⟨Nat.le_of_ble_eq_true rfl, Nat.le_of_ble_eq_true rfl⟩, (hts (.static yX1_cell) (List.mem_of_getElem? (i := 4) rfl)), trivial⟩ hK hN hP hD hS hA rfl hl.1 rfl (Nat.le_of_ble_eq_true rfl) dX0_clear_29 ⟨Nat.zero_le _, Nat.zero_le _⟩ (fun r_1 H locs hp_29 hP hS => ?_)
              have hp_29 : r_1 = pCell (nI x) (nI y) := hp_29
              refine z_topi (y := pCell (nI x) (nI y)) hp_29 ?_
              refine lv_ior hx hb dX0_clear_32 ?_
              refine va_put (D := (dC, dI)) (ci := 0) (v := .int ((pRow y (pBrd wn y) x) ||| (pCell (nI x) (nI y)))) (ty := .int) (C := RX0) (T := TX0) (N := 6) hx hb hts iX0_clear_X0 tyX0 tyX0_ok nmX0 hown hK hP hD hS 0 rfl rfl 0 (by decide) (hts (.fieldLink RX0 25 "ColourTide$Tide" "board" "I") (List.mem_of_getElem? (i := 1) rfl)) (fun _ h9 => h9) rfl (by decide +kernel) rfl rfl (Nat.le_of_ble_eq_true rfl) dX0_clear_33 (fun H locs hP hD hS => ?_)
              have hP : va_P (dC, dI) vwCl [(hT, .inr (0, [.int ((pRow y (pBrd wn y) x) ||| (pCell (nI x) (nI y))), .int sb, .int nd, .ref aS, .ref aC, .ref aG])), (aS, .inl (cI, 5, .inl S0)), (aC, .inl (cI, 5, .inl Cr)), (aG, .inl (cI, 5, .inl G0))] H := hP
              have hD : va_D A [(hT, .inr (0, [.int ((pRow y (pBrd wn y) x) ||| (pCell (nI x) (nI y))), .int sb, .int nd, .ref aS, .ref aC, .ref aG])), (aS, .inl (cI, 5, .inl S0)), (aC, .inl (cI, 5, .inl Cr)), (aG, .inl (cI, 5, .inl G0))] := hD
              have e_33 : ((pRow y (pBrd wn y) x) ||| (pCell (nI x) (nI y))) = pRow y (pBrd wn y) (x + 1) := rfl
              rw [e_33] at hP hD
              refine lv_iinc (v := nI (x + 1)) (lv' := [(4, .int (nI (x + 1))), (0, .ref hT), (1, .int (nI wn)), (2, .int (nI hn)), (3, .int (nI y))]) hx hb dX0_clear_36 hl (k := 4) rfl (nI_1 x) (by decide) rfl (fun ls hl => ?_)
              refine lv_goto (tgt := 15) hx hb dX0_clear_39 (by decide) ?_
              exact ih_15 (x + 1) (by omega)  _ _ _ hP hD hS (lv_sub hl [1, 2, 3, 4, 0] rfl)
        exact loop_15 wn 0 (by omega)  _ _ _ hP hD hS (lv_sub hl [1, 2, 3, 4, 0] rfl)
  exact loop_7 hn 0 (by omega)  _ _ _ hP hD hS (lv_sub hl [1, 2, 3, 0] rfl)
