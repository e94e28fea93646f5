abbrev rmX1_isOnMap : Room := { frames := 0, cells := 0, slots := 0, locals := 0 }
set_option maxRecDepth 20000 in
theorem iX1_isOnMap_X1 : ∀ w ∈ wsX10, w ∈ wsX1_isOnMap := fun w h => (goodIn_r (big := wsX1_isOnMap) wsX10 [3, 4, 5, 6, 7] (by decide +kernel) (by decide +kernel) w h).1
set_option maxHeartbeats 4000000 in
set_option maxRecDepth 100000 in
theorem m_X1_isOnMap (l : Launch) (dC : Nat → ClassId) (dI : Nat → Nat → Nat) (cI cZ cJ cD : ClassId) (h0 : Nat) (hM : Nat) (aS : Nat) (aC : Nat) (aG : Nat) (hV : Nat) (bS : Nat) (bC : Nat) (bG : Nat) (wd : Int32) (hg : Int32) (wv : Int32) (bd : Int32) (sb : Int32) (nd : Int32) (S0 : Nat → Int32) (Cr : Nat → Int32) (G0 : Nat → Int32) (bd2 : Int32) (sb2 : Int32) (nd2 : Int32) (S2 : Nat → Int32) (Cr2 : Nat → Int32) (G2 : Nat → Int32) (x0 : Int32) (y0 : Int32)  : zI l (dC, dI) (wT cI cZ cJ cD) yX1_isOnMap wsX1_isOnMap rmX1_isOnMap [(h0, .inr (1, [.ref hM, .ref hV, .int wd, .int hg, .int wv])), (hM, .inr (0, [.int bd, .int sb, .int nd, .ref aS, .ref aC, .ref aG])), (aS, .inl (cI, 5, .inl S0)), (aC, .inl (cI, 5, .inl Cr)), (aG, .inl (cI, 5, .inl G0)), (hV, .inr (0, [.int bd2, .int sb2, .int nd2, .ref bS, .ref bC, .ref bG])), (bS, .inl (cI, 5, .inl S2)), (bC, .inl (cI, 5, .inl Cr2)), (bG, .inl (cI, 5, .inl G2))] [.ref h0, .int x0, .int y0] (fun (_ : Unit) => [(h0, .inr (1, [.ref hM, .ref hV, .int wd, .int hg, .int wv])), (hM, .inr (0, [.int bd, .int sb, .int nd, .ref aS, .ref aC, .ref aG])), (aS, .inl (cI, 5, .inl S0)), (aC, .inl (cI, 5, .inl Cr)), (aG, .inl (cI, 5, .inl G0)), (hV, .inr (0, [.int bd2, .int sb2, .int nd2, .ref bS, .ref bC, .ref bG])), (bS, .inl (cI, 5, .inl S2)), (bC, .inl (cI, 5, .inl Cr2)), (bG, .inl (cI, 5, .inl G2))]) (fun (r : Int32) (_ : Unit) => r = if pOn x0 y0 wd hg then 1 else 0) := by
  intro sz
  refine Met.ofW (cc := cX1_isOnMap) (maxL := 3) (ret := (some .boolean)) (by decide) rfl ?_
  intro p e s m args below meth c s₁ B hml hv
  obtain ⟨ha, hsz, hP, hK, hD0, hN⟩ := hv
  have hx := B.exec
  have hb := B.bytes
  have hr := B.returns
  have hts := atoms_spec (ws := wsX1_isOnMap) B.pre
  have hown : s.vm.findClass RX1 = some m.cls := findClass_of_methodNamed B.named
  have hlocks := B.notSynchronized
  subst hsz
  have hD := hD0.self (sz := s.heap.size)
  generalize hAe : va_A [(h0, .inr (1, [.ref hM, .ref hV, .int wd, .int hg, .int wv])), (hM, .inr (0, [.int bd, .int sb, .int nd, .ref aS, .ref aC, .ref aG])), (aS, .inl (cI, 5, .inl S0)), (aC, .inl (cI, 5, .inl Cr)), (aG, .inl (cI, 5, .inl G0)), (hV, .inr (0, [.int bd2, .int sb2, .int nd2, .ref bS, .ref bC, .ref bG])), (bS, .inl (cI, 5, .inl S2)), (bC, .inl (cI, 5, .inl Cr2)), (bG, .inl (cI, 5, .inl G2))] s.heap.size = A at hD ⊢
  have hA : ∀ q : Nat, s.heap.size ≤ q → A q := fun q h => by rw [← hAe]; exact Or.inr h
  have hS : va_S A s.heap s.heap [] := va_S.rf
  generalize hQ : MQ below (va_Qi (fun (r : Int32) (_ : Unit) => r = if pOn x0 y0 wd hg then 1 else 0) (fun u t => va_P (dC, dI) vwCl ((fun (_ : Unit) => [(h0, .inr (1, [.ref hM, .ref hV, .int wd, .int hg, .int wv])), (hM, .inr (0, [.int bd, .int sb, .int nd, .ref aS, .ref aC, .ref aG])), (aS, .inl (cI, 5, .inl S0)), (aC, .inl (cI, 5, .inl Cr)), (aG, .inl (cI, 5, .inl G0)), (hV, .inr (0, [.int bd2, .int sb2, .int nd2, .ref bS, .ref bC, .ref bG])), (bS, .inl (cI, 5, .inl S2)), (bC, .inl (cI, 5, .inl Cr2)), (bG, .inl (cI, 5, .inl G2))]) u) t.heap) A) args s 0 0 A = Q
  have F9 : CallFix p m c cX1_isOnMap 3 s args wsX1_isOnMap RX1 := ⟨hx, hb, hml, hown, hts⟩
  refine z_entry (R := rmX1_isOnMap) ha (Nat.le_of_ble_eq_true rfl) (fun ls hl => ?_)
  have hl : lv_has ls 3 [(0, .ref h0), (1, .int x0), (2, .int y0)] := hl
  refine lv_iload_n hx hb dX1_isOnMap_0 rfl (lv_at hl 1 rfl) ?_
  refine lv_if_lt (tgt := 28) hx hb dX1_isOnMap_1 (by decide) (fun c_1 => ?_) (fun c_1 => ?_)
  · skip
    refine lv_iconst (v := 0) hx hb dX1_isOnMap_28 (by decide) ?_
    rw [← hQ]
    exact z_zret (W1 := (fun (_ : Unit) => [(h0, .inr (1, [.ref hM, .ref hV, .int wd, .int hg, .int wv])), (hM, .inr (0, [.int bd, .int sb, .int nd, .ref aS, .ref aC, .ref aG])), (aS, .inl (cI, 5, .inl S0)), (aC, .inl (cI, 5, .inl Cr)), (aG, .inl (cI, 5, .inl G0)), (hV, .inr (0, [.int bd2, .int sb2, .int nd2, .ref bS, .ref bC, .ref bG])), (bS, .inl (cI, 5, .inl S2)), (bC, .inl (cI, 5, .inl Cr2)), (bG, .inl (cI, 5, .inl G2))])) hx hb hr hlocks (by decide +kernel) hP hS () (rfl) (by rw [if_neg (fun q => q.1 c_1)]) dX1_isOnMap_29
  · skip
    refine lv_iload_n hx hb dX1_isOnMap_4 rfl (lv_at hl 1 rfl) ?_
    refine lv_aload_n hx hb dX1_isOnMap_5 rfl (lv_at hl 0 rfl) ?_
    refine va_get (D := (dC, dI)) (ci := 1) (v := .int wd) (C := RX1) (T := TX1) (N := 5) hx hb hts iX1_isOnMap_X1 hown hK hP 0 rfl rfl 2 (by decide) (hts (.fieldLink RX1 19 "ColourTide" "width" "I") (List.mem_of_getElem? (i := 1) rfl)) (fun _ h9 => h9) rfl dX1_isOnMap_6 ?_
    refine lv_icmp_ge (tgt := 28) hx hb dX1_isOnMap_9 (by decide) (fun c_9 => ?_) (fun c_9 => ?_)
    · skip
      refine lv_iconst (v := 0) hx hb dX1_isOnMap_28 (by decide) ?_
      rw [← hQ]
      exact z_zret (W1 := (fun (_ : Unit) => [(h0, .inr (1, [.ref hM, .ref hV, .int wd, .int hg, .int wv])), (hM, .inr (0, [.int bd, .int sb, .int nd, .ref aS, .ref aC, .ref aG])), (aS, .inl (cI, 5, .inl S0)), (aC, .inl (cI, 5, .inl Cr)), (aG, .inl (cI, 5, .inl G0)), (hV, .inr (0, [.int bd2, .int sb2, .int nd2, .ref bS, .ref bC, .ref bG])), (bS, .inl (cI, 5, .inl S2)), (bC, .inl (cI, 5, .inl Cr2)), (bG, .inl (cI, 5, .inl G2))])) hx hb hr hlocks (by decide +kernel) hP hS () (rfl) (by rw [if_neg (fun q => q.2.1 c_9)]) dX1_isOnMap_29
    · skip
      refine lv_iload_n hx hb dX1_isOnMap_12 rfl (lv_at hl 2 rfl) ?_
      refine lv_if_lt (tgt := 28) hx hb dX1_isOnMap_13 (by decide) (fun c_13 => ?_) (fun c_13 => ?_)
      · skip
        refine lv_iconst (v := 0) hx hb dX1_isOnMap_28 (by decide) ?_
        rw [← hQ]
        exact z_zret (W1 := (fun (_ : Unit) => [(h0, .inr (1, [.ref hM, .ref hV, .int wd, .int hg, .int wv])), (hM, .inr (0, [.int bd, .int sb, .int nd, .ref aS, .ref aC, .ref aG])), (aS, .inl (cI, 5, .inl S0)), (aC, .inl (cI, 5, .inl Cr)), (aG, .inl (cI, 5, .inl G0)), (hV, .inr (0, [.int bd2, .int sb2, .int nd2, .ref bS, .ref bC, .ref bG])), (bS, .inl (cI, 5, .inl S2)), (bC, .inl (cI, 5, .inl Cr2)), (bG, .inl (cI, 5, .inl G2))])) hx hb hr hlocks (by decide +kernel) hP hS () (rfl) (by rw [if_neg (fun q => q.2.2.1 c_13)]) dX1_isOnMap_29
      · skip
        refine lv_iload_n hx hb dX1_isOnMap_16 rfl (lv_at hl 2 rfl) ?_
        refine lv_aload_n hx hb dX1_isOnMap_17 rfl (lv_at hl 0 rfl) ?_
        refine va_get (D := (dC, dI)) (ci := 1) (v := .int hg) (C := RX1) (T := TX1) (N := 5) hx hb hts iX1_isOnMap_X1 hown hK hP 0 rfl rfl 3 (by decide) (hts (.fieldLink RX1 23 "ColourTide" "height" "I") (List.mem_of_getElem? (i := 2) rfl)) (fun _ h9 => h9) rfl dX1_isOnMap_18 ?_
        refine lv_icmp_ge (tgt := 28) hx hb dX1_isOnMap_21 (by decide) (fun c_21 => ?_) (fun c_21 => ?_)
        · skip
          refine lv_iconst (v := 0) hx hb dX1_isOnMap_28 (by decide) ?_
          rw [← hQ]
          exact z_zret (W1 := (fun (_ : Unit) => [(h0, .inr (1, [.ref hM, .ref hV, .int wd, .int hg, .int wv])), (hM, .inr (0, [.int bd, .int sb, .int nd, .ref aS, .ref aC, .ref aG])), (aS, .inl (cI, 5, .inl S0)), (aC, .inl (cI, 5, .inl Cr)), (aG, .inl (cI, 5, .inl G0)), (hV, .inr (0, [.int bd2, .int sb2, .int nd2, .ref bS, .ref bC, .ref bG])), (bS, .inl (cI, 5, .inl S2)), (bC, .inl (cI, 5, .inl Cr2)), (bG, .inl (cI, 5, .inl G2))])) hx hb hr hlocks (by decide +kernel) hP hS () (rfl) (by rw [if_neg (fun q => q.2.2.2 c_21)]) dX1_isOnMap_29
        · skip
          refine lv_iconst (v := 1) hx hb dX1_isOnMap_24 (by decide) ?_
          refine lv_goto (tgt := 29) hx hb dX1_isOnMap_25 (by decide) ?_
          rw [← hQ]
          exact z_zret (W1 := (fun (_ : Unit) => [(h0, .inr (1, [.ref hM, .ref hV, .int wd, .int hg, .int wv])), (hM, .inr (0, [.int bd, .int sb, .int nd, .ref aS, .ref aC, .ref aG])), (aS, .inl (cI, 5, .inl S0)), (aC, .inl (cI, 5, .inl Cr)), (aG, .inl (cI, 5, .inl G0)), (hV, .inr (0, [.int bd2, .int sb2, .int nd2, .ref bS, .ref bC, .ref bG])), (bS, .inl (cI, 5, .inl S2)), (bC, .inl (cI, 5, .inl Cr2)), (bG, .inl (cI, 5, .inl G2))])) hx hb hr hlocks (by decide +kernel) hP hS () (rfl) (by rw [if_pos ⟨c_1, c_9, c_13, c_21⟩]) dX1_isOnMap_29
abbrev rmX1_isSide : Room := { frames := 0, cells := 0, slots := 0, locals := 0 }
set_option maxHeartbeats 4000000 in
set_option maxRecDepth 100000 in
theorem m_X1_isSide (l : Launch) (dC : Nat → ClassId) (dI : Nat → Nat → Nat) (cI cZ cJ cD : ClassId) (x0 : Int32)  : zI l (dC, dI) (wT cI cZ cJ cD) yX1_isSide wsX1_isSide rmX1_isSide [] [.int x0] (fun (_ : Unit) => []) (fun (r : Int32) (_ : Unit) => r = if pSide x0 then 1 else 0) := by
  intro sz
  refine Met.ofW (cc := cX1_isSide) (maxL := 1) (ret := (some .boolean)) (by decide) rfl ?_
  intro p e s m args below meth c s₁ B hml hv
  obtain ⟨ha, hsz, hP, hK, hD0, hN⟩ := hv
  have hx := B.exec
  have hb := B.bytes
  have hr := B.returns
  have hts := atoms_spec (ws := wsX1_isSide) B.pre
  have hown : s.vm.findClass RX1 = some m.cls := findClass_of_methodNamed B.named
  have hlocks := B.notSynchronized
  subst hsz
  have hD := hD0.self (sz := s.heap.size)
  generalize hAe : va_A [] s.heap.size = A at hD ⊢
  have hA : ∀ q : Nat, s.heap.size ≤ q → A q := fun q h => by rw [← hAe]; exact Or.inr h
  have hS : va_S A s.heap s.heap [] := va_S.rf
  generalize hQ : MQ below (va_Qi (fun (r : Int32) (_ : Unit) => r = if pSide x0 then 1 else 0) (fun u t => va_P (dC, dI) vwCl ((fun (_ : Unit) => []) u) t.heap) A) args s 0 0 A = Q
  have F9 : CallFix p m c cX1_isSide 1 s args wsX1_isSide RX1 := ⟨hx, hb, hml, hown, hts⟩
  refine z_entry (R := rmX1_isSide) ha (Nat.le_of_ble_eq_true rfl) (fun ls hl => ?_)
  have hl : lv_has ls 1 [(0, .int x0)] := hl
  refine lv_iload_n hx hb dX1_isSide_0 rfl (lv_at hl 0 rfl) ?_
  refine lv_iconst (v := 2) hx hb dX1_isSide_1 (by decide) ?_
  refine lv_icmp_lt (tgt := 14) hx hb dX1_isSide_2 (by decide) (fun c_2 => ?_) (fun c_2 => ?_)
  · skip
    refine lv_iconst (v := 0) hx hb dX1_isSide_14 (by decide) ?_
    rw [← hQ]
    exact z_zret (W1 := (fun (_ : Unit) => [])) hx hb hr hlocks (by decide +kernel) hP hS () (rfl) (by rw [if_neg (fun q => q.1 c_2)]) dX1_isSide_15
  · skip
    refine lv_iload_n hx hb dX1_isSide_5 rfl (lv_at hl 0 rfl) ?_
    refine lv_iconst (v := 5) hx hb dX1_isSide_6 (by decide) ?_
    refine lv_icmp_gt (tgt := 14) hx hb dX1_isSide_7 (by decide) (fun c_7 => ?_) (fun c_7 => ?_)
    · skip
      refine lv_iconst (v := 0) hx hb dX1_isSide_14 (by decide) ?_
      rw [← hQ]
      exact z_zret (W1 := (fun (_ : Unit) => [])) hx hb hr hlocks (by decide +kernel) hP hS () (rfl) (by rw [if_neg (fun q => q.2 c_7)]) dX1_isSide_15
    · skip
      refine lv_iconst (v := 1) hx hb dX1_isSide_10 (by decide) ?_
      refine lv_goto (tgt := 15) hx hb dX1_isSide_11 (by decide) ?_
      rw [← hQ]
      exact z_zret (W1 := (fun (_ : Unit) => [])) hx hb hr hlocks (by decide +kernel) hP hS () (rfl) (by rw [if_pos ⟨c_2, c_7⟩]) dX1_isSide_15
abbrev rmX1_isColour : Room := { frames := 0, cells := 0, slots := 0, locals := 0 }
set_option maxHeartbeats 4000000 in
set_option maxRecDepth 100000 in
theorem m_X1_isColour (l : Launch) (dC : Nat → ClassId) (dI : Nat → Nat → Nat) (cI cZ cJ cD : ClassId) (x0 : Int32)  : zI l (dC, dI) (wT cI cZ cJ cD) yX1_isColour wsX1_isColour rmX1_isColour [] [.int x0] (fun (_ : Unit) => []) (fun (r : Int32) (_ : Unit) => r = if pCol x0 then 1 else 0) := by
  intro sz
  refine Met.ofW (cc := cX1_isColour) (maxL := 1) (ret := (some .boolean)) (by decide) rfl ?_
  intro p e s m args below meth c s₁ B hml hv
  obtain ⟨ha, hsz, hP, hK, hD0, hN⟩ := hv
  have hx := B.exec
  have hb := B.bytes
  have hr := B.returns
  have hts := atoms_spec (ws := wsX1_isColour) B.pre
  have hown : s.vm.findClass RX1 = some m.cls := findClass_of_methodNamed B.named
  have hlocks := B.notSynchronized
  subst hsz
  have hD := hD0.self (sz := s.heap.size)
  generalize hAe : va_A [] s.heap.size = A at hD ⊢
  have hA : ∀ q : Nat, s.heap.size ≤ q → A q := fun q h => by rw [← hAe]; exact Or.inr h
  have hS : va_S A s.heap s.heap [] := va_S.rf
  generalize hQ : MQ below (va_Qi (fun (r : Int32) (_ : Unit) => r = if pCol x0 then 1 else 0) (fun u t => va_P (dC, dI) vwCl ((fun (_ : Unit) => []) u) t.heap) A) args s 0 0 A = Q
  have F9 : CallFix p m c cX1_isColour 1 s args wsX1_isColour RX1 := ⟨hx, hb, hml, hown, hts⟩
  refine z_entry (R := rmX1_isColour) ha (Nat.le_of_ble_eq_true rfl) (fun ls hl => ?_)
  have hl : lv_has ls 1 [(0, .int x0)] := hl
  refine lv_iload_n hx hb dX1_isColour_0 rfl (lv_at hl 0 rfl) ?_
  refine lv_iconst (v := 1) hx hb dX1_isColour_1 (by decide) ?_
  refine lv_icmp_lt (tgt := 14) hx hb dX1_isColour_2 (by decide) (fun c_2 => ?_) (fun c_2 => ?_)
  · skip
    refine lv_iconst (v := 0) hx hb dX1_isColour_14 (by decide) ?_
    rw [← hQ]
    exact z_zret (W1 := (fun (_ : Unit) => [])) hx hb hr hlocks (by decide +kernel) hP hS () (rfl) (by rw [if_neg (fun q => q.1 c_2)]) dX1_isColour_15
  · skip
    refine lv_iload_n hx hb dX1_isColour_5 rfl (lv_at hl 0 rfl) ?_
    refine lv_iconst (v := 4) hx hb dX1_isColour_6 (by decide) ?_
    refine lv_icmp_gt (tgt := 14) hx hb dX1_isColour_7 (by decide) (fun c_7 => ?_) (fun c_7 => ?_)
    · skip
      refine lv_iconst (v := 0) hx hb dX1_isColour_14 (by decide) ?_
      rw [← hQ]
      exact z_zret (W1 := (fun (_ : Unit) => [])) hx hb hr hlocks (by decide +kernel) hP hS () (rfl) (by rw [if_neg (fun q => q.2 c_7)]) dX1_isColour_15
    · skip
      refine lv_iconst (v := 1) hx hb dX1_isColour_10 (by decide) ?_
      refine lv_goto (tgt := 15) hx hb dX1_isColour_11 (by decide) ?_
      rw [← hQ]
      exact z_zret (W1 := (fun (_ : Unit) => [])) hx hb hr hlocks (by decide +kernel) hP hS () (rfl) (by rw [if_pos ⟨c_2, c_7⟩]) dX1_isColour_15
abbrev rmX1_isColourOrBare : Room := { frames := 1, cells := 0, slots := 0, locals := 20 }
set_option maxHeartbeats 4000000 in
set_option maxRecDepth 100000 in
theorem m_X1_isColourOrBare (l : Launch) (dC : Nat → ClassId) (dI : Nat → Nat → Nat) (cI cZ cJ cD : ClassId) (x0 : Int32)  : zI l (dC, dI) (wT cI cZ cJ cD) yX1_isColourOrBare wsX1_isColourOrBare rmX1_isColourOrBare [] [.int x0] (fun (_ : Unit) => []) (fun (r : Int32) (_ : Unit) => r = if pAny x0 then 1 else 0) := by
  intro sz
  refine Met.ofW (cc := cX1_isColourOrBare) (maxL := 1) (ret := (some .boolean)) (by decide) rfl ?_
  intro p e s m args below meth c s₁ B hml hv
  obtain ⟨ha, hsz, hP, hK, hD0, hN⟩ := hv
  have hx := B.exec
  have hb := B.bytes
  have hr := B.returns
  have hts := atoms_spec (ws := wsX1_isColourOrBare) B.pre
  have hown : s.vm.findClass RX1 = some m.cls := findClass_of_methodNamed B.named
  have hlocks := B.notSynchronized
  subst hsz
  have hD := hD0.self (sz := s.heap.size)
  generalize hAe : va_A [] s.heap.size = A at hD ⊢
  have hA : ∀ q : Nat, s.heap.size ≤ q → A q := fun q h => by rw [← hAe]; exact Or.inr h
  have hS : va_S A s.heap s.heap [] := va_S.rf
  generalize hQ : MQ below (va_Qi (fun (r : Int32) (_ : Unit) => r = if pAny x0 then 1 else 0) (fun u t => va_P (dC, dI) vwCl ((fun (_ : Unit) => []) u) t.heap) A) args s 0 0 A = Q
  have F9 : CallFix p m c cX1_isColourOrBare 1 s args wsX1_isColourOrBare RX1 := ⟨hx, hb, hml, hown, hts⟩
  refine z_entry (R := rmX1_isColourOrBare) ha (Nat.le_of_ble_eq_true rfl) (fun ls hl => ?_)
  have hl : lv_has ls 1 [(0, .int x0)] := hl
  refine lv_iload_n hx hb dX1_isColourOrBare_0 rfl (lv_at hl 0 rfl) ?_
  refine lv_if_eq (tgt := 11) hx hb dX1_isColourOrBare_1 (by decide) (fun c_1 => ?_) (fun c_1 => ?_)
  · skip
    refine lv_iconst (v := 1) hx hb dX1_isColourOrBare_11 (by decide) ?_
    refine lv_goto (tgt := 16) hx hb dX1_isColourOrBare_12 (by decide) ?_
    rw [← hQ]
    exact z_zret (W1 := (fun (_ : Unit) => [])) hx hb hr hlocks (by decide +kernel) hP hS () (rfl) (by rw [if_pos (Or.inl c_1)]) dX1_isColourOrBare_16
  · skip
    refine lv_iload_n hx hb dX1_isColourOrBare_4 rfl (lv_at hl 0 rfl) ?_
    refine z_callSi (As := [.int x0]) (rest := []) F9 (m_X1_isColour l dC dI cI cZ cJ cD x0 ) (va_cwS 1 hts gX1_isColourOrBare_X1_isColour rfl rfl rfl (by decide +kernel) ⟨Nat.le_of_ble_eq_true rfl, Nat.le_of_ble_eq_true rfl⟩) hK hN hP hD hS hA rfl hl.1 rfl (Nat.le_of_ble_eq_true rfl) dX1_isColourOrBare_5 ⟨Nat.zero_le _, Nat.zero_le _⟩ (fun r_1 H locs hp_5 hP hS => ?_)
    have hp_5 : r_1 = if pCol x0 then 1 else 0 := hp_5
    refine z_topi (y := if pCol x0 then 1 else 0) hp_5 ?_
    refine lv_if_eq (tgt := 15) hx hb dX1_isColourOrBare_8 (by decide) (fun c_8 => ?_) (fun c_8 => ?_)
    · skip
      refine lv_iconst (v := 0) hx hb dX1_isColourOrBare_15 (by decide) ?_
      rw [← hQ]
      exact z_zret (W1 := (fun (_ : Unit) => [])) hx hb hr hlocks (by decide +kernel) hP hS () (rfl) (by rw [if_neg (fun q => q.elim c_1 (z_if0 c_8))]) dX1_isColourOrBare_16
    · skip
      refine lv_iconst (v := 1) hx hb dX1_isColourOrBare_11 (by decide) ?_
      refine lv_goto (tgt := 16) hx hb dX1_isColourOrBare_12 (by decide) ?_
      rw [← hQ]
      exact z_zret (W1 := (fun (_ : Unit) => [])) hx hb hr hlocks (by decide +kernel) hP hS () (rfl) (by rw [if_pos (Or.inr (z_if1 c_8))]) dX1_isColourOrBare_16
abbrev rmX1_width : Room := { frames := 0, cells := 0, slots := 0, locals := 0 }
set_option maxRecDepth 20000 in
theorem iX1_width_X1 : ∀ w ∈ wsX10, w ∈ wsX1_width := fun w h => (goodIn_r (big := wsX1_width) wsX10 [2, 3, 4, 5, 6] (by decide +kernel) (by decide +kernel) w h).1
set_option maxHeartbeats 4000000 in
set_option maxRecDepth 100000 in
theorem m_X1_width (l : Launch) (dC : Nat → ClassId) (dI : Nat → Nat → Nat) (cI cZ cJ cD : ClassId) (h0 : Nat) (hM : Nat) (aS : Nat) (aC : Nat) (aG : Nat) (hV : Nat) (bS : Nat) (bC : Nat) (bG : Nat) (wd : Int32) (hg : Int32) (wv : Int32) (bd : Int32) (sb : Int32) (nd : Int32) (S0 : Nat → Int32) (Cr : Nat → Int32) (G0 : Nat → Int32) (bd2 : Int32) (sb2 : Int32) (nd2 : Int32) (S2 : Nat → Int32) (Cr2 : Nat → Int32) (G2 : Nat → Int32)  : zI l (dC, dI) (wT cI cZ cJ cD) yX1_width wsX1_width rmX1_width [(h0, .inr (1, [.ref hM, .ref hV, .int wd, .int hg, .int wv])), (hM, .inr (0, [.int bd, .int sb, .int nd, .ref aS, .ref aC, .ref aG])), (aS, .inl (cI, 5, .inl S0)), (aC, .inl (cI, 5, .inl Cr)), (aG, .inl (cI, 5, .inl G0)), (hV, .inr (0, [.int bd2, .int sb2, .int nd2, .ref bS, .ref bC, .ref bG])), (bS, .inl (cI, 5, .inl S2)), (bC, .inl (cI, 5, .inl Cr2)), (bG, .inl (cI, 5, .inl G2))] [.ref h0] (fun (_ : Unit) => [(h0, .inr (1, [.ref hM, .ref hV, .int wd, .int hg, .int wv])), (hM, .inr (0, [.int bd, .int sb, .int nd, .ref aS, .ref aC, .ref aG])), (aS, .inl (cI, 5, .inl S0)), (aC, .inl (cI, 5, .inl Cr)), (aG, .inl (cI, 5, .inl G0)), (hV, .inr (0, [.int bd2, .int sb2, .int nd2, .ref bS, .ref bC, .ref bG])), (bS, .inl (cI, 5, .inl S2)), (bC, .inl (cI, 5, .inl Cr2)), (bG, .inl (cI, 5, .inl G2))]) (fun (r : Int32) (_ : Unit) => r = wd) := by
  intro sz
  refine Met.ofW (cc := cX1_width) (maxL := 1) (ret := (some .int)) (by decide) rfl ?_
  intro p e s m args below meth c s₁ B hml hv
  obtain ⟨ha, hsz, hP, hK, hD0, hN⟩ := hv
  have hx := B.exec
  have hb := B.bytes
  have hr := B.returns
  have hts := atoms_spec (ws := wsX1_width) B.pre
  have hown : s.vm.findClass RX1 = some m.cls := findClass_of_methodNamed B.named
  have hlocks := B.notSynchronized
  subst hsz
  have hD := hD0.self (sz := s.heap.size)
  generalize hAe : va_A [(h0, .inr (1, [.ref hM, .ref hV, .int wd, .int hg, .int wv])), (hM, .inr (0, [.int bd, .int sb, .int nd, .ref aS, .ref aC, .ref aG])), (aS, .inl (cI, 5, .inl S0)), (aC, .inl (cI, 5, .inl Cr)), (aG, .inl (cI, 5, .inl G0)), (hV, .inr (0, [.int bd2, .int sb2, .int nd2, .ref bS, .ref bC, .ref bG])), (bS, .inl (cI, 5, .inl S2)), (bC, .inl (cI, 5, .inl Cr2)), (bG, .inl (cI, 5, .inl G2))] s.heap.size = A at hD ⊢
  have hA : ∀ q : Nat, s.heap.size ≤ q → A q := fun q h => by rw [← hAe]; exact Or.inr h
  have hS : va_S A s.heap s.heap [] := va_S.rf
  generalize hQ : MQ below (va_Qi (fun (r : Int32) (_ : Unit) => r = wd) (fun u t => va_P (dC, dI) vwCl ((fun (_ : Unit) => [(h0, .inr (1, [.ref hM, .ref hV, .int wd, .int hg, .int wv])), (hM, .inr (0, [.int bd, .int sb, .int nd, .ref aS, .ref aC, .ref aG])), (aS, .inl (cI, 5, .inl S0)), (aC, .inl (cI, 5, .inl Cr)), (aG, .inl (cI, 5, .inl G0)), (hV, .inr (0, [.int bd2, .int sb2, .int nd2, .ref bS, .ref bC, .ref bG])), (bS, .inl (cI, 5, .inl S2)), (bC, .inl (cI, 5, .inl Cr2)), (bG, .inl (cI, 5, .inl G2))]) u) t.heap) A) args s 0 0 A = Q
  have F9 : CallFix p m c cX1_width 1 s args wsX1_width RX1 := ⟨hx, hb, hml, hown, hts⟩
  refine z_entry (R := rmX1_width) ha (Nat.le_of_ble_eq_true rfl) (fun ls hl => ?_)
  have hl : lv_has ls 1 [(0, .ref h0)] := hl
  refine lv_aload_n hx hb dX1_width_0 rfl (lv_at hl 0 rfl) ?_
  refine va_get (D := (dC, dI)) (ci := 1) (v := .int wd) (C := RX1) (T := TX1) (N := 5) hx hb hts iX1_width_X1 hown hK hP 0 rfl rfl 2 (by decide) (hts (.fieldLink RX1 19 "ColourTide" "width" "I") (List.mem_of_getElem? (i := 1) rfl)) (fun _ h9 => h9) rfl dX1_width_1 ?_
  rw [← hQ]
  exact z_iret (W1 := (fun (_ : Unit) => [(h0, .inr (1, [.ref hM, .ref hV, .int wd, .int hg, .int wv])), (hM, .inr (0, [.int bd, .int sb, .int nd, .ref aS, .ref aC, .ref aG])), (aS, .inl (cI, 5, .inl S0)), (aC, .inl (cI, 5, .inl Cr)), (aG, .inl (cI, 5, .inl G0)), (hV, .inr (0, [.int bd2, .int sb2, .int nd2, .ref bS, .ref bC, .ref bG])), (bS, .inl (cI, 5, .inl S2)), (bC, .inl (cI, 5, .inl Cr2)), (bG, .inl (cI, 5, .inl G2))])) hx hb hr hlocks hP hS () (rfl) (rfl) dX1_width_4
abbrev rmX1_height : Room := { frames := 0, cells := 0, slots := 0, locals := 0 }
set_option maxRecDepth 20000 in
theorem iX1_height_X1 : ∀ w ∈ wsX10, w ∈ wsX1_height := fun w h => (goodIn_r (big := wsX1_height) wsX10 [2, 3, 4, 5, 6] (by decide +kernel) (by decide +kernel) w h).1
set_option maxHeartbeats 4000000 in
set_option maxRecDepth 100000 in
theorem m_X1_height (l : Launch) (dC : Nat → ClassId) (dI : Nat → Nat → Nat) (cI cZ cJ cD : ClassId) (h0 : Nat) (hM : Nat) (aS : Nat) (aC : Nat) (aG : Nat) (hV : Nat) (bS : Nat) (bC : Nat) (bG : Nat) (wd : Int32) (hg : Int32) (wv : Int32) (bd : Int32) (sb : Int32) (nd : Int32) (S0 : Nat → Int32) (Cr : Nat → Int32) (G0 : Nat → Int32) (bd2 : Int32) (sb2 : Int32) (nd2 : Int32) (S2 : Nat → Int32) (Cr2 : Nat → Int32) (G2 : Nat → Int32)  : zI l (dC, dI) (wT cI cZ cJ cD) yX1_height wsX1_height rmX1_height [(h0, .inr (1, [.ref hM, .ref hV, .int wd, .int hg, .int wv])), (hM, .inr (0, [.int bd, .int sb, .int nd, .ref aS, .ref aC, .ref aG])), (aS, .inl (cI, 5, .inl S0)), (aC, .inl (cI, 5, .inl Cr)), (aG, .inl (cI, 5, .inl G0)), (hV, .inr (0, [.int bd2, .int sb2, .int nd2, .ref bS, .ref bC, .ref bG])), (bS, .inl (cI, 5, .inl S2)), (bC, .inl (cI, 5, .inl Cr2)), (bG, .inl (cI, 5, .inl G2))] [.ref h0] (fun (_ : Unit) => [(h0, .inr (1, [.ref hM, .ref hV, .int wd, .int hg, .int wv])), (hM, .inr (0, [.int bd, .int sb, .int nd, .ref aS, .ref aC, .ref aG])), (aS, .inl (cI, 5, .inl S0)), (aC, .inl (cI, 5, .inl Cr)), (aG, .inl (cI, 5, .inl G0)), (hV, .inr (0, [.int bd2, .int sb2, .int nd2, .ref bS, .ref bC, .ref bG])), (bS, .inl (cI, 5, .inl S2)), (bC, .inl (cI, 5, .inl Cr2)), (bG, .inl (cI, 5, .inl G2))]) (fun (r : Int32) (_ : Unit) => r = hg) := by
  intro sz
  refine Met.ofW (cc := cX1_height) (maxL := 1) (ret := (some .int)) (by decide) rfl ?_
  intro p e s m args below meth c s₁ B hml hv
  obtain ⟨ha, hsz, hP, hK, hD0, hN⟩ := hv
  have hx := B.exec
  have hb := B.bytes
  have hr := B.returns
  have hts := atoms_spec (ws := wsX1_height) B.pre
  have hown : s.vm.findClass RX1 = some m.cls := findClass_of_methodNamed B.named
  have hlocks := B.notSynchronized
  subst hsz
  have hD := hD0.self (sz := s.heap.size)
  generalize hAe : va_A [(h0, .inr (1, [.ref hM, .ref hV, .int wd, .int hg, .int wv])), (hM, .inr (0, [.int bd, .int sb, .int nd, .ref aS, .ref aC, .ref aG])), (aS, .inl (cI, 5, .inl S0)), (aC, .inl (cI, 5, .inl Cr)), (aG, .inl (cI, 5, .inl G0)), (hV, .inr (0, [.int bd2, .int sb2, .int nd2, .ref bS, .ref bC, .ref bG])), (bS, .inl (cI, 5, .inl S2)), (bC, .inl (cI, 5, .inl Cr2)), (bG, .inl (cI, 5, .inl G2))] s.heap.size = A at hD ⊢
  have hA : ∀ q : Nat, s.heap.size ≤ q → A q := fun q h => by rw [← hAe]; exact Or.inr h
  have hS : va_S A s.heap s.heap [] := va_S.rf
  generalize hQ : MQ below (va_Qi (fun (r : Int32) (_ : Unit) => r = hg) (fun u t => va_P (dC, dI) vwCl ((fun (_ : Unit) => [(h0, .inr (1, [.ref hM, .ref hV, .int wd, .int hg, .int wv])), (hM, .inr (0, [.int bd, .int sb, .int nd, .ref aS, .ref aC, .ref aG])), (aS, .inl (cI, 5, .inl S0)), (aC, .inl (cI, 5, .inl Cr)), (aG, .inl (cI, 5, .inl G0)), (hV, .inr (0, [.int bd2, .int sb2, .int nd2, .ref bS, .ref bC, .ref bG])), (bS, .inl (cI, 5, .inl S2)), (bC, .inl (cI, 5, .inl Cr2)), (bG, .inl (cI, 5, .inl G2))]) u) t.heap) A) args s 0 0 A = Q
  have F9 : CallFix p m c cX1_height 1 s args wsX1_height RX1 := ⟨hx, hb, hml, hown, hts⟩
  refine z_entry (R := rmX1_height) ha (Nat.le_of_ble_eq_true rfl) (fun ls hl => ?_)
  have hl : lv_has ls 1 [(0, .ref h0)] := hl
  refine lv_aload_n hx hb dX1_height_0 rfl (lv_at hl 0 rfl) ?_
  refine va_get (D := (dC, dI)) (ci := 1) (v := .int hg) (C := RX1) (T := TX1) (N := 5) hx hb hts iX1_height_X1 hown hK hP 0 rfl rfl 3 (by decide) (hts (.fieldLink RX1 23 "ColourTide" "height" "I") (List.mem_of_getElem? (i := 1) rfl)) (fun _ h9 => h9) rfl dX1_height_1 ?_
  rw [← hQ]
  exact z_iret (W1 := (fun (_ : Unit) => [(h0, .inr (1, [.ref hM, .ref hV, .int wd, .int hg, .int wv])), (hM, .inr (0, [.int bd, .int sb, .int nd, .ref aS, .ref aC, .ref aG])), (aS, .inl (cI, 5, .inl S0)), (aC, .inl (cI, 5, .inl Cr)), (aG, .inl (cI, 5, .inl G0)), (hV, .inr (0, [.int bd2, .int sb2, .int nd2, .ref bS, .ref bC, .ref bG])), (bS, .inl (cI, 5, .inl S2)), (bC, .inl (cI, 5, .inl Cr2)), (bG, .inl (cI, 5, .inl G2))])) hx hb hr hlocks hP hS () (rfl) (rfl) dX1_height_4
abbrev rmX1_need : Room := { frames := 0, cells := 0, slots := 0, locals := 0 }
set_option maxRecDepth 20000 in
theorem iX1_need_X0 : ∀ w ∈ wsX00, w ∈ wsX1_need := fun w h => (goodIn_r (big := wsX1_need) wsX00 [8, 9, 10, 11, 12, 13] (by decide +kernel) (by decide +kernel) w h).1
set_option maxRecDepth 20000 in
theorem iX1_need_X1 : ∀ w ∈ wsX10, w ∈ wsX1_need := fun w h => (goodIn_r (big := wsX1_need) wsX10 [3, 4, 5, 6, 7] (by decide +kernel) (by decide +kernel) w h).1
set_option maxHeartbeats 4000000 in
set_option maxRecDepth 100000 in
theorem m_X1_need (l : Launch) (dC : Nat → ClassId) (dI : Nat → Nat → Nat) (cI cZ cJ cD : ClassId) (h0 : Nat) (hM : Nat) (aS : Nat) (aC : Nat) (aG : Nat) (hV : Nat) (bS : Nat) (bC : Nat) (bG : Nat) (wd : Int32) (hg : Int32) (wv : Int32) (bd : Int32) (sb : Int32) (nd : Int32) (S0 : Nat → Int32) (Cr : Nat → Int32) (G0 : Nat → Int32) (bd2 : Int32) (sb2 : Int32) (nd2 : Int32) (S2 : Nat → Int32) (Cr2 : Nat → Int32) (G2 : Nat → Int32)  : zI l (dC, dI) (wT cI cZ cJ cD) yX1_need wsX1_need rmX1_need [(h0, .inr (1, [.ref hM, .ref hV, .int wd, .int hg, .int wv])), (hM, .inr (0, [.int bd, .int sb, .int nd, .ref aS, .ref aC, .ref aG])), (aS, .inl (cI, 5, .inl S0)), (aC, .inl (cI, 5, .inl Cr)), (aG, .inl (cI, 5, .inl G0)), (hV, .inr (0, [.int bd2, .int sb2, .int nd2, .ref bS, .ref bC, .ref bG])), (bS, .inl (cI, 5, .inl S2)), (bC, .inl (cI, 5, .inl Cr2)), (bG, .inl (cI, 5, .inl G2))] [.ref h0] (fun (_ : Unit) => [(h0, .inr (1, [.ref hM, .ref hV, .int wd, .int hg, .int wv])), (hM, .inr (0, [.int bd, .int sb, .int nd, .ref aS, .ref aC, .ref aG])), (aS, .inl (cI, 5, .inl S0)), (aC, .inl (cI, 5, .inl Cr)), (aG, .inl (cI, 5, .inl G0)), (hV, .inr (0, [.int bd2, .int sb2, .int nd2, .ref bS, .ref bC, .ref bG])), (bS, .inl (cI, 5, .inl S2)), (bC, .inl (cI, 5, .inl Cr2)), (bG, .inl (cI, 5, .inl G2))]) (fun (r : Int32) (_ : Unit) => r = nd) := by
  intro sz
  refine Met.ofW (cc := cX1_need) (maxL := 1) (ret := (some .int)) (by decide) rfl ?_
  intro p e s m args below meth c s₁ B hml hv
  obtain ⟨ha, hsz, hP, hK, hD0, hN⟩ := hv
  have hx := B.exec
  have hb := B.bytes
  have hr := B.returns
  have hts := atoms_spec (ws := wsX1_need) B.pre
  have hown : s.vm.findClass RX1 = some m.cls := findClass_of_methodNamed B.named
  have hlocks := B.notSynchronized
  subst hsz
  have hD := hD0.self (sz := s.heap.size)
  generalize hAe : va_A [(h0, .inr (1, [.ref hM, .ref hV, .int wd, .int hg, .int wv])), (hM, .inr (0, [.int bd, .int sb, .int nd, .ref aS, .ref aC, .ref aG])), (aS, .inl (cI, 5, .inl S0)), (aC, .inl (cI, 5, .inl Cr)), (aG, .inl (cI, 5, .inl G0)), (hV, .inr (0, [.int bd2, .int sb2, .int nd2, .ref bS, .ref bC, .ref bG])), (bS, .inl (cI, 5, .inl S2)), (bC, .inl (cI, 5, .inl Cr2)), (bG, .inl (cI, 5, .inl G2))] s.heap.size = A at hD ⊢
  have hA : ∀ q : Nat, s.heap.size ≤ q → A q := fun q h => by rw [← hAe]; exact Or.inr h
  have hS : va_S A s.heap s.heap [] := va_S.rf
  generalize hQ : MQ below (va_Qi (fun (r : Int32) (_ : Unit) => r = nd) (fun u t => va_P (dC, dI) vwCl ((fun (_ : Unit) => [(h0, .inr (1, [.ref hM, .ref hV, .int wd, .int hg, .int wv])), (hM, .inr (0, [.int bd, .int sb, .int nd, .ref aS, .ref aC, .ref aG])), (aS, .inl (cI, 5, .inl S0)), (aC, .inl (cI, 5, .inl Cr)), (aG, .inl (cI, 5, .inl G0)), (hV, .inr (0, [.int bd2, .int sb2, .int nd2, .ref bS, .ref bC, .ref bG])), (bS, .inl (cI, 5, .inl S2)), (bC, .inl (cI, 5, .inl Cr2)), (bG, .inl (cI, 5, .inl G2))]) u) t.heap) A) args s 0 0 A = Q
  have F9 : CallFix p m c cX1_need 1 s args wsX1_need RX1 := ⟨hx, hb, hml, hown, hts⟩
  refine z_entry (R := rmX1_need) ha (Nat.le_of_ble_eq_true rfl) (fun ls hl => ?_)
  have hl : lv_has ls 1 [(0, .ref h0)] := hl
  refine lv_aload_n hx hb dX1_need_0 rfl (lv_at hl 0 rfl) ?_
  refine va_get (D := (dC, dI)) (ci := 1) (v := .ref hM) (C := RX1) (T := TX1) (N := 5) hx hb hts iX1_need_X1 hown hK hP 0 rfl rfl 0 (by decide) (hts (.fieldLink RX1 12 "ColourTide" "map" "LColourTide$Tide;") (List.mem_of_getElem? (i := 1) rfl)) (fun _ h9 => h9) rfl dX1_need_1 ?_
  refine va_get (D := (dC, dI)) (ci := 0) (v := .int nd) (C := RX0) (T := TX0) (N := 6) hx hb hts iX1_need_X0 hown hK hP 1 rfl rfl 2 (by decide) (hts (.fieldLink RX1 74 "ColourTide$Tide" "need" "I") (List.mem_of_getElem? (i := 2) rfl)) (fun _ h9 => h9) rfl dX1_need_4 ?_
  rw [← hQ]
  exact z_iret (W1 := (fun (_ : Unit) => [(h0, .inr (1, [.ref hM, .ref hV, .int wd, .int hg, .int wv])), (hM, .inr (0, [.int bd, .int sb, .int nd, .ref aS, .ref aC, .ref aG])), (aS, .inl (cI, 5, .inl S0)), (aC, .inl (cI, 5, .inl Cr)), (aG, .inl (cI, 5, .inl G0)), (hV, .inr (0, [.int bd2, .int sb2, .int nd2, .ref bS, .ref bC, .ref bG])), (bS, .inl (cI, 5, .inl S2)), (bC, .inl (cI, 5, .inl Cr2)), (bG, .inl (cI, 5, .inl G2))])) hx hb hr hlocks hP hS () (rfl) (rfl) dX1_need_7
abbrev rmX1_waves : Room := { frames := 0, cells := 0, slots := 0, locals := 0 }
set_option maxRecDepth 20000 in
theorem iX1_waves_X1 : ∀ w ∈ wsX10, w ∈ wsX1_waves := fun w h => (goodIn_r (big := wsX1_waves) wsX10 [2, 3, 4, 5, 6] (by decide +kernel) (by decide +kernel) w h).1
set_option maxHeartbeats 4000000 in
set_option maxRecDepth 100000 in
theorem m_X1_waves (l : Launch) (dC : Nat → ClassId) (dI : Nat → Nat → Nat) (cI cZ cJ cD : ClassId) (h0 : Nat) (hM : Nat) (aS : Nat) (aC : Nat) (aG : Nat) (hV : Nat) (bS : Nat) (bC : Nat) (bG : Nat) (wd : Int32) (hg : Int32) (wv : Int32) (bd : Int32) (sb : Int32) (nd : Int32) (S0 : Nat → Int32) (Cr : Nat → Int32) (G0 : Nat → Int32) (bd2 : Int32) (sb2 : Int32) (nd2 : Int32) (S2 : Nat → Int32) (Cr2 : Nat → Int32) (G2 : Nat → Int32)  : zI l (dC, dI) (wT cI cZ cJ cD) yX1_waves wsX1_waves rmX1_waves [(h0, .inr (1, [.ref hM, .ref hV, .int wd, .int hg, .int wv])), (hM, .inr (0, [.int bd, .int sb, .int nd, .ref aS, .ref aC, .ref aG])), (aS, .inl (cI, 5, .inl S0)), (aC, .inl (cI, 5, .inl Cr)), (aG, .inl (cI, 5, .inl G0)), (hV, .inr (0, [.int bd2, .int sb2, .int nd2, .ref bS, .ref bC, .ref bG])), (bS, .inl (cI, 5, .inl S2)), (bC, .inl (cI, 5, .inl Cr2)), (bG, .inl (cI, 5, .inl G2))] [.ref h0] (fun (_ : Unit) => [(h0, .inr (1, [.ref hM, .ref hV, .int wd, .int hg, .int wv])), (hM, .inr (0, [.int bd, .int sb, .int nd, .ref aS, .ref aC, .ref aG])), (aS, .inl (cI, 5, .inl S0)), (aC, .inl (cI, 5, .inl Cr)), (aG, .inl (cI, 5, .inl G0)), (hV, .inr (0, [.int bd2, .int sb2, .int nd2, .ref bS, .ref bC, .ref bG])), (bS, .inl (cI, 5, .inl S2)), (bC, .inl (cI, 5, .inl Cr2)), (bG, .inl (cI, 5, .inl G2))]) (fun (r : Int32) (_ : Unit) => r = wv) := by
  intro sz
  refine Met.ofW (cc := cX1_waves) (maxL := 1) (ret := (some .int)) (by decide) rfl ?_
  intro p e s m args below meth c s₁ B hml hv
  obtain ⟨ha, hsz, hP, hK, hD0, hN⟩ := hv
  have hx := B.exec
  have hb := B.bytes
  have hr := B.returns
  have hts := atoms_spec (ws := wsX1_waves) B.pre
  have hown : s.vm.findClass RX1 = some m.cls := findClass_of_methodNamed B.named
  have hlocks := B.notSynchronized
  subst hsz
  have hD := hD0.self (sz := s.heap.size)
  generalize hAe : va_A [(h0, .inr (1, [.ref hM, .ref hV, .int wd, .int hg, .int wv])), (hM, .inr (0, [.int bd, .int sb, .int nd, .ref aS, .ref aC, .ref aG])), (aS, .inl (cI, 5, .inl S0)), (aC, .inl (cI, 5, .inl Cr)), (aG, .inl (cI, 5, .inl G0)), (hV, .inr (0, [.int bd2, .int sb2, .int nd2, .ref bS, .ref bC, .ref bG])), (bS, .inl (cI, 5, .inl S2)), (bC, .inl (cI, 5, .inl Cr2)), (bG, .inl (cI, 5, .inl G2))] s.heap.size = A at hD ⊢
  have hA : ∀ q : Nat, s.heap.size ≤ q → A q := fun q h => by rw [← hAe]; exact Or.inr h
  have hS : va_S A s.heap s.heap [] := va_S.rf
  generalize hQ : MQ below (va_Qi (fun (r : Int32) (_ : Unit) => r = wv) (fun u t => va_P (dC, dI) vwCl ((fun (_ : Unit) => [(h0, .inr (1, [.ref hM, .ref hV, .int wd, .int hg, .int wv])), (hM, .inr (0, [.int bd, .int sb, .int nd, .ref aS, .ref aC, .ref aG])), (aS, .inl (cI, 5, .inl S0)), (aC, .inl (cI, 5, .inl Cr)), (aG, .inl (cI, 5, .inl G0)), (hV, .inr (0, [.int bd2, .int sb2, .int nd2, .ref bS, .ref bC, .ref bG])), (bS, .inl (cI, 5, .inl S2)), (bC, .inl (cI, 5, .inl Cr2)), (bG, .inl (cI, 5, .inl G2))]) u) t.heap) A) args s 0 0 A = Q
  have F9 : CallFix p m c cX1_waves 1 s args wsX1_waves RX1 := ⟨hx, hb, hml, hown, hts⟩
  refine z_entry (R := rmX1_waves) ha (Nat.le_of_ble_eq_true rfl) (fun ls hl => ?_)
  have hl : lv_has ls 1 [(0, .ref h0)] := hl
  refine lv_aload_n hx hb dX1_waves_0 rfl (lv_at hl 0 rfl) ?_
  refine va_get (D := (dC, dI)) (ci := 1) (v := .int wv) (C := RX1) (T := TX1) (N := 5) hx hb hts iX1_waves_X1 hown hK hP 0 rfl rfl 4 (by decide) (hts (.fieldLink RX1 26 "ColourTide" "waves" "I") (List.mem_of_getElem? (i := 1) rfl)) (fun _ h9 => h9) rfl dX1_waves_1 ?_
  rw [← hQ]
  exact z_iret (W1 := (fun (_ : Unit) => [(h0, .inr (1, [.ref hM, .ref hV, .int wd, .int hg, .int wv])), (hM, .inr (0, [.int bd, .int sb, .int nd, .ref aS, .ref aC, .ref aG])), (aS, .inl (cI, 5, .inl S0)), (aC, .inl (cI, 5, .inl Cr)), (aG, .inl (cI, 5, .inl G0)), (hV, .inr (0, [.int bd2, .int sb2, .int nd2, .ref bS, .ref bC, .ref bG])), (bS, .inl (cI, 5, .inl S2)), (bC, .inl (cI, 5, .inl Cr2)), (bG, .inl (cI, 5, .inl G2))])) hx hb hr hlocks hP hS () (rfl) (rfl) dX1_waves_4
abbrev rmX1_stubbornCells : Room := { frames := 1, cells := 0, slots := 0, locals := 20 }
set_option maxRecDepth 20000 in
theorem iX1_stubbornCells_X0 : ∀ w ∈ wsX00, w ∈ wsX1_stubbornCells := fun w h => (goodIn_r (big := wsX1_stubbornCells) wsX00 [15, 16, 17, 18, 19, 20] (by decide +kernel) (by decide +kernel) w h).1
set_option maxRecDepth 20000 in
theorem iX1_stubbornCells_X1 : ∀ w ∈ wsX10, w ∈ wsX1_stubbornCells := fun w h => (goodIn_r (big := wsX1_stubbornCells) wsX10 [10, 11, 12, 13, 14] (by decide +kernel) (by decide +kernel) w h).1
set_option maxHeartbeats 4000000 in
set_option maxRecDepth 100000 in
theorem m_X1_stubbornCells (l : Launch) (dC : Nat → ClassId) (dI : Nat → Nat → Nat) (cI cZ cJ cD : ClassId) (h0 : Nat) (hM : Nat) (aS : Nat) (aC : Nat) (aG : Nat) (hV : Nat) (bS : Nat) (bC : Nat) (bG : Nat) (wd : Int32) (hg : Int32) (wv : Int32) (bd : Int32) (sb : Int32) (nd : Int32) (S0 : Nat → Int32) (Cr : Nat → Int32) (G0 : Nat → Int32) (bd2 : Int32) (sb2 : Int32) (nd2 : Int32) (S2 : Nat → Int32) (Cr2 : Nat → Int32) (G2 : Nat → Int32)  : zI l (dC, dI) (wT cI cZ cJ cD) yX1_stubbornCells wsX1_stubbornCells rmX1_stubbornCells [(h0, .inr (1, [.ref hM, .ref hV, .int wd, .int hg, .int wv])), (hM, .inr (0, [.int bd, .int sb, .int nd, .ref aS, .ref aC, .ref aG])), (aS, .inl (cI, 5, .inl S0)), (aC, .inl (cI, 5, .inl Cr)), (aG, .inl (cI, 5, .inl G0)), (hV, .inr (0, [.int bd2, .int sb2, .int nd2, .ref bS, .ref bC, .ref bG])), (bS, .inl (cI, 5, .inl S2)), (bC, .inl (cI, 5, .inl Cr2)), (bG, .inl (cI, 5, .inl G2))] [.ref h0] (fun (_ : Unit) => [(h0, .inr (1, [.ref hM, .ref hV, .int wd, .int hg, .int wv])), (hM, .inr (0, [.int bd, .int sb, .int nd, .ref aS, .ref aC, .ref aG])), (aS, .inl (cI, 5, .inl S0)), (aC, .inl (cI, 5, .inl Cr)), (aG, .inl (cI, 5, .inl G0)), (hV, .inr (0, [.int bd2, .int sb2, .int nd2, .ref bS, .ref bC, .ref bG])), (bS, .inl (cI, 5, .inl S2)), (bC, .inl (cI, 5, .inl Cr2)), (bG, .inl (cI, 5, .inl G2))]) (fun (r : Int32) (_ : Unit) => r = pBC sb) := by
  intro sz
  refine Met.ofW (cc := cX1_stubbornCells) (maxL := 1) (ret := (some .int)) (by decide) rfl ?_
  intro p e s m args below meth c s₁ B hml hv
  obtain ⟨ha, hsz, hP, hK, hD0, hN⟩ := hv
  have hx := B.exec
  have hb := B.bytes
  have hr := B.returns
  have hts := atoms_spec (ws := wsX1_stubbornCells) B.pre
  have hown : s.vm.findClass RX1 = some m.cls := findClass_of_methodNamed B.named
  have hlocks := B.notSynchronized
  subst hsz
  have hD := hD0.self (sz := s.heap.size)
  generalize hAe : va_A [(h0, .inr (1, [.ref hM, .ref hV, .int wd, .int hg, .int wv])), (hM, .inr (0, [.int bd, .int sb, .int nd, .ref aS, .ref aC, .ref aG])), (aS, .inl (cI, 5, .inl S0)), (aC, .inl (cI, 5, .inl Cr)), (aG, .inl (cI, 5, .inl G0)), (hV, .inr (0, [.int bd2, .int sb2, .int nd2, .ref bS, .ref bC, .ref bG])), (bS, .inl (cI, 5, .inl S2)), (bC, .inl (cI, 5, .inl Cr2)), (bG, .inl (cI, 5, .inl G2))] s.heap.size = A at hD ⊢
  have hA : ∀ q : Nat, s.heap.size ≤ q → A q := fun q h => by rw [← hAe]; exact Or.inr h
  have hS : va_S A s.heap s.heap [] := va_S.rf
  generalize hQ : MQ below (va_Qi (fun (r : Int32) (_ : Unit) => r = pBC sb) (fun u t => va_P (dC, dI) vwCl ((fun (_ : Unit) => [(h0, .inr (1, [.ref hM, .ref hV, .int wd, .int hg, .int wv])), (hM, .inr (0, [.int bd, .int sb, .int nd, .ref aS, .ref aC, .ref aG])), (aS, .inl (cI, 5, .inl S0)), (aC, .inl (cI, 5, .inl Cr)), (aG, .inl (cI, 5, .inl G0)), (hV, .inr (0, [.int bd2, .int sb2, .int nd2, .ref bS, .ref bC, .ref bG])), (bS, .inl (cI, 5, .inl S2)), (bC, .inl (cI, 5, .inl Cr2)), (bG, .inl (cI, 5, .inl G2))]) u) t.heap) A) args s 0 0 A = Q
  have F9 : CallFix p m c cX1_stubbornCells 1 s args wsX1_stubbornCells RX1 := ⟨hx, hb, hml, hown, hts⟩
  refine z_entry (R := rmX1_stubbornCells) ha (Nat.le_of_ble_eq_true rfl) (fun ls hl => ?_)
  have hl : lv_has ls 1 [(0, .ref h0)] := hl
  refine lv_aload_n hx hb dX1_stubbornCells_0 rfl (lv_at hl 0 rfl) ?_
  refine va_get (D := (dC, dI)) (ci := 1) (v := .ref hM) (C := RX1) (T := TX1) (N := 5) hx hb hts iX1_stubbornCells_X1 hown hK hP 0 rfl rfl 0 (by decide) (hts (.fieldLink RX1 12 "ColourTide" "map" "LColourTide$Tide;") (List.mem_of_getElem? (i := 1) rfl)) (fun _ h9 => h9) rfl dX1_stubbornCells_1 ?_
  refine va_get (D := (dC, dI)) (ci := 0) (v := .int sb) (C := RX0) (T := TX0) (N := 6) hx hb hts iX1_stubbornCells_X0 hown hK hP 1 rfl rfl 1 (by decide) (hts (.fieldLink RX1 69 "ColourTide$Tide" "stubborn" "I") (List.mem_of_getElem? (i := 2) rfl)) (fun _ h9 => h9) rfl dX1_stubbornCells_4 ?_
  refine z_callSi (As := [.int sb]) (rest := []) F9 (m_J6_bitCount_0f7a4 l dC dI cI cZ cJ cD sb ) (va_cwS 1 hts gX1_stubbornCells_J6_bitCount_0f7a4 rfl rfl rfl (by decide +kernel) ⟨Nat.le_of_ble_eq_true rfl, Nat.le_of_ble_eq_true rfl⟩) hK hN hP hD hS hA rfl hl.1 rfl (Nat.le_of_ble_eq_true rfl) dX1_stubbornCells_7 ⟨Nat.zero_le _, Nat.zero_le _⟩ (fun r_1 H locs hp_7 hP hS => ?_)
  have hp_7 : r_1 = pBC sb := hp_7
  refine z_topi (y := pBC sb) hp_7 ?_
  rw [← hQ]
  exact z_iret (W1 := (fun (_ : Unit) => [(h0, .inr (1, [.ref hM, .ref hV, .int wd, .int hg, .int wv])), (hM, .inr (0, [.int bd, .int sb, .int nd, .ref aS, .ref aC, .ref aG])), (aS, .inl (cI, 5, .inl S0)), (aC, .inl (cI, 5, .inl Cr)), (aG, .inl (cI, 5, .inl G0)), (hV, .inr (0, [.int bd2, .int sb2, .int nd2, .ref bS, .ref bC, .ref bG])), (bS, .inl (cI, 5, .inl S2)), (bC, .inl (cI, 5, .inl Cr2)), (bG, .inl (cI, 5, .inl G2))])) hx hb hr hlocks hP hS () (rfl) (rfl) dX1_stubbornCells_10
abbrev rmX1_borders : Room := { frames := 3, cells := 0, slots := 0, locals := 62 }
set_option maxRecDepth 20000 in
theorem iX1_borders_X0 : ∀ w ∈ wsX00, w ∈ wsX1_borders := fun w h => (goodIn_r (big := wsX1_borders) wsX00 [28, 29, 30, 31, 32, 33] (by decide +kernel) (by decide +kernel) w h).1
set_option maxRecDepth 20000 in
theorem iX1_borders_X1 : ∀ w ∈ wsX10, w ∈ wsX1_borders := fun w h => (goodIn_r (big := wsX1_borders) wsX10 [23, 24, 25, 26, 27] (by decide +kernel) (by decide +kernel) w h).1
set_option maxHeartbeats 4000000 in
set_option maxRecDepth 100000 in
theorem m_X1_borders (l : Launch) (dC : Nat → ClassId) (dI : Nat → Nat → Nat) (cI cZ cJ cD : ClassId) (h0 : Nat) (hM : Nat) (aS : Nat) (aC : Nat) (aG : Nat) (hV : Nat) (bS : Nat) (bC : Nat) (bG : Nat) (wd : Int32) (hg : Int32) (wv : Int32) (bd : Int32) (sb : Int32) (nd : Int32) (S0 : Nat → Int32) (Cr : Nat → Int32) (G0 : Nat → Int32) (bd2 : Int32) (sb2 : Int32) (nd2 : Int32) (S2 : Nat → Int32) (Cr2 : Nat → Int32) (G2 : Nat → Int32)  : zI l (dC, dI) (wT cI cZ cJ cD) yX1_borders wsX1_borders rmX1_borders [(h0, .inr (1, [.ref hM, .ref hV, .int wd, .int hg, .int wv])), (hM, .inr (0, [.int bd, .int sb, .int nd, .ref aS, .ref aC, .ref aG])), (aS, .inl (cI, 5, .inl S0)), (aC, .inl (cI, 5, .inl Cr)), (aG, .inl (cI, 5, .inl G0)), (hV, .inr (0, [.int bd2, .int sb2, .int nd2, .ref bS, .ref bC, .ref bG])), (bS, .inl (cI, 5, .inl S2)), (bC, .inl (cI, 5, .inl Cr2)), (bG, .inl (cI, 5, .inl G2))] [.ref h0] (fun (_ : Unit) => [(h0, .inr (1, [.ref hM, .ref hV, .int wd, .int hg, .int wv])), (hM, .inr (0, [.int bd, .int sb, .int nd, .ref aS, .ref aC, .ref aG])), (aS, .inl (cI, 5, .inl S0)), (aC, .inl (cI, 5, .inl Cr)), (aG, .inl (cI, 5, .inl G0)), (hV, .inr (0, [.int bd2, .int sb2, .int nd2, .ref bS, .ref bC, .ref bG])), (bS, .inl (cI, 5, .inl S2)), (bC, .inl (cI, 5, .inl Cr2)), (bG, .inl (cI, 5, .inl G2))]) (fun (r : Int32) (_ : Unit) => r = pBo S0 bd 4) := by
  intro sz
  refine Met.ofW (cc := cX1_borders) (maxL := 1) (ret := (some .int)) (by decide) rfl ?_
  intro p e s m args below meth c s₁ B hml hv
  obtain ⟨ha, hsz, hP, hK, hD0, hN⟩ := hv
  have hx := B.exec
  have hb := B.bytes
  have hr := B.returns
  have hts := atoms_spec (ws := wsX1_borders) B.pre
  have hown : s.vm.findClass RX1 = some m.cls := findClass_of_methodNamed B.named
  have hlocks := B.notSynchronized
  subst hsz
  have hD := hD0.self (sz := s.heap.size)
  generalize hAe : va_A [(h0, .inr (1, [.ref hM, .ref hV, .int wd, .int hg, .int wv])), (hM, .inr (0, [.int bd, .int sb, .int nd, .ref aS, .ref aC, .ref aG])), (aS, .inl (cI, 5, .inl S0)), (aC, .inl (cI, 5, .inl Cr)), (aG, .inl (cI, 5, .inl G0)), (hV, .inr (0, [.int bd2, .int sb2, .int nd2, .ref bS, .ref bC, .ref bG])), (bS, .inl (cI, 5, .inl S2)), (bC, .inl (cI, 5, .inl Cr2)), (bG, .inl (cI, 5, .inl G2))] s.heap.size = A at hD ⊢
  have hA : ∀ q : Nat, s.heap.size ≤ q → A q := fun q h => by rw [← hAe]; exact Or.inr h
  have hS : va_S A s.heap s.heap [] := va_S.rf
  generalize hQ : MQ below (va_Qi (fun (r : Int32) (_ : Unit) => r = pBo S0 bd 4) (fun u t => va_P (dC, dI) vwCl ((fun (_ : Unit) => [(h0, .inr (1, [.ref hM, .ref hV, .int wd, .int hg, .int wv])), (hM, .inr (0, [.int bd, .int sb, .int nd, .ref aS, .ref aC, .ref aG])), (aS, .inl (cI, 5, .inl S0)), (aC, .inl (cI, 5, .inl Cr)), (aG, .inl (cI, 5, .inl G0)), (hV, .inr (0, [.int bd2, .int sb2, .int nd2, .ref bS, .ref bC, .ref bG])), (bS, .inl (cI, 5, .inl S2)), (bC, .inl (cI, 5, .inl Cr2)), (bG, .inl (cI, 5, .inl G2))]) u) t.heap) A) args s 0 0 A = Q
  have F9 : CallFix p m c cX1_borders 1 s args wsX1_borders RX1 := ⟨hx, hb, hml, hown, hts⟩
  refine z_entry (R := rmX1_borders) ha (Nat.le_of_ble_eq_true rfl) (fun ls hl => ?_)
  have hl : lv_has ls 1 [(0, .ref h0)] := hl
  refine lv_aload_n hx hb dX1_borders_0 rfl (lv_at hl 0 rfl) ?_
  refine va_get (D := (dC, dI)) (ci := 1) (v := .ref hM) (C := RX1) (T := TX1) (N := 5) hx hb hts iX1_borders_X1 hown hK hP 0 rfl rfl 0 (by decide) (hts (.fieldLink RX1 12 "ColourTide" "map" "LColourTide$Tide;") (List.mem_of_getElem? (i := 1) rfl)) (fun _ h9 => h9) rfl dX1_borders_1 ?_
  refine z_callVi (As := []) (rest := []) F9 (m_X0_countBorders l dC dI cI cZ cJ cD hM aS aC aG bd sb nd S0 Cr G0 ) (cwV 0 hts gX1_borders_X0_countBorders rfl rfl rfl (by decide +kernel) ⟨Nat.le_of_ble_eq_true rfl, Nat.le_of_ble_eq_true rfl⟩) hK hN hP hD hS hA [1, 2, 3, 4] rfl rfl (fun _ => rfl) 1 (ci := 0) rfl rfl rfl rfl hl.1 rfl (Nat.le_of_ble_eq_true rfl) dX1_borders_4 ⟨Nat.zero_le _, Nat.zero_le _⟩ (fun r_1 u H locs hp_4 hP hD hS => ?_)
  have hP : va_P (dC, dI) vwCl [(h0, .inr (1, [.ref hM, .ref hV, .int wd, .int hg, .int wv])), (hM, .inr (0, [.int bd, .int sb, .int nd, .ref aS, .ref aC, .ref aG])), (aS, .inl (cI, 5, .inl S0)), (aC, .inl (cI, 5, .inl Cr)), (aG, .inl (cI, 5, .inl G0)), (hV, .inr (0, [.int bd2, .int sb2, .int nd2, .ref bS, .ref bC, .ref bG])), (bS, .inl (cI, 5, .inl S2)), (bC, .inl (cI, 5, .inl Cr2)), (bG, .inl (cI, 5, .inl G2))] H := hP
  have hD : va_D A [(h0, .inr (1, [.ref hM, .ref hV, .int wd, .int hg, .int wv])), (hM, .inr (0, [.int bd, .int sb, .int nd, .ref aS, .ref aC, .ref aG])), (aS, .inl (cI, 5, .inl S0)), (aC, .inl (cI, 5, .inl Cr)), (aG, .inl (cI, 5, .inl G0)), (hV, .inr (0, [.int bd2, .int sb2, .int nd2, .ref bS, .ref bC, .ref bG])), (bS, .inl (cI, 5, .inl S2)), (bC, .inl (cI, 5, .inl Cr2)), (bG, .inl (cI, 5, .inl G2))] := hD
  have hp_4 : r_1 = pBo S0 bd 4 := hp_4
  refine z_topi (y := pBo S0 bd 4) hp_4 ?_
  rw [← hQ]
  exact z_iret (W1 := (fun (_ : Unit) => [(h0, .inr (1, [.ref hM, .ref hV, .int wd, .int hg, .int wv])), (hM, .inr (0, [.int bd, .int sb, .int nd, .ref aS, .ref aC, .ref aG])), (aS, .inl (cI, 5, .inl S0)), (aC, .inl (cI, 5, .inl Cr)), (aG, .inl (cI, 5, .inl G0)), (hV, .inr (0, [.int bd2, .int sb2, .int nd2, .ref bS, .ref bC, .ref bG])), (bS, .inl (cI, 5, .inl S2)), (bC, .inl (cI, 5, .inl Cr2)), (bG, .inl (cI, 5, .inl G2))])) hx hb hr hlocks hP hS () (rfl) (rfl) dX1_borders_7
abbrev rmX1_leader : Room := { frames := 2, cells := 0, slots := 0, locals := 42 }
set_option maxRecDepth 20000 in
theorem iX1_leader_X0 : ∀ w ∈ wsX00, w ∈ wsX1_leader := fun w h => (goodIn_r (big := wsX1_leader) wsX00 [24, 25, 26, 27, 28, 29] (by decide +kernel) (by decide +kernel) w h).1
set_option maxRecDepth 20000 in
theorem iX1_leader_X1 : ∀ w ∈ wsX10, w ∈ wsX1_leader := fun w h => (goodIn_r (big := wsX1_leader) wsX10 [19, 20, 21, 22, 23] (by decide +kernel) (by decide +kernel) w h).1
set_option maxHeartbeats 4000000 in
set_option maxRecDepth 100000 in
theorem m_X1_leader (l : Launch) (dC : Nat → ClassId) (dI : Nat → Nat → Nat) (cI cZ cJ cD : ClassId) (h0 : Nat) (hM : Nat) (aS : Nat) (aC : Nat) (aG : Nat) (hV : Nat) (bS : Nat) (bC : Nat) (bG : Nat) (wd : Int32) (hg : Int32) (wv : Int32) (bd : Int32) (sb : Int32) (nd : Int32) (S0 : Nat → Int32) (Cr : Nat → Int32) (G0 : Nat → Int32) (bd2 : Int32) (sb2 : Int32) (nd2 : Int32) (S2 : Nat → Int32) (Cr2 : Nat → Int32) (G2 : Nat → Int32)  : zI l (dC, dI) (wT cI cZ cJ cD) yX1_leader wsX1_leader rmX1_leader [(h0, .inr (1, [.ref hM, .ref hV, .int wd, .int hg, .int wv])), (hM, .inr (0, [.int bd, .int sb, .int nd, .ref aS, .ref aC, .ref aG])), (aS, .inl (cI, 5, .inl S0)), (aC, .inl (cI, 5, .inl Cr)), (aG, .inl (cI, 5, .inl G0)), (hV, .inr (0, [.int bd2, .int sb2, .int nd2, .ref bS, .ref bC, .ref bG])), (bS, .inl (cI, 5, .inl S2)), (bC, .inl (cI, 5, .inl Cr2)), (bG, .inl (cI, 5, .inl G2))] [.ref h0] (fun (_ : Unit) => [(h0, .inr (1, [.ref hM, .ref hV, .int wd, .int hg, .int wv])), (hM, .inr (0, [.int bd, .int sb, .int nd, .ref aS, .ref aC, .ref aG])), (aS, .inl (cI, 5, .inl S0)), (aC, .inl (cI, 5, .inl Cr)), (aG, .inl (cI, 5, .inl G0)), (hV, .inr (0, [.int bd2, .int sb2, .int nd2, .ref bS, .ref bC, .ref bG])), (bS, .inl (cI, 5, .inl S2)), (bC, .inl (cI, 5, .inl Cr2)), (bG, .inl (cI, 5, .inl G2))]) (fun (r : Int32) (_ : Unit) => r = nI (pLb S0 4)) := by
  intro sz
  refine Met.ofW (cc := cX1_leader) (maxL := 5) (ret := (some .int)) (by decide) rfl ?_
  intro p e s m args below meth c s₁ B hml hv
  obtain ⟨ha, hsz, hP, hK, hD0, hN⟩ := hv
  have hx := B.exec
  have hb := B.bytes
  have hr := B.returns
  have hts := atoms_spec (ws := wsX1_leader) B.pre
  have hown : s.vm.findClass RX1 = some m.cls := findClass_of_methodNamed B.named
  have hlocks := B.notSynchronized
  subst hsz
  have hD := hD0.self (sz := s.heap.size)
  generalize hAe : va_A [(h0, .inr (1, [.ref hM, .ref hV, .int wd, .int hg, .int wv])), (hM, .inr (0, [.int bd, .int sb, .int nd, .ref aS, .ref aC, .ref aG])), (aS, .inl (cI, 5, .inl S0)), (aC, .inl (cI, 5, .inl Cr)), (aG, .inl (cI, 5, .inl G0)), (hV, .inr (0, [.int bd2, .int sb2, .int nd2, .ref bS, .ref bC, .ref bG])), (bS, .inl (cI, 5, .inl S2)), (bC, .inl (cI, 5, .inl Cr2)), (bG, .inl (cI, 5, .inl G2))] s.heap.size = A at hD ⊢
  have hA : ∀ q : Nat, s.heap.size ≤ q → A q := fun q h => by rw [← hAe]; exact Or.inr h
  have hS : va_S A s.heap s.heap [] := va_S.rf
  generalize hQ : MQ below (va_Qi (fun (r : Int32) (_ : Unit) => r = nI (pLb S0 4)) (fun u t => va_P (dC, dI) vwCl ((fun (_ : Unit) => [(h0, .inr (1, [.ref hM, .ref hV, .int wd, .int hg, .int wv])), (hM, .inr (0, [.int bd, .int sb, .int nd, .ref aS, .ref aC, .ref aG])), (aS, .inl (cI, 5, .inl S0)), (aC, .inl (cI, 5, .inl Cr)), (aG, .inl (cI, 5, .inl G0)), (hV, .inr (0, [.int bd2, .int sb2, .int nd2, .ref bS, .ref bC, .ref bG])), (bS, .inl (cI, 5, .inl S2)), (bC, .inl (cI, 5, .inl Cr2)), (bG, .inl (cI, 5, .inl G2))]) u) t.heap) A) args s 0 0 A = Q
  have F9 : CallFix p m c cX1_leader 5 s args wsX1_leader RX1 := ⟨hx, hb, hml, hown, hts⟩
  refine z_entry (R := rmX1_leader) ha (Nat.le_of_ble_eq_true rfl) (fun ls hl => ?_)
  have hl : lv_has ls 5 [(0, .ref h0)] := hl
  refine lv_iconst (v := 0) hx hb dX1_leader_0 (by decide) ?_
  refine lv_istore_n (lv' := [(1, .int 0), (0, .ref h0)]) hx hb dX1_leader_1 rfl hl (by decide) rfl (fun ls hl => ?_)
  refine lv_iconst (v := 0) hx hb dX1_leader_2 (by decide) ?_
  refine lv_istore_n (lv' := [(2, .int 0), (1, .int 0), (0, .ref h0)]) hx hb dX1_leader_3 rfl hl (by decide) rfl (fun ls hl => ?_)
  refine lv_iconst (v := 1) hx hb dX1_leader_4 (by decide) ?_
  refine lv_istore_n (lv' := [(3, .int 1), (2, .int 0), (1, .int 0), (0, .ref h0)]) hx hb dX1_leader_5 rfl hl (by decide) rfl (fun ls hl => ?_)
  have loop_6 : ∀ (n : Nat) (i : Nat) (lb : Nat) (lm : Int32) (hkn : i + n = 4) (e1 : lb = pLb S0 i) (e2 : lm = pLm S0 i) (H : Heap) (locs : List Loc) (ls : Array Slot) (hP : va_P (dC, dI) vwCl [(h0, .inr (1, [.ref hM, .ref hV, .int wd, .int hg, .int wv])), (hM, .inr (0, [.int bd, .int sb, .int nd, .ref aS, .ref aC, .ref aG])), (aS, .inl (cI, 5, .inl S0)), (aC, .inl (cI, 5, .inl Cr)), (aG, .inl (cI, 5, .inl G0)), (hV, .inr (0, [.int bd2, .int sb2, .int nd2, .ref bS, .ref bC, .ref bG])), (bS, .inl (cI, 5, .inl S2)), (bC, .inl (cI, 5, .inl Cr2)), (bG, .inl (cI, 5, .inl G2))] H) (hD : va_D A [(h0, .inr (1, [.ref hM, .ref hV, .int wd, .int hg, .int wv])), (hM, .inr (0, [.int bd, .int sb, .int nd, .ref aS, .ref aC, .ref aG])), (aS, .inl (cI, 5, .inl S0)), (aC, .inl (cI, 5, .inl Cr)), (aG, .inl (cI, 5, .inl G0)), (hV, .inr (0, [.int bd2, .int sb2, .int nd2, .ref bS, .ref bC, .ref bG])), (bS, .inl (cI, 5, .inl S2)), (bC, .inl (cI, 5, .inl Cr2)), (bG, .inl (cI, 5, .inl G2))]) (hS : va_S A s.heap H locs) (hl : lv_has ls 5 [(0, .ref h0), (1, .int (nI lb)), (2, .int lm), (3, .int (nI (i + 1)))]), W p l e rmX1_leader s m args below meth c H locs 0 0 Q (F0 m 6 ls []) := by
    intro n
    induction n with
    | zero =>
      intro i lb lm hkn e1 e2 H locs ls hP hD hS hl
      refine lv_iload_n hx hb dX1_leader_6 rfl (lv_at hl 3 rfl) ?_
      refine lv_iconst (v := 4) hx hb dX1_leader_7 (by decide) ?_
      refine lv_icmp_gt (tgt := 38) hx hb dX1_leader_8 (by decide) (fun c_8 => ?_) (fun c_8 => ?_)
      · skip
        have n_8 := zc_lt_t (a := 4) (b := (i + 1)) (by omega) (by omega) c_8
        refine lv_iload_n hx hb dX1_leader_38 rfl (lv_at hl 1 rfl) ?_
        rw [← hQ]
        exact z_iret (W1 := (fun (_ : Unit) => [(h0, .inr (1, [.ref hM, .ref hV, .int wd, .int hg, .int wv])), (hM, .inr (0, [.int bd, .int sb, .int nd, .ref aS, .ref aC, .ref aG])), (aS, .inl (cI, 5, .inl S0)), (aC, .inl (cI, 5, .inl Cr)), (aG, .inl (cI, 5, .inl G0)), (hV, .inr (0, [.int bd2, .int sb2, .int nd2, .ref bS, .ref bC, .ref bG])), (bS, .inl (cI, 5, .inl S2)), (bC, .inl (cI, 5, .inl Cr2)), (bG, .inl (cI, 5, .inl G2))])) hx hb hr hlocks hP hS () (rfl) (by rw [e1, show i = 4 by omega]) dX1_leader_39
      · skip
        have n_8 := zc_lt_f (a := 4) (b := (i + 1)) (by omega) (by omega) c_8
        exact absurd n_8 (by omega)
    | succ n ih_6 =>
      intro i lb lm hkn e1 e2 H locs ls hP hD hS hl
      refine lv_iload_n hx hb dX1_leader_6 rfl (lv_at hl 3 rfl) ?_
      refine lv_iconst (v := 4) hx hb dX1_leader_7 (by decide) ?_
      refine lv_icmp_gt (tgt := 38) hx hb dX1_leader_8 (by decide) (fun c_8 => ?_) (fun c_8 => ?_)
      · skip
        have n_8 := zc_lt_t (a := 4) (b := (i + 1)) (by omega) (by omega) c_8
        exact absurd n_8 (by omega)
      · skip
        have n_8 := zc_lt_f (a := 4) (b := (i + 1)) (by omega) (by omega) c_8
        refine lv_aload_n hx hb dX1_leader_11 rfl (lv_at hl 0 rfl) ?_
        refine va_get (D := (dC, dI)) (ci := 1) (v := .ref hM) (C := RX1) (T := TX1) (N := 5) hx hb hts iX1_leader_X1 hown hK hP 0 rfl rfl 0 (by decide) (hts (.fieldLink RX1 12 "ColourTide" "map" "LColourTide$Tide;") (List.mem_of_getElem? (i := 1) rfl)) (fun _ h9 => h9) rfl dX1_leader_12 ?_
        refine lv_iload_n hx hb dX1_leader_15 rfl (lv_at hl 3 rfl) ?_
        refine z_callVi (As := [.int (nI (i + 1))]) (rest := []) F9 (m_X0_count l dC dI cI cZ cJ cD hM aS aC aG bd sb nd S0 Cr G0 (nI (i + 1)) ) (cwV 1 hts gX1_leader_X0_count rfl rfl rfl (by decide +kernel) ⟨Nat.le_of_ble_eq_true rfl, Nat.le_of_ble_eq_true rfl⟩) hK hN hP hD hS hA [1, 2, 3, 4] rfl rfl (fun _ => rfl) 1 (ci := 0) rfl rfl rfl rfl hl.1 rfl (Nat.le_of_ble_eq_true rfl) dX1_leader_16 ⟨Nat.zero_le _, Nat.zero_le _⟩ (fun r_1 u H locs hp_16 hP hD hS => ?_)
        have hP : va_P (dC, dI) vwCl [(h0, .inr (1, [.ref hM, .ref hV, .int wd, .int hg, .int wv])), (hM, .inr (0, [.int bd, .int sb, .int nd, .ref aS, .ref aC, .ref aG])), (aS, .inl (cI, 5, .inl S0)), (aC, .inl (cI, 5, .inl Cr)), (aG, .inl (cI, 5, .inl G0)), (hV, .inr (0, [.int bd2, .int sb2, .int nd2, .ref bS, .ref bC, .ref bG])), (bS, .inl (cI, 5, .inl S2)), (bC, .inl (cI, 5, .inl Cr2)), (bG, .inl (cI, 5, .inl G2))] H := hP
        have hD : va_D A [(h0, .inr (1, [.ref hM, .ref hV, .int wd, .int hg, .int wv])), (hM, .inr (0, [.int bd, .int sb, .int nd, .ref aS, .ref aC, .ref aG])), (aS, .inl (cI, 5, .inl S0)), (aC, .inl (cI, 5, .inl Cr)), (aG, .inl (cI, 5, .inl G0)), (hV, .inr (0, [.int bd2, .int sb2, .int nd2, .ref bS, .ref bC, .ref bG])), (bS, .inl (cI, 5, .inl S2)), (bC, .inl (cI, 5, .inl Cr2)), (bG, .inl (cI, 5, .inl G2))] := hD
        have hp_16 : r_1 = pBC (pCW S0 (nI (i + 1))) := hp_16
        refine z_topi (y := pBC (pCW S0 (nI (i + 1)))) hp_16 ?_
        refine lv_istore (lv' := [(4, .int (pBC (pCW S0 (nI (i + 1))))), (0, .ref h0), (1, .int (nI lb)), (2, .int lm), (3, .int (nI (i + 1)))]) hx hb dX1_leader_19 hl (by decide) rfl (fun ls hl => ?_)
        refine lv_iload hx hb dX1_leader_21 (lv_at hl 0 rfl) ?_
        refine lv_iload_n hx hb dX1_leader_23 rfl (lv_at hl 3 rfl) ?_
        refine lv_icmp_le (tgt := 32) hx hb dX1_leader_24 (by decide) (fun c_24 => ?_) (fun c_24 => ?_)
        · skip
          refine lv_iinc (v := nI ((i + 1) + 1)) (lv' := [(3, .int (nI ((i + 1) + 1))), (4, .int (pBC (pCW S0 (nI (i + 1))))), (0, .ref h0), (1, .int (nI lb)), (2, .int lm)]) hx hb dX1_leader_32 hl (k := 4) rfl (nI_1 (i + 1)) (by decide) rfl (fun ls hl => ?_)
          refine lv_goto (tgt := 6) hx hb dX1_leader_35 (by decide) ?_
          exact ih_6 (i + 1) lb lm (by omega) (by rw [pLb, ← e2, if_pos c_24, e1]) (by rw [pLm, ← e2, if_pos c_24]) _ _ _ hP hD hS (lv_sub hl [2, 3, 4, 0] rfl)
        · skip
          refine lv_iload hx hb dX1_leader_27 (lv_at hl 0 rfl) ?_
          refine lv_istore_n (lv' := [(2, .int (pBC (pCW S0 (nI (i + 1))))), (4, .int (pBC (pCW S0 (nI (i + 1))))), (0, .ref h0), (1, .int (nI lb)), (3, .int (nI (i + 1)))]) hx hb dX1_leader_29 rfl hl (by decide) rfl (fun ls hl => ?_)
          refine lv_iload_n hx hb dX1_leader_30 rfl (lv_at hl 4 rfl) ?_
          refine lv_istore_n (lv' := [(1, .int (nI (i + 1))), (2, .int (pBC (pCW S0 (nI (i + 1))))), (4, .int (pBC (pCW S0 (nI (i + 1))))), (0, .ref h0), (3, .int (nI (i + 1)))]) hx hb dX1_leader_31 rfl hl (by decide) rfl (fun ls hl => ?_)
          refine lv_iinc (v := nI ((i + 1) + 1)) (lv' := [(3, .int (nI ((i + 1) + 1))), (1, .int (nI (i + 1))), (2, .int (pBC (pCW S0 (nI (i + 1))))), (4, .int (pBC (pCW S0 (nI (i + 1))))), (0, .ref h0)]) hx hb dX1_leader_32 hl (k := 4) rfl (nI_1 (i + 1)) (by decide) rfl (fun ls hl => ?_)
          refine lv_goto (tgt := 6) hx hb dX1_leader_35 (by decide) ?_
          exact ih_6 (i + 1) (i + 1) (pBC (pCW S0 (nI (i + 1)))) (by omega) (by rw [pLb, ← e2, if_neg c_24]) (by rw [pLm, ← e2, if_neg c_24]) _ _ _ hP hD hS (lv_sub hl [4, 1, 2, 0] rfl)
  exact loop_6 4 0 0 0 (by omega) (rfl) (rfl) _ _ _ hP hD hS (lv_sub hl [3, 2, 1, 0] rfl)
abbrev rmX1_isStill : Room := { frames := 3, cells := 0, slots := 0, locals := 71 }
set_option maxRecDepth 20000 in
theorem iX1_isStill_X0 : ∀ w ∈ wsX00, w ∈ wsX1_isStill := fun w h => (goodIn_r (big := wsX1_isStill) wsX00 [25, 26, 27, 28, 29, 30] (by decide +kernel) (by decide +kernel) w h).1
set_option maxRecDepth 20000 in
theorem iX1_isStill_X1 : ∀ w ∈ wsX10, w ∈ wsX1_isStill := fun w h => (goodIn_r (big := wsX1_isStill) wsX10 [20, 21, 22, 23, 24] (by decide +kernel) (by decide +kernel) w h).1
set_option maxHeartbeats 4000000 in
set_option maxRecDepth 100000 in
theorem m_X1_isStill (l : Launch) (dC : Nat → ClassId) (dI : Nat → Nat → Nat) (cI cZ cJ cD : ClassId) (h0 : Nat) (hM : Nat) (aS : Nat) (aC : Nat) (aG : Nat) (hV : Nat) (bS : Nat) (bC : Nat) (bG : Nat) (wd : Int32) (hg : Int32) (wv : Int32) (bd : Int32) (sb : Int32) (nd : Int32) (S0 : Nat → Int32) (Cr : Nat → Int32) (G0 : Nat → Int32) (bd2 : Int32) (sb2 : Int32) (nd2 : Int32) (S2 : Nat → Int32) (Cr2 : Nat → Int32) (G2 : Nat → Int32) (q0 : Nat) (hq : 1 ≤ q0 ∧ q0 ≤ 4) (hnd : nd = nI q0) : zI l (dC, dI) (wT cI cZ cJ cD) yX1_isStill wsX1_isStill rmX1_isStill [(h0, .inr (1, [.ref hM, .ref hV, .int wd, .int hg, .int wv])), (hM, .inr (0, [.int bd, .int sb, .int nd, .ref aS, .ref aC, .ref aG])), (aS, .inl (cI, 5, .inl S0)), (aC, .inl (cI, 5, .inl Cr)), (aG, .inl (cI, 5, .inl G0)), (hV, .inr (0, [.int bd2, .int sb2, .int nd2, .ref bS, .ref bC, .ref bG])), (bS, .inl (cI, 5, .inl S2)), (bC, .inl (cI, 5, .inl Cr2)), (bG, .inl (cI, 5, .inl G2))] [.ref h0] (fun (u : (Nat → Int32) × (Nat → Int32)) => [(h0, .inr (1, [.ref hM, .ref hV, .int wd, .int hg, .int wv])), (hM, .inr (0, [.int bd, .int sb, .int nd, .ref aS, .ref aC, .ref aG])), (aS, .inl (cI, 5, .inl S0)), (aC, .inl (cI, 5, .inl u.1)), (aG, .inl (cI, 5, .inl u.2)), (hV, .inr (0, [.int bd2, .int sb2, .int nd2, .ref bS, .ref bC, .ref bG])), (bS, .inl (cI, 5, .inl S2)), (bC, .inl (cI, 5, .inl Cr2)), (bG, .inl (cI, 5, .inl G2))]) (fun (r : Int32) (u : (Nat → Int32) × (Nat → Int32)) => r = if pC0 S0 bd sb q0 = 0 then 1 else 0) := by
  intro sz
  refine Met.ofW (cc := cX1_isStill) (maxL := 1) (ret := (some .boolean)) (by decide) rfl ?_
  intro p e s m args below meth c s₁ B hml hv
  obtain ⟨ha, hsz, hP, hK, hD0, hN⟩ := hv
  have hx := B.exec
  have hb := B.bytes
  have hr := B.returns
  have hts := atoms_spec (ws := wsX1_isStill) B.pre
  have hown : s.vm.findClass RX1 = some m.cls := findClass_of_methodNamed B.named
  have hlocks := B.notSynchronized
  subst hsz
  have hD := hD0.self (sz := s.heap.size)
  generalize hAe : va_A [(h0, .inr (1, [.ref hM, .ref hV, .int wd, .int hg, .int wv])), (hM, .inr (0, [.int bd, .int sb, .int nd, .ref aS, .ref aC, .ref aG])), (aS, .inl (cI, 5, .inl S0)), (aC, .inl (cI, 5, .inl Cr)), (aG, .inl (cI, 5, .inl G0)), (hV, .inr (0, [.int bd2, .int sb2, .int nd2, .ref bS, .ref bC, .ref bG])), (bS, .inl (cI, 5, .inl S2)), (bC, .inl (cI, 5, .inl Cr2)), (bG, .inl (cI, 5, .inl G2))] s.heap.size = A at hD ⊢
  have hA : ∀ q : Nat, s.heap.size ≤ q → A q := fun q h => by rw [← hAe]; exact Or.inr h
  have hS : va_S A s.heap s.heap [] := va_S.rf
  generalize hQ : MQ below (va_Qi (fun (r : Int32) (u : (Nat → Int32) × (Nat → Int32)) => r = if pC0 S0 bd sb q0 = 0 then 1 else 0) (fun u t => va_P (dC, dI) vwCl ((fun (u : (Nat → Int32) × (Nat → Int32)) => [(h0, .inr (1, [.ref hM, .ref hV, .int wd, .int hg, .int wv])), (hM, .inr (0, [.int bd, .int sb, .int nd, .ref aS, .ref aC, .ref aG])), (aS, .inl (cI, 5, .inl S0)), (aC, .inl (cI, 5, .inl u.1)), (aG, .inl (cI, 5, .inl u.2)), (hV, .inr (0, [.int bd2, .int sb2, .int nd2, .ref bS, .ref bC, .ref bG])), (bS, .inl (cI, 5, .inl S2)), (bC, .inl (cI, 5, .inl Cr2)), (bG, .inl (cI, 5, .inl G2))]) u) t.heap) A) args s 0 0 A = Q
  have F9 : CallFix p m c cX1_isStill 1 s args wsX1_isStill RX1 := ⟨hx, hb, hml, hown, hts⟩
  refine z_entry (R := rmX1_isStill) ha (Nat.le_of_ble_eq_true rfl) (fun ls hl => ?_)
  have hl : lv_has ls 1 [(0, .ref h0)] := hl
  refine lv_aload_n hx hb dX1_isStill_0 rfl (lv_at hl 0 rfl) ?_
  refine va_get (D := (dC, dI)) (ci := 1) (v := .ref hM) (C := RX1) (T := TX1) (N := 5) hx hb hts iX1_isStill_X1 hown hK hP 0 rfl rfl 0 (by decide) (hts (.fieldLink RX1 12 "ColourTide" "map" "LColourTide$Tide;") (List.mem_of_getElem? (i := 1) rfl)) (fun _ h9 => h9) rfl dX1_isStill_1 ?_
  refine z_callVi (As := []) (rest := []) F9 (m_X0_foresee l dC dI cI cZ cJ cD hM aS aC aG bd sb nd S0 Cr G0 q0 (hq) (hnd)) (cwV 0 hts gX1_isStill_X0_foresee rfl rfl rfl (by decide +kernel) ⟨Nat.le_of_ble_eq_true rfl, Nat.le_of_ble_eq_true rfl⟩) hK hN hP hD hS hA [1, 2, 3, 4] rfl rfl (fun _ => rfl) 1 (ci := 0) rfl rfl rfl rfl hl.1 rfl (Nat.le_of_ble_eq_true rfl) dX1_isStill_4 ⟨Nat.zero_le _, Nat.zero_le _⟩ (fun r_1 u H locs hp_4 hP hD hS => ?_)
  have hP : va_P (dC, dI) vwCl [(h0, .inr (1, [.ref hM, .ref hV, .int wd, .int hg, .int wv])), (hM, .inr (0, [.int bd, .int sb, .int nd, .ref aS, .ref aC, .ref aG])), (aS, .inl (cI, 5, .inl S0)), (aC, .inl (cI, 5, .inl (pCs S0 q0 Cr (5 - q0)))), (aG, .inl (cI, 5, .inl (pGf S0 bd sb q0 G0))), (hV, .inr (0, [.int bd2, .int sb2, .int nd2, .ref bS, .ref bC, .ref bG])), (bS, .inl (cI, 5, .inl S2)), (bC, .inl (cI, 5, .inl Cr2)), (bG, .inl (cI, 5, .inl G2))] H := hP
  have hD : va_D A [(h0, .inr (1, [.ref hM, .ref hV, .int wd, .int hg, .int wv])), (hM, .inr (0, [.int bd, .int sb, .int nd, .ref aS, .ref aC, .ref aG])), (aS, .inl (cI, 5, .inl S0)), (aC, .inl (cI, 5, .inl (pCs S0 q0 Cr (5 - q0)))), (aG, .inl (cI, 5, .inl (pGf S0 bd sb q0 G0))), (hV, .inr (0, [.int bd2, .int sb2, .int nd2, .ref bS, .ref bC, .ref bG])), (bS, .inl (cI, 5, .inl S2)), (bC, .inl (cI, 5, .inl Cr2)), (bG, .inl (cI, 5, .inl G2))] := hD
  have hp_4 : r_1 = pC0 S0 bd sb q0 := hp_4
  refine z_topi (y := pC0 S0 bd sb q0) hp_4 ?_
  refine lv_if_ne (tgt := 14) hx hb dX1_isStill_7 (by decide) (fun c_7 => ?_) (fun c_7 => ?_)
  · skip
    refine lv_iconst (v := 0) hx hb dX1_isStill_14 (by decide) ?_
    rw [← hQ]
    exact z_zret (W1 := (fun (u : (Nat → Int32) × (Nat → Int32)) => [(h0, .inr (1, [.ref hM, .ref hV, .int wd, .int hg, .int wv])), (hM, .inr (0, [.int bd, .int sb, .int nd, .ref aS, .ref aC, .ref aG])), (aS, .inl (cI, 5, .inl S0)), (aC, .inl (cI, 5, .inl u.1)), (aG, .inl (cI, 5, .inl u.2)), (hV, .inr (0, [.int bd2, .int sb2, .int nd2, .ref bS, .ref bC, .ref bG])), (bS, .inl (cI, 5, .inl S2)), (bC, .inl (cI, 5, .inl Cr2)), (bG, .inl (cI, 5, .inl G2))])) hx hb hr hlocks (by decide +kernel) hP hS ((pCs S0 q0 Cr (5 - q0)), (pGf S0 bd sb q0 G0)) (rfl) (by rw [if_neg c_7]) dX1_isStill_15
  · skip
    refine lv_iconst (v := 1) hx hb dX1_isStill_10 (by decide) ?_
    refine lv_goto (tgt := 15) hx hb dX1_isStill_11 (by decide) ?_
    rw [← hQ]
    exact z_zret (W1 := (fun (u : (Nat → Int32) × (Nat → Int32)) => [(h0, .inr (1, [.ref hM, .ref hV, .int wd, .int hg, .int wv])), (hM, .inr (0, [.int bd, .int sb, .int nd, .ref aS, .ref aC, .ref aG])), (aS, .inl (cI, 5, .inl S0)), (aC, .inl (cI, 5, .inl u.1)), (aG, .inl (cI, 5, .inl u.2)), (hV, .inr (0, [.int bd2, .int sb2, .int nd2, .ref bS, .ref bC, .ref bG])), (bS, .inl (cI, 5, .inl S2)), (bC, .inl (cI, 5, .inl Cr2)), (bG, .inl (cI, 5, .inl G2))])) hx hb hr hlocks (by decide +kernel) hP hS ((pCs S0 q0 Cr (5 - q0)), (pGf S0 bd sb q0 G0)) (rfl) (by rw [if_pos c_7]) dX1_isStill_15
abbrev rmX1_winner : Room := { frames := 2, cells := 0, slots := 0, locals := 42 }
set_option maxRecDepth 20000 in
theorem iX1_winner_X0 : ∀ w ∈ wsX00, w ∈ wsX1_winner := fun w h => (goodIn_r (big := wsX1_winner) wsX00 [18, 19, 20, 21, 22, 23] (by decide +kernel) (by decide +kernel) w h).1
set_option maxRecDepth 20000 in
theorem iX1_winner_X1 : ∀ w ∈ wsX10, w ∈ wsX1_winner := fun w h => (goodIn_r (big := wsX1_winner) wsX10 [13, 14, 15, 16, 17] (by decide +kernel) (by decide +kernel) w h).1
set_option maxHeartbeats 4000000 in
set_option maxRecDepth 100000 in
theorem m_X1_winner (l : Launch) (dC : Nat → ClassId) (dI : Nat → Nat → Nat) (cI cZ cJ cD : ClassId) (h0 : Nat) (hM : Nat) (aS : Nat) (aC : Nat) (aG : Nat) (hV : Nat) (bS : Nat) (bC : Nat) (bG : Nat) (wd : Int32) (hg : Int32) (wv : Int32) (bd : Int32) (sb : Int32) (nd : Int32) (S0 : Nat → Int32) (Cr : Nat → Int32) (G0 : Nat → Int32) (bd2 : Int32) (sb2 : Int32) (nd2 : Int32) (S2 : Nat → Int32) (Cr2 : Nat → Int32) (G2 : Nat → Int32)  : zI l (dC, dI) (wT cI cZ cJ cD) yX1_winner wsX1_winner rmX1_winner [(h0, .inr (1, [.ref hM, .ref hV, .int wd, .int hg, .int wv])), (hM, .inr (0, [.int bd, .int sb, .int nd, .ref aS, .ref aC, .ref aG])), (aS, .inl (cI, 5, .inl S0)), (aC, .inl (cI, 5, .inl Cr)), (aG, .inl (cI, 5, .inl G0)), (hV, .inr (0, [.int bd2, .int sb2, .int nd2, .ref bS, .ref bC, .ref bG])), (bS, .inl (cI, 5, .inl S2)), (bC, .inl (cI, 5, .inl Cr2)), (bG, .inl (cI, 5, .inl G2))] [.ref h0] (fun (_ : Unit) => [(h0, .inr (1, [.ref hM, .ref hV, .int wd, .int hg, .int wv])), (hM, .inr (0, [.int bd, .int sb, .int nd, .ref aS, .ref aC, .ref aG])), (aS, .inl (cI, 5, .inl S0)), (aC, .inl (cI, 5, .inl Cr)), (aG, .inl (cI, 5, .inl G0)), (hV, .inr (0, [.int bd2, .int sb2, .int nd2, .ref bS, .ref bC, .ref bG])), (bS, .inl (cI, 5, .inl S2)), (bC, .inl (cI, 5, .inl Cr2)), (bG, .inl (cI, 5, .inl G2))]) (fun (r : Int32) (_ : Unit) => r = pWr S0 bd) := by
  intro sz
  refine Met.ofW (cc := cX1_winner) (maxL := 2) (ret := (some .int)) (by decide) rfl ?_
  intro p e s m args below meth c s₁ B hml hv
  obtain ⟨ha, hsz, hP, hK, hD0, hN⟩ := hv
  have hx := B.exec
  have hb := B.bytes
  have hr := B.returns
  have hts := atoms_spec (ws := wsX1_winner) B.pre
  have hown : s.vm.findClass RX1 = some m.cls := findClass_of_methodNamed B.named
  have hlocks := B.notSynchronized
  subst hsz
  have hD := hD0.self (sz := s.heap.size)
  generalize hAe : va_A [(h0, .inr (1, [.ref hM, .ref hV, .int wd, .int hg, .int wv])), (hM, .inr (0, [.int bd, .int sb, .int nd, .ref aS, .ref aC, .ref aG])), (aS, .inl (cI, 5, .inl S0)), (aC, .inl (cI, 5, .inl Cr)), (aG, .inl (cI, 5, .inl G0)), (hV, .inr (0, [.int bd2, .int sb2, .int nd2, .ref bS, .ref bC, .ref bG])), (bS, .inl (cI, 5, .inl S2)), (bC, .inl (cI, 5, .inl Cr2)), (bG, .inl (cI, 5, .inl G2))] s.heap.size = A at hD ⊢
  have hA : ∀ q : Nat, s.heap.size ≤ q → A q := fun q h => by rw [← hAe]; exact Or.inr h
  have hS : va_S A s.heap s.heap [] := va_S.rf
  generalize hQ : MQ below (va_Qi (fun (r : Int32) (_ : Unit) => r = pWr S0 bd) (fun u t => va_P (dC, dI) vwCl ((fun (_ : Unit) => [(h0, .inr (1, [.ref hM, .ref hV, .int wd, .int hg, .int wv])), (hM, .inr (0, [.int bd, .int sb, .int nd, .ref aS, .ref aC, .ref aG])), (aS, .inl (cI, 5, .inl S0)), (aC, .inl (cI, 5, .inl Cr)), (aG, .inl (cI, 5, .inl G0)), (hV, .inr (0, [.int bd2, .int sb2, .int nd2, .ref bS, .ref bC, .ref bG])), (bS, .inl (cI, 5, .inl S2)), (bC, .inl (cI, 5, .inl Cr2)), (bG, .inl (cI, 5, .inl G2))]) u) t.heap) A) args s 0 0 A = Q
  have F9 : CallFix p m c cX1_winner 2 s args wsX1_winner RX1 := ⟨hx, hb, hml, hown, hts⟩
  refine z_entry (R := rmX1_winner) ha (Nat.le_of_ble_eq_true rfl) (fun ls hl => ?_)
  have hl : lv_has ls 2 [(0, .ref h0)] := hl
  refine lv_iconst (v := 1) hx hb dX1_winner_0 (by decide) ?_
  refine lv_istore_n (lv' := [(1, .int 1), (0, .ref h0)]) hx hb dX1_winner_1 rfl hl (by decide) rfl (fun ls hl => ?_)
  have loop_2 : ∀ (n : Nat) (k : Nat) (hkn : k + n = 5) (h1 : 1 ≤ k) (hz : ∀ j, 1 ≤ j → j < k → ¬ pCW S0 (nI j) = bd) (H : Heap) (locs : List Loc) (ls : Array Slot) (hP : va_P (dC, dI) vwCl [(h0, .inr (1, [.ref hM, .ref hV, .int wd, .int hg, .int wv])), (hM, .inr (0, [.int bd, .int sb, .int nd, .ref aS, .ref aC, .ref aG])), (aS, .inl (cI, 5, .inl S0)), (aC, .inl (cI, 5, .inl Cr)), (aG, .inl (cI, 5, .inl G0)), (hV, .inr (0, [.int bd2, .int sb2, .int nd2, .ref bS, .ref bC, .ref bG])), (bS, .inl (cI, 5, .inl S2)), (bC, .inl (cI, 5, .inl Cr2)), (bG, .inl (cI, 5, .inl G2))] H) (hD : va_D A [(h0, .inr (1, [.ref hM, .ref hV, .int wd, .int hg, .int wv])), (hM, .inr (0, [.int bd, .int sb, .int nd, .ref aS, .ref aC, .ref aG])), (aS, .inl (cI, 5, .inl S0)), (aC, .inl (cI, 5, .inl Cr)), (aG, .inl (cI, 5, .inl G0)), (hV, .inr (0, [.int bd2, .int sb2, .int nd2, .ref bS, .ref bC, .ref bG])), (bS, .inl (cI, 5, .inl S2)), (bC, .inl (cI, 5, .inl Cr2)), (bG, .inl (cI, 5, .inl G2))]) (hS : va_S A s.heap H locs) (hl : lv_has ls 2 [(0, .ref h0), (1, .int (nI k))]), W p l e rmX1_winner s m args below meth c H locs 0 0 Q (F0 m 2 ls []) := by
    intro n
    induction n with
    | zero =>
      intro k hkn h1 hz H locs ls hP hD hS hl
      refine lv_iload_n hx hb dX1_winner_2 rfl (lv_at hl 1 rfl) ?_
      refine lv_iconst (v := 4) hx hb dX1_winner_3 (by decide) ?_
      refine lv_icmp_gt (tgt := 26) hx hb dX1_winner_4 (by decide) (fun c_4 => ?_) (fun c_4 => ?_)
      · skip
        have n_4 := zc_lt_t (a := 4) (b := k) (by omega) (by omega) c_4
        refine lv_iconst (v := 0) hx hb dX1_winner_26 (by decide) ?_
        rw [← hQ]
        exact z_iret (W1 := (fun (_ : Unit) => [(h0, .inr (1, [.ref hM, .ref hV, .int wd, .int hg, .int wv])), (hM, .inr (0, [.int bd, .int sb, .int nd, .ref aS, .ref aC, .ref aG])), (aS, .inl (cI, 5, .inl S0)), (aC, .inl (cI, 5, .inl Cr)), (aG, .inl (cI, 5, .inl G0)), (hV, .inr (0, [.int bd2, .int sb2, .int nd2, .ref bS, .ref bC, .ref bG])), (bS, .inl (cI, 5, .inl S2)), (bC, .inl (cI, 5, .inl Cr2)), (bG, .inl (cI, 5, .inl G2))])) hx hb hr hlocks hP hS () (rfl) (pWr_no (fun j h1 h2 => hz j h1 (by omega))) dX1_winner_27
      · skip
        have n_4 := zc_lt_f (a := 4) (b := k) (by omega) (by omega) c_4
        exact absurd n_4 (by omega)
    | succ n ih_2 =>
      intro k hkn h1 hz H locs ls hP hD hS hl
      refine lv_iload_n hx hb dX1_winner_2 rfl (lv_at hl 1 rfl) ?_
      refine lv_iconst (v := 4) hx hb dX1_winner_3 (by decide) ?_
      refine lv_icmp_gt (tgt := 26) hx hb dX1_winner_4 (by decide) (fun c_4 => ?_) (fun c_4 => ?_)
      · skip
        have n_4 := zc_lt_t (a := 4) (b := k) (by omega) (by omega) c_4
        exact absurd n_4 (by omega)
      · skip
        have n_4 := zc_lt_f (a := 4) (b := k) (by omega) (by omega) c_4
        refine lv_aload_n hx hb dX1_winner_7 rfl (lv_at hl 0 rfl) ?_
        refine va_get (D := (dC, dI)) (ci := 1) (v := .ref hM) (C := RX1) (T := TX1) (N := 5) hx hb hts iX1_winner_X1 hown hK hP 0 rfl rfl 0 (by decide) (hts (.fieldLink RX1 12 "ColourTide" "map" "LColourTide$Tide;") (List.mem_of_getElem? (i := 1) rfl)) (fun _ h9 => h9) rfl dX1_winner_8 ?_
        refine lv_iload_n hx hb dX1_winner_11 rfl (lv_at hl 1 rfl) ?_
        refine z_callVi (As := [.int (nI k)]) (rest := []) F9 (m_X0_isAll l dC dI cI cZ cJ cD hM aS aC aG bd sb nd S0 Cr G0 (nI k) ) (cwV 1 hts gX1_winner_X0_isAll rfl rfl rfl (by decide +kernel) ⟨Nat.le_of_ble_eq_true rfl, Nat.le_of_ble_eq_true rfl⟩) hK hN hP hD hS hA [1, 2, 3, 4] rfl rfl (fun _ => rfl) 1 (ci := 0) rfl rfl rfl rfl hl.1 rfl (Nat.le_of_ble_eq_true rfl) dX1_winner_12 ⟨Nat.zero_le _, Nat.zero_le _⟩ (fun r_1 u H locs hp_12 hP hD hS => ?_)
        have hP : va_P (dC, dI) vwCl [(h0, .inr (1, [.ref hM, .ref hV, .int wd, .int hg, .int wv])), (hM, .inr (0, [.int bd, .int sb, .int nd, .ref aS, .ref aC, .ref aG])), (aS, .inl (cI, 5, .inl S0)), (aC, .inl (cI, 5, .inl Cr)), (aG, .inl (cI, 5, .inl G0)), (hV, .inr (0, [.int bd2, .int sb2, .int nd2, .ref bS, .ref bC, .ref bG])), (bS, .inl (cI, 5, .inl S2)), (bC, .inl (cI, 5, .inl Cr2)), (bG, .inl (cI, 5, .inl G2))] H := hP
        have hD : va_D A [(h0, .inr (1, [.ref hM, .ref hV, .int wd, .int hg, .int wv])), (hM, .inr (0, [.int bd, .int sb, .int nd, .ref aS, .ref aC, .ref aG])), (aS, .inl (cI, 5, .inl S0)), (aC, .inl (cI, 5, .inl Cr)), (aG, .inl (cI, 5, .inl G0)), (hV, .inr (0, [.int bd2, .int sb2, .int nd2, .ref bS, .ref bC, .ref bG])), (bS, .inl (cI, 5, .inl S2)), (bC, .inl (cI, 5, .inl Cr2)), (bG, .inl (cI, 5, .inl G2))] := hD
        have hp_12 : r_1 = if pCW S0 (nI k) = bd then 1 else 0 := hp_12
        refine z_topi (y := if pCW S0 (nI k) = bd then 1 else 0) hp_12 ?_
        refine lv_if_eq (tgt := 20) hx hb dX1_winner_15 (by decide) (fun c_15 => ?_) (fun c_15 => ?_)
        · skip
          refine lv_iinc (v := nI (k + 1)) (lv' := [(1, .int (nI (k + 1))), (0, .ref h0)]) hx hb dX1_winner_20 hl (k := 1) rfl (nI_1 k) (by decide) rfl (fun ls hl => ?_)
          refine lv_goto (tgt := 2) hx hb dX1_winner_23 (by decide) ?_
          exact ih_2 (k + 1) (by omega) (by omega) (fun j h1 h2 => by rcases Nat.lt_succ_iff_lt_or_eq.mp h2 with h | rfl; exact hz j h1 h; exact z_if0 c_15) _ _ _ hP hD hS (lv_sub hl [1, 0] rfl)
        · skip
          refine lv_iload_n hx hb dX1_winner_18 rfl (lv_at hl 1 rfl) ?_
          rw [← hQ]
          exact z_iret (W1 := (fun (_ : Unit) => [(h0, .inr (1, [.ref hM, .ref hV, .int wd, .int hg, .int wv])), (hM, .inr (0, [.int bd, .int sb, .int nd, .ref aS, .ref aC, .ref aG])), (aS, .inl (cI, 5, .inl S0)), (aC, .inl (cI, 5, .inl Cr)), (aG, .inl (cI, 5, .inl G0)), (hV, .inr (0, [.int bd2, .int sb2, .int nd2, .ref bS, .ref bC, .ref bG])), (bS, .inl (cI, 5, .inl S2)), (bC, .inl (cI, 5, .inl Cr2)), (bG, .inl (cI, 5, .inl G2))])) hx hb hr hlocks hP hS () (rfl) (pWr_at h1 (by omega) hz (z_if1 c_15)) dX1_winner_19
  exact loop_2 4 1 (by omega) (Nat.le_refl 1) (fun j h1 h2 => absurd h2 (by omega)) _ _ _ hP hD hS (lv_sub hl [1, 0] rfl)
