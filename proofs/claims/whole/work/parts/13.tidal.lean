abbrev rmX1_isOnMap : Room := { frames := 0, cells := 0, slots := 0, locals := 0 }
set_option maxRecDepth 20000 in
theorem iX1_isOnMap_X1 : ∀ w ∈ wsX10, w ∈ wsX1_isOnMap := fun w h => (goodIn_r (big := wsX1_isOnMap) wsX10 [3, 4, 5, 6, 7] (by decide +kernel) (by decide +kernel) w h).1
set_option maxHeartbeats 4000000 in
set_option maxRecDepth 100000 in
theorem m_X1_isOnMap (l : Launch) (dC : Nat → ClassId) (dI : Nat → Nat → Nat) (cI cZ cJ cD : ClassId) (h0 : Nat) (hM : Nat) (aS : Nat) (aC : Nat) (aG : Nat) (hV : Nat) (bS : Nat) (bC : Nat) (bG : Nat) (wd : Int32) (hg : Int32) (wv : Int32) (bd : Int32) (sb : Int32) (nd : Int32) (S0 : Nat → Int32) (Cr : Nat → Int32) (G0 : Nat → Int32) (bd2 : Int32) (sb2 : Int32) (nd2 : Int32) (S2 : Nat → Int32) (Cr2 : Nat → Int32) (G2 : Nat → Int32) (x0 : Int32) (y0 : Int32)  : zI l (dC, dI) (wT cI cZ cJ cD) yX1_isOnMap wsX1_isOnMap rmX1_isOnMap [(h0, .inr (1, [.ref hM, .ref hV, .int wd, .int hg, .int wv])), (hM, .inr (0, [.int bd, .int sb, .int nd, .ref aS, .ref aC, .ref aG])), (aS, .inl (cI, 5, .inl S0)), (aC, .inl (cI, 5, .inl Cr)), (aG, .inl (cI, 5, .inl G0)), (hV, .inr (0, [.int bd2, .int sb2, .int nd2, .ref bS, .ref bC, .ref bG])), (bS, .inl (cI, 5, .inl S2)), (bC, .inl (cI, 5, .inl Cr2)), (bG, .inl (cI, 5, .inl G2))] [.ref h0, .int x0, .int y0] (fun (_ : Unit) => [(h0, .inr (1, [.ref hM, .ref hV, .int wd, .int hg, .int wv])), (hM, .inr (0, [.int bd, .int sb, .int nd, .ref aS, .ref aC, .ref aG])), (aS, .inl (cI, 5, .inl S0)), (aC, .inl (cI, 5, .inl Cr)), (aG, .inl (cI, 5, .inl G0)), (hV, .inr (0, [.int bd2, .int sb2, .int nd2, .ref bS, .ref bC, .ref bG])), (bS, .inl (cI, 5, .inl S2)), (bC, .inl (cI, 5, .inl Cr2)), (bG, .inl (cI, 5, .inl G2))]) (fun (r : Int32) (_ : Unit) => r = if pOn x0 y0 wd hg then 1 else 0) := by
  intro sz
  refine Met.ofW (cc := cX1_isOnMap) (maxL := 3) (ret := (some .boolean)) (by decide) rfl ?_
  intro p e s m args below meth c s₁ B hml hv
  obtain ⟨ha, hsz, hP, hK, hD0, hN⟩ := hv
  have hx := B.exec
  have hb := B.bytes
  have hr := B.returns
  have hts := atoms_spec (ws := wsX1_isOnMap) B.pre
  have hown : s.vm.findClass RX1 = some m.cls := findClass_of_methodNamed B.named
  have hlocks := B.notSynchronized
  subst hsz
  have hD := hD0.self (sz := s.heap.size)
  generalize hAe : va_A [(h0, .inr (1, [.ref hM, .ref hV, .int wd, .int hg, .int wv])), (hM, .inr (0, [.int bd, .int sb, .int nd, .ref aS, .ref aC, .ref aG])), (aS, .inl (cI, 5, .inl S0)), (aC, .inl (cI, 5, .inl Cr)), (aG, .inl (cI, 5, .inl G0)), (hV, .inr (0, [.int bd2, .int sb2, .int nd2, .ref bS, .ref bC, .ref bG])), (bS, .inl (cI, 5, .inl S2)), (bC, .inl (cI, 5, .inl Cr2)), (bG, .inl (cI, 5, .inl G2))] s.heap.size = A at hD ⊢
  have hA : ∀ q : Nat, s.heap.size ≤ q → A q := fun q h => by rw [← hAe]; exact Or.inr h
  have hS : va_S A s.heap s.heap [] := va_S.rf
  generalize hQ : MQ below (va_Qi (fun (r : Int32) (_ : Unit) => r = if pOn x0 y0 wd hg then 1 else 0) (fun u t => va_P (dC, dI) vwCl ((fun (_ : Unit) => [(h0, .inr (1, [.ref hM, .ref hV, .int wd, .int hg, .int wv])), (hM, .inr (0, [.int bd, .int sb, .int nd, .ref aS, .ref aC, .ref aG])), (aS, .inl (cI, 5, .inl S0)), (aC, .inl (cI, 5, .inl Cr)), (aG, .inl (cI, 5, .inl G0)), (hV, .inr (0, [.int bd2, .int sb2, .int nd2, .ref bS, .ref bC, .ref bG])), (bS, .inl (cI, 5, .inl S2)), (bC, .inl (cI, 5, .inl Cr2)), (bG, .inl (cI, 5, .inl G2))]) u) t.heap) A) args s 0 0 A = Q
  have F9 : CallFix p m c cX1_isOnMap 3 s args wsX1_isOnMap RX1 := ⟨hx, hb, hml, hown, hts⟩
  refine z_entry (R := rmX1_isOnMap) ha (Nat.le_of_ble_eq_true rfl) (fun ls hl => ?_)
  have hl : lv_has ls 3 [(0, .ref h0), (1, .int x0), (2, .int y0)] := hl
  refine lv_iload_n hx hb dX1_isOnMap_0 rfl (lv_at hl 1 rfl) ?_
  refine lv_if_lt (tgt := 28) hx hb dX1_isOnMap_1 (by decide) (fun c_1 => ?_) (fun c_1 => ?_)
  · skip
    refine lv_iconst (v := 0) hx hb dX1_isOnMap_28 (by decide) ?_
    rw [← hQ]
    exact z_zret (W1 := (fun (_ : Unit) => [(h0, .inr (1, [.ref hM, .ref hV, .int wd, .int hg, .int wv])), (hM, .inr (0, [.int bd, .int sb, .int nd, .ref aS, .ref aC, .ref aG])), (aS, .inl (cI, 5, .inl S0)), (aC, .inl (cI, 5, .inl Cr)), (aG, .inl (cI, 5, .inl G0)), (hV, .inr (0, [.int bd2, .int sb2, .int nd2, .ref bS, .ref bC, .ref bG])), (bS, .inl (cI, 5, .inl S2)), (bC, .inl (cI, 5, .inl Cr2)), (bG, .inl (cI, 5, .inl G2))])) hx hb hr hlocks (by decide +kernel) hP hS () (rfl) (by rw [if_neg (fun q => q.1 c_1)]) dX1_isOnMap_29
  · skip
    refine lv_iload_n hx hb dX1_isOnMap_4 rfl (lv_at hl 1 rfl) ?_
    refine lv_aload_n hx hb dX1_isOnMap_5 rfl (lv_at hl 0 rfl) ?_
    refine va_get (D := (dC, dI)) (ci := 1) (v := .int wd) (C := RX1) (T := TX1) (N := 5) hx hb hts iX1_isOnMap_X1 hown hK hP 0 rfl rfl 2 (by decide) (hts (.fieldLink RX1 19 "ColourTide" "width" "I") (List.mem_of_getElem? (i := 1) rfl)) (fun _ h9 => h9) rfl dX1_isOnMap_6 ?_
    refine lv_icmp_ge (tgt := 28) hx hb dX1_isOnMap_9 (by decide) (fun c_9 => ?_) (fun c_9 => ?_)
    · skip
      refine lv_iconst (v := 0) hx hb dX1_isOnMap_28 (by decide) ?_
      rw [← hQ]
      exact z_zret (W1 := (fun (_ : Unit) => [(h0, .inr (1, [.ref hM, .ref hV, .int wd, .int hg, .int wv])), (hM, .inr (0, [.int bd, .int sb, .int nd, .ref aS, .ref aC, .ref aG])), (aS, .inl (cI, 5, .inl S0)), (aC, .inl (cI, 5, .inl Cr)), (aG, .inl (cI, 5, .inl G0)), (hV, .inr (0, [.int bd2, .int sb2, .int nd2, .ref bS, .ref bC, .ref bG])), (bS, .inl (cI, 5, .inl S2)), (bC, .inl (cI, 5, .inl Cr2)), (bG, .inl (cI, 5, .inl G2))])) hx hb hr hlocks (by decide +kernel) hP hS () (rfl) (by rw [if_neg (fun q => q.2.1 c_9)]) dX1_isOnMap_29
    · skip
      refine lv_iload_n hx hb dX1_isOnMap_12 rfl (lv_at hl 2 rfl) ?_
      refine lv_if_lt (tgt := 28) hx hb dX1_isOnMap_13 (by decide) (fun c_13 => ?_) (fun c_13 => ?_)
      · skip
        refine lv_iconst (v := 0) hx hb dX1_isOnMap_28 (by decide) ?_
        rw [← hQ]
        exact z_zret (W1 := (fun (_ : Unit) => [(h0, .inr (1, [.ref hM, .ref hV, .int wd, .int hg, .int wv])), (hM, .inr (0, [.int bd, .int sb, .int nd, .ref aS, .ref aC, .ref aG])), (aS, .inl (cI, 5, .inl S0)), (aC, .inl (cI, 5, .inl Cr)), (aG, .inl (cI, 5, .inl G0)), (hV, .inr (0, [.int bd2, .int sb2, .int nd2, .ref bS, .ref bC, .ref bG])), (bS, .inl (cI, 5, .inl S2)), (bC, .inl (cI, 5, .inl Cr2)), (bG, .inl (cI, 5, .inl G2))])) hx hb hr hlocks (by decide +kernel) hP hS () (rfl) (by rw [if_neg (fun q => q.2.2.1 c_13)]) dX1_isOnMap_29
      · skip
        refine lv_iload_n hx hb dX1_isOnMap_16 rfl (lv_at hl 2 rfl) ?_
        refine lv_aload_n hx hb dX1_isOnMap_17 rfl (lv_at hl 0 rfl) ?_
        refine va_get (D := (dC, dI)) (ci := 1) (v := .int hg) (C := RX1) (T := TX1) (N := 5) hx hb hts iX1_isOnMap_X1 hown hK hP 0 rfl rfl 3 (by decide) (hts (.fieldLink RX1 23 "ColourTide" "height" "I") (List.mem_of_getElem? (i := 2) rfl)) (fun _ h9 => h9) rfl dX1_isOnMap_18 ?_
        refine lv_icmp_ge (tgt := 28) hx hb dX1_isOnMap_21 (by decide) (fun c_21 => ?_) (fun c_21 => ?_)
        · skip
          refine lv_iconst (v := 0) hx hb dX1_isOnMap_28 (by decide) ?_
          rw [← hQ]
          exact z_zret (W1 := (fun (_ : Unit) => [(h0, .inr (1, [.ref hM, .ref hV, .int wd, .int hg, .int wv])), (hM, .inr (0, [.int bd, .int sb, .int nd, .ref aS, .ref aC, .ref aG])), (aS, .inl (cI, 5, .inl S0)), (aC, .inl (cI, 5, .inl Cr)), (aG, .inl (cI, 5, .inl G0)), (hV, .inr (0, [.int bd2, .int sb2, .int nd2, .ref bS, .ref bC, .ref bG])), (bS, .inl (cI, 5, .inl S2)), (bC, .inl (cI, 5, .inl Cr2)), (bG, .inl (cI, 5, .inl G2))])) hx hb hr hlocks (by decide +kernel) hP hS () (rfl) (by rw [if_neg (fun q => q.2.2.2 c_21)]) dX1_isOnMap_29
        · skip
          refine lv_iconst (v := 1) hx hb dX1_isOnMap_24 (by decide) ?_
          refine lv_goto (tgt := 29) hx hb dX1_isOnMap_25 (by decide) ?_
          rw [← hQ]
          exact z_zret (W1 := (fun (_ : Unit) => [(h0, .inr (1, [.ref hM, .ref hV, .int wd, .int hg, .int wv])), (hM, .inr (0, [.int bd, .int sb, .int nd, .ref aS, .ref aC, .ref aG])), (aS, .inl (cI, 5, .inl S0)), (aC, .inl (cI, 5, .inl Cr)), (aG, .inl (cI, 5, .inl G0)), (hV, .inr (0, [.int bd2, .int sb2, .int nd2, .ref bS, .ref bC, .ref bG])), (bS, .inl (cI, 5, .inl S2)), (bC, .inl (cI, 5, .inl Cr2)), (bG, .inl (cI, 5, .inl G2))])) hx hb hr hlocks (by decide +kernel) hP hS () (rfl) (by rw [if_pos ⟨c_1, c_9, c_13, c_21⟩]) dX1_isOnMap_29
abbrev rmX1_isSide : Room := { frames := 0, cells := 0, slots := 0, locals := 0 }
set_option maxHeartbeats 4000000 in
set_option maxRecDepth 100000 in
theorem m_X1_isSide (l : Launch) (dC : Nat → ClassId) (dI : Nat → Nat → Nat) (cI cZ cJ cD : ClassId) (x0 : Int32)  : zI l (dC, dI) (wT cI cZ cJ cD) yX1_isSide wsX1_isSide rmX1_isSide [] [.int x0] (fun (_ : Unit) => []) (fun (r : Int32) (_ : Unit) => r = if pSide x0 then 1 else 0) := by
  intro sz
  refine Met.ofW (cc := cX1_isSide) (maxL := 1) (ret := (some .boolean)) (by decide) rfl ?_
  intro p e s m args below meth c s₁ B hml hv
  obtain ⟨ha, hsz, hP, hK, hD0, hN⟩ := hv
  have hx := B.exec
  have hb := B.bytes
  have hr := B.returns
  have hts := atoms_spec (ws := wsX1_isSide) B.pre
  have hown : s.vm.findClass RX1 = some m.cls := findClass_of_methodNamed B.named
  have hlocks := B.notSynchronized
  subst hsz
  have hD := hD0.self (sz := s.heap.size)
  generalize hAe : va_A [] s.heap.size = A at hD ⊢
  have hA : ∀ q : Nat, s.heap.size ≤ q → A q := fun q h => by rw [← hAe]; exact Or.inr h
  have hS : va_S A s.heap s.heap [] := va_S.rf
  generalize hQ : MQ below (va_Qi (fun (r : Int32) (_ : Unit) => r = if pSide x0 then 1 else 0) (fun u t => va_P (dC, dI) vwCl ((fun (_ : Unit) => []) u) t.heap) A) args s 0 0 A = Q
  have F9 : CallFix p m c cX1_isSide 1 s args wsX1_isSide RX1 := ⟨hx, hb, hml, hown, hts⟩
  refine z_entry (R := rmX1_isSide) ha (Nat.le_of_ble_eq_true rfl) (fun ls hl => ?_)
  have hl : lv_has ls 1 [(0, .int x0)] := hl
  refine lv_iload_n hx hb dX1_isSide_0 rfl (lv_at hl 0 rfl) ?_
  refine lv_iconst (v := 2) hx hb dX1_isSide_1 (by decide) ?_
  refine lv_icmp_lt (tgt := 14) hx hb dX1_isSide_2 (by decide) (fun c_2 => ?_) (fun c_2 => ?_)
  · skip
    refine lv_iconst (v := 0) hx hb dX1_isSide_14 (by decide) ?_
    rw [← hQ]
    exact z_zret (W1 := (fun (_ : Unit) => [])) hx hb hr hlocks (by decide +kernel) hP hS () (rfl) (by rw [if_neg (fun q => q.1 c_2)]) dX1_isSide_15
  · skip
    refine lv_iload_n hx hb dX1_isSide_5 rfl (lv_at hl 0 rfl) ?_
    refine lv_iconst (v := 5) hx hb dX1_isSide_6 (by decide) ?_
    refine lv_icmp_gt (tgt := 14) hx hb dX1_isSide_7 (by decide) (fun c_7 => ?_) (fun c_7 => ?_)
    · skip
      refine lv_iconst (v := 0) hx hb dX1_isSide_14 (by decide) ?_
      rw [← hQ]
      exact z_zret (W1 := (fun (_ : Unit) => [])) hx hb hr hlocks (by decide +kernel) hP hS () (rfl) (by rw [if_neg (fun q => q.2 c_7)]) dX1_isSide_15
    · skip
      refine lv_iconst (v := 1) hx hb dX1_isSide_10 (by decide) ?_
      refine lv_goto (tgt := 15) hx hb dX1_isSide_11 (by decide) ?_
      rw [← hQ]
      exact z_zret (W1 := (fun (_ : Unit) => [])) hx hb hr hlocks (by decide +kernel) hP hS () (rfl) (by rw [if_pos ⟨c_2, c_7⟩]) dX1_isSide_15
abbrev rmX1_isColour : Room := { frames := 0, cells := 0, slots := 0, locals := 0 }
set_option maxHeartbeats 4000000 in
set_option maxRecDepth 100000 in
theorem m_X1_isColour (l : Launch) (dC : Nat → ClassId) (dI : Nat → Nat → Nat) (cI cZ cJ cD : ClassId) (x0 : Int32)  : zI l (dC, dI) (wT cI cZ cJ cD) yX1_isColour wsX1_isColour rmX1_isColour [] [.int x0] (fun (_ : Unit) => []) (fun (r : Int32) (_ : Unit) => r = if pCol x0 then 1 else 0) := by
  intro sz
  refine Met.ofW (cc := cX1_isColour) (maxL := 1) (ret := (some .boolean)) (by decide) rfl ?_
  intro p e s m args below meth c s₁ B hml hv
  obtain ⟨ha, hsz, hP, hK, hD0, hN⟩ := hv
  have hx := B.exec
  have hb := B.bytes
  have hr := B.returns
  have hts := atoms_spec (ws := wsX1_isColour) B.pre
  have hown : s.vm.findClass RX1 = some m.cls := findClass_of_methodNamed B.named
  have hlocks := B.notSynchronized
  subst hsz
  have hD := hD0.self (sz := s.heap.size)
  generalize hAe : va_A [] s.heap.size = A at hD ⊢
  have hA : ∀ q : Nat, s.heap.size ≤ q → A q := fun q h => by rw [← hAe]; exact Or.inr h
  have hS : va_S A s.heap s.heap [] := va_S.rf
  generalize hQ : MQ below (va_Qi (fun (r : Int32) (_ : Unit) => r = if pCol x0 then 1 else 0) (fun u t => va_P (dC, dI) vwCl ((fun (_ : Unit) => []) u) t.heap) A) args s 0 0 A = Q
  have F9 : CallFix p m c cX1_isColour 1 s args wsX1_isColour RX1 := ⟨hx, hb, hml, hown, hts⟩
  refine z_entry (R := rmX1_isColour) ha (Nat.le_of_ble_eq_true rfl) (fun ls hl => ?_)
  have hl : lv_has ls 1 [(0, .int x0)] := hl
  refine lv_iload_n hx hb dX1_isColour_0 rfl (lv_at hl 0 rfl) ?_
  refine lv_iconst (v := 1) hx hb dX1_isColour_1 (by decide) ?_
  refine lv_icmp_lt (tgt := 14) hx hb dX1_isColour_2 (by decide) (fun c_2 => ?_) (fun c_2 => ?_)
  · skip
    refine lv_iconst (v := 0) hx hb dX1_isColour_14 (by decide) ?_
    rw [← hQ]
    exact z_zret (W1 := (fun (_ : Unit) => [])) hx hb hr hlocks (by decide +kernel) hP hS () (rfl) (by rw [if_neg (fun q => q.1 c_2)]) dX1_isColour_15
  · skip
    refine lv_iload_n hx hb dX1_isColour_5 rfl (lv_at hl 0 rfl) ?_
    refine lv_iconst (v := 4) hx hb dX1_isColour_6 (by decide) ?_
    refine lv_icmp_gt (tgt := 14) hx hb dX1_isColour_7 (by decide) (fun c_7 => ?_) (fun c_7 => ?_)
    · skip
      refine lv_iconst (v := 0) hx hb dX1_isColour_14 (by decide) ?_
      rw [← hQ]
      exact z_zret (W1 := (fun (_ : Unit) => [])) hx hb hr hlocks (by decide +kernel) hP hS () (rfl) (by rw [if_neg (fun q => q.2 c_7)]) dX1_isColour_15
    · skip
      refine lv_iconst (v := 1) hx hb dX1_isColour_10 (by decide) ?_
      refine lv_goto (tgt := 15) hx hb dX1_isColour_11 (by decide) ?_
      rw [← hQ]
      exact z_zret (W1 := (fun (_ : Unit) => [])) hx hb hr hlocks (by decide +kernel) hP hS () (rfl) (by rw [if_pos ⟨c_2, c_7⟩]) dX1_isColour_15
abbrev rmX1_isColourOrBare : Room := { frames := 1, cells := 0, slots := 0, locals := 20 }
set_option maxHeartbeats 4000000 in
set_option maxRecDepth 100000 in
theorem m_X1_isColourOrBare (l : Launch) (dC : Nat → ClassId) (dI : Nat → Nat → Nat) (cI cZ cJ cD : ClassId) (x0 : Int32)  : zI l (dC, dI) (wT cI cZ cJ cD) yX1_isColourOrBare wsX1_isColourOrBare rmX1_isColourOrBare [] [.int x0] (fun (_ : Unit) => []) (fun (r : Int32) (_ : Unit) => r = if pAny x0 then 1 else 0) := by
  intro sz
  refine Met.ofW (cc := cX1_isColourOrBare) (maxL := 1) (ret := (some .boolean)) (by decide) rfl ?_
  intro p e s m args below meth c s₁ B hml hv
  obtain ⟨ha, hsz, hP, hK, hD0, hN⟩ := hv
  have hx := B.exec
  have hb := B.bytes
  have hr := B.returns
  have hts := atoms_spec (ws := wsX1_isColourOrBare) B.pre
  have hown : s.vm.findClass RX1 = some m.cls := findClass_of_methodNamed B.named
  have hlocks := B.notSynchronized
  subst hsz
  have hD := hD0.self (sz := s.heap.size)
  generalize hAe : va_A [] s.heap.size = A at hD ⊢
  have hA : ∀ q : Nat, s.heap.size ≤ q → A q := fun q h => by rw [← hAe]; exact Or.inr h
  have hS : va_S A s.heap s.heap [] := va_S.rf
  generalize hQ : MQ below (va_Qi (fun (r : Int32) (_ : Unit) => r = if pAny x0 then 1 else 0) (fun u t => va_P (dC, dI) vwCl ((fun (_ : Unit) => []) u) t.heap) A) args s 0 0 A = Q
  have F9 : CallFix p m c cX1_isColourOrBare 1 s args wsX1_isColourOrBare RX1 := ⟨hx, hb, hml, hown, hts⟩
  refine z_entry (R := rmX1_isColourOrBare) ha (Nat.le_of_ble_eq_true rfl) (fun ls hl => ?_)
  have hl : lv_has ls 1 [(0, .int x0)] := hl
  refine lv_iload_n hx hb dX1_isColourOrBare_0 rfl (lv_at hl 0 rfl) ?_
  refine lv_if_eq (tgt := 11) hx hb dX1_isColourOrBare_1 (by decide) (fun c_1 => ?_) (fun c_1 => ?_)
  · skip
    refine lv_iconst (v := 1) hx hb dX1_isColourOrBare_11 (by decide) ?_
    refine lv_goto (tgt := 16) hx hb dX1_isColourOrBare_12 (by decide) ?_
    rw [← hQ]
    exact z_zret (W1 := (fun (_ : Unit) => [])) hx hb hr hlocks (by decide +kernel) hP hS () (rfl) (by rw [if_pos (Or.inl c_1)]) dX1_isColourOrBare_16
  · skip
    refine lv_iload_n hx hb dX1_isColourOrBare_4 rfl (lv_at hl 0 rfl) ?_
    refine z_callSi (As := [.int x0]) (rest := []) F9 (m_X1_isColour l dC dI cI cZ cJ cD x0 ) (va_cwS 1 hts gX1_isColourOrBare_X1_isColour rfl rfl rfl (by decide +kernel) ⟨Nat.le_of_ble_eq_true rfl, Nat.le_of_ble_eq_true rfl⟩) hK hN hP hD hS hA rfl hl.1 rfl (Nat.le_of_ble_eq_true rfl) dX1_isColourOrBare_5 ⟨Nat.zero_le _, Nat.zero_le _⟩ (fun r_1 H locs hp_5 hP hS => ?_)
    have hp_5 : r_1 = if pCol x0 then 1 else 0 := hp_5
    refine z_topi (y := if pCol x0 then 1 else 0) hp_5 ?_
    refine lv_if_eq (tgt := 15) hx hb dX1_isColourOrBare_8 (by decide) (fun c_8 => ?_) (fun c_8 => ?_)
    · skip
      refine lv_iconst (v := 0) hx hb dX1_isColourOrBare_15 (by decide) ?_
      rw [← hQ]
      exact z_zret (W1 := (fun (_ : Unit) => [])) hx hb hr hlocks (by decide +kernel) hP hS () (rfl) (by rw [if_neg (fun q => q.elim c_1 (z_if0 c_8))]) dX1_isColourOrBare_16
    · skip
      refine lv_iconst (v := 1) hx hb dX1_isColourOrBare_11 (by decide) ?_
      refine lv_goto (tgt := 16) hx hb dX1_isColourOrBare_12 (by decide) ?_
      rw [← hQ]
      exact z_zret (W1 := (fun (_ : Unit) => [])) hx hb hr hlocks (by decide +kernel) hP hS () (rfl) (by rw [if_pos (Or.inr (z_if1 c_8))]) dX1_isColourOrBare_16
abbrev rmX1_mix : Room := { frames := 0, cells := 0, slots := 0, locals := 0 }
set_option maxHeartbeats 4000000 in
set_option maxRecDepth 100000 in
theorem m_X1_mix (l : Launch) (dC : Nat → ClassId) (dI : Nat → Nat → Nat) (cI cZ cJ cD : ClassId) (d0 : Int64) (x0 : Int32)  : zL l (dC, dI) (wT cI cZ cJ cD) yX1_mix wsX1_mix rmX1_mix [] [.long d0, .int x0] (fun (_ : Unit) => []) (fun (r : Int64) (_ : Unit) => r = pm d0 x0) := by
  intro sz
  refine Met.ofW (cc := cX1_mix) (maxL := 3) (ret := (some .long)) (by decide) rfl ?_
  intro p e s m args below meth c s₁ B hml hv
  obtain ⟨ha, hsz, hP, hK, hD0, hN⟩ := hv
  have hx := B.exec
  have hb := B.bytes
  have hr := B.returns
  have hts := atoms_spec (ws := wsX1_mix) B.pre
  have hown : s.vm.findClass RX1 = some m.cls := findClass_of_methodNamed B.named
  have hlocks := B.notSynchronized
  subst hsz
  have hD := hD0.self (sz := s.heap.size)
  generalize hAe : va_A [] s.heap.size = A at hD ⊢
  have hA : ∀ q : Nat, s.heap.size ≤ q → A q := fun q h => by rw [← hAe]; exact Or.inr h
  have hS : va_S A s.heap s.heap [] := va_S.rf
  generalize hQ : MQ below (va_Ql (fun (r : Int64) (_ : Unit) => r = pm d0 x0) (fun u t => va_P (dC, dI) vwCl ((fun (_ : Unit) => []) u) t.heap) A) args s 0 0 A = Q
  have F9 : CallFix p m c cX1_mix 3 s args wsX1_mix RX1 := ⟨hx, hb, hml, hown, hts⟩
  refine z_entry (R := rmX1_mix) ha (Nat.le_of_ble_eq_true rfl) (fun ls hl => ?_)
  have hl : lv_has ls 3 [(0, .long d0), (2, .int x0)] := hl
  refine lv_lload_n hx hb dX1_mix_0 rfl (lv_at hl 0 rfl) ?_
  refine lv_ldc2 hx hb hown (hts (.constantLong RX1 171 (31)) (List.mem_of_getElem? (i := 1) rfl)) dX1_mix_1 ?_
  refine lv_lmul hx hb dX1_mix_4 ?_
  refine lv_iload_n hx hb dX1_mix_5 rfl (lv_at hl 1 rfl) ?_
  refine lv_i2l (v := x0.toInt64) hx hb dX1_mix_6 rfl ?_
  refine lv_ladd hx hb dX1_mix_7 ?_
  rw [← hQ]
  exact z_lret (W1 := (fun (_ : Unit) => [])) hx hb hr hlocks hP hS () (rfl) (rfl) dX1_mix_8
abbrev rmX1_width : Room := { frames := 0, cells := 0, slots := 0, locals := 0 }
set_option maxRecDepth 20000 in
theorem iX1_width_X1 : ∀ w ∈ wsX10, w ∈ wsX1_width := fun w h => (goodIn_r (big := wsX1_width) wsX10 [2, 3, 4, 5, 6] (by decide +kernel) (by decide +kernel) w h).1
set_option maxHeartbeats 4000000 in
set_option maxRecDepth 100000 in
theorem m_X1_width (l : Launch) (dC : Nat → ClassId) (dI : Nat → Nat → Nat) (cI cZ cJ cD : ClassId) (h0 : Nat) (hM : Nat) (aS : Nat) (aC : Nat) (aG : Nat) (hV : Nat) (bS : Nat) (bC : Nat) (bG : Nat) (wd : Int32) (hg : Int32) (wv : Int32) (bd : Int32) (sb : Int32) (nd : Int32) (S0 : Nat → Int32) (Cr : Nat → Int32) (G0 : Nat → Int32) (bd2 : Int32) (sb2 : Int32) (nd2 : Int32) (S2 : Nat → Int32) (Cr2 : Nat → Int32) (G2 : Nat → Int32)  : zI l (dC, dI) (wT cI cZ cJ cD) yX1_width wsX1_width rmX1_width [(h0, .inr (1, [.ref hM, .ref hV, .int wd, .int hg, .int wv])), (hM, .inr (0, [.int bd, .int sb, .int nd, .ref aS, .ref aC, .ref aG])), (aS, .inl (cI, 5, .inl S0)), (aC, .inl (cI, 5, .inl Cr)), (aG, .inl (cI, 5, .inl G0)), (hV, .inr (0, [.int bd2, .int sb2, .int nd2, .ref bS, .ref bC, .ref bG])), (bS, .inl (cI, 5, .inl S2)), (bC, .inl (cI, 5, .inl Cr2)), (bG, .inl (cI, 5, .inl G2))] [.ref h0] (fun (_ : Unit) => [(h0, .inr (1, [.ref hM, .ref hV, .int wd, .int hg, .int wv])), (hM, .inr (0, [.int bd, .int sb, .int nd, .ref aS, .ref aC, .ref aG])), (aS, .inl (cI, 5, .inl S0)), (aC, .inl (cI, 5, .inl Cr)), (aG, .inl (cI, 5, .inl G0)), (hV, .inr (0, [.int bd2, .int sb2, .int nd2, .ref bS, .ref bC, .ref bG])), (bS, .inl (cI, 5, .inl S2)), (bC, .inl (cI, 5, .inl Cr2)), (bG, .inl (cI, 5, .inl G2))]) (fun (r : Int32) (_ : Unit) => r = wd) := by
  intro sz
  refine Met.ofW (cc := cX1_width) (maxL := 1) (ret := (some .int)) (by decide) rfl ?_
  intro p e s m args below meth c s₁ B hml hv
  obtain ⟨ha, hsz, hP, hK, hD0, hN⟩ := hv
  have hx := B.exec
  have hb := B.bytes
  have hr := B.returns
  have hts := atoms_spec (ws := wsX1_width) B.pre
  have hown : s.vm.findClass RX1 = some m.cls := findClass_of_methodNamed B.named
  have hlocks := B.notSynchronized
  subst hsz
  have hD := hD0.self (sz := s.heap.size)
  generalize hAe : va_A [(h0, .inr (1, [.ref hM, .ref hV, .int wd, .int hg, .int wv])), (hM, .inr (0, [.int bd, .int sb, .int nd, .ref aS, .ref aC, .ref aG])), (aS, .inl (cI, 5, .inl S0)), (aC, .inl (cI, 5, .inl Cr)), (aG, .inl (cI, 5, .inl G0)), (hV, .inr (0, [.int bd2, .int sb2, .int nd2, .ref bS, .ref bC, .ref bG])), (bS, .inl (cI, 5, .inl S2)), (bC, .inl (cI, 5, .inl Cr2)), (bG, .inl (cI, 5, .inl G2))] s.heap.size = A at hD ⊢
  have hA : ∀ q : Nat, s.heap.size ≤ q → A q := fun q h => by rw [← hAe]; exact Or.inr h
  have hS : va_S A s.heap s.heap [] := va_S.rf
  generalize hQ : MQ below (va_Qi (fun (r : Int32) (_ : Unit) => r = wd) (fun u t => va_P (dC, dI) vwCl ((fun (_ : Unit) => [(h0, .inr (1, [.ref hM, .ref hV, .int wd, .int hg, .int wv])), (hM, .inr (0, [.int bd, .int sb, .int nd, .ref aS, .ref aC, .ref aG])), (aS, .inl (cI, 5, .inl S0)), (aC, .inl (cI, 5, .inl Cr)), (aG, .inl (cI, 5, .inl G0)), (hV, .inr (0, [.int bd2, .int sb2, .int nd2, .ref bS, .ref bC, .ref bG])), (bS, .inl (cI, 5, .inl S2)), (bC, .inl (cI, 5, .inl Cr2)), (bG, .inl (cI, 5, .inl G2))]) u) t.heap) A) args s 0 0 A = Q
  have F9 : CallFix p m c cX1_width 1 s args wsX1_width RX1 := ⟨hx, hb, hml, hown, hts⟩
  refine z_entry (R := rmX1_width) ha (Nat.le_of_ble_eq_true rfl) (fun ls hl => ?_)
  have hl : lv_has ls 1 [(0, .ref h0)] := hl
  refine lv_aload_n hx hb dX1_width_0 rfl (lv_at hl 0 rfl) ?_
  refine va_get (D := (dC, dI)) (ci := 1) (v := .int wd) (C := RX1) (T := TX1) (N := 5) hx hb hts iX1_width_X1 hown hK hP 0 rfl rfl 2 (by decide) (hts (.fieldLink RX1 19 "ColourTide" "width" "I") (List.mem_of_getElem? (i := 1) rfl)) (fun _ h9 => h9) rfl dX1_width_1 ?_
  rw [← hQ]
  exact z_iret (W1 := (fun (_ : Unit) => [(h0, .inr (1, [.ref hM, .ref hV, .int wd, .int hg, .int wv])), (hM, .inr (0, [.int bd, .int sb, .int nd, .ref aS, .ref aC, .ref aG])), (aS, .inl (cI, 5, .inl S0)), (aC, .inl (cI, 5, .inl Cr)), (aG, .inl (cI, 5, .inl G0)), (hV, .inr (0, [.int bd2, .int sb2, .int nd2, .ref bS, .ref bC, .ref bG])), (bS, .inl (cI, 5, .inl S2)), (bC, .inl (cI, 5, .inl Cr2)), (bG, .inl (cI, 5, .inl G2))])) hx hb hr hlocks hP hS () (rfl) (rfl) dX1_width_4
abbrev rmX1_height : Room := { frames := 0, cells := 0, slots := 0, locals := 0 }
set_option maxRecDepth 20000 in
theorem iX1_height_X1 : ∀ w ∈ wsX10, w ∈ wsX1_height := fun w h => (goodIn_r (big := wsX1_height) wsX10 [2, 3, 4, 5, 6] (by decide +kernel) (by decide +kernel) w h).1
set_option maxHeartbeats 4000000 in
set_option maxRecDepth 100000 in
theorem m_X1_height (l : Launch) (dC : Nat → ClassId) (dI : Nat → Nat → Nat) (cI cZ cJ cD : ClassId) (h0 : Nat) (hM : Nat) (aS : Nat) (aC : Nat) (aG : Nat) (hV : Nat) (bS : Nat) (bC : Nat) (bG : Nat) (wd : Int32) (hg : Int32) (wv : Int32) (bd : Int32) (sb : Int32) (nd : Int32) (S0 : Nat → Int32) (Cr : Nat → Int32) (G0 : Nat → Int32) (bd2 : Int32) (sb2 : Int32) (nd2 : Int32) (S2 : Nat → Int32) (Cr2 : Nat → Int32) (G2 : Nat → Int32)  : zI l (dC, dI) (wT cI cZ cJ cD) yX1_height wsX1_height rmX1_height [(h0, .inr (1, [.ref hM, .ref hV, .int wd, .int hg, .int wv])), (hM, .inr (0, [.int bd, .int sb, .int nd, .ref aS, .ref aC, .ref aG])), (aS, .inl (cI, 5, .inl S0)), (aC, .inl (cI, 5, .inl Cr)), (aG, .inl (cI, 5, .inl G0)), (hV, .inr (0, [.int bd2, .int sb2, .int nd2, .ref bS, .ref bC, .ref bG])), (bS, .inl (cI, 5, .inl S2)), (bC, .inl (cI, 5, .inl Cr2)), (bG, .inl (cI, 5, .inl G2))] [.ref h0] (fun (_ : Unit) => [(h0, .inr (1, [.ref hM, .ref hV, .int wd, .int hg, .int wv])), (hM, .inr (0, [.int bd, .int sb, .int nd, .ref aS, .ref aC, .ref aG])), (aS, .inl (cI, 5, .inl S0)), (aC, .inl (cI, 5, .inl Cr)), (aG, .inl (cI, 5, .inl G0)), (hV, .inr (0, [.int bd2, .int sb2, .int nd2, .ref bS, .ref bC, .ref bG])), (bS, .inl (cI, 5, .inl S2)), (bC, .inl (cI, 5, .inl Cr2)), (bG, .inl (cI, 5, .inl G2))]) (fun (r : Int32) (_ : Unit) => r = hg) := by
  intro sz
  refine Met.ofW (cc := cX1_height) (maxL := 1) (ret := (some .int)) (by decide) rfl ?_
  intro p e s m args below meth c s₁ B hml hv
  obtain ⟨ha, hsz, hP, hK, hD0, hN⟩ := hv
  have hx := B.exec
  have hb := B.bytes
  have hr := B.returns
  have hts := atoms_spec (ws := wsX1_height) B.pre
  have hown : s.vm.findClass RX1 = some m.cls := findClass_of_methodNamed B.named
  have hlocks := B.notSynchronized
  subst hsz
  have hD := hD0.self (sz := s.heap.size)
  generalize hAe : va_A [(h0, .inr (1, [.ref hM, .ref hV, .int wd, .int hg, .int wv])), (hM, .inr (0, [.int bd, .int sb, .int nd, .ref aS, .ref aC, .ref aG])), (aS, .inl (cI, 5, .inl S0)), (aC, .inl (cI, 5, .inl Cr)), (aG, .inl (cI, 5, .inl G0)), (hV, .inr (0, [.int bd2, .int sb2, .int nd2, .ref bS, .ref bC, .ref bG])), (bS, .inl (cI, 5, .inl S2)), (bC, .inl (cI, 5, .inl Cr2)), (bG, .inl (cI, 5, .inl G2))] s.heap.size = A at hD ⊢
  have hA : ∀ q : Nat, s.heap.size ≤ q → A q := fun q h => by rw [← hAe]; exact Or.inr h
  have hS : va_S A s.heap s.heap [] := va_S.rf
  generalize hQ : MQ below (va_Qi (fun (r : Int32) (_ : Unit) => r = hg) (fun u t => va_P (dC, dI) vwCl ((fun (_ : Unit) => [(h0, .inr (1, [.ref hM, .ref hV, .int wd, .int hg, .int wv])), (hM, .inr (0, [.int bd, .int sb, .int nd, .ref aS, .ref aC, .ref aG])), (aS, .inl (cI, 5, .inl S0)), (aC, .inl (cI, 5, .inl Cr)), (aG, .inl (cI, 5, .inl G0)), (hV, .inr (0, [.int bd2, .int sb2, .int nd2, .ref bS, .ref bC, .ref bG])), (bS, .inl (cI, 5, .inl S2)), (bC, .inl (cI, 5, .inl Cr2)), (bG, .inl (cI, 5, .inl G2))]) u) t.heap) A) args s 0 0 A = Q
  have F9 : CallFix p m c cX1_height 1 s args wsX1_height RX1 := ⟨hx, hb, hml, hown, hts⟩
  refine z_entry (R := rmX1_height) ha (Nat.le_of_ble_eq_true rfl) (fun ls hl => ?_)
  have hl : lv_has ls 1 [(0, .ref h0)] := hl
  refine lv_aload_n hx hb dX1_height_0 rfl (lv_at hl 0 rfl) ?_
  refine va_get (D := (dC, dI)) (ci := 1) (v := .int hg) (C := RX1) (T := TX1) (N := 5) hx hb hts iX1_height_X1 hown hK hP 0 rfl rfl 3 (by decide) (hts (.fieldLink RX1 23 "ColourTide" "height" "I") (List.mem_of_getElem? (i := 1) rfl)) (fun _ h9 => h9) rfl dX1_height_1 ?_
  rw [← hQ]
  exact z_iret (W1 := (fun (_ : Unit) => [(h0, .inr (1, [.ref hM, .ref hV, .int wd, .int hg, .int wv])), (hM, .inr (0, [.int bd, .int sb, .int nd, .ref aS, .ref aC, .ref aG])), (aS, .inl (cI, 5, .inl S0)), (aC, .inl (cI, 5, .inl Cr)), (aG, .inl (cI, 5, .inl G0)), (hV, .inr (0, [.int bd2, .int sb2, .int nd2, .ref bS, .ref bC, .ref bG])), (bS, .inl (cI, 5, .inl S2)), (bC, .inl (cI, 5, .inl Cr2)), (bG, .inl (cI, 5, .inl G2))])) hx hb hr hlocks hP hS () (rfl) (rfl) dX1_height_4
abbrev rmX1_need : Room := { frames := 0, cells := 0, slots := 0, locals := 0 }
set_option maxRecDepth 20000 in
theorem iX1_need_X0 : ∀ w ∈ wsX00, w ∈ wsX1_need := fun w h => (goodIn_r (big := wsX1_need) wsX00 [8, 9, 10, 11, 12, 13] (by decide +kernel) (by decide +kernel) w h).1
set_option maxRecDepth 20000 in
theorem iX1_need_X1 : ∀ w ∈ wsX10, w ∈ wsX1_need := fun w h => (goodIn_r (big := wsX1_need) wsX10 [3, 4, 5, 6, 7] (by decide +kernel) (by decide +kernel) w h).1
set_option maxHeartbeats 4000000 in
set_option maxRecDepth 100000 in
theorem m_X1_need (l : Launch) (dC : Nat → ClassId) (dI : Nat → Nat → Nat) (cI cZ cJ cD : ClassId) (h0 : Nat) (hM : Nat) (aS : Nat) (aC : Nat) (aG : Nat) (hV : Nat) (bS : Nat) (bC : Nat) (bG : Nat) (wd : Int32) (hg : Int32) (wv : Int32) (bd : Int32) (sb : Int32) (nd : Int32) (S0 : Nat → Int32) (Cr : Nat → Int32) (G0 : Nat → Int32) (bd2 : Int32) (sb2 : Int32) (nd2 : Int32) (S2 : Nat → Int32) (Cr2 : Nat → Int32) (G2 : Nat → Int32)  : zI l (dC, dI) (wT cI cZ cJ cD) yX1_need wsX1_need rmX1_need [(h0, .inr (1, [.ref hM, .ref hV, .int wd, .int hg, .int wv])), (hM, .inr (0, [.int bd, .int sb, .int nd, .ref aS, .ref aC, .ref aG])), (aS, .inl (cI, 5, .inl S0)), (aC, .inl (cI, 5, .inl Cr)), (aG, .inl (cI, 5, .inl G0)), (hV, .inr (0, [.int bd2, .int sb2, .int nd2, .ref bS, .ref bC, .ref bG])), (bS, .inl (cI, 5, .inl S2)), (bC, .inl (cI, 5, .inl Cr2)), (bG, .inl (cI, 5, .inl G2))] [.ref h0] (fun (_ : Unit) => [(h0, .inr (1, [.ref hM, .ref hV, .int wd, .int hg, .int wv])), (hM, .inr (0, [.int bd, .int sb, .int nd, .ref aS, .ref aC, .ref aG])), (aS, .inl (cI, 5, .inl S0)), (aC, .inl (cI, 5, .inl Cr)), (aG, .inl (cI, 5, .inl G0)), (hV, .inr (0, [.int bd2, .int sb2, .int nd2, .ref bS, .ref bC, .ref bG])), (bS, .inl (cI, 5, .inl S2)), (bC, .inl (cI, 5, .inl Cr2)), (bG, .inl (cI, 5, .inl G2))]) (fun (r : Int32) (_ : Unit) => r = nd) := by
  intro sz
  refine Met.ofW (cc := cX1_need) (maxL := 1) (ret := (some .int)) (by decide) rfl ?_
  intro p e s m args below meth c s₁ B hml hv
  obtain ⟨ha, hsz, hP, hK, hD0, hN⟩ := hv
  have hx := B.exec
  have hb := B.bytes
  have hr := B.returns
  have hts := atoms_spec (ws := wsX1_need) B.pre
  have hown : s.vm.findClass RX1 = some m.cls := findClass_of_methodNamed B.named
  have hlocks := B.notSynchronized
  subst hsz
  have hD := hD0.self (sz := s.heap.size)
  generalize hAe : va_A [(h0, .inr (1, [.ref hM, .ref hV, .int wd, .int hg, .int wv])), (hM, .inr (0, [.int bd, .int sb, .int nd, .ref aS, .ref aC, .ref aG])), (aS, .inl (cI, 5, .inl S0)), (aC, .inl (cI, 5, .inl Cr)), (aG, .inl (cI, 5, .inl G0)), (hV, .inr (0, [.int bd2, .int sb2, .int nd2, .ref bS, .ref bC, .ref bG])), (bS, .inl (cI, 5, .inl S2)), (bC, .inl (cI, 5, .inl Cr2)), (bG, .inl (cI, 5, .inl G2))] s.heap.size = A at hD ⊢
  have hA : ∀ q : Nat, s.heap.size ≤ q → A q := fun q h => by rw [← hAe]; exact Or.inr h
  have hS : va_S A s.heap s.heap [] := va_S.rf
  generalize hQ : MQ below (va_Qi (fun (r : Int32) (_ : Unit) => r = nd) (fun u t => va_P (dC, dI) vwCl ((fun (_ : Unit) => [(h0, .inr (1, [.ref hM, .ref hV, .int wd, .int hg, .int wv])), (hM, .inr (0, [.int bd, .int sb, .int nd, .ref aS, .ref aC, .ref aG])), (aS, .inl (cI, 5, .inl S0)), (aC, .inl (cI, 5, .inl Cr)), (aG, .inl (cI, 5, .inl G0)), (hV, .inr (0, [.int bd2, .int sb2, .int nd2, .ref bS, .ref bC, .ref bG])), (bS, .inl (cI, 5, .inl S2)), (bC, .inl (cI, 5, .inl Cr2)), (bG, .inl (cI, 5, .inl G2))]) u) t.heap) A) args s 0 0 A = Q
  have F9 : CallFix p m c cX1_need 1 s args wsX1_need RX1 := ⟨hx, hb, hml, hown, hts⟩
  refine z_entry (R := rmX1_need) ha (Nat.le_of_ble_eq_true rfl) (fun ls hl => ?_)
  have hl : lv_has ls 1 [(0, .ref h0)] := hl
  refine lv_aload_n hx hb dX1_need_0 rfl (lv_at hl 0 rfl) ?_
  refine va_get (D := (dC, dI)) (ci := 1) (v := .ref hM) (C := RX1) (T := TX1) (N := 5) hx hb hts iX1_need_X1 hown hK hP 0 rfl rfl 0 (by decide) (hts (.fieldLink RX1 12 "ColourTide" "map" "LColourTide$Tide;") (List.mem_of_getElem? (i := 1) rfl)) (fun _ h9 => h9) rfl dX1_need_1 ?_
  refine va_get (D := (dC, dI)) (ci := 0) (v := .int nd) (C := RX0) (T := TX0) (N := 6) hx hb hts iX1_need_X0 hown hK hP 1 rfl rfl 2 (by decide) (hts (.fieldLink RX1 74 "ColourTide$Tide" "need" "I") (List.mem_of_getElem? (i := 2) rfl)) (fun _ h9 => h9) rfl dX1_need_4 ?_
  rw [← hQ]
  exact z_iret (W1 := (fun (_ : Unit) => [(h0, .inr (1, [.ref hM, .ref hV, .int wd, .int hg, .int wv])), (hM, .inr (0, [.int bd, .int sb, .int nd, .ref aS, .ref aC, .ref aG])), (aS, .inl (cI, 5, .inl S0)), (aC, .inl (cI, 5, .inl Cr)), (aG, .inl (cI, 5, .inl G0)), (hV, .inr (0, [.int bd2, .int sb2, .int nd2, .ref bS, .ref bC, .ref bG])), (bS, .inl (cI, 5, .inl S2)), (bC, .inl (cI, 5, .inl Cr2)), (bG, .inl (cI, 5, .inl G2))])) hx hb hr hlocks hP hS () (rfl) (rfl) dX1_need_7
abbrev rmX1_waves : Room := { frames := 0, cells := 0, slots := 0, locals := 0 }
set_option maxRecDepth 20000 in
theorem iX1_waves_X1 : ∀ w ∈ wsX10, w ∈ wsX1_waves := fun w h => (goodIn_r (big := wsX1_waves) wsX10 [2, 3, 4, 5, 6] (by decide +kernel) (by decide +kernel) w h).1
set_option maxHeartbeats 4000000 in
set_option maxRecDepth 100000 in
theorem m_X1_waves (l : Launch) (dC : Nat → ClassId) (dI : Nat → Nat → Nat) (cI cZ cJ cD : ClassId) (h0 : Nat) (hM : Nat) (aS : Nat) (aC : Nat) (aG : Nat) (hV : Nat) (bS : Nat) (bC : Nat) (bG : Nat) (wd : Int32) (hg : Int32) (wv : Int32) (bd : Int32) (sb : Int32) (nd : Int32) (S0 : Nat → Int32) (Cr : Nat → Int32) (G0 : Nat → Int32) (bd2 : Int32) (sb2 : Int32) (nd2 : Int32) (S2 : Nat → Int32) (Cr2 : Nat → Int32) (G2 : Nat → Int32)  : zI l (dC, dI) (wT cI cZ cJ cD) yX1_waves wsX1_waves rmX1_waves [(h0, .inr (1, [.ref hM, .ref hV, .int wd, .int hg, .int wv])), (hM, .inr (0, [.int bd, .int sb, .int nd, .ref aS, .ref aC, .ref aG])), (aS, .inl (cI, 5, .inl S0)), (aC, .inl (cI, 5, .inl Cr)), (aG, .inl (cI, 5, .inl G0)), (hV, .inr (0, [.int bd2, .int sb2, .int nd2, .ref bS, .ref bC, .ref bG])), (bS, .inl (cI, 5, .inl S2)), (bC, .inl (cI, 5, .inl Cr2)), (bG, .inl (cI, 5, .inl G2))] [.ref h0] (fun (_ : Unit) => [(h0, .inr (1, [.ref hM, .ref hV, .int wd, .int hg, .int wv])), (hM, .inr (0, [.int bd, .int sb, .int nd, .ref aS, .ref aC, .ref aG])), (aS, .inl (cI, 5, .inl S0)), (aC, .inl (cI, 5, .inl Cr)), (aG, .inl (cI, 5, .inl G0)), (hV, .inr (0, [.int bd2, .int sb2, .int nd2, .ref bS, .ref bC, .ref bG])), (bS, .inl (cI, 5, .inl S2)), (bC, .inl (cI, 5, .inl Cr2)), (bG, .inl (cI, 5, .inl G2))]) (fun (r : Int32) (_ : Unit) => r = wv) := by
  intro sz
  refine Met.ofW (cc := cX1_waves) (maxL := 1) (ret := (some .int)) (by decide) rfl ?_
  intro p e s m args below meth c s₁ B hml hv
  obtain ⟨ha, hsz, hP, hK, hD0, hN⟩ := hv
  have hx := B.exec
  have hb := B.bytes
  have hr := B.returns
  have hts := atoms_spec (ws := wsX1_waves) B.pre
  have hown : s.vm.findClass RX1 = some m.cls := findClass_of_methodNamed B.named
  have hlocks := B.notSynchronized
  subst hsz
  have hD := hD0.self (sz := s.heap.size)
  generalize hAe : va_A [(h0, .inr (1, [.ref hM, .ref hV, .int wd, .int hg, .int wv])), (hM, .inr (0, [.int bd, .int sb, .int nd, .ref aS, .ref aC, .ref aG])), (aS, .inl (cI, 5, .inl S0)), (aC, .inl (cI, 5, .inl Cr)), (aG, .inl (cI, 5, .inl G0)), (hV, .inr (0, [.int bd2, .int sb2, .int nd2, .ref bS, .ref bC, .ref bG])), (bS, .inl (cI, 5, .inl S2)), (bC, .inl (cI, 5, .inl Cr2)), (bG, .inl (cI, 5, .inl G2))] s.heap.size = A at hD ⊢
  have hA : ∀ q : Nat, s.heap.size ≤ q → A q := fun q h => by rw [← hAe]; exact Or.inr h
  have hS : va_S A s.heap s.heap [] := va_S.rf
  generalize hQ : MQ below (va_Qi (fun (r : Int32) (_ : Unit) => r = wv) (fun u t => va_P (dC, dI) vwCl ((fun (_ : Unit) => [(h0, .inr (1, [.ref hM, .ref hV, .int wd, .int hg, .int wv])), (hM, .inr (0, [.int bd, .int sb, .int nd, .ref aS, .ref aC, .ref aG])), (aS, .inl (cI, 5, .inl S0)), (aC, .inl (cI, 5, .inl Cr)), (aG, .inl (cI, 5, .inl G0)), (hV, .inr (0, [.int bd2, .int sb2, .int nd2, .ref bS, .ref bC, .ref bG])), (bS, .inl (cI, 5, .inl S2)), (bC, .inl (cI, 5, .inl Cr2)), (bG, .inl (cI, 5, .inl G2))]) u) t.heap) A) args s 0 0 A = Q
  have F9 : CallFix p m c cX1_waves 1 s args wsX1_waves RX1 := ⟨hx, hb, hml, hown, hts⟩
  refine z_entry (R := rmX1_waves) ha (Nat.le_of_ble_eq_true rfl) (fun ls hl => ?_)
  have hl : lv_has ls 1 [(0, .ref h0)] := hl
  refine lv_aload_n hx hb dX1_waves_0 rfl (lv_at hl 0 rfl) ?_
  refine va_get (D := (dC, dI)) (ci := 1) (v := .int wv) (C := RX1) (T := TX1) (N := 5) hx hb hts iX1_waves_X1 hown hK hP 0 rfl rfl 4 (by decide) (hts (.fieldLink RX1 26 "ColourTide" "waves" "I") (List.mem_of_getElem? (i := 1) rfl)) (fun _ h9 => h9) rfl dX1_waves_1 ?_
  rw [← hQ]
  exact z_iret (W1 := (fun (_ : Unit) => [(h0, .inr (1, [.ref hM, .ref hV, .int wd, .int hg, .int wv])), (hM, .inr (0, [.int bd, .int sb, .int nd, .ref aS, .ref aC, .ref aG])), (aS, .inl (cI, 5, .inl S0)), (aC, .inl (cI, 5, .inl Cr)), (aG, .inl (cI, 5, .inl G0)), (hV, .inr (0, [.int bd2, .int sb2, .int nd2, .ref bS, .ref bC, .ref bG])), (bS, .inl (cI, 5, .inl S2)), (bC, .inl (cI, 5, .inl Cr2)), (bG, .inl (cI, 5, .inl G2))])) hx hb hr hlocks hP hS () (rfl) (rfl) dX1_waves_4
abbrev rmX1_stubbornCells : Room := { frames := 1, cells := 0, slots := 0, locals := 20 }
set_option maxRecDepth 20000 in
theorem iX1_stubbornCells_X0 : ∀ w ∈ wsX00, w ∈ wsX1_stubbornCells := fun w h => (goodIn_r (big := wsX1_stubbornCells) wsX00 [15, 16, 17, 18, 19, 20] (by decide +kernel) (by decide +kernel) w h).1
set_option maxRecDepth 20000 in
theorem iX1_stubbornCells_X1 : ∀ w ∈ wsX10, w ∈ wsX1_stubbornCells := fun w h => (goodIn_r (big := wsX1_stubbornCells) wsX10 [10, 11, 12, 13, 14] (by decide +kernel) (by decide +kernel) w h).1
set_option maxHeartbeats 4000000 in
set_option maxRecDepth 100000 in
theorem m_X1_stubbornCells (l : Launch) (dC : Nat → ClassId) (dI : Nat → Nat → Nat) (cI cZ cJ cD : ClassId) (h0 : Nat) (hM : Nat) (aS : Nat) (aC : Nat) (aG : Nat) (hV : Nat) (bS : Nat) (bC : Nat) (bG : Nat) (wd : Int32) (hg : Int32) (wv : Int32) (bd : Int32) (sb : Int32) (nd : Int32) (S0 : Nat → Int32) (Cr : Nat → Int32) (G0 : Nat → Int32) (bd2 : Int32) (sb2 : Int32) (nd2 : Int32) (S2 : Nat → Int32) (Cr2 : Nat → Int32) (G2 : Nat → Int32)  : zI l (dC, dI) (wT cI cZ cJ cD) yX1_stubbornCells wsX1_stubbornCells rmX1_stubbornCells [(h0, .inr (1, [.ref hM, .ref hV, .int wd, .int hg, .int wv])), (hM, .inr (0, [.int bd, .int sb, .int nd, .ref aS, .ref aC, .ref aG])), (aS, .inl (cI, 5, .inl S0)), (aC, .inl (cI, 5, .inl Cr)), (aG, .inl (cI, 5, .inl G0)), (hV, .inr (0, [.int bd2, .int sb2, .int nd2, .ref bS, .ref bC, .ref bG])), (bS, .inl (cI, 5, .inl S2)), (bC, .inl (cI, 5, .inl Cr2)), (bG, .inl (cI, 5, .inl G2))] [.ref h0] (fun (_ : Unit) => [(h0, .inr (1, [.ref hM, .ref hV, .int wd, .int hg, .int wv])), (hM, .inr (0, [.int bd, .int sb, .int nd, .ref aS, .ref aC, .ref aG])), (aS, .inl (cI, 5, .inl S0)), (aC, .inl (cI, 5, .inl Cr)), (aG, .inl (cI, 5, .inl G0)), (hV, .inr (0, [.int bd2, .int sb2, .int nd2, .ref bS, .ref bC, .ref bG])), (bS, .inl (cI, 5, .inl S2)), (bC, .inl (cI, 5, .inl Cr2)), (bG, .inl (cI, 5, .inl G2))]) (fun (r : Int32) (_ : Unit) => r = pBC sb) := by
  intro sz
  refine Met.ofW (cc := cX1_stubbornCells) (maxL := 1) (ret := (some .int)) (by decide) rfl ?_
  intro p e s m args below meth c s₁ B hml hv
  obtain ⟨ha, hsz, hP, hK, hD0, hN⟩ := hv
  have hx := B.exec
  have hb := B.bytes
  have hr := B.returns
  have hts := atoms_spec (ws := wsX1_stubbornCells) B.pre
  have hown : s.vm.findClass RX1 = some m.cls := findClass_of_methodNamed B.named
  have hlocks := B.notSynchronized
  subst hsz
  have hD := hD0.self (sz := s.heap.size)
  generalize hAe : va_A [(h0, .inr (1, [.ref hM, .ref hV, .int wd, .int hg, .int wv])), (hM, .inr (0, [.int bd, .int sb, .int nd, .ref aS, .ref aC, .ref aG])), (aS, .inl (cI, 5, .inl S0)), (aC, .inl (cI, 5, .inl Cr)), (aG, .inl (cI, 5, .inl G0)), (hV, .inr (0, [.int bd2, .int sb2, .int nd2, .ref bS, .ref bC, .ref bG])), (bS, .inl (cI, 5, .inl S2)), (bC, .inl (cI, 5, .inl Cr2)), (bG, .inl (cI, 5, .inl G2))] s.heap.size = A at hD ⊢
  have hA : ∀ q : Nat, s.heap.size ≤ q → A q := fun q h => by rw [← hAe]; exact Or.inr h
  have hS : va_S A s.heap s.heap [] := va_S.rf
  generalize hQ : MQ below (va_Qi (fun (r : Int32) (_ : Unit) => r = pBC sb) (fun u t => va_P (dC, dI) vwCl ((fun (_ : Unit) => [(h0, .inr (1, [.ref hM, .ref hV, .int wd, .int hg, .int wv])), (hM, .inr (0, [.int bd, .int sb, .int nd, .ref aS, .ref aC, .ref aG])), (aS, .inl (cI, 5, .inl S0)), (aC, .inl (cI, 5, .inl Cr)), (aG, .inl (cI, 5, .inl G0)), (hV, .inr (0, [.int bd2, .int sb2, .int nd2, .ref bS, .ref bC, .ref bG])), (bS, .inl (cI, 5, .inl S2)), (bC, .inl (cI, 5, .inl Cr2)), (bG, .inl (cI, 5, .inl G2))]) u) t.heap) A) args s 0 0 A = Q
  have F9 : CallFix p m c cX1_stubbornCells 1 s args wsX1_stubbornCells RX1 := ⟨hx, hb, hml, hown, hts⟩
  refine z_entry (R := rmX1_stubbornCells) ha (Nat.le_of_ble_eq_true rfl) (fun ls hl => ?_)
  have hl : lv_has ls 1 [(0, .ref h0)] := hl
  refine lv_aload_n hx hb dX1_stubbornCells_0 rfl (lv_at hl 0 rfl) ?_
  refine va_get (D := (dC, dI)) (ci := 1) (v := .ref hM) (C := RX1) (T := TX1) (N := 5) hx hb hts iX1_stubbornCells_X1 hown hK hP 0 rfl rfl 0 (by decide) (hts (.fieldLink RX1 12 "ColourTide" "map" "LColourTide$Tide;") (List.mem_of_getElem? (i := 1) rfl)) (fun _ h9 => h9) rfl dX1_stubbornCells_1 ?_
  refine va_get (D := (dC, dI)) (ci := 0) (v := .int sb) (C := RX0) (T := TX0) (N := 6) hx hb hts iX1_stubbornCells_X0 hown hK hP 1 rfl rfl 1 (by decide) (hts (.fieldLink RX1 69 "ColourTide$Tide" "stubborn" "I") (List.mem_of_getElem? (i := 2) rfl)) (fun _ h9 => h9) rfl dX1_stubbornCells_4 ?_
  refine z_callSi (As := [.int sb]) (rest := []) F9 (m_J6_bitCount_0f7a4 l dC dI cI cZ cJ cD sb ) (va_cwS 1 hts gX1_stubbornCells_J6_bitCount_0f7a4 rfl rfl rfl (by decide +kernel) ⟨Nat.le_of_ble_eq_true rfl, Nat.le_of_ble_eq_true rfl⟩) hK hN hP hD hS hA rfl hl.1 rfl (Nat.le_of_ble_eq_true rfl) dX1_stubbornCells_7 ⟨Nat.zero_le _, Nat.zero_le _⟩ (fun r_1 H locs hp_7 hP hS => ?_)
  have hp_7 : r_1 = pBC sb := hp_7
  refine z_topi (y := pBC sb) hp_7 ?_
  rw [← hQ]
  exact z_iret (W1 := (fun (_ : Unit) => [(h0, .inr (1, [.ref hM, .ref hV, .int wd, .int hg, .int wv])), (hM, .inr (0, [.int bd, .int sb, .int nd, .ref aS, .ref aC, .ref aG])), (aS, .inl (cI, 5, .inl S0)), (aC, .inl (cI, 5, .inl Cr)), (aG, .inl (cI, 5, .inl G0)), (hV, .inr (0, [.int bd2, .int sb2, .int nd2, .ref bS, .ref bC, .ref bG])), (bS, .inl (cI, 5, .inl S2)), (bC, .inl (cI, 5, .inl Cr2)), (bG, .inl (cI, 5, .inl G2))])) hx hb hr hlocks hP hS () (rfl) (rfl) dX1_stubbornCells_10
abbrev rmX1_borders : Room := { frames := 3, cells := 0, slots := 0, locals := 62 }
set_option maxRecDepth 20000 in
theorem iX1_borders_X0 : ∀ w ∈ wsX00, w ∈ wsX1_borders := fun w h => (goodIn_r (big := wsX1_borders) wsX00 [28, 29, 30, 31, 32, 33] (by decide +kernel) (by decide +kernel) w h).1
set_option maxRecDepth 20000 in
theorem iX1_borders_X1 : ∀ w ∈ wsX10, w ∈ wsX1_borders := fun w h => (goodIn_r (big := wsX1_borders) wsX10 [23, 24, 25, 26, 27] (by decide +kernel) (by decide +kernel) w h).1
set_option maxHeartbeats 4000000 in
set_option maxRecDepth 100000 in
theorem m_X1_borders (l : Launch) (dC : Nat → ClassId) (dI : Nat → Nat → Nat) (cI cZ cJ cD : ClassId) (h0 : Nat) (hM : Nat) (aS : Nat) (aC : Nat) (aG : Nat) (hV : Nat) (bS : Nat) (bC : Nat) (bG : Nat) (wd : Int32) (hg : Int32) (wv : Int32) (bd : Int32) (sb : Int32) (nd : Int32) (S0 : Nat → Int32) (Cr : Nat → Int32) (G0 : Nat → Int32) (bd2 : Int32) (sb2 : Int32) (nd2 : Int32) (S2 : Nat → Int32) (Cr2 : Nat → Int32) (G2 : Nat → Int32)  : zI l (dC, dI) (wT cI cZ cJ cD) yX1_borders wsX1_borders rmX1_borders [(h0, .inr (1, [.ref hM, .ref hV, .int wd, .int hg, .int wv])), (hM, .inr (0, [.int bd, .int sb, .int nd, .ref aS, .ref aC, .ref aG])), (aS, .inl (cI, 5, .inl S0)), (aC, .inl (cI, 5, .inl Cr)), (aG, .inl (cI, 5, .inl G0)), (hV, .inr (0, [.int bd2, .int sb2, .int nd2, .ref bS, .ref bC, .ref bG])), (bS, .inl (cI, 5, .inl S2)), (bC, .inl (cI, 5, .inl Cr2)), (bG, .inl (cI, 5, .inl G2))] [.ref h0] (fun (_ : Unit) => [(h0, .inr (1, [.ref hM, .ref hV, .int wd, .int hg, .int wv])), (hM, .inr (0, [.int bd, .int sb, .int nd, .ref aS, .ref aC, .ref aG])), (aS, .inl (cI, 5, .inl S0)), (aC, .inl (cI, 5, .inl Cr)), (aG, .inl (cI, 5, .inl G0)), (hV, .inr (0, [.int bd2, .int sb2, .int nd2, .ref bS, .ref bC, .ref bG])), (bS, .inl (cI, 5, .inl S2)), (bC, .inl (cI, 5, .inl Cr2)), (bG, .inl (cI, 5, .inl G2))]) (fun (r : Int32) (_ : Unit) => r = pBo S0 bd 4) := by
  intro sz
  refine Met.ofW (cc := cX1_borders) (maxL := 1) (ret := (some .int)) (by decide) rfl ?_
  intro p e s m args below meth c s₁ B hml hv
  obtain ⟨ha, hsz, hP, hK, hD0, hN⟩ := hv
  have hx := B.exec
  have hb := B.bytes
  have hr := B.returns
  have hts := atoms_spec (ws := wsX1_borders) B.pre
  have hown : s.vm.findClass RX1 = some m.cls := findClass_of_methodNamed B.named
  have hlocks := B.notSynchronized
  subst hsz
  have hD := hD0.self (sz := s.heap.size)
  generalize hAe : va_A [(h0, .inr (1, [.ref hM, .ref hV, .int wd, .int hg, .int wv])), (hM, .inr (0, [.int bd, .int sb, .int nd, .ref aS, .ref aC, .ref aG])), (aS, .inl (cI, 5, .inl S0)), (aC, .inl (cI, 5, .inl Cr)), (aG, .inl (cI, 5, .inl G0)), (hV, .inr (0, [.int bd2, .int sb2, .int nd2, .ref bS, .ref bC, .ref bG])), (bS, .inl (cI, 5, .inl S2)), (bC, .inl (cI, 5, .inl Cr2)), (bG, .inl (cI, 5, .inl G2))] s.heap.size = A at hD ⊢
  have hA : ∀ q : Nat, s.heap.size ≤ q → A q := fun q h => by rw [← hAe]; exact Or.inr h
  have hS : va_S A s.heap s.heap [] := va_S.rf
  generalize hQ : MQ below (va_Qi (fun (r : Int32) (_ : Unit) => r = pBo S0 bd 4) (fun u t => va_P (dC, dI) vwCl ((fun (_ : Unit) => [(h0, .inr (1, [.ref hM, .ref hV, .int wd, .int hg, .int wv])), (hM, .inr (0, [.int bd, .int sb, .int nd, .ref aS, .ref aC, .ref aG])), (aS, .inl (cI, 5, .inl S0)), (aC, .inl (cI, 5, .inl Cr)), (aG, .inl (cI, 5, .inl G0)), (hV, .inr (0, [.int bd2, .int sb2, .int nd2, .ref bS, .ref bC, .ref bG])), (bS, .inl (cI, 5, .inl S2)), (bC, .inl (cI, 5, .inl Cr2)), (bG, .inl (cI, 5, .inl G2))]) u) t.heap) A) args s 0 0 A = Q
  have F9 : CallFix p m c cX1_borders 1 s args wsX1_borders RX1 := ⟨hx, hb, hml, hown, hts⟩
  refine z_entry (R := rmX1_borders) ha (Nat.le_of_ble_eq_true rfl) (fun ls hl => ?_)
  have hl : lv_has ls 1 [(0, .ref h0)] := hl
  refine lv_aload_n hx hb dX1_borders_0 rfl (lv_at hl 0 rfl) ?_
  refine va_get (D := (dC, dI)) (ci := 1) (v := .ref hM) (C := RX1) (T := TX1) (N := 5) hx hb hts iX1_borders_X1 hown hK hP 0 rfl rfl 0 (by decide) (hts (.fieldLink RX1 12 "ColourTide" "map" "LColourTide$Tide;") (List.mem_of_getElem? (i := 1) rfl)) (fun _ h9 => h9) rfl dX1_borders_1 ?_
  refine z_callVi (As := []) (rest := []) F9 (m_X0_countBorders l dC dI cI cZ cJ cD hM aS aC aG bd sb nd S0 Cr G0 ) (cwV 0 hts gX1_borders_X0_countBorders rfl rfl rfl (by decide +kernel) ⟨Nat.le_of_ble_eq_true rfl, Nat.le_of_ble_eq_true rfl⟩) hK hN hP hD hS hA [1, 2, 3, 4] rfl rfl (fun _ => rfl) 1 (ci := 0) rfl rfl rfl rfl hl.1 rfl (Nat.le_of_ble_eq_true rfl) dX1_borders_4 ⟨Nat.zero_le _, Nat.zero_le _⟩ (fun r_1 u H locs hp_4 hP hD hS => ?_)
  have hP : va_P (dC, dI) vwCl [(h0, .inr (1, [.ref hM, .ref hV, .int wd, .int hg, .int wv])), (hM, .inr (0, [.int bd, .int sb, .int nd, .ref aS, .ref aC, .ref aG])), (aS, .inl (cI, 5, .inl S0)), (aC, .inl (cI, 5, .inl Cr)), (aG, .inl (cI, 5, .inl G0)), (hV, .inr (0, [.int bd2, .int sb2, .int nd2, .ref bS, .ref bC, .ref bG])), (bS, .inl (cI, 5, .inl S2)), (bC, .inl (cI, 5, .inl Cr2)), (bG, .inl (cI, 5, .inl G2))] H := hP
  have hD : va_D A [(h0, .inr (1, [.ref hM, .ref hV, .int wd, .int hg, .int wv])), (hM, .inr (0, [.int bd, .int sb, .int nd, .ref aS, .ref aC, .ref aG])), (aS, .inl (cI, 5, .inl S0)), (aC, .inl (cI, 5, .inl Cr)), (aG, .inl (cI, 5, .inl G0)), (hV, .inr (0, [.int bd2, .int sb2, .int nd2, .ref bS, .ref bC, .ref bG])), (bS, .inl (cI, 5, .inl S2)), (bC, .inl (cI, 5, .inl Cr2)), (bG, .inl (cI, 5, .inl G2))] := hD
  have hp_4 : r_1 = pBo S0 bd 4 := hp_4
  refine z_topi (y := pBo S0 bd 4) hp_4 ?_
  rw [← hQ]
  exact z_iret (W1 := (fun (_ : Unit) => [(h0, .inr (1, [.ref hM, .ref hV, .int wd, .int hg, .int wv])), (hM, .inr (0, [.int bd, .int sb, .int nd, .ref aS, .ref aC, .ref aG])), (aS, .inl (cI, 5, .inl S0)), (aC, .inl (cI, 5, .inl Cr)), (aG, .inl (cI, 5, .inl G0)), (hV, .inr (0, [.int bd2, .int sb2, .int nd2, .ref bS, .ref bC, .ref bG])), (bS, .inl (cI, 5, .inl S2)), (bC, .inl (cI, 5, .inl Cr2)), (bG, .inl (cI, 5, .inl G2))])) hx hb hr hlocks hP hS () (rfl) (rfl) dX1_borders_7
abbrev rmX1_leader : Room := { frames := 2, cells := 0, slots := 0, locals := 42 }
set_option maxRecDepth 20000 in
theorem iX1_leader_X0 : ∀ w ∈ wsX00, w ∈ wsX1_leader := fun w h => (goodIn_r (big := wsX1_leader) wsX00 [24, 25, 26, 27, 28, 29] (by decide +kernel) (by decide +kernel) w h).1
set_option maxRecDepth 20000 in
theorem iX1_leader_X1 : ∀ w ∈ wsX10, w ∈ wsX1_leader := fun w h => (goodIn_r (big := wsX1_leader) wsX10 [19, 20, 21, 22, 23] (by decide +kernel) (by decide +kernel) w h).1
set_option maxHeartbeats 4000000 in
set_option maxRecDepth 100000 in
theorem m_X1_leader (l : Launch) (dC : Nat → ClassId) (dI : Nat → Nat → Nat) (cI cZ cJ cD : ClassId) (h0 : Nat) (hM : Nat) (aS : Nat) (aC : Nat) (aG : Nat) (hV : Nat) (bS : Nat) (bC : Nat) (bG : Nat) (wd : Int32) (hg : Int32) (wv : Int32) (bd : Int32) (sb : Int32) (nd : Int32) (S0 : Nat → Int32) (Cr : Nat → Int32) (G0 : Nat → Int32) (bd2 : Int32) (sb2 : Int32) (nd2 : Int32) (S2 : Nat → Int32) (Cr2 : Nat → Int32) (G2 : Nat → Int32)  : zI l (dC, dI) (wT cI cZ cJ cD) yX1_leader wsX1_leader rmX1_leader [(h0, .inr (1, [.ref hM, .ref hV, .int wd, .int hg, .int wv])), (hM, .inr (0, [.int bd, .int sb, .int nd, .ref aS, .ref aC, .ref aG])), (aS, .inl (cI, 5, .inl S0)), (aC, .inl (cI, 5, .inl Cr)), (aG, .inl (cI, 5, .inl G0)), (hV, .inr (0, [.int bd2, .int sb2, .int nd2, .ref bS, .ref bC, .ref bG])), (bS, .inl (cI, 5, .inl S2)), (bC, .inl (cI, 5, .inl Cr2)), (bG, .inl (cI, 5, .inl G2))] [.ref h0] (fun (_ : Unit) => [(h0, .inr (1, [.ref hM, .ref hV, .int wd, .int hg, .int wv])), (hM, .inr (0, [.int bd, .int sb, .int nd, .ref aS, .ref aC, .ref aG])), (aS, .inl (cI, 5, .inl S0)), (aC, .inl (cI, 5, .inl Cr)), (aG, .inl (cI, 5, .inl G0)), (hV, .inr (0, [.int bd2, .int sb2, .int nd2, .ref bS, .ref bC, .ref bG])), (bS, .inl (cI, 5, .inl S2)), (bC, .inl (cI, 5, .inl Cr2)), (bG, .inl (cI, 5, .inl G2))]) (fun (r : Int32) (_ : Unit) => r = nI (pLb S0 4)) := by
  intro sz
  refine Met.ofW (cc := cX1_leader) (maxL := 5) (ret := (some .int)) (by decide) rfl ?_
  intro p e s m args below meth c s₁ B hml hv
  obtain ⟨ha, hsz, hP, hK, hD0, hN⟩ := hv
  have hx := B.exec
  have hb := B.bytes
  have hr := B.returns
  have hts := atoms_spec (ws := wsX1_leader) B.pre
  have hown : s.vm.findClass RX1 = some m.cls := findClass_of_methodNamed B.named
  have hlocks := B.notSynchronized
  subst hsz
  have hD := hD0.self (sz := s.heap.size)
  generalize hAe : va_A [(h0, .inr (1, [.ref hM, .ref hV, .int wd, .int hg, .int wv])), (hM, .inr (0, [.int bd, .int sb, .int nd, .ref aS, .ref aC, .ref aG])), (aS, .inl (cI, 5, .inl S0)), (aC, .inl (cI, 5, .inl Cr)), (aG, .inl (cI, 5, .inl G0)), (hV, .inr (0, [.int bd2, .int sb2, .int nd2, .ref bS, .ref bC, .ref bG])), (bS, .inl (cI, 5, .inl S2)), (bC, .inl (cI, 5, .inl Cr2)), (bG, .inl (cI, 5, .inl G2))] s.heap.size = A at hD ⊢
  have hA : ∀ q : Nat, s.heap.size ≤ q → A q := fun q h => by rw [← hAe]; exact Or.inr h
  have hS : va_S A s.heap s.heap [] := va_S.rf
  generalize hQ : MQ below (va_Qi (fun (r : Int32) (_ : Unit) => r = nI (pLb S0 4)) (fun u t => va_P (dC, dI) vwCl ((fun (_ : Unit) => [(h0, .inr (1, [.ref hM, .ref hV, .int wd, .int hg, .int wv])), (hM, .inr (0, [.int bd, .int sb, .int nd, .ref aS, .ref aC, .ref aG])), (aS, .inl (cI, 5, .inl S0)), (aC, .inl (cI, 5, .inl Cr)), (aG, .inl (cI, 5, .inl G0)), (hV, .inr (0, [.int bd2, .int sb2, .int nd2, .ref bS, .ref bC, .ref bG])), (bS, .inl (cI, 5, .inl S2)), (bC, .inl (cI, 5, .inl Cr2)), (bG, .inl (cI, 5, .inl G2))]) u) t.heap) A) args s 0 0 A = Q
  have F9 : CallFix p m c cX1_leader 5 s args wsX1_leader RX1 := ⟨hx, hb, hml, hown, hts⟩
  refine z_entry (R := rmX1_leader) ha (Nat.le_of_ble_eq_true rfl) (fun ls hl => ?_)
  have hl : lv_has ls 5 [(0, .ref h0)] := hl
  refine lv_iconst (v := 0) hx hb dX1_leader_0 (by decide) ?_
  refine lv_istore_n (lv' := [(1, .int 0), (0, .ref h0)]) hx hb dX1_leader_1 rfl hl (by decide) rfl (fun ls hl => ?_)
  refine lv_iconst (v := 0) hx hb dX1_leader_2 (by decide) ?_
  refine lv_istore_n (lv' := [(2, .int 0), (1, .int 0), (0, .ref h0)]) hx hb dX1_leader_3 rfl hl (by decide) rfl (fun ls hl => ?_)
  refine lv_iconst (v := 1) hx hb dX1_leader_4 (by decide) ?_
  refine lv_istore_n (lv' := [(3, .int 1), (2, .int 0), (1, .int 0), (0, .ref h0)]) hx hb dX1_leader_5 rfl hl (by decide) rfl (fun ls hl => ?_)
  have loop_6 : ∀ (n : Nat) (i : Nat) (lb : Nat) (lm : Int32) (hkn : i + n = 4) (e1 : lb = pLb S0 i) (e2 : lm = pLm S0 i) (H : Heap) (locs : List Loc) (ls : Array Slot) (hP : va_P (dC, dI) vwCl [(h0, .inr (1, [.ref hM, .ref hV, .int wd, .int hg, .int wv])), (hM, .inr (0, [.int bd, .int sb, .int nd, .ref aS, .ref aC, .ref aG])), (aS, .inl (cI, 5, .inl S0)), (aC, .inl (cI, 5, .inl Cr)), (aG, .inl (cI, 5, .inl G0)), (hV, .inr (0, [.int bd2, .int sb2, .int nd2, .ref bS, .ref bC, .ref bG])), (bS, .inl (cI, 5, .inl S2)), (bC, .inl (cI, 5, .inl Cr2)), (bG, .inl (cI, 5, .inl G2))] H) (hD : va_D A [(h0, .inr (1, [.ref hM, .ref hV, .int wd, .int hg, .int wv])), (hM, .inr (0, [.int bd, .int sb, .int nd, .ref aS, .ref aC, .ref aG])), (aS, .inl (cI, 5, .inl S0)), (aC, .inl (cI, 5, .inl Cr)), (aG, .inl (cI, 5, .inl G0)), (hV, .inr (0, [.int bd2, .int sb2, .int nd2, .ref bS, .ref bC, .ref bG])), (bS, .inl (cI, 5, .inl S2)), (bC, .inl (cI, 5, .inl Cr2)), (bG, .inl (cI, 5, .inl G2))]) (hS : va_S A s.heap H locs) (hl : lv_has ls 5 [(0, .ref h0), (1, .int (nI lb)), (2, .int lm), (3, .int (nI (i + 1)))]), W p l e rmX1_leader s m args below meth c H locs 0 0 Q (F0 m 6 ls []) := by
    intro n
    induction n with
    | zero =>
      intro i lb lm hkn e1 e2 H locs ls hP hD hS hl
      refine lv_iload_n hx hb dX1_leader_6 rfl (lv_at hl 3 rfl) ?_
      refine lv_iconst (v := 4) hx hb dX1_leader_7 (by decide) ?_
      refine lv_icmp_gt (tgt := 38) hx hb dX1_leader_8 (by decide) (fun c_8 => ?_) (fun c_8 => ?_)
      · skip
        have n_8 := zc_lt_t (a := 4) (b := (i + 1)) (by omega) (by omega) c_8
        refine lv_iload_n hx hb dX1_leader_38 rfl (lv_at hl 1 rfl) ?_
        rw [← hQ]
        exact z_iret (W1 := (fun (_ : Unit) => [(h0, .inr (1, [.ref hM, .ref hV, .int wd, .int hg, .int wv])), (hM, .inr (0, [.int bd, .int sb, .int nd, .ref aS, .ref aC, .ref aG])), (aS, .inl (cI, 5, .inl S0)), (aC, .inl (cI, 5, .inl Cr)), (aG, .inl (cI, 5, .inl G0)), (hV, .inr (0, [.int bd2, .int sb2, .int nd2, .ref bS, .ref bC, .ref bG])), (bS, .inl (cI, 5, .inl S2)), (bC, .inl (cI, 5, .inl Cr2)), (bG, .inl (cI, 5, .inl G2))])) hx hb hr hlocks hP hS () (rfl) (by rw [e1, show i = 4 by omega]) dX1_leader_39
      · skip
        have n_8 := zc_lt_f (a := 4) (b := (i + 1)) (by omega) (by omega) c_8
        exact absurd n_8 (by omega)
    | succ n ih_6 =>
      intro i lb lm hkn e1 e2 H locs ls hP hD hS hl
      refine lv_iload_n hx hb dX1_leader_6 rfl (lv_at hl 3 rfl) ?_
      refine lv_iconst (v := 4) hx hb dX1_leader_7 (by decide) ?_
      refine lv_icmp_gt (tgt := 38) hx hb dX1_leader_8 (by decide) (fun c_8 => ?_) (fun c_8 => ?_)
      · skip
        have n_8 := zc_lt_t (a := 4) (b := (i + 1)) (by omega) (by omega) c_8
        exact absurd n_8 (by omega)
      · skip
        have n_8 := zc_lt_f (a := 4) (b := (i + 1)) (by omega) (by omega) c_8
        refine lv_aload_n hx hb dX1_leader_11 rfl (lv_at hl 0 rfl) ?_
        refine va_get (D := (dC, dI)) (ci := 1) (v := .ref hM) (C := RX1) (T := TX1) (N := 5) hx hb hts iX1_leader_X1 hown hK hP 0 rfl rfl 0 (by decide) (hts (.fieldLink RX1 12 "ColourTide" "map" "LColourTide$Tide;") (List.mem_of_getElem? (i := 1) rfl)) (fun _ h9 => h9) rfl dX1_leader_12 ?_
        refine lv_iload_n hx hb dX1_leader_15 rfl (lv_at hl 3 rfl) ?_
        refine z_callVi (As := [.int (nI (i + 1))]) (rest := []) F9 (m_X0_count l dC dI cI cZ cJ cD hM aS aC aG bd sb nd S0 Cr G0 (nI (i + 1)) ) (cwV 1 hts gX1_leader_X0_count rfl rfl rfl (by decide +kernel) ⟨Nat.le_of_ble_eq_true rfl, Nat.le_of_ble_eq_true rfl⟩) hK hN hP hD hS hA [1, 2, 3, 4] rfl rfl (fun _ => rfl) 1 (ci := 0) rfl rfl rfl rfl hl.1 rfl (Nat.le_of_ble_eq_true rfl) dX1_leader_16 ⟨Nat.zero_le _, Nat.zero_le _⟩ (fun r_1 u H locs hp_16 hP hD hS => ?_)
        have hP : va_P (dC, dI) vwCl [(h0, .inr (1, [.ref hM, .ref hV, .int wd, .int hg, .int wv])), (hM, .inr (0, [.int bd, .int sb, .int nd, .ref aS, .ref aC, .ref aG])), (aS, .inl (cI, 5, .inl S0)), (aC, .inl (cI, 5, .inl Cr)), (aG, .inl (cI, 5, .inl G0)), (hV, .inr (0, [.int bd2, .int sb2, .int nd2, .ref bS, .ref bC, .ref bG])), (bS, .inl (cI, 5, .inl S2)), (bC, .inl (cI, 5, .inl Cr2)), (bG, .inl (cI, 5, .inl G2))] H := hP
        have hD : va_D A [(h0, .inr (1, [.ref hM, .ref hV, .int wd, .int hg, .int wv])), (hM, .inr (0, [.int bd, .int sb, .int nd, .ref aS, .ref aC, .ref aG])), (aS, .inl (cI, 5, .inl S0)), (aC, .inl (cI, 5, .inl Cr)), (aG, .inl (cI, 5, .inl G0)), (hV, .inr (0, [.int bd2, .int sb2, .int nd2, .ref bS, .ref bC, .ref bG])), (bS, .inl (cI, 5, .inl S2)), (bC, .inl (cI, 5, .inl Cr2)), (bG, .inl (cI, 5, .inl G2))] := hD
        have hp_16 : r_1 = pBC (pCW S0 (nI (i + 1))) := hp_16
        refine z_topi (y := pBC (pCW S0 (nI (i + 1)))) hp_16 ?_
        refine lv_istore (lv' := [(4, .int (pBC (pCW S0 (nI (i + 1))))), (0, .ref h0), (1, .int (nI lb)), (2, .int lm), (3, .int (nI (i + 1)))]) hx hb dX1_leader_19 hl (by decide) rfl (fun ls hl => ?_)
        refine lv_iload hx hb dX1_leader_21 (lv_at hl 0 rfl) ?_
        refine lv_iload_n hx hb dX1_leader_23 rfl (lv_at hl 3 rfl) ?_
        refine lv_icmp_le (tgt := 32) hx hb dX1_leader_24 (by decide) (fun c_24 => ?_) (fun c_24 => ?_)
        · skip
          refine lv_iinc (v := nI ((i + 1) + 1)) (lv' := [(3, .int (nI ((i + 1) + 1))), (4, .int (pBC (pCW S0 (nI (i + 1))))), (0, .ref h0), (1, .int (nI lb)), (2, .int lm)]) hx hb dX1_leader_32 hl (k := 4) rfl (nI_1 (i + 1)) (by decide) rfl (fun ls hl => ?_)
          refine lv_goto (tgt := 6) hx hb dX1_leader_35 (by decide) ?_
          exact ih_6 (i + 1) lb lm (by omega) (by rw [pLb, ← e2, if_pos c_24, e1]) (by rw [pLm, ← e2, if_pos c_24]) _ _ _ hP hD hS (lv_sub hl [2, 3, 4, 0] rfl)
        · skip
          refine lv_iload hx hb dX1_leader_27 (lv_at hl 0 rfl) ?_
          refine lv_istore_n (lv' := [(2, .int (pBC (pCW S0 (nI (i + 1))))), (4, .int (pBC (pCW S0 (nI (i + 1))))), (0, .ref h0), (1, .int (nI lb)), (3, .int (nI (i + 1)))]) hx hb dX1_leader_29 rfl hl (by decide) rfl (fun ls hl => ?_)
          refine lv_iload_n hx hb dX1_leader_30 rfl (lv_at hl 4 rfl) ?_
          refine lv_istore_n (lv' := [(1, .int (nI (i + 1))), (2, .int (pBC (pCW S0 (nI (i + 1))))), (4, .int (pBC (pCW S0 (nI (i + 1))))), (0, .ref h0), (3, .int (nI (i + 1)))]) hx hb dX1_leader_31 rfl hl (by decide) rfl (fun ls hl => ?_)
          refine lv_iinc (v := nI ((i + 1) + 1)) (lv' := [(3, .int (nI ((i + 1) + 1))), (1, .int (nI (i + 1))), (2, .int (pBC (pCW S0 (nI (i + 1))))), (4, .int (pBC (pCW S0 (nI (i + 1))))), (0, .ref h0)]) hx hb dX1_leader_32 hl (k := 4) rfl (nI_1 (i + 1)) (by decide) rfl (fun ls hl => ?_)
          refine lv_goto (tgt := 6) hx hb dX1_leader_35 (by decide) ?_
          exact ih_6 (i + 1) (i + 1) (pBC (pCW S0 (nI (i + 1)))) (by omega) (by rw [pLb, ← e2, if_neg c_24]) (by rw [pLm, ← e2, if_neg c_24]) _ _ _ hP hD hS (lv_sub hl [4, 1, 2, 0] rfl)
  exact loop_6 4 0 0 0 (by omega) (rfl) (rfl) _ _ _ hP hD hS (lv_sub hl [3, 2, 1, 0] rfl)
abbrev rmX1_isStill : Room := { frames := 3, cells := 0, slots := 0, locals := 71 }
set_option maxRecDepth 20000 in
theorem iX1_isStill_X0 : ∀ w ∈ wsX00, w ∈ wsX1_isStill := fun w h => (goodIn_r (big := wsX1_isStill) wsX00 [25, 26, 27, 28, 29, 30] (by decide +kernel) (by decide +kernel) w h).1
set_option maxRecDepth 20000 in
theorem iX1_isStill_X1 : ∀ w ∈ wsX10, w ∈ wsX1_isStill := fun w h => (goodIn_r (big := wsX1_isStill) wsX10 [20, 21, 22, 23, 24] (by decide +kernel) (by decide +kernel) w h).1
set_option maxHeartbeats 4000000 in
set_option maxRecDepth 100000 in
theorem m_X1_isStill (l : Launch) (dC : Nat → ClassId) (dI : Nat → Nat → Nat) (cI cZ cJ cD : ClassId) (h0 : Nat) (hM : Nat) (aS : Nat) (aC : Nat) (aG : Nat) (hV : Nat) (bS : Nat) (bC : Nat) (bG : Nat) (wd : Int32) (hg : Int32) (wv : Int32) (bd : Int32) (sb : Int32) (nd : Int32) (S0 : Nat → Int32) (Cr : Nat → Int32) (G0 : Nat → Int32) (bd2 : Int32) (sb2 : Int32) (nd2 : Int32) (S2 : Nat → Int32) (Cr2 : Nat → Int32) (G2 : Nat → Int32) (q0 : Nat) (hq : 1 ≤ q0 ∧ q0 ≤ 4) (hnd : nd = nI q0) : zI l (dC, dI) (wT cI cZ cJ cD) yX1_isStill wsX1_isStill rmX1_isStill [(h0, .inr (1, [.ref hM, .ref hV, .int wd, .int hg, .int wv])), (hM, .inr (0, [.int bd, .int sb, .int nd, .ref aS, .ref aC, .ref aG])), (aS, .inl (cI, 5, .inl S0)), (aC, .inl (cI, 5, .inl Cr)), (aG, .inl (cI, 5, .inl G0)), (hV, .inr (0, [.int bd2, .int sb2, .int nd2, .ref bS, .ref bC, .ref bG])), (bS, .inl (cI, 5, .inl S2)), (bC, .inl (cI, 5, .inl Cr2)), (bG, .inl (cI, 5, .inl G2))] [.ref h0] (fun (u : (Nat → Int32) × (Nat → Int32)) => [(h0, .inr (1, [.ref hM, .ref hV, .int wd, .int hg, .int wv])), (hM, .inr (0, [.int bd, .int sb, .int nd, .ref aS, .ref aC, .ref aG])), (aS, .inl (cI, 5, .inl S0)), (aC, .inl (cI, 5, .inl u.1)), (aG, .inl (cI, 5, .inl u.2)), (hV, .inr (0, [.int bd2, .int sb2, .int nd2, .ref bS, .ref bC, .ref bG])), (bS, .inl (cI, 5, .inl S2)), (bC, .inl (cI, 5, .inl Cr2)), (bG, .inl (cI, 5, .inl G2))]) (fun (r : Int32) (u : (Nat → Int32) × (Nat → Int32)) => r = if pC0 S0 bd sb q0 = 0 then 1 else 0) := by
  intro sz
  refine Met.ofW (cc := cX1_isStill) (maxL := 1) (ret := (some .boolean)) (by decide) rfl ?_
  intro p e s m args below meth c s₁ B hml hv
  obtain ⟨ha, hsz, hP, hK, hD0, hN⟩ := hv
  have hx := B.exec
  have hb := B.bytes
  have hr := B.returns
  have hts := atoms_spec (ws := wsX1_isStill) B.pre
  have hown : s.vm.findClass RX1 = some m.cls := findClass_of_methodNamed B.named
  have hlocks := B.notSynchronized
  subst hsz
  have hD := hD0.self (sz := s.heap.size)
  generalize hAe : va_A [(h0, .inr (1, [.ref hM, .ref hV, .int wd, .int hg, .int wv])), (hM, .inr (0, [.int bd, .int sb, .int nd, .ref aS, .ref aC, .ref aG])), (aS, .inl (cI, 5, .inl S0)), (aC, .inl (cI, 5, .inl Cr)), (aG, .inl (cI, 5, .inl G0)), (hV, .inr (0, [.int bd2, .int sb2, .int nd2, .ref bS, .ref bC, .ref bG])), (bS, .inl (cI, 5, .inl S2)), (bC, .inl (cI, 5, .inl Cr2)), (bG, .inl (cI, 5, .inl G2))] s.heap.size = A at hD ⊢
  have hA : ∀ q : Nat, s.heap.size ≤ q → A q := fun q h => by rw [← hAe]; exact Or.inr h
  have hS : va_S A s.heap s.heap [] := va_S.rf
  generalize hQ : MQ below (va_Qi (fun (r : Int32) (u : (Nat → Int32) × (Nat → Int32)) => r = if pC0 S0 bd sb q0 = 0 then 1 else 0) (fun u t => va_P (dC, dI) vwCl ((fun (u : (Nat → Int32) × (Nat → Int32)) => [(h0, .inr (1, [.ref hM, .ref hV, .int wd, .int hg, .int wv])), (hM, .inr (0, [.int bd, .int sb, .int nd, .ref aS, .ref aC, .ref aG])), (aS, .inl (cI, 5, .inl S0)), (aC, .inl (cI, 5, .inl u.1)), (aG, .inl (cI, 5, .inl u.2)), (hV, .inr (0, [.int bd2, .int sb2, .int nd2, .ref bS, .ref bC, .ref bG])), (bS, .inl (cI, 5, .inl S2)), (bC, .inl (cI, 5, .inl Cr2)), (bG, .inl (cI, 5, .inl G2))]) u) t.heap) A) args s 0 0 A = Q
  have F9 : CallFix p m c cX1_isStill 1 s args wsX1_isStill RX1 := ⟨hx, hb, hml, hown, hts⟩
  refine z_entry (R := rmX1_isStill) ha (Nat.le_of_ble_eq_true rfl) (fun ls hl => ?_)
  have hl : lv_has ls 1 [(0, .ref h0)] := hl
  refine lv_aload_n hx hb dX1_isStill_0 rfl (lv_at hl 0 rfl) ?_
  refine va_get (D := (dC, dI)) (ci := 1) (v := .ref hM) (C := RX1) (T := TX1) (N := 5) hx hb hts iX1_isStill_X1 hown hK hP 0 rfl rfl 0 (by decide) (hts (.fieldLink RX1 12 "ColourTide" "map" "LColourTide$Tide;") (List.mem_of_getElem? (i := 1) rfl)) (fun _ h9 => h9) rfl dX1_isStill_1 ?_
  refine z_callVi (As := []) (rest := []) F9 (m_X0_foresee l dC dI cI cZ cJ cD hM aS aC aG bd sb nd S0 Cr G0 q0 (hq) (hnd)) (cwV 0 hts gX1_isStill_X0_foresee rfl rfl rfl (by decide +kernel) ⟨Nat.le_of_ble_eq_true rfl, Nat.le_of_ble_eq_true rfl⟩) hK hN hP hD hS hA [1, 2, 3, 4] rfl rfl (fun _ => rfl) 1 (ci := 0) rfl rfl rfl rfl hl.1 rfl (Nat.le_of_ble_eq_true rfl) dX1_isStill_4 ⟨Nat.zero_le _, Nat.zero_le _⟩ (fun r_1 u H locs hp_4 hP hD hS => ?_)
  have hP : va_P (dC, dI) vwCl [(h0, .inr (1, [.ref hM, .ref hV, .int wd, .int hg, .int wv])), (hM, .inr (0, [.int bd, .int sb, .int nd, .ref aS, .ref aC, .ref aG])), (aS, .inl (cI, 5, .inl S0)), (aC, .inl (cI, 5, .inl (pCs S0 q0 Cr (5 - q0)))), (aG, .inl (cI, 5, .inl (pGf S0 bd sb q0 G0))), (hV, .inr (0, [.int bd2, .int sb2, .int nd2, .ref bS, .ref bC, .ref bG])), (bS, .inl (cI, 5, .inl S2)), (bC, .inl (cI, 5, .inl Cr2)), (bG, .inl (cI, 5, .inl G2))] H := hP
  have hD : va_D A [(h0, .inr (1, [.ref hM, .ref hV, .int wd, .int hg, .int wv])), (hM, .inr (0, [.int bd, .int sb, .int nd, .ref aS, .ref aC, .ref aG])), (aS, .inl (cI, 5, .inl S0)), (aC, .inl (cI, 5, .inl (pCs S0 q0 Cr (5 - q0)))), (aG, .inl (cI, 5, .inl (pGf S0 bd sb q0 G0))), (hV, .inr (0, [.int bd2, .int sb2, .int nd2, .ref bS, .ref bC, .ref bG])), (bS, .inl (cI, 5, .inl S2)), (bC, .inl (cI, 5, .inl Cr2)), (bG, .inl (cI, 5, .inl G2))] := hD
  have hp_4 : r_1 = pC0 S0 bd sb q0 := hp_4
  refine z_topi (y := pC0 S0 bd sb q0) hp_4 ?_
  refine lv_if_ne (tgt := 14) hx hb dX1_isStill_7 (by decide) (fun c_7 => ?_) (fun c_7 => ?_)
  · skip
    refine lv_iconst (v := 0) hx hb dX1_isStill_14 (by decide) ?_
    rw [← hQ]
    exact z_zret (W1 := (fun (u : (Nat → Int32) × (Nat → Int32)) => [(h0, .inr (1, [.ref hM, .ref hV, .int wd, .int hg, .int wv])), (hM, .inr (0, [.int bd, .int sb, .int nd, .ref aS, .ref aC, .ref aG])), (aS, .inl (cI, 5, .inl S0)), (aC, .inl (cI, 5, .inl u.1)), (aG, .inl (cI, 5, .inl u.2)), (hV, .inr (0, [.int bd2, .int sb2, .int nd2, .ref bS, .ref bC, .ref bG])), (bS, .inl (cI, 5, .inl S2)), (bC, .inl (cI, 5, .inl Cr2)), (bG, .inl (cI, 5, .inl G2))])) hx hb hr hlocks (by decide +kernel) hP hS ((pCs S0 q0 Cr (5 - q0)), (pGf S0 bd sb q0 G0)) (rfl) (by rw [if_neg c_7]) dX1_isStill_15
  · skip
    refine lv_iconst (v := 1) hx hb dX1_isStill_10 (by decide) ?_
    refine lv_goto (tgt := 15) hx hb dX1_isStill_11 (by decide) ?_
    rw [← hQ]
    exact z_zret (W1 := (fun (u : (Nat → Int32) × (Nat → Int32)) => [(h0, .inr (1, [.ref hM, .ref hV, .int wd, .int hg, .int wv])), (hM, .inr (0, [.int bd, .int sb, .int nd, .ref aS, .ref aC, .ref aG])), (aS, .inl (cI, 5, .inl S0)), (aC, .inl (cI, 5, .inl u.1)), (aG, .inl (cI, 5, .inl u.2)), (hV, .inr (0, [.int bd2, .int sb2, .int nd2, .ref bS, .ref bC, .ref bG])), (bS, .inl (cI, 5, .inl S2)), (bC, .inl (cI, 5, .inl Cr2)), (bG, .inl (cI, 5, .inl G2))])) hx hb hr hlocks (by decide +kernel) hP hS ((pCs S0 q0 Cr (5 - q0)), (pGf S0 bd sb q0 G0)) (rfl) (by rw [if_pos c_7]) dX1_isStill_15
abbrev rmX1_winner : Room := { frames := 2, cells := 0, slots := 0, locals := 42 }
set_option maxRecDepth 20000 in
theorem iX1_winner_X0 : ∀ w ∈ wsX00, w ∈ wsX1_winner := fun w h => (goodIn_r (big := wsX1_winner) wsX00 [18, 19, 20, 21, 22, 23] (by decide +kernel) (by decide +kernel) w h).1
set_option maxRecDepth 20000 in
theorem iX1_winner_X1 : ∀ w ∈ wsX10, w ∈ wsX1_winner := fun w h => (goodIn_r (big := wsX1_winner) wsX10 [13, 14, 15, 16, 17] (by decide +kernel) (by decide +kernel) w h).1
set_option maxHeartbeats 4000000 in
set_option maxRecDepth 100000 in
theorem m_X1_winner (l : Launch) (dC : Nat → ClassId) (dI : Nat → Nat → Nat) (cI cZ cJ cD : ClassId) (h0 : Nat) (hM : Nat) (aS : Nat) (aC : Nat) (aG : Nat) (hV : Nat) (bS : Nat) (bC : Nat) (bG : Nat) (wd : Int32) (hg : Int32) (wv : Int32) (bd : Int32) (sb : Int32) (nd : Int32) (S0 : Nat → Int32) (Cr : Nat → Int32) (G0 : Nat → Int32) (bd2 : Int32) (sb2 : Int32) (nd2 : Int32) (S2 : Nat → Int32) (Cr2 : Nat → Int32) (G2 : Nat → Int32)  : zI l (dC, dI) (wT cI cZ cJ cD) yX1_winner wsX1_winner rmX1_winner [(h0, .inr (1, [.ref hM, .ref hV, .int wd, .int hg, .int wv])), (hM, .inr (0, [.int bd, .int sb, .int nd, .ref aS, .ref aC, .ref aG])), (aS, .inl (cI, 5, .inl S0)), (aC, .inl (cI, 5, .inl Cr)), (aG, .inl (cI, 5, .inl G0)), (hV, .inr (0, [.int bd2, .int sb2, .int nd2, .ref bS, .ref bC, .ref bG])), (bS, .inl (cI, 5, .inl S2)), (bC, .inl (cI, 5, .inl Cr2)), (bG, .inl (cI, 5, .inl G2))] [.ref h0] (fun (_ : Unit) => [(h0, .inr (1, [.ref hM, .ref hV, .int wd, .int hg, .int wv])), (hM, .inr (0, [.int bd, .int sb, .int nd, .ref aS, .ref aC, .ref aG])), (aS, .inl (cI, 5, .inl S0)), (aC, .inl (cI, 5, .inl Cr)), (aG, .inl (cI, 5, .inl G0)), (hV, .inr (0, [.int bd2, .int sb2, .int nd2, .ref bS, .ref bC, .ref bG])), (bS, .inl (cI, 5, .inl S2)), (bC, .inl (cI, 5, .inl Cr2)), (bG, .inl (cI, 5, .inl G2))]) (fun (r : Int32) (_ : Unit) => r = pWr S0 bd) := by
  intro sz
  refine Met.ofW (cc := cX1_winner) (maxL := 2) (ret := (some .int)) (by decide) rfl ?_
  intro p e s m args below meth c s₁ B hml hv
  obtain ⟨ha, hsz, hP, hK, hD0, hN⟩ := hv
  have hx := B.exec
  have hb := B.bytes
  have hr := B.returns
  have hts := atoms_spec (ws := wsX1_winner) B.pre
  have hown : s.vm.findClass RX1 = some m.cls := findClass_of_methodNamed B.named
  have hlocks := B.notSynchronized
  subst hsz
  have hD := hD0.self (sz := s.heap.size)
  generalize hAe : va_A [(h0, .inr (1, [.ref hM, .ref hV, .int wd, .int hg, .int wv])), (hM, .inr (0, [.int bd, .int sb, .int nd, .ref aS, .ref aC, .ref aG])), (aS, .inl (cI, 5, .inl S0)), (aC, .inl (cI, 5, .inl Cr)), (aG, .inl (cI, 5, .inl G0)), (hV, .inr (0, [.int bd2, .int sb2, .int nd2, .ref bS, .ref bC, .ref bG])), (bS, .inl (cI, 5, .inl S2)), (bC, .inl (cI, 5, .inl Cr2)), (bG, .inl (cI, 5, .inl G2))] s.heap.size = A at hD ⊢
  have hA : ∀ q : Nat, s.heap.size ≤ q → A q := fun q h => by rw [← hAe]; exact Or.inr h
  have hS : va_S A s.heap s.heap [] := va_S.rf
  generalize hQ : MQ below (va_Qi (fun (r : Int32) (_ : Unit) => r = pWr S0 bd) (fun u t => va_P (dC, dI) vwCl ((fun (_ : Unit) => [(h0, .inr (1, [.ref hM, .ref hV, .int wd, .int hg, .int wv])), (hM, .inr (0, [.int bd, .int sb, .int nd, .ref aS, .ref aC, .ref aG])), (aS, .inl (cI, 5, .inl S0)), (aC, .inl (cI, 5, .inl Cr)), (aG, .inl (cI, 5, .inl G0)), (hV, .inr (0, [.int bd2, .int sb2, .int nd2, .ref bS, .ref bC, .ref bG])), (bS, .inl (cI, 5, .inl S2)), (bC, .inl (cI, 5, .inl Cr2)), (bG, .inl (cI, 5, .inl G2))]) u) t.heap) A) args s 0 0 A = Q
  have F9 : CallFix p m c cX1_winner 2 s args wsX1_winner RX1 := ⟨hx, hb, hml, hown, hts⟩
  refine z_entry (R := rmX1_winner) ha (Nat.le_of_ble_eq_true rfl) (fun ls hl => ?_)
  have hl : lv_has ls 2 [(0, .ref h0)] := hl
  refine lv_iconst (v := 1) hx hb dX1_winner_0 (by decide) ?_
  refine lv_istore_n (lv' := [(1, .int 1), (0, .ref h0)]) hx hb dX1_winner_1 rfl hl (by decide) rfl (fun ls hl => ?_)
  have loop_2 : ∀ (n : Nat) (k : Nat) (hkn : k + n = 5) (h1 : 1 ≤ k) (hz : ∀ j, 1 ≤ j → j < k → ¬ pCW S0 (nI j) = bd) (H : Heap) (locs : List Loc) (ls : Array Slot) (hP : va_P (dC, dI) vwCl [(h0, .inr (1, [.ref hM, .ref hV, .int wd, .int hg, .int wv])), (hM, .inr (0, [.int bd, .int sb, .int nd, .ref aS, .ref aC, .ref aG])), (aS, .inl (cI, 5, .inl S0)), (aC, .inl (cI, 5, .inl Cr)), (aG, .inl (cI, 5, .inl G0)), (hV, .inr (0, [.int bd2, .int sb2, .int nd2, .ref bS, .ref bC, .ref bG])), (bS, .inl (cI, 5, .inl S2)), (bC, .inl (cI, 5, .inl Cr2)), (bG, .inl (cI, 5, .inl G2))] H) (hD : va_D A [(h0, .inr (1, [.ref hM, .ref hV, .int wd, .int hg, .int wv])), (hM, .inr (0, [.int bd, .int sb, .int nd, .ref aS, .ref aC, .ref aG])), (aS, .inl (cI, 5, .inl S0)), (aC, .inl (cI, 5, .inl Cr)), (aG, .inl (cI, 5, .inl G0)), (hV, .inr (0, [.int bd2, .int sb2, .int nd2, .ref bS, .ref bC, .ref bG])), (bS, .inl (cI, 5, .inl S2)), (bC, .inl (cI, 5, .inl Cr2)), (bG, .inl (cI, 5, .inl G2))]) (hS : va_S A s.heap H locs) (hl : lv_has ls 2 [(0, .ref h0), (1, .int (nI k))]), W p l e rmX1_winner s m args below meth c H locs 0 0 Q (F0 m 2 ls []) := by
    intro n
    induction n with
    | zero =>
      intro k hkn h1 hz H locs ls hP hD hS hl
      refine lv_iload_n hx hb dX1_winner_2 rfl (lv_at hl 1 rfl) ?_
      refine lv_iconst (v := 4) hx hb dX1_winner_3 (by decide) ?_
      refine lv_icmp_gt (tgt := 26) hx hb dX1_winner_4 (by decide) (fun c_4 => ?_) (fun c_4 => ?_)
      · skip
        have n_4 := zc_lt_t (a := 4) (b := k) (by omega) (by omega) c_4
        refine lv_iconst (v := 0) hx hb dX1_winner_26 (by decide) ?_
        rw [← hQ]
        exact z_iret (W1 := (fun (_ : Unit) => [(h0, .inr (1, [.ref hM, .ref hV, .int wd, .int hg, .int wv])), (hM, .inr (0, [.int bd, .int sb, .int nd, .ref aS, .ref aC, .ref aG])), (aS, .inl (cI, 5, .inl S0)), (aC, .inl (cI, 5, .inl Cr)), (aG, .inl (cI, 5, .inl G0)), (hV, .inr (0, [.int bd2, .int sb2, .int nd2, .ref bS, .ref bC, .ref bG])), (bS, .inl (cI, 5, .inl S2)), (bC, .inl (cI, 5, .inl Cr2)), (bG, .inl (cI, 5, .inl G2))])) hx hb hr hlocks hP hS () (rfl) (pWr_no (fun j h1 h2 => hz j h1 (by omega))) dX1_winner_27
      · skip
        have n_4 := zc_lt_f (a := 4) (b := k) (by omega) (by omega) c_4
        exact absurd n_4 (by omega)
    | succ n ih_2 =>
      intro k hkn h1 hz H locs ls hP hD hS hl
      refine lv_iload_n hx hb dX1_winner_2 rfl (lv_at hl 1 rfl) ?_
      refine lv_iconst (v := 4) hx hb dX1_winner_3 (by decide) ?_
      refine lv_icmp_gt (tgt := 26) hx hb dX1_winner_4 (by decide) (fun c_4 => ?_) (fun c_4 => ?_)
      · skip
        have n_4 := zc_lt_t (a := 4) (b := k) (by omega) (by omega) c_4
        exact absurd n_4 (by omega)
      · skip
        have n_4 := zc_lt_f (a := 4) (b := k) (by omega) (by omega) c_4
        refine lv_aload_n hx hb dX1_winner_7 rfl (lv_at hl 0 rfl) ?_
        refine va_get (D := (dC, dI)) (ci := 1) (v := .ref hM) (C := RX1) (T := TX1) (N := 5) hx hb hts iX1_winner_X1 hown hK hP 0 rfl rfl 0 (by decide) (hts (.fieldLink RX1 12 "ColourTide" "map" "LColourTide$Tide;") (List.mem_of_getElem? (i := 1) rfl)) (fun _ h9 => h9) rfl dX1_winner_8 ?_
        refine lv_iload_n hx hb dX1_winner_11 rfl (lv_at hl 1 rfl) ?_
        refine z_callVi (As := [.int (nI k)]) (rest := []) F9 (m_X0_isAll l dC dI cI cZ cJ cD hM aS aC aG bd sb nd S0 Cr G0 (nI k) ) (cwV 1 hts gX1_winner_X0_isAll rfl rfl rfl (by decide +kernel) ⟨Nat.le_of_ble_eq_true rfl, Nat.le_of_ble_eq_true rfl⟩) hK hN hP hD hS hA [1, 2, 3, 4] rfl rfl (fun _ => rfl) 1 (ci := 0) rfl rfl rfl rfl hl.1 rfl (Nat.le_of_ble_eq_true rfl) dX1_winner_12 ⟨Nat.zero_le _, Nat.zero_le _⟩ (fun r_1 u H locs hp_12 hP hD hS => ?_)
        have hP : va_P (dC, dI) vwCl [(h0, .inr (1, [.ref hM, .ref hV, .int wd, .int hg, .int wv])), (hM, .inr (0, [.int bd, .int sb, .int nd, .ref aS, .ref aC, .ref aG])), (aS, .inl (cI, 5, .inl S0)), (aC, .inl (cI, 5, .inl Cr)), (aG, .inl (cI, 5, .inl G0)), (hV, .inr (0, [.int bd2, .int sb2, .int nd2, .ref bS, .ref bC, .ref bG])), (bS, .inl (cI, 5, .inl S2)), (bC, .inl (cI, 5, .inl Cr2)), (bG, .inl (cI, 5, .inl G2))] H := hP
        have hD : va_D A [(h0, .inr (1, [.ref hM, .ref hV, .int wd, .int hg, .int wv])), (hM, .inr (0, [.int bd, .int sb, .int nd, .ref aS, .ref aC, .ref aG])), (aS, .inl (cI, 5, .inl S0)), (aC, .inl (cI, 5, .inl Cr)), (aG, .inl (cI, 5, .inl G0)), (hV, .inr (0, [.int bd2, .int sb2, .int nd2, .ref bS, .ref bC, .ref bG])), (bS, .inl (cI, 5, .inl S2)), (bC, .inl (cI, 5, .inl Cr2)), (bG, .inl (cI, 5, .inl G2))] := hD
        have hp_12 : r_1 = if pCW S0 (nI k) = bd then 1 else 0 := hp_12
        refine z_topi (y := if pCW S0 (nI k) = bd then 1 else 0) hp_12 ?_
        refine lv_if_eq (tgt := 20) hx hb dX1_winner_15 (by decide) (fun c_15 => ?_) (fun c_15 => ?_)
        · skip
          refine lv_iinc (v := nI (k + 1)) (lv' := [(1, .int (nI (k + 1))), (0, .ref h0)]) hx hb dX1_winner_20 hl (k := 1) rfl (nI_1 k) (by decide) rfl (fun ls hl => ?_)
          refine lv_goto (tgt := 2) hx hb dX1_winner_23 (by decide) ?_
          exact ih_2 (k + 1) (by omega) (by omega) (fun j h1 h2 => by rcases Nat.lt_succ_iff_lt_or_eq.mp h2 with h | rfl; exact hz j h1 h; exact z_if0 c_15) _ _ _ hP hD hS (lv_sub hl [1, 0] rfl)
        · skip
          refine lv_iload_n hx hb dX1_winner_18 rfl (lv_at hl 1 rfl) ?_
          rw [← hQ]
          exact z_iret (W1 := (fun (_ : Unit) => [(h0, .inr (1, [.ref hM, .ref hV, .int wd, .int hg, .int wv])), (hM, .inr (0, [.int bd, .int sb, .int nd, .ref aS, .ref aC, .ref aG])), (aS, .inl (cI, 5, .inl S0)), (aC, .inl (cI, 5, .inl Cr)), (aG, .inl (cI, 5, .inl G0)), (hV, .inr (0, [.int bd2, .int sb2, .int nd2, .ref bS, .ref bC, .ref bG])), (bS, .inl (cI, 5, .inl S2)), (bC, .inl (cI, 5, .inl Cr2)), (bG, .inl (cI, 5, .inl G2))])) hx hb hr hlocks hP hS () (rfl) (pWr_at h1 (by omega) hz (z_if1 c_15)) dX1_winner_19
  exact loop_2 4 1 (by omega) (Nat.le_refl 1) (fun j h1 h2 => absurd h2 (by omega)) _ _ _ hP hD hS (lv_sub hl [1, 0] rfl)
abbrev rmX1_mixCell : Room := { frames := 3, cells := 0, slots := 0, locals := 66 }
set_option maxRecDepth 20000 in
theorem iX1_mixCell_X0 : ∀ w ∈ wsX00, w ∈ wsX1_mixCell := fun w h => (goodIn_r (big := wsX1_mixCell) wsX00 [48, 49, 50, 51, 52, 53] (by decide +kernel) (by decide +kernel) w h).1
set_option maxRecDepth 20000 in
theorem iX1_mixCell_X1 : ∀ w ∈ wsX10, w ∈ wsX1_mixCell := fun w h => (goodIn_r (big := wsX1_mixCell) wsX10 [43, 44, 45, 46, 47] (by decide +kernel) (by decide +kernel) w h).1
set_option maxHeartbeats 4000000 in
set_option maxRecDepth 100000 in
theorem m_X1_mixCell (l : Launch) (dC : Nat → ClassId) (dI : Nat → Nat → Nat) (cI cZ cJ cD : ClassId) (h0 : Nat) (hM : Nat) (aS : Nat) (aC : Nat) (aG : Nat) (hV : Nat) (bS : Nat) (bC : Nat) (bG : Nat) (wd : Int32) (hg : Int32) (wv : Int32) (bd : Int32) (sb : Int32) (nd : Int32) (S0 : Nat → Int32) (Cr : Nat → Int32) (G0 : Nat → Int32) (bd2 : Int32) (sb2 : Int32) (nd2 : Int32) (S2 : Nat → Int32) (Cr2 : Nat → Int32) (G2 : Nat → Int32) (d0 : Int64) (z0 : Int32)  : zL l (dC, dI) (wT cI cZ cJ cD) yX1_mixCell wsX1_mixCell rmX1_mixCell [(h0, .inr (1, [.ref hM, .ref hV, .int wd, .int hg, .int wv])), (hM, .inr (0, [.int bd, .int sb, .int nd, .ref aS, .ref aC, .ref aG])), (aS, .inl (cI, 5, .inl S0)), (aC, .inl (cI, 5, .inl Cr)), (aG, .inl (cI, 5, .inl G0)), (hV, .inr (0, [.int bd2, .int sb2, .int nd2, .ref bS, .ref bC, .ref bG])), (bS, .inl (cI, 5, .inl S2)), (bC, .inl (cI, 5, .inl Cr2)), (bG, .inl (cI, 5, .inl G2))] [.ref h0, .long d0, .int z0] (fun (_ : Unit) => [(h0, .inr (1, [.ref hM, .ref hV, .int wd, .int hg, .int wv])), (hM, .inr (0, [.int bd, .int sb, .int nd, .ref aS, .ref aC, .ref aG])), (aS, .inl (cI, 5, .inl S0)), (aC, .inl (cI, 5, .inl Cr)), (aG, .inl (cI, 5, .inl G0)), (hV, .inr (0, [.int bd2, .int sb2, .int nd2, .ref bS, .ref bC, .ref bG])), (bS, .inl (cI, 5, .inl S2)), (bC, .inl (cI, 5, .inl Cr2)), (bG, .inl (cI, 5, .inl G2))]) (fun (r : Int64) (_ : Unit) => r = pMc d0 S0 sb G0 z0) := by
  intro sz
  refine Met.ofW (cc := cX1_mixCell) (maxL := 6) (ret := (some .long)) (by decide) rfl ?_
  intro p e s m args below meth c s₁ B hml hv
  obtain ⟨ha, hsz, hP, hK, hD0, hN⟩ := hv
  have hx := B.exec
  have hb := B.bytes
  have hr := B.returns
  have hts := atoms_spec (ws := wsX1_mixCell) B.pre
  have hown : s.vm.findClass RX1 = some m.cls := findClass_of_methodNamed B.named
  have hlocks := B.notSynchronized
  subst hsz
  have hD := hD0.self (sz := s.heap.size)
  generalize hAe : va_A [(h0, .inr (1, [.ref hM, .ref hV, .int wd, .int hg, .int wv])), (hM, .inr (0, [.int bd, .int sb, .int nd, .ref aS, .ref aC, .ref aG])), (aS, .inl (cI, 5, .inl S0)), (aC, .inl (cI, 5, .inl Cr)), (aG, .inl (cI, 5, .inl G0)), (hV, .inr (0, [.int bd2, .int sb2, .int nd2, .ref bS, .ref bC, .ref bG])), (bS, .inl (cI, 5, .inl S2)), (bC, .inl (cI, 5, .inl Cr2)), (bG, .inl (cI, 5, .inl G2))] s.heap.size = A at hD ⊢
  have hA : ∀ q : Nat, s.heap.size ≤ q → A q := fun q h => by rw [← hAe]; exact Or.inr h
  have hS : va_S A s.heap s.heap [] := va_S.rf
  generalize hQ : MQ below (va_Ql (fun (r : Int64) (_ : Unit) => r = pMc d0 S0 sb G0 z0) (fun u t => va_P (dC, dI) vwCl ((fun (_ : Unit) => [(h0, .inr (1, [.ref hM, .ref hV, .int wd, .int hg, .int wv])), (hM, .inr (0, [.int bd, .int sb, .int nd, .ref aS, .ref aC, .ref aG])), (aS, .inl (cI, 5, .inl S0)), (aC, .inl (cI, 5, .inl Cr)), (aG, .inl (cI, 5, .inl G0)), (hV, .inr (0, [.int bd2, .int sb2, .int nd2, .ref bS, .ref bC, .ref bG])), (bS, .inl (cI, 5, .inl S2)), (bC, .inl (cI, 5, .inl Cr2)), (bG, .inl (cI, 5, .inl G2))]) u) t.heap) A) args s 0 0 A = Q
  have F9 : CallFix p m c cX1_mixCell 6 s args wsX1_mixCell RX1 := ⟨hx, hb, hml, hown, hts⟩
  refine z_entry (R := rmX1_mixCell) ha (Nat.le_of_ble_eq_true rfl) (fun ls hl => ?_)
  have hl : lv_has ls 6 [(0, .ref h0), (1, .long d0), (3, .int z0)] := hl
  refine lv_lload_n hx hb dX1_mixCell_0 rfl (lv_at hl 1 rfl) ?_
  refine lv_aload_n hx hb dX1_mixCell_1 rfl (lv_at hl 0 rfl) ?_
  refine va_get (D := (dC, dI)) (ci := 1) (v := .ref hM) (C := RX1) (T := TX1) (N := 5) hx hb hts iX1_mixCell_X1 hown hK hP 0 rfl rfl 0 (by decide) (hts (.fieldLink RX1 12 "ColourTide" "map" "LColourTide$Tide;") (List.mem_of_getElem? (i := 1) rfl)) (fun _ h9 => h9) rfl dX1_mixCell_2 ?_
  refine lv_iload_n hx hb dX1_mixCell_5 rfl (lv_at hl 2 rfl) ?_
  refine z_callVi (As := [.int z0]) (rest := [.long d0]) F9 (m_X0_colourOf l dC dI cI cZ cJ cD hM aS aC aG bd sb nd S0 Cr G0 z0 ) (cwV 1 hts gX1_mixCell_X0_colourOf rfl rfl rfl (by decide +kernel) ⟨Nat.le_of_ble_eq_true rfl, Nat.le_of_ble_eq_true rfl⟩) hK hN hP hD hS hA [1, 2, 3, 4] rfl rfl (fun _ => rfl) 1 (ci := 0) rfl rfl rfl rfl hl.1 rfl (Nat.le_of_ble_eq_true rfl) dX1_mixCell_6 ⟨Nat.zero_le _, Nat.zero_le _⟩ (fun r_1 u H locs hp_6 hP hD hS => ?_)
  have hP : va_P (dC, dI) vwCl [(h0, .inr (1, [.ref hM, .ref hV, .int wd, .int hg, .int wv])), (hM, .inr (0, [.int bd, .int sb, .int nd, .ref aS, .ref aC, .ref aG])), (aS, .inl (cI, 5, .inl S0)), (aC, .inl (cI, 5, .inl Cr)), (aG, .inl (cI, 5, .inl G0)), (hV, .inr (0, [.int bd2, .int sb2, .int nd2, .ref bS, .ref bC, .ref bG])), (bS, .inl (cI, 5, .inl S2)), (bC, .inl (cI, 5, .inl Cr2)), (bG, .inl (cI, 5, .inl G2))] H := hP
  have hD : va_D A [(h0, .inr (1, [.ref hM, .ref hV, .int wd, .int hg, .int wv])), (hM, .inr (0, [.int bd, .int sb, .int nd, .ref aS, .ref aC, .ref aG])), (aS, .inl (cI, 5, .inl S0)), (aC, .inl (cI, 5, .inl Cr)), (aG, .inl (cI, 5, .inl G0)), (hV, .inr (0, [.int bd2, .int sb2, .int nd2, .ref bS, .ref bC, .ref bG])), (bS, .inl (cI, 5, .inl S2)), (bC, .inl (cI, 5, .inl Cr2)), (bG, .inl (cI, 5, .inl G2))] := hD
  have hp_6 : r_1 = pFirst S0 z0 := hp_6
  refine z_topi (y := pFirst S0 z0) hp_6 ?_
  refine z_callSl (As := [.long d0, .int (pFirst S0 z0)]) (rest := []) F9 (m_X1_mix l dC dI cI cZ cJ cD d0 (pFirst S0 z0) ) (va_cwS 2 hts gX1_mixCell_X1_mix rfl rfl rfl (by decide +kernel) ⟨Nat.le_of_ble_eq_true rfl, Nat.le_of_ble_eq_true rfl⟩) hK hN hP hD hS hA rfl hl.1 rfl (Nat.le_of_ble_eq_true rfl) dX1_mixCell_9 ⟨Nat.zero_le _, Nat.zero_le _⟩ (fun r_2 H locs hp_9 hP hS => ?_)
  have hp_9 : r_2 = pm d0 (pFirst S0 z0) := hp_9
  refine z_topl (y := pm d0 (pFirst S0 z0)) hp_9 ?_
  refine lv_lstore (lv' := [(4, .long (pm d0 (pFirst S0 z0))), (0, .ref h0), (1, .long d0), (3, .int z0)]) hx hb dX1_mixCell_12 hl (by decide) rfl (fun ls hl => ?_)
  refine lv_lload hx hb dX1_mixCell_14 (lv_at hl 0 rfl) ?_
  refine lv_aload_n hx hb dX1_mixCell_16 rfl (lv_at hl 1 rfl) ?_
  refine va_get (D := (dC, dI)) (ci := 1) (v := .ref hM) (C := RX1) (T := TX1) (N := 5) hx hb hts iX1_mixCell_X1 hown hK hP 0 rfl rfl 0 (by decide) (hts (.fieldLink RX1 12 "ColourTide" "map" "LColourTide$Tide;") (List.mem_of_getElem? (i := 1) rfl)) (fun _ h9 => h9) rfl dX1_mixCell_17 ?_
  refine va_get (D := (dC, dI)) (ci := 0) (v := .int sb) (C := RX0) (T := TX0) (N := 6) hx hb hts iX1_mixCell_X0 hown hK hP 1 rfl rfl 1 (by decide) (hts (.fieldLink RX1 69 "ColourTide$Tide" "stubborn" "I") (List.mem_of_getElem? (i := 2) rfl)) (fun _ h9 => h9) rfl dX1_mixCell_20 ?_
  refine lv_iload_n hx hb dX1_mixCell_23 rfl (lv_at hl 3 rfl) ?_
  refine lv_iand hx hb dX1_mixCell_24 ?_
  suffices j_33 : ∀ v_33 : Int32, v_33 = (if sb &&& z0 = 0 then 0 else 1) → W p l e rmX1_mixCell s m args below meth c H locs 0 0 Q (F0 m 33 ls [.int v_33, .long (pm d0 (pFirst S0 z0))]) by
    refine lv_if_eq (tgt := 32) hx hb dX1_mixCell_25 (by decide) (fun c_25 => ?_) (fun c_25 => ?_)
    · skip
      refine lv_iconst (v := 0) hx hb dX1_mixCell_32 (by decide) ?_
      exact j_33 _ (by rw [if_pos c_25])
    · skip
      refine lv_iconst (v := 1) hx hb dX1_mixCell_28 (by decide) ?_
      refine lv_goto (tgt := 33) hx hb dX1_mixCell_29 (by decide) ?_
      exact j_33 _ (by rw [if_neg c_25])
  intro v_33 h_v_33
  refine z_callSl (As := [.long (pm d0 (pFirst S0 z0)), .int v_33]) (rest := []) F9 (m_X1_mix l dC dI cI cZ cJ cD (pm d0 (pFirst S0 z0)) v_33 ) (va_cwS 2 hts gX1_mixCell_X1_mix rfl rfl rfl (by decide +kernel) ⟨Nat.le_of_ble_eq_true rfl, Nat.le_of_ble_eq_true rfl⟩) hK hN hP hD hS hA rfl hl.1 rfl (Nat.le_of_ble_eq_true rfl) dX1_mixCell_33 ⟨Nat.zero_le _, Nat.zero_le _⟩ (fun r_3 H locs hp_33 hP hS => ?_)
  have hp_33 : r_3 = pm (pm d0 (pFirst S0 z0)) v_33 := hp_33
  refine z_topl (y := pm (pm d0 (pFirst S0 z0)) v_33) hp_33 ?_
  refine z_topl (y := pm (pm d0 (pFirst S0 z0)) (if sb &&& z0 = 0 then 0 else 1)) (by rw [h_v_33]) ?_
  refine lv_lstore (lv' := [(4, .long (pm (pm d0 (pFirst S0 z0)) (if sb &&& z0 = 0 then 0 else 1))), (0, .ref h0), (1, .long d0), (3, .int z0)]) hx hb dX1_mixCell_36 hl (by decide) rfl (fun ls hl => ?_)
  refine lv_lload hx hb dX1_mixCell_38 (lv_at hl 0 rfl) ?_
  refine lv_aload_n hx hb dX1_mixCell_40 rfl (lv_at hl 1 rfl) ?_
  refine va_get (D := (dC, dI)) (ci := 1) (v := .ref hM) (C := RX1) (T := TX1) (N := 5) hx hb hts iX1_mixCell_X1 hown hK hP 0 rfl rfl 0 (by decide) (hts (.fieldLink RX1 12 "ColourTide" "map" "LColourTide$Tide;") (List.mem_of_getElem? (i := 1) rfl)) (fun _ h9 => h9) rfl dX1_mixCell_41 ?_
  refine lv_iload_n hx hb dX1_mixCell_44 rfl (lv_at hl 3 rfl) ?_
  refine z_callVi (As := [.int z0]) (rest := [.long (pm (pm d0 (pFirst S0 z0)) (if sb &&& z0 = 0 then 0 else 1))]) F9 (m_X0_foreseenColourOf l dC dI cI cZ cJ cD hM aS aC aG bd sb nd S0 Cr G0 z0 ) (cwV 1 hts gX1_mixCell_X0_foreseenColourOf rfl rfl rfl (by decide +kernel) ⟨Nat.le_of_ble_eq_true rfl, Nat.le_of_ble_eq_true rfl⟩) hK hN hP hD hS hA [1, 2, 3, 4] rfl rfl (fun _ => rfl) 1 (ci := 0) rfl rfl rfl rfl hl.1 rfl (Nat.le_of_ble_eq_true rfl) dX1_mixCell_45 ⟨Nat.zero_le _, Nat.zero_le _⟩ (fun r_4 u H locs hp_45 hP hD hS => ?_)
  have hP : va_P (dC, dI) vwCl [(h0, .inr (1, [.ref hM, .ref hV, .int wd, .int hg, .int wv])), (hM, .inr (0, [.int bd, .int sb, .int nd, .ref aS, .ref aC, .ref aG])), (aS, .inl (cI, 5, .inl S0)), (aC, .inl (cI, 5, .inl Cr)), (aG, .inl (cI, 5, .inl G0)), (hV, .inr (0, [.int bd2, .int sb2, .int nd2, .ref bS, .ref bC, .ref bG])), (bS, .inl (cI, 5, .inl S2)), (bC, .inl (cI, 5, .inl Cr2)), (bG, .inl (cI, 5, .inl G2))] H := hP
  have hD : va_D A [(h0, .inr (1, [.ref hM, .ref hV, .int wd, .int hg, .int wv])), (hM, .inr (0, [.int bd, .int sb, .int nd, .ref aS, .ref aC, .ref aG])), (aS, .inl (cI, 5, .inl S0)), (aC, .inl (cI, 5, .inl Cr)), (aG, .inl (cI, 5, .inl G0)), (hV, .inr (0, [.int bd2, .int sb2, .int nd2, .ref bS, .ref bC, .ref bG])), (bS, .inl (cI, 5, .inl S2)), (bC, .inl (cI, 5, .inl Cr2)), (bG, .inl (cI, 5, .inl G2))] := hD
  have hp_45 : r_4 = pFore S0 G0 z0 := hp_45
  refine z_topi (y := pFore S0 G0 z0) hp_45 ?_
  refine z_callSl (As := [.long (pm (pm d0 (pFirst S0 z0)) (if sb &&& z0 = 0 then 0 else 1)), .int (pFore S0 G0 z0)]) (rest := []) F9 (m_X1_mix l dC dI cI cZ cJ cD (pm (pm d0 (pFirst S0 z0)) (if sb &&& z0 = 0 then 0 else 1)) (pFore S0 G0 z0) ) (va_cwS 2 hts gX1_mixCell_X1_mix rfl rfl rfl (by decide +kernel) ⟨Nat.le_of_ble_eq_true rfl, Nat.le_of_ble_eq_true rfl⟩) hK hN hP hD hS hA rfl hl.1 rfl (Nat.le_of_ble_eq_true rfl) dX1_mixCell_48 ⟨Nat.zero_le _, Nat.zero_le _⟩ (fun r_5 H locs hp_48 hP hS => ?_)
  have hp_48 : r_5 = pm (pm (pm d0 (pFirst S0 z0)) (if sb &&& z0 = 0 then 0 else 1)) (pFore S0 G0 z0) := hp_48
  refine z_topl (y := pm (pm (pm d0 (pFirst S0 z0)) (if sb &&& z0 = 0 then 0 else 1)) (pFore S0 G0 z0)) hp_48 ?_
  refine lv_lstore (lv' := [(4, .long (pm (pm (pm d0 (pFirst S0 z0)) (if sb &&& z0 = 0 then 0 else 1)) (pFore S0 G0 z0))), (0, .ref h0), (1, .long d0), (3, .int z0)]) hx hb dX1_mixCell_51 hl (by decide) rfl (fun ls hl => ?_)
  refine lv_lload hx hb dX1_mixCell_53 (lv_at hl 0 rfl) ?_
  refine lv_aload_n hx hb dX1_mixCell_55 rfl (lv_at hl 1 rfl) ?_
  refine va_get (D := (dC, dI)) (ci := 1) (v := .ref hM) (C := RX1) (T := TX1) (N := 5) hx hb hts iX1_mixCell_X1 hown hK hP 0 rfl rfl 0 (by decide) (hts (.fieldLink RX1 12 "ColourTide" "map" "LColourTide$Tide;") (List.mem_of_getElem? (i := 1) rfl)) (fun _ h9 => h9) rfl dX1_mixCell_56 ?_
  refine lv_iload_n hx hb dX1_mixCell_59 rfl (lv_at hl 3 rfl) ?_
  refine z_callVi (As := [.int z0]) (rest := [.long (pm (pm (pm d0 (pFirst S0 z0)) (if sb &&& z0 = 0 then 0 else 1)) (pFore S0 G0 z0))]) F9 (m_X0_sizeOfRegion l dC dI cI cZ cJ cD hM aS aC aG bd sb nd S0 Cr G0 z0 ) (cwV 1 hts gX1_mixCell_X0_sizeOfRegion rfl rfl rfl (by decide +kernel) ⟨Nat.le_of_ble_eq_true rfl, Nat.le_of_ble_eq_true rfl⟩) hK hN hP hD hS hA [1, 2, 3, 4] rfl rfl (fun _ => rfl) 1 (ci := 0) rfl rfl rfl rfl hl.1 rfl (Nat.le_of_ble_eq_true rfl) dX1_mixCell_60 ⟨Nat.zero_le _, Nat.zero_le _⟩ (fun r_6 u H locs hp_60 hP hD hS => ?_)
  have hP : va_P (dC, dI) vwCl [(h0, .inr (1, [.ref hM, .ref hV, .int wd, .int hg, .int wv])), (hM, .inr (0, [.int bd, .int sb, .int nd, .ref aS, .ref aC, .ref aG])), (aS, .inl (cI, 5, .inl S0)), (aC, .inl (cI, 5, .inl Cr)), (aG, .inl (cI, 5, .inl G0)), (hV, .inr (0, [.int bd2, .int sb2, .int nd2, .ref bS, .ref bC, .ref bG])), (bS, .inl (cI, 5, .inl S2)), (bC, .inl (cI, 5, .inl Cr2)), (bG, .inl (cI, 5, .inl G2))] H := hP
  have hD : va_D A [(h0, .inr (1, [.ref hM, .ref hV, .int wd, .int hg, .int wv])), (hM, .inr (0, [.int bd, .int sb, .int nd, .ref aS, .ref aC, .ref aG])), (aS, .inl (cI, 5, .inl S0)), (aC, .inl (cI, 5, .inl Cr)), (aG, .inl (cI, 5, .inl G0)), (hV, .inr (0, [.int bd2, .int sb2, .int nd2, .ref bS, .ref bC, .ref bG])), (bS, .inl (cI, 5, .inl S2)), (bC, .inl (cI, 5, .inl Cr2)), (bG, .inl (cI, 5, .inl G2))] := hD
  have hp_60 : r_6 = pSoR S0 z0 := hp_60
  refine z_topi (y := pSoR S0 z0) hp_60 ?_
  refine z_callSl (As := [.long (pm (pm (pm d0 (pFirst S0 z0)) (if sb &&& z0 = 0 then 0 else 1)) (pFore S0 G0 z0)), .int (pSoR S0 z0)]) (rest := []) F9 (m_X1_mix l dC dI cI cZ cJ cD (pm (pm (pm d0 (pFirst S0 z0)) (if sb &&& z0 = 0 then 0 else 1)) (pFore S0 G0 z0)) (pSoR S0 z0) ) (va_cwS 2 hts gX1_mixCell_X1_mix rfl rfl rfl (by decide +kernel) ⟨Nat.le_of_ble_eq_true rfl, Nat.le_of_ble_eq_true rfl⟩) hK hN hP hD hS hA rfl hl.1 rfl (Nat.le_of_ble_eq_true rfl) dX1_mixCell_63 ⟨Nat.zero_le _, Nat.zero_le _⟩ (fun r_7 H locs hp_63 hP hS => ?_)
  have hp_63 : r_7 = pm (pm (pm (pm d0 (pFirst S0 z0)) (if sb &&& z0 = 0 then 0 else 1)) (pFore S0 G0 z0)) (pSoR S0 z0) := hp_63
  refine z_topl (y := pm (pm (pm (pm d0 (pFirst S0 z0)) (if sb &&& z0 = 0 then 0 else 1)) (pFore S0 G0 z0)) (pSoR S0 z0)) hp_63 ?_
  rw [← hQ]
  exact z_lret (W1 := (fun (_ : Unit) => [(h0, .inr (1, [.ref hM, .ref hV, .int wd, .int hg, .int wv])), (hM, .inr (0, [.int bd, .int sb, .int nd, .ref aS, .ref aC, .ref aG])), (aS, .inl (cI, 5, .inl S0)), (aC, .inl (cI, 5, .inl Cr)), (aG, .inl (cI, 5, .inl G0)), (hV, .inr (0, [.int bd2, .int sb2, .int nd2, .ref bS, .ref bC, .ref bG])), (bS, .inl (cI, 5, .inl S2)), (bC, .inl (cI, 5, .inl Cr2)), (bG, .inl (cI, 5, .inl G2))])) hx hb hr hlocks hP hS () (rfl) (rfl) dX1_mixCell_66
abbrev rmX1_digestOfMap : Room := { frames := 4, cells := 0, slots := 0, locals := 91 }
set_option maxRecDepth 20000 in
theorem iX1_digestOfMap_X0 : ∀ w ∈ wsX00, w ∈ wsX1_digestOfMap := fun w h => (goodIn_r (big := wsX1_digestOfMap) wsX00 [83, 84, 85, 86, 87, 88] (by decide +kernel) (by decide +kernel) w h).1
set_option maxRecDepth 20000 in
theorem iX1_digestOfMap_X1 : ∀ w ∈ wsX10, w ∈ wsX1_digestOfMap := fun w h => (goodIn_r (big := wsX1_digestOfMap) wsX10 [78, 79, 80, 81, 82] (by decide +kernel) (by decide +kernel) w h).1
set_option maxHeartbeats 4000000 in
set_option maxRecDepth 100000 in
theorem m_X1_digestOfMap (l : Launch) (dC : Nat → ClassId) (dI : Nat → Nat → Nat) (cI cZ cJ cD : ClassId) (h0 : Nat) (hM : Nat) (aS : Nat) (aC : Nat) (aG : Nat) (hV : Nat) (bS : Nat) (bC : Nat) (bG : Nat) (wd : Int32) (hg : Int32) (wv : Int32) (bd : Int32) (sb : Int32) (nd : Int32) (S0 : Nat → Int32) (Cr : Nat → Int32) (G0 : Nat → Int32) (bd2 : Int32) (sb2 : Int32) (nd2 : Int32) (S2 : Nat → Int32) (Cr2 : Nat → Int32) (G2 : Nat → Int32) (q0 : Nat) (hq : 1 ≤ q0 ∧ q0 ≤ 4) (hnd : nd = nI q0) : zL l (dC, dI) (wT cI cZ cJ cD) yX1_digestOfMap wsX1_digestOfMap rmX1_digestOfMap [(h0, .inr (1, [.ref hM, .ref hV, .int wd, .int hg, .int wv])), (hM, .inr (0, [.int bd, .int sb, .int nd, .ref aS, .ref aC, .ref aG])), (aS, .inl (cI, 5, .inl S0)), (aC, .inl (cI, 5, .inl Cr)), (aG, .inl (cI, 5, .inl G0)), (hV, .inr (0, [.int bd2, .int sb2, .int nd2, .ref bS, .ref bC, .ref bG])), (bS, .inl (cI, 5, .inl S2)), (bC, .inl (cI, 5, .inl Cr2)), (bG, .inl (cI, 5, .inl G2))] [.ref h0] (fun (u : (Nat → Int32) × (Nat → Int32)) => [(h0, .inr (1, [.ref hM, .ref hV, .int wd, .int hg, .int wv])), (hM, .inr (0, [.int bd, .int sb, .int nd, .ref aS, .ref aC, .ref aG])), (aS, .inl (cI, 5, .inl S0)), (aC, .inl (cI, 5, .inl u.1)), (aG, .inl (cI, 5, .inl u.2)), (hV, .inr (0, [.int bd2, .int sb2, .int nd2, .ref bS, .ref bC, .ref bG])), (bS, .inl (cI, 5, .inl S2)), (bC, .inl (cI, 5, .inl Cr2)), (bG, .inl (cI, 5, .inl G2))]) (fun (r : Int64) (u : (Nat → Int32) × (Nat → Int32)) => r = pDm wd hg nd wv bd sb q0 S0) := by
  intro sz
  refine Met.ofW (cc := cX1_digestOfMap) (maxL := 3) (ret := (some .long)) (by decide) rfl ?_
  intro p e s m args below meth c s₁ B hml hv
  obtain ⟨ha, hsz, hP, hK, hD0, hN⟩ := hv
  have hx := B.exec
  have hb := B.bytes
  have hr := B.returns
  have hts := atoms_spec (ws := wsX1_digestOfMap) B.pre
  have hown : s.vm.findClass RX1 = some m.cls := findClass_of_methodNamed B.named
  have hlocks := B.notSynchronized
  subst hsz
  have hD := hD0.self (sz := s.heap.size)
  generalize hAe : va_A [(h0, .inr (1, [.ref hM, .ref hV, .int wd, .int hg, .int wv])), (hM, .inr (0, [.int bd, .int sb, .int nd, .ref aS, .ref aC, .ref aG])), (aS, .inl (cI, 5, .inl S0)), (aC, .inl (cI, 5, .inl Cr)), (aG, .inl (cI, 5, .inl G0)), (hV, .inr (0, [.int bd2, .int sb2, .int nd2, .ref bS, .ref bC, .ref bG])), (bS, .inl (cI, 5, .inl S2)), (bC, .inl (cI, 5, .inl Cr2)), (bG, .inl (cI, 5, .inl G2))] s.heap.size = A at hD ⊢
  have hA : ∀ q : Nat, s.heap.size ≤ q → A q := fun q h => by rw [← hAe]; exact Or.inr h
  have hS : va_S A s.heap s.heap [] := va_S.rf
  generalize hQ : MQ below (va_Ql (fun (r : Int64) (u : (Nat → Int32) × (Nat → Int32)) => r = pDm wd hg nd wv bd sb q0 S0) (fun u t => va_P (dC, dI) vwCl ((fun (u : (Nat → Int32) × (Nat → Int32)) => [(h0, .inr (1, [.ref hM, .ref hV, .int wd, .int hg, .int wv])), (hM, .inr (0, [.int bd, .int sb, .int nd, .ref aS, .ref aC, .ref aG])), (aS, .inl (cI, 5, .inl S0)), (aC, .inl (cI, 5, .inl u.1)), (aG, .inl (cI, 5, .inl u.2)), (hV, .inr (0, [.int bd2, .int sb2, .int nd2, .ref bS, .ref bC, .ref bG])), (bS, .inl (cI, 5, .inl S2)), (bC, .inl (cI, 5, .inl Cr2)), (bG, .inl (cI, 5, .inl G2))]) u) t.heap) A) args s 0 0 A = Q
  have F9 : CallFix p m c cX1_digestOfMap 3 s args wsX1_digestOfMap RX1 := ⟨hx, hb, hml, hown, hts⟩
  refine z_entry (R := rmX1_digestOfMap) ha (Nat.le_of_ble_eq_true rfl) (fun ls hl => ?_)
  have hl : lv_has ls 3 [(0, .ref h0)] := hl
  refine lv_ldc2 hx hb hown (hts (.constantLong RX1 153 (1871)) (List.mem_of_getElem? (i := 1) rfl)) dX1_digestOfMap_0 ?_
  refine lv_lstore_n (lv' := [(1, .long 1871), (0, .ref h0)]) hx hb dX1_digestOfMap_3 rfl hl (by decide) rfl (fun ls hl => ?_)
  refine lv_lload_n hx hb dX1_digestOfMap_4 rfl (lv_at hl 0 rfl) ?_
  refine lv_aload_n hx hb dX1_digestOfMap_5 rfl (lv_at hl 1 rfl) ?_
  refine va_get (D := (dC, dI)) (ci := 1) (v := .int wd) (C := RX1) (T := TX1) (N := 5) hx hb hts iX1_digestOfMap_X1 hown hK hP 0 rfl rfl 2 (by decide) (hts (.fieldLink RX1 19 "ColourTide" "width" "I") (List.mem_of_getElem? (i := 2) rfl)) (fun _ h9 => h9) rfl dX1_digestOfMap_6 ?_
  refine z_callSl (As := [.long 1871, .int wd]) (rest := []) F9 (m_X1_mix l dC dI cI cZ cJ cD 1871 wd ) (va_cwS 2 hts gX1_digestOfMap_X1_mix rfl rfl rfl (by decide +kernel) ⟨Nat.le_of_ble_eq_true rfl, Nat.le_of_ble_eq_true rfl⟩) hK hN hP hD hS hA rfl hl.1 rfl (Nat.le_of_ble_eq_true rfl) dX1_digestOfMap_9 ⟨Nat.zero_le _, Nat.zero_le _⟩ (fun r_1 H locs hp_9 hP hS => ?_)
  have hp_9 : r_1 = pm 1871 wd := hp_9
  refine z_topl (y := pm 1871 wd) hp_9 ?_
  refine lv_lstore_n (lv' := [(1, .long (pm 1871 wd)), (0, .ref h0)]) hx hb dX1_digestOfMap_12 rfl hl (by decide) rfl (fun ls hl => ?_)
  refine lv_lload_n hx hb dX1_digestOfMap_13 rfl (lv_at hl 0 rfl) ?_
  refine lv_aload_n hx hb dX1_digestOfMap_14 rfl (lv_at hl 1 rfl) ?_
  refine va_get (D := (dC, dI)) (ci := 1) (v := .int hg) (C := RX1) (T := TX1) (N := 5) hx hb hts iX1_digestOfMap_X1 hown hK hP 0 rfl rfl 3 (by decide) (hts (.fieldLink RX1 23 "ColourTide" "height" "I") (List.mem_of_getElem? (i := 3) rfl)) (fun _ h9 => h9) rfl dX1_digestOfMap_15 ?_
  refine z_callSl (As := [.long (pm 1871 wd), .int hg]) (rest := []) F9 (m_X1_mix l dC dI cI cZ cJ cD (pm 1871 wd) hg ) (va_cwS 2 hts gX1_digestOfMap_X1_mix rfl rfl rfl (by decide +kernel) ⟨Nat.le_of_ble_eq_true rfl, Nat.le_of_ble_eq_true rfl⟩) hK hN hP hD hS hA rfl hl.1 rfl (Nat.le_of_ble_eq_true rfl) dX1_digestOfMap_18 ⟨Nat.zero_le _, Nat.zero_le _⟩ (fun r_2 H locs hp_18 hP hS => ?_)
  have hp_18 : r_2 = pm (pm 1871 wd) hg := hp_18
  refine z_topl (y := pm (pm 1871 wd) hg) hp_18 ?_
  refine lv_lstore_n (lv' := [(1, .long (pm (pm 1871 wd) hg)), (0, .ref h0)]) hx hb dX1_digestOfMap_21 rfl hl (by decide) rfl (fun ls hl => ?_)
  refine lv_lload_n hx hb dX1_digestOfMap_22 rfl (lv_at hl 0 rfl) ?_
  refine lv_aload_n hx hb dX1_digestOfMap_23 rfl (lv_at hl 1 rfl) ?_
  refine va_get (D := (dC, dI)) (ci := 1) (v := .ref hM) (C := RX1) (T := TX1) (N := 5) hx hb hts iX1_digestOfMap_X1 hown hK hP 0 rfl rfl 0 (by decide) (hts (.fieldLink RX1 12 "ColourTide" "map" "LColourTide$Tide;") (List.mem_of_getElem? (i := 4) rfl)) (fun _ h9 => h9) rfl dX1_digestOfMap_24 ?_
  refine va_get (D := (dC, dI)) (ci := 0) (v := .int nd) (C := RX0) (T := TX0) (N := 6) hx hb hts iX1_digestOfMap_X0 hown hK hP 1 rfl rfl 2 (by decide) (hts (.fieldLink RX1 74 "ColourTide$Tide" "need" "I") (List.mem_of_getElem? (i := 5) rfl)) (fun _ h9 => h9) rfl dX1_digestOfMap_27 ?_
  refine z_callSl (As := [.long (pm (pm 1871 wd) hg), .int nd]) (rest := []) F9 (m_X1_mix l dC dI cI cZ cJ cD (pm (pm 1871 wd) hg) nd ) (va_cwS 2 hts gX1_digestOfMap_X1_mix rfl rfl rfl (by decide +kernel) ⟨Nat.le_of_ble_eq_true rfl, Nat.le_of_ble_eq_true rfl⟩) hK hN hP hD hS hA rfl hl.1 rfl (Nat.le_of_ble_eq_true rfl) dX1_digestOfMap_30 ⟨Nat.zero_le _, Nat.zero_le _⟩ (fun r_3 H locs hp_30 hP hS => ?_)
  have hp_30 : r_3 = pm (pm (pm 1871 wd) hg) nd := hp_30
  refine z_topl (y := pm (pm (pm 1871 wd) hg) nd) hp_30 ?_
  refine lv_lstore_n (lv' := [(1, .long (pm (pm (pm 1871 wd) hg) nd)), (0, .ref h0)]) hx hb dX1_digestOfMap_33 rfl hl (by decide) rfl (fun ls hl => ?_)
  refine lv_lload_n hx hb dX1_digestOfMap_34 rfl (lv_at hl 0 rfl) ?_
  refine lv_aload_n hx hb dX1_digestOfMap_35 rfl (lv_at hl 1 rfl) ?_
  refine va_get (D := (dC, dI)) (ci := 1) (v := .int wv) (C := RX1) (T := TX1) (N := 5) hx hb hts iX1_digestOfMap_X1 hown hK hP 0 rfl rfl 4 (by decide) (hts (.fieldLink RX1 26 "ColourTide" "waves" "I") (List.mem_of_getElem? (i := 6) rfl)) (fun _ h9 => h9) rfl dX1_digestOfMap_36 ?_
  refine z_callSl (As := [.long (pm (pm (pm 1871 wd) hg) nd), .int wv]) (rest := []) F9 (m_X1_mix l dC dI cI cZ cJ cD (pm (pm (pm 1871 wd) hg) nd) wv ) (va_cwS 2 hts gX1_digestOfMap_X1_mix rfl rfl rfl (by decide +kernel) ⟨Nat.le_of_ble_eq_true rfl, Nat.le_of_ble_eq_true rfl⟩) hK hN hP hD hS hA rfl hl.1 rfl (Nat.le_of_ble_eq_true rfl) dX1_digestOfMap_39 ⟨Nat.zero_le _, Nat.zero_le _⟩ (fun r_4 H locs hp_39 hP hS => ?_)
  have hp_39 : r_4 = pm (pm (pm (pm 1871 wd) hg) nd) wv := hp_39
  refine z_topl (y := pm (pm (pm (pm 1871 wd) hg) nd) wv) hp_39 ?_
  refine lv_lstore_n (lv' := [(1, .long (pm (pm (pm (pm 1871 wd) hg) nd) wv)), (0, .ref h0)]) hx hb dX1_digestOfMap_42 rfl hl (by decide) rfl (fun ls hl => ?_)
  refine lv_lload_n hx hb dX1_digestOfMap_43 rfl (lv_at hl 0 rfl) ?_
  refine lv_aload_n hx hb dX1_digestOfMap_44 rfl (lv_at hl 1 rfl) ?_
  refine z_callVi (As := []) (rest := [.long (pm (pm (pm (pm 1871 wd) hg) nd) wv)]) F9 (m_X1_stubbornCells l dC dI cI cZ cJ cD h0 hM aS aC aG hV bS bC bG wd hg wv bd sb nd S0 Cr G0 bd2 sb2 nd2 S2 Cr2 G2 ) (cwV 0 hts gX1_digestOfMap_X1_stubbornCells rfl rfl rfl (by decide +kernel) ⟨Nat.le_of_ble_eq_true rfl, Nat.le_of_ble_eq_true rfl⟩) hK hN hP hD hS hA [0, 1, 2, 3, 4, 5, 6, 7, 8] rfl rfl (fun _ => rfl) 0 (ci := 1) rfl rfl rfl rfl hl.1 rfl (Nat.le_of_ble_eq_true rfl) dX1_digestOfMap_45 ⟨Nat.zero_le _, Nat.zero_le _⟩ (fun r_5 u H locs hp_45 hP hD hS => ?_)
  have hP : va_P (dC, dI) vwCl [(h0, .inr (1, [.ref hM, .ref hV, .int wd, .int hg, .int wv])), (hM, .inr (0, [.int bd, .int sb, .int nd, .ref aS, .ref aC, .ref aG])), (aS, .inl (cI, 5, .inl S0)), (aC, .inl (cI, 5, .inl Cr)), (aG, .inl (cI, 5, .inl G0)), (hV, .inr (0, [.int bd2, .int sb2, .int nd2, .ref bS, .ref bC, .ref bG])), (bS, .inl (cI, 5, .inl S2)), (bC, .inl (cI, 5, .inl Cr2)), (bG, .inl (cI, 5, .inl G2))] H := hP
  have hD : va_D A [(h0, .inr (1, [.ref hM, .ref hV, .int wd, .int hg, .int wv])), (hM, .inr (0, [.int bd, .int sb, .int nd, .ref aS, .ref aC, .ref aG])), (aS, .inl (cI, 5, .inl S0)), (aC, .inl (cI, 5, .inl Cr)), (aG, .inl (cI, 5, .inl G0)), (hV, .inr (0, [.int bd2, .int sb2, .int nd2, .ref bS, .ref bC, .ref bG])), (bS, .inl (cI, 5, .inl S2)), (bC, .inl (cI, 5, .inl Cr2)), (bG, .inl (cI, 5, .inl G2))] := hD
  have hp_45 : r_5 = pBC sb := hp_45
  refine z_topi (y := pBC sb) hp_45 ?_
  refine z_callSl (As := [.long (pm (pm (pm (pm 1871 wd) hg) nd) wv), .int (pBC sb)]) (rest := []) F9 (m_X1_mix l dC dI cI cZ cJ cD (pm (pm (pm (pm 1871 wd) hg) nd) wv) (pBC sb) ) (va_cwS 2 hts gX1_digestOfMap_X1_mix rfl rfl rfl (by decide +kernel) ⟨Nat.le_of_ble_eq_true rfl, Nat.le_of_ble_eq_true rfl⟩) hK hN hP hD hS hA rfl hl.1 rfl (Nat.le_of_ble_eq_true rfl) dX1_digestOfMap_48 ⟨Nat.zero_le _, Nat.zero_le _⟩ (fun r_6 H locs hp_48 hP hS => ?_)
  have hp_48 : r_6 = pm (pm (pm (pm (pm 1871 wd) hg) nd) wv) (pBC sb) := hp_48
  refine z_topl (y := pm (pm (pm (pm (pm 1871 wd) hg) nd) wv) (pBC sb)) hp_48 ?_
  refine lv_lstore_n (lv' := [(1, .long (pm (pm (pm (pm (pm 1871 wd) hg) nd) wv) (pBC sb))), (0, .ref h0)]) hx hb dX1_digestOfMap_51 rfl hl (by decide) rfl (fun ls hl => ?_)
  refine lv_lload_n hx hb dX1_digestOfMap_52 rfl (lv_at hl 0 rfl) ?_
  refine lv_aload_n hx hb dX1_digestOfMap_53 rfl (lv_at hl 1 rfl) ?_
  refine z_callVi (As := []) (rest := [.long (pm (pm (pm (pm (pm 1871 wd) hg) nd) wv) (pBC sb))]) F9 (m_X1_borders l dC dI cI cZ cJ cD h0 hM aS aC aG hV bS bC bG wd hg wv bd sb nd S0 Cr G0 bd2 sb2 nd2 S2 Cr2 G2 ) (cwV 0 hts gX1_digestOfMap_X1_borders rfl rfl rfl (by decide +kernel) ⟨Nat.le_of_ble_eq_true rfl, Nat.le_of_ble_eq_true rfl⟩) hK hN hP hD hS hA [0, 1, 2, 3, 4, 5, 6, 7, 8] rfl rfl (fun _ => rfl) 0 (ci := 1) rfl rfl rfl rfl hl.1 rfl (Nat.le_of_ble_eq_true rfl) dX1_digestOfMap_54 ⟨Nat.zero_le _, Nat.zero_le _⟩ (fun r_7 u H locs hp_54 hP hD hS => ?_)
  have hP : va_P (dC, dI) vwCl [(h0, .inr (1, [.ref hM, .ref hV, .int wd, .int hg, .int wv])), (hM, .inr (0, [.int bd, .int sb, .int nd, .ref aS, .ref aC, .ref aG])), (aS, .inl (cI, 5, .inl S0)), (aC, .inl (cI, 5, .inl Cr)), (aG, .inl (cI, 5, .inl G0)), (hV, .inr (0, [.int bd2, .int sb2, .int nd2, .ref bS, .ref bC, .ref bG])), (bS, .inl (cI, 5, .inl S2)), (bC, .inl (cI, 5, .inl Cr2)), (bG, .inl (cI, 5, .inl G2))] H := hP
  have hD : va_D A [(h0, .inr (1, [.ref hM, .ref hV, .int wd, .int hg, .int wv])), (hM, .inr (0, [.int bd, .int sb, .int nd, .ref aS, .ref aC, .ref aG])), (aS, .inl (cI, 5, .inl S0)), (aC, .inl (cI, 5, .inl Cr)), (aG, .inl (cI, 5, .inl G0)), (hV, .inr (0, [.int bd2, .int sb2, .int nd2, .ref bS, .ref bC, .ref bG])), (bS, .inl (cI, 5, .inl S2)), (bC, .inl (cI, 5, .inl Cr2)), (bG, .inl (cI, 5, .inl G2))] := hD
  have hp_54 : r_7 = pBo S0 bd 4 := hp_54
  refine z_topi (y := pBo S0 bd 4) hp_54 ?_
  refine z_callSl (As := [.long (pm (pm (pm (pm (pm 1871 wd) hg) nd) wv) (pBC sb)), .int (pBo S0 bd 4)]) (rest := []) F9 (m_X1_mix l dC dI cI cZ cJ cD (pm (pm (pm (pm (pm 1871 wd) hg) nd) wv) (pBC sb)) (pBo S0 bd 4) ) (va_cwS 2 hts gX1_digestOfMap_X1_mix rfl rfl rfl (by decide +kernel) ⟨Nat.le_of_ble_eq_true rfl, Nat.le_of_ble_eq_true rfl⟩) hK hN hP hD hS hA rfl hl.1 rfl (Nat.le_of_ble_eq_true rfl) dX1_digestOfMap_57 ⟨Nat.zero_le _, Nat.zero_le _⟩ (fun r_8 H locs hp_57 hP hS => ?_)
  have hp_57 : r_8 = pm (pm (pm (pm (pm (pm 1871 wd) hg) nd) wv) (pBC sb)) (pBo S0 bd 4) := hp_57
  refine z_topl (y := pm (pm (pm (pm (pm (pm 1871 wd) hg) nd) wv) (pBC sb)) (pBo S0 bd 4)) hp_57 ?_
  refine lv_lstore_n (lv' := [(1, .long (pm (pm (pm (pm (pm (pm 1871 wd) hg) nd) wv) (pBC sb)) (pBo S0 bd 4))), (0, .ref h0)]) hx hb dX1_digestOfMap_60 rfl hl (by decide) rfl (fun ls hl => ?_)
  refine lv_lload_n hx hb dX1_digestOfMap_61 rfl (lv_at hl 0 rfl) ?_
  refine lv_aload_n hx hb dX1_digestOfMap_62 rfl (lv_at hl 1 rfl) ?_
  refine z_callVi (As := []) (rest := [.long (pm (pm (pm (pm (pm (pm 1871 wd) hg) nd) wv) (pBC sb)) (pBo S0 bd 4))]) F9 (m_X1_leader l dC dI cI cZ cJ cD h0 hM aS aC aG hV bS bC bG wd hg wv bd sb nd S0 Cr G0 bd2 sb2 nd2 S2 Cr2 G2 ) (cwV 0 hts gX1_digestOfMap_X1_leader rfl rfl rfl (by decide +kernel) ⟨Nat.le_of_ble_eq_true rfl, Nat.le_of_ble_eq_true rfl⟩) hK hN hP hD hS hA [0, 1, 2, 3, 4, 5, 6, 7, 8] rfl rfl (fun _ => rfl) 0 (ci := 1) rfl rfl rfl rfl hl.1 rfl (Nat.le_of_ble_eq_true rfl) dX1_digestOfMap_63 ⟨Nat.zero_le _, Nat.zero_le _⟩ (fun r_9 u H locs hp_63 hP hD hS => ?_)
  have hP : va_P (dC, dI) vwCl [(h0, .inr (1, [.ref hM, .ref hV, .int wd, .int hg, .int wv])), (hM, .inr (0, [.int bd, .int sb, .int nd, .ref aS, .ref aC, .ref aG])), (aS, .inl (cI, 5, .inl S0)), (aC, .inl (cI, 5, .inl Cr)), (aG, .inl (cI, 5, .inl G0)), (hV, .inr (0, [.int bd2, .int sb2, .int nd2, .ref bS, .ref bC, .ref bG])), (bS, .inl (cI, 5, .inl S2)), (bC, .inl (cI, 5, .inl Cr2)), (bG, .inl (cI, 5, .inl G2))] H := hP
  have hD : va_D A [(h0, .inr (1, [.ref hM, .ref hV, .int wd, .int hg, .int wv])), (hM, .inr (0, [.int bd, .int sb, .int nd, .ref aS, .ref aC, .ref aG])), (aS, .inl (cI, 5, .inl S0)), (aC, .inl (cI, 5, .inl Cr)), (aG, .inl (cI, 5, .inl G0)), (hV, .inr (0, [.int bd2, .int sb2, .int nd2, .ref bS, .ref bC, .ref bG])), (bS, .inl (cI, 5, .inl S2)), (bC, .inl (cI, 5, .inl Cr2)), (bG, .inl (cI, 5, .inl G2))] := hD
  have hp_63 : r_9 = nI (pLb S0 4) := hp_63
  refine z_topi (y := nI (pLb S0 4)) hp_63 ?_
  refine z_callSl (As := [.long (pm (pm (pm (pm (pm (pm 1871 wd) hg) nd) wv) (pBC sb)) (pBo S0 bd 4)), .int (nI (pLb S0 4))]) (rest := []) F9 (m_X1_mix l dC dI cI cZ cJ cD (pm (pm (pm (pm (pm (pm 1871 wd) hg) nd) wv) (pBC sb)) (pBo S0 bd 4)) (nI (pLb S0 4)) ) (va_cwS 2 hts gX1_digestOfMap_X1_mix rfl rfl rfl (by decide +kernel) ⟨Nat.le_of_ble_eq_true rfl, Nat.le_of_ble_eq_true rfl⟩) hK hN hP hD hS hA rfl hl.1 rfl (Nat.le_of_ble_eq_true rfl) dX1_digestOfMap_66 ⟨Nat.zero_le _, Nat.zero_le _⟩ (fun r_10 H locs hp_66 hP hS => ?_)
  have hp_66 : r_10 = pm (pm (pm (pm (pm (pm (pm 1871 wd) hg) nd) wv) (pBC sb)) (pBo S0 bd 4)) (nI (pLb S0 4)) := hp_66
  refine z_topl (y := pm (pm (pm (pm (pm (pm (pm 1871 wd) hg) nd) wv) (pBC sb)) (pBo S0 bd 4)) (nI (pLb S0 4))) hp_66 ?_
  refine lv_lstore_n (lv' := [(1, .long (pm (pm (pm (pm (pm (pm (pm 1871 wd) hg) nd) wv) (pBC sb)) (pBo S0 bd 4)) (nI (pLb S0 4)))), (0, .ref h0)]) hx hb dX1_digestOfMap_69 rfl hl (by decide) rfl (fun ls hl => ?_)
  refine lv_lload_n hx hb dX1_digestOfMap_70 rfl (lv_at hl 0 rfl) ?_
  refine lv_aload_n hx hb dX1_digestOfMap_71 rfl (lv_at hl 1 rfl) ?_
  refine z_callVi (As := []) (rest := [.long (pm (pm (pm (pm (pm (pm (pm 1871 wd) hg) nd) wv) (pBC sb)) (pBo S0 bd 4)) (nI (pLb S0 4)))]) F9 (m_X1_isStill l dC dI cI cZ cJ cD h0 hM aS aC aG hV bS bC bG wd hg wv bd sb nd S0 Cr G0 bd2 sb2 nd2 S2 Cr2 G2 q0 (hq) (hnd)) (cwV 0 hts gX1_digestOfMap_X1_isStill rfl rfl rfl (by decide +kernel) ⟨Nat.le_of_ble_eq_true rfl, Nat.le_of_ble_eq_true rfl⟩) hK hN hP hD hS hA [0, 1, 2, 3, 4, 5, 6, 7, 8] rfl rfl (fun _ => rfl) 0 (ci := 1) rfl rfl rfl rfl hl.1 rfl (Nat.le_of_ble_eq_true rfl) dX1_digestOfMap_72 ⟨Nat.zero_le _, Nat.zero_le _⟩ (fun r_11 u H locs hp_72 hP hD hS => ?_)
  obtain ⟨Cru_12, Gu_13⟩ := u
  have hP : va_P (dC, dI) vwCl [(h0, .inr (1, [.ref hM, .ref hV, .int wd, .int hg, .int wv])), (hM, .inr (0, [.int bd, .int sb, .int nd, .ref aS, .ref aC, .ref aG])), (aS, .inl (cI, 5, .inl S0)), (aC, .inl (cI, 5, .inl Cru_12)), (aG, .inl (cI, 5, .inl Gu_13)), (hV, .inr (0, [.int bd2, .int sb2, .int nd2, .ref bS, .ref bC, .ref bG])), (bS, .inl (cI, 5, .inl S2)), (bC, .inl (cI, 5, .inl Cr2)), (bG, .inl (cI, 5, .inl G2))] H := hP
  have hD : va_D A [(h0, .inr (1, [.ref hM, .ref hV, .int wd, .int hg, .int wv])), (hM, .inr (0, [.int bd, .int sb, .int nd, .ref aS, .ref aC, .ref aG])), (aS, .inl (cI, 5, .inl S0)), (aC, .inl (cI, 5, .inl Cru_12)), (aG, .inl (cI, 5, .inl Gu_13)), (hV, .inr (0, [.int bd2, .int sb2, .int nd2, .ref bS, .ref bC, .ref bG])), (bS, .inl (cI, 5, .inl S2)), (bC, .inl (cI, 5, .inl Cr2)), (bG, .inl (cI, 5, .inl G2))] := hD
  have hp_72 : r_11 = if pC0 S0 bd sb q0 = 0 then 1 else 0 := hp_72
  refine z_topi (y := if pC0 S0 bd sb q0 = 0 then 1 else 0) hp_72 ?_
  suffices j_83 : ∀ v_83 : Int32, v_83 = (if pC0 S0 bd sb q0 = 0 then 1 else 0) → W p l e rmX1_digestOfMap s m args below meth c H locs 0 0 Q (F0 m 83 ls [.int v_83, .long (pm (pm (pm (pm (pm (pm (pm 1871 wd) hg) nd) wv) (pBC sb)) (pBo S0 bd 4)) (nI (pLb S0 4)))]) by
    refine lv_if_eq (tgt := 82) hx hb dX1_digestOfMap_75 (by decide) (fun c_75 => ?_) (fun c_75 => ?_)
    · skip
      refine lv_iconst (v := 0) hx hb dX1_digestOfMap_82 (by decide) ?_
      exact j_83 _ (by rw [if_neg (z_if0 c_75)])
    · skip
      refine lv_iconst (v := 1) hx hb dX1_digestOfMap_78 (by decide) ?_
      refine lv_goto (tgt := 83) hx hb dX1_digestOfMap_79 (by decide) ?_
      exact j_83 _ (by rw [if_pos (z_if1 c_75)])
  intro v_83 h_v_83
  refine z_callSl (As := [.long (pm (pm (pm (pm (pm (pm (pm 1871 wd) hg) nd) wv) (pBC sb)) (pBo S0 bd 4)) (nI (pLb S0 4))), .int v_83]) (rest := []) F9 (m_X1_mix l dC dI cI cZ cJ cD (pm (pm (pm (pm (pm (pm (pm 1871 wd) hg) nd) wv) (pBC sb)) (pBo S0 bd 4)) (nI (pLb S0 4))) v_83 ) (va_cwS 2 hts gX1_digestOfMap_X1_mix rfl rfl rfl (by decide +kernel) ⟨Nat.le_of_ble_eq_true rfl, Nat.le_of_ble_eq_true rfl⟩) hK hN hP hD hS hA rfl hl.1 rfl (Nat.le_of_ble_eq_true rfl) dX1_digestOfMap_83 ⟨Nat.zero_le _, Nat.zero_le _⟩ (fun r_14 H locs hp_83 hP hS => ?_)
  have hp_83 : r_14 = pm (pm (pm (pm (pm (pm (pm (pm 1871 wd) hg) nd) wv) (pBC sb)) (pBo S0 bd 4)) (nI (pLb S0 4))) v_83 := hp_83
  refine z_topl (y := pm (pm (pm (pm (pm (pm (pm (pm 1871 wd) hg) nd) wv) (pBC sb)) (pBo S0 bd 4)) (nI (pLb S0 4))) v_83) hp_83 ?_
  refine z_topl (y := (pm (pm (pm (pm (pm (pm (pm (pm 1871 wd) hg) nd) wv) (pBC sb)) (pBo S0 bd 4)) (nI (pLb S0 4))) (if pC0 S0 bd sb q0 = 0 then 1 else 0))) (by rw [h_v_83]) ?_
  refine lv_lstore_n (lv' := [(1, .long (pm (pm (pm (pm (pm (pm (pm (pm 1871 wd) hg) nd) wv) (pBC sb)) (pBo S0 bd 4)) (nI (pLb S0 4))) (if pC0 S0 bd sb q0 = 0 then 1 else 0))), (0, .ref h0)]) hx hb dX1_digestOfMap_86 rfl hl (by decide) rfl (fun ls hl => ?_)
  refine lv_lload_n hx hb dX1_digestOfMap_87 rfl (lv_at hl 0 rfl) ?_
  refine lv_aload_n hx hb dX1_digestOfMap_88 rfl (lv_at hl 1 rfl) ?_
  refine z_callVi (As := []) (rest := [.long (pm (pm (pm (pm (pm (pm (pm (pm 1871 wd) hg) nd) wv) (pBC sb)) (pBo S0 bd 4)) (nI (pLb S0 4))) (if pC0 S0 bd sb q0 = 0 then 1 else 0))]) F9 (m_X1_winner l dC dI cI cZ cJ cD h0 hM aS aC aG hV bS bC bG wd hg wv bd sb nd S0 Cru_12 Gu_13 bd2 sb2 nd2 S2 Cr2 G2 ) (cwV 0 hts gX1_digestOfMap_X1_winner rfl rfl rfl (by decide +kernel) ⟨Nat.le_of_ble_eq_true rfl, Nat.le_of_ble_eq_true rfl⟩) hK hN hP hD hS hA [0, 1, 2, 3, 4, 5, 6, 7, 8] rfl rfl (fun _ => rfl) 0 (ci := 1) rfl rfl rfl rfl hl.1 rfl (Nat.le_of_ble_eq_true rfl) dX1_digestOfMap_89 ⟨Nat.zero_le _, Nat.zero_le _⟩ (fun r_15 u H locs hp_89 hP hD hS => ?_)
  have hP : va_P (dC, dI) vwCl [(h0, .inr (1, [.ref hM, .ref hV, .int wd, .int hg, .int wv])), (hM, .inr (0, [.int bd, .int sb, .int nd, .ref aS, .ref aC, .ref aG])), (aS, .inl (cI, 5, .inl S0)), (aC, .inl (cI, 5, .inl Cru_12)), (aG, .inl (cI, 5, .inl Gu_13)), (hV, .inr (0, [.int bd2, .int sb2, .int nd2, .ref bS, .ref bC, .ref bG])), (bS, .inl (cI, 5, .inl S2)), (bC, .inl (cI, 5, .inl Cr2)), (bG, .inl (cI, 5, .inl G2))] H := hP
  have hD : va_D A [(h0, .inr (1, [.ref hM, .ref hV, .int wd, .int hg, .int wv])), (hM, .inr (0, [.int bd, .int sb, .int nd, .ref aS, .ref aC, .ref aG])), (aS, .inl (cI, 5, .inl S0)), (aC, .inl (cI, 5, .inl Cru_12)), (aG, .inl (cI, 5, .inl Gu_13)), (hV, .inr (0, [.int bd2, .int sb2, .int nd2, .ref bS, .ref bC, .ref bG])), (bS, .inl (cI, 5, .inl S2)), (bC, .inl (cI, 5, .inl Cr2)), (bG, .inl (cI, 5, .inl G2))] := hD
  have hp_89 : r_15 = pWr S0 bd := hp_89
  refine z_topi (y := pWr S0 bd) hp_89 ?_
  refine z_callSl (As := [.long (pm (pm (pm (pm (pm (pm (pm (pm 1871 wd) hg) nd) wv) (pBC sb)) (pBo S0 bd 4)) (nI (pLb S0 4))) (if pC0 S0 bd sb q0 = 0 then 1 else 0)), .int (pWr S0 bd)]) (rest := []) F9 (m_X1_mix l dC dI cI cZ cJ cD (pm (pm (pm (pm (pm (pm (pm (pm 1871 wd) hg) nd) wv) (pBC sb)) (pBo S0 bd 4)) (nI (pLb S0 4))) (if pC0 S0 bd sb q0 = 0 then 1 else 0)) (pWr S0 bd) ) (va_cwS 2 hts gX1_digestOfMap_X1_mix rfl rfl rfl (by decide +kernel) ⟨Nat.le_of_ble_eq_true rfl, Nat.le_of_ble_eq_true rfl⟩) hK hN hP hD hS hA rfl hl.1 rfl (Nat.le_of_ble_eq_true rfl) dX1_digestOfMap_92 ⟨Nat.zero_le _, Nat.zero_le _⟩ (fun r_16 H locs hp_92 hP hS => ?_)
  have hp_92 : r_16 = pm (pm (pm (pm (pm (pm (pm (pm (pm 1871 wd) hg) nd) wv) (pBC sb)) (pBo S0 bd 4)) (nI (pLb S0 4))) (if pC0 S0 bd sb q0 = 0 then 1 else 0)) (pWr S0 bd) := hp_92
  refine z_topl (y := pm (pm (pm (pm (pm (pm (pm (pm (pm 1871 wd) hg) nd) wv) (pBC sb)) (pBo S0 bd 4)) (nI (pLb S0 4))) (if pC0 S0 bd sb q0 = 0 then 1 else 0)) (pWr S0 bd)) hp_92 ?_
  rw [← hQ]
  exact z_lret (W1 := (fun (u : (Nat → Int32) × (Nat → Int32)) => [(h0, .inr (1, [.ref hM, .ref hV, .int wd, .int hg, .int wv])), (hM, .inr (0, [.int bd, .int sb, .int nd, .ref aS, .ref aC, .ref aG])), (aS, .inl (cI, 5, .inl S0)), (aC, .inl (cI, 5, .inl u.1)), (aG, .inl (cI, 5, .inl u.2)), (hV, .inr (0, [.int bd2, .int sb2, .int nd2, .ref bS, .ref bC, .ref bG])), (bS, .inl (cI, 5, .inl S2)), (bC, .inl (cI, 5, .inl Cr2)), (bG, .inl (cI, 5, .inl G2))])) hx hb hr hlocks hP hS (Cru_12, Gu_13) (rfl) (rfl) dX1_digestOfMap_95
abbrev rmX1_digest : Room := { frames := 5, cells := 0, slots := 0, locals := 113 }
set_option maxRecDepth 20000 in
theorem iX1_digest_X0 : ∀ w ∈ wsX00, w ∈ wsX1_digest := fun w h => (goodIn_r (big := wsX1_digest) wsX00 [127, 128, 129, 130, 131, 132] (by decide +kernel) (by decide +kernel) w h).1
set_option maxRecDepth 20000 in
theorem iX1_digest_X1 : ∀ w ∈ wsX10, w ∈ wsX1_digest := fun w h => (goodIn_r (big := wsX1_digest) wsX10 [122, 123, 124, 125, 126] (by decide +kernel) (by decide +kernel) w h).1
set_option maxHeartbeats 4000000 in
set_option maxRecDepth 100000 in
theorem m_X1_digest (l : Launch) (dC : Nat → ClassId) (dI : Nat → Nat → Nat) (cI cZ cJ cD : ClassId) (h0 : Nat) (hM : Nat) (aS : Nat) (aC : Nat) (aG : Nat) (hV : Nat) (bS : Nat) (bC : Nat) (bG : Nat) (wn : Nat) (hn : Nat) (wv : Int32) (bd : Int32) (sb : Int32) (nd : Int32) (S0 : Nat → Int32) (Cr : Nat → Int32) (G0 : Nat → Int32) (bd2 : Int32) (sb2 : Int32) (nd2 : Int32) (S2 : Nat → Int32) (Cr2 : Nat → Int32) (G2 : Nat → Int32) (q0 : Nat) (hq : 1 ≤ q0 ∧ q0 ≤ 4) (hnd : nd = nI q0) (hw : 2 ≤ wn ∧ wn ≤ 5) (hh : 2 ≤ hn ∧ hn ≤ 5) : zL l (dC, dI) (wT cI cZ cJ cD) yX1_digest wsX1_digest rmX1_digest [(h0, .inr (1, [.ref hM, .ref hV, .int (nI wn), .int (nI hn), .int wv])), (hM, .inr (0, [.int bd, .int sb, .int nd, .ref aS, .ref aC, .ref aG])), (aS, .inl (cI, 5, .inl S0)), (aC, .inl (cI, 5, .inl Cr)), (aG, .inl (cI, 5, .inl G0)), (hV, .inr (0, [.int bd2, .int sb2, .int nd2, .ref bS, .ref bC, .ref bG])), (bS, .inl (cI, 5, .inl S2)), (bC, .inl (cI, 5, .inl Cr2)), (bG, .inl (cI, 5, .inl G2))] [.ref h0] (fun (u : (Nat → Int32) × (Nat → Int32)) => [(h0, .inr (1, [.ref hM, .ref hV, .int (nI wn), .int (nI hn), .int wv])), (hM, .inr (0, [.int bd, .int sb, .int nd, .ref aS, .ref aC, .ref aG])), (aS, .inl (cI, 5, .inl S0)), (aC, .inl (cI, 5, .inl u.1)), (aG, .inl (cI, 5, .inl u.2)), (hV, .inr (0, [.int bd2, .int sb2, .int nd2, .ref bS, .ref bC, .ref bG])), (bS, .inl (cI, 5, .inl S2)), (bC, .inl (cI, 5, .inl Cr2)), (bG, .inl (cI, 5, .inl G2))]) (fun (r : Int64) (u : (Nat → Int32) × (Nat → Int32)) => r = pDi wn hn nd wv bd sb q0 S0) := by
  intro sz
  refine Met.ofW (cc := cX1_digest) (maxL := 5) (ret := (some .long)) (by decide) rfl ?_
  intro p e s m args below meth c s₁ B hml hv
  obtain ⟨ha, hsz, hP, hK, hD0, hN⟩ := hv
  have hx := B.exec
  have hb := B.bytes
  have hr := B.returns
  have hts := atoms_spec (ws := wsX1_digest) B.pre
  have hown : s.vm.findClass RX1 = some m.cls := findClass_of_methodNamed B.named
  have hlocks := B.notSynchronized
  subst hsz
  have hD := hD0.self (sz := s.heap.size)
  generalize hAe : va_A [(h0, .inr (1, [.ref hM, .ref hV, .int (nI wn), .int (nI hn), .int wv])), (hM, .inr (0, [.int bd, .int sb, .int nd, .ref aS, .ref aC, .ref aG])), (aS, .inl (cI, 5, .inl S0)), (aC, .inl (cI, 5, .inl Cr)), (aG, .inl (cI, 5, .inl G0)), (hV, .inr (0, [.int bd2, .int sb2, .int nd2, .ref bS, .ref bC, .ref bG])), (bS, .inl (cI, 5, .inl S2)), (bC, .inl (cI, 5, .inl Cr2)), (bG, .inl (cI, 5, .inl G2))] s.heap.size = A at hD ⊢
  have hA : ∀ q : Nat, s.heap.size ≤ q → A q := fun q h => by rw [← hAe]; exact Or.inr h
  have hS : va_S A s.heap s.heap [] := va_S.rf
  generalize hQ : MQ below (va_Ql (fun (r : Int64) (u : (Nat → Int32) × (Nat → Int32)) => r = pDi wn hn nd wv bd sb q0 S0) (fun u t => va_P (dC, dI) vwCl ((fun (u : (Nat → Int32) × (Nat → Int32)) => [(h0, .inr (1, [.ref hM, .ref hV, .int (nI wn), .int (nI hn), .int wv])), (hM, .inr (0, [.int bd, .int sb, .int nd, .ref aS, .ref aC, .ref aG])), (aS, .inl (cI, 5, .inl S0)), (aC, .inl (cI, 5, .inl u.1)), (aG, .inl (cI, 5, .inl u.2)), (hV, .inr (0, [.int bd2, .int sb2, .int nd2, .ref bS, .ref bC, .ref bG])), (bS, .inl (cI, 5, .inl S2)), (bC, .inl (cI, 5, .inl Cr2)), (bG, .inl (cI, 5, .inl G2))]) u) t.heap) A) args s 0 0 A = Q
  have F9 : CallFix p m c cX1_digest 5 s args wsX1_digest RX1 := ⟨hx, hb, hml, hown, hts⟩
  refine z_entry (R := rmX1_digest) ha (Nat.le_of_ble_eq_true rfl) (fun ls hl => ?_)
  have hl : lv_has ls 5 [(0, .ref h0)] := hl
  refine lv_aload_n hx hb dX1_digest_0 rfl (lv_at hl 0 rfl) ?_
  refine z_callVl (As := []) (rest := []) F9 (m_X1_digestOfMap l dC dI cI cZ cJ cD h0 hM aS aC aG hV bS bC bG (nI wn) (nI hn) wv bd sb nd S0 Cr G0 bd2 sb2 nd2 S2 Cr2 G2 q0 (hq) (hnd)) (cwV 0 hts gX1_digest_X1_digestOfMap rfl rfl rfl (by decide +kernel) ⟨Nat.le_of_ble_eq_true rfl, Nat.le_of_ble_eq_true rfl⟩) hK hN hP hD hS hA [0, 1, 2, 3, 4, 5, 6, 7, 8] rfl rfl (fun _ => rfl) 0 (ci := 1) rfl rfl rfl rfl hl.1 rfl (Nat.le_of_ble_eq_true rfl) dX1_digest_1 ⟨Nat.zero_le _, Nat.zero_le _⟩ (fun r_1 u H locs hp_1 hP hD hS => ?_)
  obtain ⟨Cru_2, Gu_3⟩ := u
  have hP : va_P (dC, dI) vwCl [(h0, .inr (1, [.ref hM, .ref hV, .int (nI wn), .int (nI hn), .int wv])), (hM, .inr (0, [.int bd, .int sb, .int nd, .ref aS, .ref aC, .ref aG])), (aS, .inl (cI, 5, .inl S0)), (aC, .inl (cI, 5, .inl Cru_2)), (aG, .inl (cI, 5, .inl Gu_3)), (hV, .inr (0, [.int bd2, .int sb2, .int nd2, .ref bS, .ref bC, .ref bG])), (bS, .inl (cI, 5, .inl S2)), (bC, .inl (cI, 5, .inl Cr2)), (bG, .inl (cI, 5, .inl G2))] H := hP
  have hD : va_D A [(h0, .inr (1, [.ref hM, .ref hV, .int (nI wn), .int (nI hn), .int wv])), (hM, .inr (0, [.int bd, .int sb, .int nd, .ref aS, .ref aC, .ref aG])), (aS, .inl (cI, 5, .inl S0)), (aC, .inl (cI, 5, .inl Cru_2)), (aG, .inl (cI, 5, .inl Gu_3)), (hV, .inr (0, [.int bd2, .int sb2, .int nd2, .ref bS, .ref bC, .ref bG])), (bS, .inl (cI, 5, .inl S2)), (bC, .inl (cI, 5, .inl Cr2)), (bG, .inl (cI, 5, .inl G2))] := hD
  have hp_1 : r_1 = pDm (nI wn) (nI hn) nd wv bd sb q0 S0 := hp_1
  refine z_topl (y := pDm (nI wn) (nI hn) nd wv bd sb q0 S0) hp_1 ?_
  refine lv_lstore_n (lv' := [(1, .long (pDm (nI wn) (nI hn) nd wv bd sb q0 S0)), (0, .ref h0)]) hx hb dX1_digest_4 rfl hl (by decide) rfl (fun ls hl => ?_)
  refine lv_iconst (v := 1) hx hb dX1_digest_5 (by decide) ?_
  refine lv_istore_n (lv' := [(3, .int 1), (1, .long (pDm (nI wn) (nI hn) nd wv bd sb q0 S0)), (0, .ref h0)]) hx hb dX1_digest_6 rfl hl (by decide) rfl (fun ls hl => ?_)
  have loop_7 : ∀ (n : Nat) (k : Nat) (Crk : Nat → Int32) (Gk : Nat → Int32) (hkn : k + n = 4) (H : Heap) (locs : List Loc) (ls : Array Slot) (hP : va_P (dC, dI) vwCl [(h0, .inr (1, [.ref hM, .ref hV, .int (nI wn), .int (nI hn), .int wv])), (hM, .inr (0, [.int bd, .int sb, .int nd, .ref aS, .ref aC, .ref aG])), (aS, .inl (cI, 5, .inl S0)), (aC, .inl (cI, 5, .inl Crk)), (aG, .inl (cI, 5, .inl Gk)), (hV, .inr (0, [.int bd2, .int sb2, .int nd2, .ref bS, .ref bC, .ref bG])), (bS, .inl (cI, 5, .inl S2)), (bC, .inl (cI, 5, .inl Cr2)), (bG, .inl (cI, 5, .inl G2))] H) (hD : va_D A [(h0, .inr (1, [.ref hM, .ref hV, .int (nI wn), .int (nI hn), .int wv])), (hM, .inr (0, [.int bd, .int sb, .int nd, .ref aS, .ref aC, .ref aG])), (aS, .inl (cI, 5, .inl S0)), (aC, .inl (cI, 5, .inl Crk)), (aG, .inl (cI, 5, .inl Gk)), (hV, .inr (0, [.int bd2, .int sb2, .int nd2, .ref bS, .ref bC, .ref bG])), (bS, .inl (cI, 5, .inl S2)), (bC, .inl (cI, 5, .inl Cr2)), (bG, .inl (cI, 5, .inl G2))]) (hS : va_S A s.heap H locs) (hl : lv_has ls 5 [(0, .ref h0), (1, .long (pDc (pDm (nI wn) (nI hn) nd wv bd sb q0 S0) S0 k)), (3, .int (nI (k + 1)))]), W p l e rmX1_digest s m args below meth c H locs 0 0 Q (F0 m 7 ls []) := by
    intro n
    induction n with
    | zero =>
      intro k Crk Gk hkn  H locs ls hP hD hS hl
      refine lv_iload_n hx hb dX1_digest_7 rfl (lv_at hl 2 rfl) ?_
      refine lv_iconst (v := 4) hx hb dX1_digest_8 (by decide) ?_
      refine lv_icmp_gt (tgt := 57) hx hb dX1_digest_9 (by decide) (fun c_9 => ?_) (fun c_9 => ?_)
      · skip
        have n_9 := zc_lt_t (a := 4) (b := (k + 1)) (by omega) (by omega) c_9
        refine lv_aload_n hx hb dX1_digest_57 rfl (lv_at hl 0 rfl) ?_
        refine va_get (D := (dC, dI)) (ci := 1) (v := .ref hM) (C := RX1) (T := TX1) (N := 5) hx hb hts iX1_digest_X1 hown hK hP 0 rfl rfl 0 (by decide) (hts (.fieldLink RX1 12 "ColourTide" "map" "LColourTide$Tide;") (List.mem_of_getElem? (i := 1) rfl)) (fun _ h9 => h9) rfl dX1_digest_58 ?_
        refine z_callVi (As := []) (rest := []) F9 (m_X0_foresee l dC dI cI cZ cJ cD hM aS aC aG bd sb nd S0 Crk Gk q0 (hq) (hnd)) (cwV 0 hts gX1_digest_X0_foresee rfl rfl rfl (by decide +kernel) ⟨Nat.le_of_ble_eq_true rfl, Nat.le_of_ble_eq_true rfl⟩) hK hN hP hD hS hA [1, 2, 3, 4] rfl rfl (fun _ => rfl) 1 (ci := 0) rfl rfl rfl rfl hl.1 rfl (Nat.le_of_ble_eq_true rfl) dX1_digest_61 ⟨Nat.zero_le _, Nat.zero_le _⟩ (fun r_4 u H locs hp_61 hP hD hS => ?_)
        have hP : va_P (dC, dI) vwCl [(h0, .inr (1, [.ref hM, .ref hV, .int (nI wn), .int (nI hn), .int wv])), (hM, .inr (0, [.int bd, .int sb, .int nd, .ref aS, .ref aC, .ref aG])), (aS, .inl (cI, 5, .inl S0)), (aC, .inl (cI, 5, .inl (pCs S0 q0 Crk (5 - q0)))), (aG, .inl (cI, 5, .inl (pGf S0 bd sb q0 Gk))), (hV, .inr (0, [.int bd2, .int sb2, .int nd2, .ref bS, .ref bC, .ref bG])), (bS, .inl (cI, 5, .inl S2)), (bC, .inl (cI, 5, .inl Cr2)), (bG, .inl (cI, 5, .inl G2))] H := hP
        have hD : va_D A [(h0, .inr (1, [.ref hM, .ref hV, .int (nI wn), .int (nI hn), .int wv])), (hM, .inr (0, [.int bd, .int sb, .int nd, .ref aS, .ref aC, .ref aG])), (aS, .inl (cI, 5, .inl S0)), (aC, .inl (cI, 5, .inl (pCs S0 q0 Crk (5 - q0)))), (aG, .inl (cI, 5, .inl (pGf S0 bd sb q0 Gk))), (hV, .inr (0, [.int bd2, .int sb2, .int nd2, .ref bS, .ref bC, .ref bG])), (bS, .inl (cI, 5, .inl S2)), (bC, .inl (cI, 5, .inl Cr2)), (bG, .inl (cI, 5, .inl G2))] := hD
        have hp_61 : r_4 = pC0 S0 bd sb q0 := hp_61
        refine z_topi (y := pC0 S0 bd sb q0) hp_61 ?_
        refine lv_pop hx hb dX1_digest_64 rfl ?_
        refine lv_iconst (v := 0) hx hb dX1_digest_65 (by decide) ?_
        refine lv_istore_n (lv' := [(3, .int 0), (0, .ref h0), (1, .long (pDc (pDm (nI wn) (nI hn) nd wv bd sb q0 S0) S0 k))]) hx hb dX1_digest_66 rfl hl (by decide) rfl (fun ls hl => ?_)
        have loop_67 : ∀ (n : Nat) (y : Nat) (hkn : y + n = hn) (H : Heap) (locs : List Loc) (ls : Array Slot) (hP : va_P (dC, dI) vwCl [(h0, .inr (1, [.ref hM, .ref hV, .int (nI wn), .int (nI hn), .int wv])), (hM, .inr (0, [.int bd, .int sb, .int nd, .ref aS, .ref aC, .ref aG])), (aS, .inl (cI, 5, .inl S0)), (aC, .inl (cI, 5, .inl (pCs S0 q0 Crk (5 - q0)))), (aG, .inl (cI, 5, .inl (pGf S0 bd sb q0 Gk))), (hV, .inr (0, [.int bd2, .int sb2, .int nd2, .ref bS, .ref bC, .ref bG])), (bS, .inl (cI, 5, .inl S2)), (bC, .inl (cI, 5, .inl Cr2)), (bG, .inl (cI, 5, .inl G2))] H) (hD : va_D A [(h0, .inr (1, [.ref hM, .ref hV, .int (nI wn), .int (nI hn), .int wv])), (hM, .inr (0, [.int bd, .int sb, .int nd, .ref aS, .ref aC, .ref aG])), (aS, .inl (cI, 5, .inl S0)), (aC, .inl (cI, 5, .inl (pCs S0 q0 Crk (5 - q0)))), (aG, .inl (cI, 5, .inl (pGf S0 bd sb q0 Gk))), (hV, .inr (0, [.int bd2, .int sb2, .int nd2, .ref bS, .ref bC, .ref bG])), (bS, .inl (cI, 5, .inl S2)), (bC, .inl (cI, 5, .inl Cr2)), (bG, .inl (cI, 5, .inl G2))]) (hS : va_S A s.heap H locs) (hl : lv_has ls 5 [(0, .ref h0), (1, .long (pDz (pDc (pDm (nI wn) (nI hn) nd wv bd sb q0 S0) S0 4) wn S0 sb (pG0 S0 bd sb q0) (wn * y))), (3, .int (nI y))]), W p l e rmX1_digest s m args below meth c H locs 0 0 Q (F0 m 67 ls []) := by
          intro n
          induction n with
          | zero =>
            intro y hkn  H locs ls hP hD hS hl
            refine lv_iload_n hx hb dX1_digest_67 rfl (lv_at hl 2 rfl) ?_
            refine lv_aload_n hx hb dX1_digest_68 rfl (lv_at hl 0 rfl) ?_
            refine va_get (D := (dC, dI)) (ci := 1) (v := .int (nI hn)) (C := RX1) (T := TX1) (N := 5) hx hb hts iX1_digest_X1 hown hK hP 0 rfl rfl 3 (by decide) (hts (.fieldLink RX1 23 "ColourTide" "height" "I") (List.mem_of_getElem? (i := 2) rfl)) (fun _ h9 => h9) rfl dX1_digest_69 ?_
            refine lv_icmp_ge (tgt := 111) hx hb dX1_digest_72 (by decide) (fun c_72 => ?_) (fun c_72 => ?_)
            · skip
              have n_72 := zc_le_t (a := hn) (b := y) (by omega) (by omega) c_72
              refine lv_lload_n hx hb dX1_digest_111 rfl (lv_at hl 1 rfl) ?_
              have hl9 := hl
              have hP9 := hP
              have hD9 := hD
              have hS9 := hS
              obtain rfl : hn = y := by omega
              have hl := hl9
              have hP := hP9
              have hD := hD9
              have hS := hS9
              rw [← hQ]
              exact z_lret (W1 := (fun (u : (Nat → Int32) × (Nat → Int32)) => [(h0, .inr (1, [.ref hM, .ref hV, .int (nI wn), .int (nI hn), .int wv])), (hM, .inr (0, [.int bd, .int sb, .int nd, .ref aS, .ref aC, .ref aG])), (aS, .inl (cI, 5, .inl S0)), (aC, .inl (cI, 5, .inl u.1)), (aG, .inl (cI, 5, .inl u.2)), (hV, .inr (0, [.int bd2, .int sb2, .int nd2, .ref bS, .ref bC, .ref bG])), (bS, .inl (cI, 5, .inl S2)), (bC, .inl (cI, 5, .inl Cr2)), (bG, .inl (cI, 5, .inl G2))])) hx hb hr hlocks hP hS ((pCs S0 q0 Crk (5 - q0)), (pGf S0 bd sb q0 Gk)) (rfl) (rfl) dX1_digest_112
            · skip
              have n_72 := zc_le_f (a := hn) (b := y) (by omega) (by omega) c_72
              exact absurd n_72 (by omega)
          | succ n ih_67 =>
            intro y hkn  H locs ls hP hD hS hl
            refine lv_iload_n hx hb dX1_digest_67 rfl (lv_at hl 2 rfl) ?_
            refine lv_aload_n hx hb dX1_digest_68 rfl (lv_at hl 0 rfl) ?_
            refine va_get (D := (dC, dI)) (ci := 1) (v := .int (nI hn)) (C := RX1) (T := TX1) (N := 5) hx hb hts iX1_digest_X1 hown hK hP 0 rfl rfl 3 (by decide) (hts (.fieldLink RX1 23 "ColourTide" "height" "I") (List.mem_of_getElem? (i := 2) rfl)) (fun _ h9 => h9) rfl dX1_digest_69 ?_
            refine lv_icmp_ge (tgt := 111) hx hb dX1_digest_72 (by decide) (fun c_72 => ?_) (fun c_72 => ?_)
            · skip
              have n_72 := zc_le_t (a := hn) (b := y) (by omega) (by omega) c_72
              exact absurd n_72 (by omega)
            · skip
              have n_72 := zc_le_f (a := hn) (b := y) (by omega) (by omega) c_72
              refine lv_iconst (v := 0) hx hb dX1_digest_75 (by decide) ?_
              refine lv_istore (lv' := [(4, .int 0), (0, .ref h0), (1, .long (pDz (pDc (pDm (nI wn) (nI hn) nd wv bd sb q0 S0) S0 4) wn S0 sb (pG0 S0 bd sb q0) (wn * y))), (3, .int (nI y))]) hx hb dX1_digest_76 hl (by decide) rfl (fun ls hl => ?_)
              have loop_78 : ∀ (n : Nat) (x : Nat) (hkn : x + n = wn) (H : Heap) (locs : List Loc) (ls : Array Slot) (hP : va_P (dC, dI) vwCl [(h0, .inr (1, [.ref hM, .ref hV, .int (nI wn), .int (nI hn), .int wv])), (hM, .inr (0, [.int bd, .int sb, .int nd, .ref aS, .ref aC, .ref aG])), (aS, .inl (cI, 5, .inl S0)), (aC, .inl (cI, 5, .inl (pCs S0 q0 Crk (5 - q0)))), (aG, .inl (cI, 5, .inl (pGf S0 bd sb q0 Gk))), (hV, .inr (0, [.int bd2, .int sb2, .int nd2, .ref bS, .ref bC, .ref bG])), (bS, .inl (cI, 5, .inl S2)), (bC, .inl (cI, 5, .inl Cr2)), (bG, .inl (cI, 5, .inl G2))] H) (hD : va_D A [(h0, .inr (1, [.ref hM, .ref hV, .int (nI wn), .int (nI hn), .int wv])), (hM, .inr (0, [.int bd, .int sb, .int nd, .ref aS, .ref aC, .ref aG])), (aS, .inl (cI, 5, .inl S0)), (aC, .inl (cI, 5, .inl (pCs S0 q0 Crk (5 - q0)))), (aG, .inl (cI, 5, .inl (pGf S0 bd sb q0 Gk))), (hV, .inr (0, [.int bd2, .int sb2, .int nd2, .ref bS, .ref bC, .ref bG])), (bS, .inl (cI, 5, .inl S2)), (bC, .inl (cI, 5, .inl Cr2)), (bG, .inl (cI, 5, .inl G2))]) (hS : va_S A s.heap H locs) (hl : lv_has ls 5 [(0, .ref h0), (1, .long (pDz (pDc (pDm (nI wn) (nI hn) nd wv bd sb q0 S0) S0 4) wn S0 sb (pG0 S0 bd sb q0) (wn * y + x))), (3, .int (nI y)), (4, .int (nI x))]), W p l e rmX1_digest s m args below meth c H locs 0 0 Q (F0 m 78 ls []) := by
                intro n
                induction n with
                | zero =>
                  intro x hkn  H locs ls hP hD hS hl
                  refine lv_iload hx hb dX1_digest_78 (lv_at hl 3 rfl) ?_
                  refine lv_aload_n hx hb dX1_digest_80 rfl (lv_at hl 0 rfl) ?_
                  refine va_get (D := (dC, dI)) (ci := 1) (v := .int (nI wn)) (C := RX1) (T := TX1) (N := 5) hx hb hts iX1_digest_X1 hown hK hP 0 rfl rfl 2 (by decide) (hts (.fieldLink RX1 19 "ColourTide" "width" "I") (List.mem_of_getElem? (i := 3) rfl)) (fun _ h9 => h9) rfl dX1_digest_81 ?_
                  refine lv_icmp_ge (tgt := 105) hx hb dX1_digest_84 (by decide) (fun c_84 => ?_) (fun c_84 => ?_)
                  · skip
                    have n_84 := zc_le_t (a := wn) (b := x) (by omega) (by omega) c_84
                    refine lv_iinc (v := nI (y + 1)) (lv' := [(3, .int (nI (y + 1))), (0, .ref h0), (1, .long (pDz (pDc (pDm (nI wn) (nI hn) nd wv bd sb q0 S0) S0 4) wn S0 sb (pG0 S0 bd sb q0) (wn * y + x))), (4, .int (nI x))]) hx hb dX1_digest_105 hl (k := 2) rfl (nI_1 y) (by decide) rfl (fun ls hl => ?_)
                    refine lv_goto (tgt := 67) hx hb dX1_digest_108 (by decide) ?_
                    have hl9 := hl
                    have hP9 := hP
                    have hD9 := hD
                    have hS9 := hS
                    obtain rfl : wn = x := by omega
                    have hl := hl9
                    have hP := hP9
                    have hD := hD9
                    have hS := hS9
                    exact ih_67 (y + 1) (by omega)  _ _ _ hP hD hS (lv_sub hl [1, 2, 0] rfl)
                  · skip
                    have n_84 := zc_le_f (a := wn) (b := x) (by omega) (by omega) c_84
                    exact absurd n_84 (by omega)
                | succ n ih_78 =>
                  intro x hkn  H locs ls hP hD hS hl
                  refine lv_iload hx hb dX1_digest_78 (lv_at hl 3 rfl) ?_
                  refine lv_aload_n hx hb dX1_digest_80 rfl (lv_at hl 0 rfl) ?_
                  refine va_get (D := (dC, dI)) (ci := 1) (v := .int (nI wn)) (C := RX1) (T := TX1) (N := 5) hx hb hts iX1_digest_X1 hown hK hP 0 rfl rfl 2 (by decide) (hts (.fieldLink RX1 19 "ColourTide" "width" "I") (List.mem_of_getElem? (i := 3) rfl)) (fun _ h9 => h9) rfl dX1_digest_81 ?_
                  refine lv_icmp_ge (tgt := 105) hx hb dX1_digest_84 (by decide) (fun c_84 => ?_) (fun c_84 => ?_)
                  · skip
                    have n_84 := zc_le_t (a := wn) (b := x) (by omega) (by omega) c_84
                    exact absurd n_84 (by omega)
                  · skip
                    have n_84 := zc_le_f (a := wn) (b := x) (by omega) (by omega) c_84
                    refine lv_aload_n hx hb dX1_digest_87 rfl (lv_at hl 0 rfl) ?_
                    refine lv_lload_n hx hb dX1_digest_88 rfl (lv_at hl 1 rfl) ?_
                    refine lv_iload hx hb dX1_digest_89 (lv_at hl 3 rfl) ?_
                    refine lv_iload_n hx hb dX1_digest_91 rfl (lv_at hl 2 rfl) ?_
                    refine z_callSi (As := [.int (nI x), .int (nI y)]) (rest := [.long (pDz (pDc (pDm (nI wn) (nI hn) nd wv bd sb q0 S0) S0 4) wn S0 sb (pG0 S0 bd sb q0) (wn * y + x)), .ref h0]) F9 (m_X1_cell l dC dI cI cZ cJ cD (nI x) (nI y) ) (va_cwS 2 hts gX1_digest_X1_cell rfl rfl rfl (by decide +kernel) ⟨Nat.le_of_ble_eq_true rfl, Nat.le_of_ble_eq_true rfl⟩) hK hN hP hD hS hA rfl hl.1 rfl (Nat.le_of_ble_eq_true rfl) dX1_digest_92 ⟨Nat.zero_le _, Nat.zero_le _⟩ (fun r_5 H locs hp_92 hP hS => ?_)
                    have hp_92 : r_5 = pCell (nI x) (nI y) := hp_92
                    refine z_topi (y := pCell (nI x) (nI y)) hp_92 ?_
                    refine z_callVl (As := [.long (pDz (pDc (pDm (nI wn) (nI hn) nd wv bd sb q0 S0) S0 4) wn S0 sb (pG0 S0 bd sb q0) (wn * y + x)), .int (pCell (nI x) (nI y))]) (rest := []) F9 (m_X1_mixCell l dC dI cI cZ cJ cD h0 hM aS aC aG hV bS bC bG (nI wn) (nI hn) wv bd sb nd S0 (pCs S0 q0 Crk (5 - q0)) (pGf S0 bd sb q0 Gk) bd2 sb2 nd2 S2 Cr2 G2 (pDz (pDc (pDm (nI wn) (nI hn) nd wv bd sb q0 S0) S0 4) wn S0 sb (pG0 S0 bd sb q0) (wn * y + x)) (pCell (nI x) (nI y)) ) (cwV 2 hts gX1_digest_X1_mixCell rfl rfl rfl (by decide +kernel) ⟨Nat.le_of_ble_eq_true rfl, Nat.le_of_ble_eq_true rfl⟩) hK hN hP hD hS hA [0, 1, 2, 3, 4, 5, 6, 7, 8] rfl rfl (fun _ => rfl) 0 (ci := 1) rfl rfl rfl rfl hl.1 rfl (Nat.le_of_ble_eq_true rfl) dX1_digest_95 ⟨Nat.zero_le _, Nat.zero_le _⟩ (fun r_6 u H locs hp_95 hP hD hS => ?_)
                    have hP : va_P (dC, dI) vwCl [(h0, .inr (1, [.ref hM, .ref hV, .int (nI wn), .int (nI hn), .int wv])), (hM, .inr (0, [.int bd, .int sb, .int nd, .ref aS, .ref aC, .ref aG])), (aS, .inl (cI, 5, .inl S0)), (aC, .inl (cI, 5, .inl (pCs S0 q0 Crk (5 - q0)))), (aG, .inl (cI, 5, .inl (pGf S0 bd sb q0 Gk))), (hV, .inr (0, [.int bd2, .int sb2, .int nd2, .ref bS, .ref bC, .ref bG])), (bS, .inl (cI, 5, .inl S2)), (bC, .inl (cI, 5, .inl Cr2)), (bG, .inl (cI, 5, .inl G2))] H := hP
                    have hD : va_D A [(h0, .inr (1, [.ref hM, .ref hV, .int (nI wn), .int (nI hn), .int wv])), (hM, .inr (0, [.int bd, .int sb, .int nd, .ref aS, .ref aC, .ref aG])), (aS, .inl (cI, 5, .inl S0)), (aC, .inl (cI, 5, .inl (pCs S0 q0 Crk (5 - q0)))), (aG, .inl (cI, 5, .inl (pGf S0 bd sb q0 Gk))), (hV, .inr (0, [.int bd2, .int sb2, .int nd2, .ref bS, .ref bC, .ref bG])), (bS, .inl (cI, 5, .inl S2)), (bC, .inl (cI, 5, .inl Cr2)), (bG, .inl (cI, 5, .inl G2))] := hD
                    have hp_95 : r_6 = pMc (pDz (pDc (pDm (nI wn) (nI hn) nd wv bd sb q0 S0) S0 4) wn S0 sb (pG0 S0 bd sb q0) (wn * y + x)) S0 sb (pGf S0 bd sb q0 Gk) (pCell (nI x) (nI y)) := hp_95
                    refine z_topl (y := pMc (pDz (pDc (pDm (nI wn) (nI hn) nd wv bd sb q0 S0) S0 4) wn S0 sb (pG0 S0 bd sb q0) (wn * y + x)) S0 sb (pGf S0 bd sb q0 Gk) (pCell (nI x) (nI y))) hp_95 ?_
                    refine z_topl (y := pDz (pDc (pDm (nI wn) (nI hn) nd wv bd sb q0 S0) S0 4) wn S0 sb (pG0 S0 bd sb q0) (wn * y + (x + 1))) (pDz_step y (by omega)) ?_
                    refine lv_lstore_n (lv' := [(1, .long (pDz (pDc (pDm (nI wn) (nI hn) nd wv bd sb q0 S0) S0 4) wn S0 sb (pG0 S0 bd sb q0) (wn * y + (x + 1)))), (0, .ref h0), (3, .int (nI y)), (4, .int (nI x))]) hx hb dX1_digest_98 rfl hl (by decide) rfl (fun ls hl => ?_)
                    refine lv_iinc (v := nI (x + 1)) (lv' := [(4, .int (nI (x + 1))), (1, .long (pDz (pDc (pDm (nI wn) (nI hn) nd wv bd sb q0 S0) S0 4) wn S0 sb (pG0 S0 bd sb q0) (wn * y + (x + 1)))), (0, .ref h0), (3, .int (nI y))]) hx hb dX1_digest_99 hl (k := 3) rfl (nI_1 x) (by decide) rfl (fun ls hl => ?_)
                    refine lv_goto (tgt := 78) hx hb dX1_digest_102 (by decide) ?_
                    exact ih_78 (x + 1) (by omega)  _ _ _ hP hD hS (lv_sub hl [2, 1, 3, 0] rfl)
              exact loop_78 wn 0 (by omega)  _ _ _ hP hD hS (lv_sub hl [1, 2, 3, 0] rfl)
        have hl9 := hl
        have hP9 := hP
        have hD9 := hD
        have hS9 := hS
        obtain rfl : k = 4 := by omega
        have hl := hl9
        have hP := hP9
        have hD := hD9
        have hS := hS9
        exact loop_67 hn 0 (by omega)  _ _ _ hP hD hS (lv_sub hl [1, 2, 0] rfl)
      · skip
        have n_9 := zc_lt_f (a := 4) (b := (k + 1)) (by omega) (by omega) c_9
        exact absurd n_9 (by omega)
    | succ n ih_7 =>
      intro k Crk Gk hkn  H locs ls hP hD hS hl
      refine lv_iload_n hx hb dX1_digest_7 rfl (lv_at hl 2 rfl) ?_
      refine lv_iconst (v := 4) hx hb dX1_digest_8 (by decide) ?_
      refine lv_icmp_gt (tgt := 57) hx hb dX1_digest_9 (by decide) (fun c_9 => ?_) (fun c_9 => ?_)
      · skip
        have n_9 := zc_lt_t (a := 4) (b := (k + 1)) (by omega) (by omega) c_9
        exact absurd n_9 (by omega)
      · skip
        have n_9 := zc_lt_f (a := 4) (b := (k + 1)) (by omega) (by omega) c_9
        refine lv_lload_n hx hb dX1_digest_12 rfl (lv_at hl 1 rfl) ?_
        refine lv_aload_n hx hb dX1_digest_13 rfl (lv_at hl 0 rfl) ?_
        refine va_get (D := (dC, dI)) (ci := 1) (v := .ref hM) (C := RX1) (T := TX1) (N := 5) hx hb hts iX1_digest_X1 hown hK hP 0 rfl rfl 0 (by decide) (hts (.fieldLink RX1 12 "ColourTide" "map" "LColourTide$Tide;") (List.mem_of_getElem? (i := 1) rfl)) (fun _ h9 => h9) rfl dX1_digest_14 ?_
        refine lv_iload_n hx hb dX1_digest_17 rfl (lv_at hl 2 rfl) ?_
        refine z_callVi (As := [.int (nI (k + 1))]) (rest := [.long (pDc (pDm (nI wn) (nI hn) nd wv bd sb q0 S0) S0 k)]) F9 (m_X0_count l dC dI cI cZ cJ cD hM aS aC aG bd sb nd S0 Crk Gk (nI (k + 1)) ) (cwV 1 hts gX1_digest_X0_count rfl rfl rfl (by decide +kernel) ⟨Nat.le_of_ble_eq_true rfl, Nat.le_of_ble_eq_true rfl⟩) hK hN hP hD hS hA [1, 2, 3, 4] rfl rfl (fun _ => rfl) 1 (ci := 0) rfl rfl rfl rfl hl.1 rfl (Nat.le_of_ble_eq_true rfl) dX1_digest_18 ⟨Nat.zero_le _, Nat.zero_le _⟩ (fun r_7 u H locs hp_18 hP hD hS => ?_)
        have hP : va_P (dC, dI) vwCl [(h0, .inr (1, [.ref hM, .ref hV, .int (nI wn), .int (nI hn), .int wv])), (hM, .inr (0, [.int bd, .int sb, .int nd, .ref aS, .ref aC, .ref aG])), (aS, .inl (cI, 5, .inl S0)), (aC, .inl (cI, 5, .inl Crk)), (aG, .inl (cI, 5, .inl Gk)), (hV, .inr (0, [.int bd2, .int sb2, .int nd2, .ref bS, .ref bC, .ref bG])), (bS, .inl (cI, 5, .inl S2)), (bC, .inl (cI, 5, .inl Cr2)), (bG, .inl (cI, 5, .inl G2))] H := hP
        have hD : va_D A [(h0, .inr (1, [.ref hM, .ref hV, .int (nI wn), .int (nI hn), .int wv])), (hM, .inr (0, [.int bd, .int sb, .int nd, .ref aS, .ref aC, .ref aG])), (aS, .inl (cI, 5, .inl S0)), (aC, .inl (cI, 5, .inl Crk)), (aG, .inl (cI, 5, .inl Gk)), (hV, .inr (0, [.int bd2, .int sb2, .int nd2, .ref bS, .ref bC, .ref bG])), (bS, .inl (cI, 5, .inl S2)), (bC, .inl (cI, 5, .inl Cr2)), (bG, .inl (cI, 5, .inl G2))] := hD
        have hp_18 : r_7 = pBC (pCW S0 (nI (k + 1))) := hp_18
        refine z_topi (y := pBC (pCW S0 (nI (k + 1)))) hp_18 ?_
        refine z_callSl (As := [.long (pDc (pDm (nI wn) (nI hn) nd wv bd sb q0 S0) S0 k), .int (pBC (pCW S0 (nI (k + 1))))]) (rest := []) F9 (m_X1_mix l dC dI cI cZ cJ cD (pDc (pDm (nI wn) (nI hn) nd wv bd sb q0 S0) S0 k) (pBC (pCW S0 (nI (k + 1)))) ) (va_cwS 2 hts gX1_digest_X1_mix rfl rfl rfl (by decide +kernel) ⟨Nat.le_of_ble_eq_true rfl, Nat.le_of_ble_eq_true rfl⟩) hK hN hP hD hS hA rfl hl.1 rfl (Nat.le_of_ble_eq_true rfl) dX1_digest_21 ⟨Nat.zero_le _, Nat.zero_le _⟩ (fun r_8 H locs hp_21 hP hS => ?_)
        have hp_21 : r_8 = pm (pDc (pDm (nI wn) (nI hn) nd wv bd sb q0 S0) S0 k) (pBC (pCW S0 (nI (k + 1)))) := hp_21
        refine z_topl (y := pm (pDc (pDm (nI wn) (nI hn) nd wv bd sb q0 S0) S0 k) (pBC (pCW S0 (nI (k + 1))))) hp_21 ?_
        refine lv_lstore_n (lv' := [(1, .long (pm (pDc (pDm (nI wn) (nI hn) nd wv bd sb q0 S0) S0 k) (pBC (pCW S0 (nI (k + 1)))))), (0, .ref h0), (3, .int (nI (k + 1)))]) hx hb dX1_digest_24 rfl hl (by decide) rfl (fun ls hl => ?_)
        refine lv_lload_n hx hb dX1_digest_25 rfl (lv_at hl 0 rfl) ?_
        refine lv_aload_n hx hb dX1_digest_26 rfl (lv_at hl 1 rfl) ?_
        refine va_get (D := (dC, dI)) (ci := 1) (v := .ref hM) (C := RX1) (T := TX1) (N := 5) hx hb hts iX1_digest_X1 hown hK hP 0 rfl rfl 0 (by decide) (hts (.fieldLink RX1 12 "ColourTide" "map" "LColourTide$Tide;") (List.mem_of_getElem? (i := 1) rfl)) (fun _ h9 => h9) rfl dX1_digest_27 ?_
        refine lv_iload_n hx hb dX1_digest_30 rfl (lv_at hl 2 rfl) ?_
        refine z_callVi (As := [.int (nI (k + 1))]) (rest := [.long (pm (pDc (pDm (nI wn) (nI hn) nd wv bd sb q0 S0) S0 k) (pBC (pCW S0 (nI (k + 1)))))]) F9 (m_X0_countRegions l dC dI cI cZ cJ cD hM aS aC aG bd sb nd S0 Crk Gk (nI (k + 1)) ) (cwV 1 hts gX1_digest_X0_countRegions rfl rfl rfl (by decide +kernel) ⟨Nat.le_of_ble_eq_true rfl, Nat.le_of_ble_eq_true rfl⟩) hK hN hP hD hS hA [1, 2, 3, 4] rfl rfl (fun _ => rfl) 1 (ci := 0) rfl rfl rfl rfl hl.1 rfl (Nat.le_of_ble_eq_true rfl) dX1_digest_31 ⟨Nat.zero_le _, Nat.zero_le _⟩ (fun r_9 u H locs hp_31 hP hD hS => ?_)
        have hP : va_P (dC, dI) vwCl [(h0, .inr (1, [.ref hM, .ref hV, .int (nI wn), .int (nI hn), .int wv])), (hM, .inr (0, [.int bd, .int sb, .int nd, .ref aS, .ref aC, .ref aG])), (aS, .inl (cI, 5, .inl S0)), (aC, .inl (cI, 5, .inl Crk)), (aG, .inl (cI, 5, .inl Gk)), (hV, .inr (0, [.int bd2, .int sb2, .int nd2, .ref bS, .ref bC, .ref bG])), (bS, .inl (cI, 5, .inl S2)), (bC, .inl (cI, 5, .inl Cr2)), (bG, .inl (cI, 5, .inl G2))] H := hP
        have hD : va_D A [(h0, .inr (1, [.ref hM, .ref hV, .int (nI wn), .int (nI hn), .int wv])), (hM, .inr (0, [.int bd, .int sb, .int nd, .ref aS, .ref aC, .ref aG])), (aS, .inl (cI, 5, .inl S0)), (aC, .inl (cI, 5, .inl Crk)), (aG, .inl (cI, 5, .inl Gk)), (hV, .inr (0, [.int bd2, .int sb2, .int nd2, .ref bS, .ref bC, .ref bG])), (bS, .inl (cI, 5, .inl S2)), (bC, .inl (cI, 5, .inl Cr2)), (bG, .inl (cI, 5, .inl G2))] := hD
        have hp_31 : r_9 = nI (pCR 25 (pCW S0 (nI (k + 1))) 0) := hp_31
        refine z_topi (y := nI (pCR 25 (pCW S0 (nI (k + 1))) 0)) hp_31 ?_
        refine z_callSl (As := [.long (pm (pDc (pDm (nI wn) (nI hn) nd wv bd sb q0 S0) S0 k) (pBC (pCW S0 (nI (k + 1))))), .int (nI (pCR 25 (pCW S0 (nI (k + 1))) 0))]) (rest := []) F9 (m_X1_mix l dC dI cI cZ cJ cD (pm (pDc (pDm (nI wn) (nI hn) nd wv bd sb q0 S0) S0 k) (pBC (pCW S0 (nI (k + 1))))) (nI (pCR 25 (pCW S0 (nI (k + 1))) 0)) ) (va_cwS 2 hts gX1_digest_X1_mix rfl rfl rfl (by decide +kernel) ⟨Nat.le_of_ble_eq_true rfl, Nat.le_of_ble_eq_true rfl⟩) hK hN hP hD hS hA rfl hl.1 rfl (Nat.le_of_ble_eq_true rfl) dX1_digest_34 ⟨Nat.zero_le _, Nat.zero_le _⟩ (fun r_10 H locs hp_34 hP hS => ?_)
        have hp_34 : r_10 = pm (pm (pDc (pDm (nI wn) (nI hn) nd wv bd sb q0 S0) S0 k) (pBC (pCW S0 (nI (k + 1))))) (nI (pCR 25 (pCW S0 (nI (k + 1))) 0)) := hp_34
        refine z_topl (y := pm (pm (pDc (pDm (nI wn) (nI hn) nd wv bd sb q0 S0) S0 k) (pBC (pCW S0 (nI (k + 1))))) (nI (pCR 25 (pCW S0 (nI (k + 1))) 0))) hp_34 ?_
        refine lv_lstore_n (lv' := [(1, .long (pm (pm (pDc (pDm (nI wn) (nI hn) nd wv bd sb q0 S0) S0 k) (pBC (pCW S0 (nI (k + 1))))) (nI (pCR 25 (pCW S0 (nI (k + 1))) 0)))), (0, .ref h0), (3, .int (nI (k + 1)))]) hx hb dX1_digest_37 rfl hl (by decide) rfl (fun ls hl => ?_)
        refine lv_lload_n hx hb dX1_digest_38 rfl (lv_at hl 0 rfl) ?_
        refine lv_aload_n hx hb dX1_digest_39 rfl (lv_at hl 1 rfl) ?_
        refine va_get (D := (dC, dI)) (ci := 1) (v := .ref hM) (C := RX1) (T := TX1) (N := 5) hx hb hts iX1_digest_X1 hown hK hP 0 rfl rfl 0 (by decide) (hts (.fieldLink RX1 12 "ColourTide" "map" "LColourTide$Tide;") (List.mem_of_getElem? (i := 1) rfl)) (fun _ h9 => h9) rfl dX1_digest_40 ?_
        refine lv_iload_n hx hb dX1_digest_43 rfl (lv_at hl 2 rfl) ?_
        refine z_callVi (As := [.int (nI (k + 1))]) (rest := [.long (pm (pm (pDc (pDm (nI wn) (nI hn) nd wv bd sb q0 S0) S0 k) (pBC (pCW S0 (nI (k + 1))))) (nI (pCR 25 (pCW S0 (nI (k + 1))) 0)))]) F9 (m_X0_sizeOfGreatestRegion l dC dI cI cZ cJ cD hM aS aC aG bd sb nd S0 Crk Gk (nI (k + 1)) ) (cwV 1 hts gX1_digest_X0_sizeOfGreatestRegion rfl rfl rfl (by decide +kernel) ⟨Nat.le_of_ble_eq_true rfl, Nat.le_of_ble_eq_true rfl⟩) hK hN hP hD hS hA [1, 2, 3, 4] rfl rfl (fun _ => rfl) 1 (ci := 0) rfl rfl rfl rfl hl.1 rfl (Nat.le_of_ble_eq_true rfl) dX1_digest_44 ⟨Nat.zero_le _, Nat.zero_le _⟩ (fun r_11 u H locs hp_44 hP hD hS => ?_)
        have hP : va_P (dC, dI) vwCl [(h0, .inr (1, [.ref hM, .ref hV, .int (nI wn), .int (nI hn), .int wv])), (hM, .inr (0, [.int bd, .int sb, .int nd, .ref aS, .ref aC, .ref aG])), (aS, .inl (cI, 5, .inl S0)), (aC, .inl (cI, 5, .inl Crk)), (aG, .inl (cI, 5, .inl Gk)), (hV, .inr (0, [.int bd2, .int sb2, .int nd2, .ref bS, .ref bC, .ref bG])), (bS, .inl (cI, 5, .inl S2)), (bC, .inl (cI, 5, .inl Cr2)), (bG, .inl (cI, 5, .inl G2))] H := hP
        have hD : va_D A [(h0, .inr (1, [.ref hM, .ref hV, .int (nI wn), .int (nI hn), .int wv])), (hM, .inr (0, [.int bd, .int sb, .int nd, .ref aS, .ref aC, .ref aG])), (aS, .inl (cI, 5, .inl S0)), (aC, .inl (cI, 5, .inl Crk)), (aG, .inl (cI, 5, .inl Gk)), (hV, .inr (0, [.int bd2, .int sb2, .int nd2, .ref bS, .ref bC, .ref bG])), (bS, .inl (cI, 5, .inl S2)), (bC, .inl (cI, 5, .inl Cr2)), (bG, .inl (cI, 5, .inl G2))] := hD
        have hp_44 : r_11 = pGR 25 (pCW S0 (nI (k + 1))) 0 := hp_44
        refine z_topi (y := pGR 25 (pCW S0 (nI (k + 1))) 0) hp_44 ?_
        refine z_callSl (As := [.long (pm (pm (pDc (pDm (nI wn) (nI hn) nd wv bd sb q0 S0) S0 k) (pBC (pCW S0 (nI (k + 1))))) (nI (pCR 25 (pCW S0 (nI (k + 1))) 0))), .int (pGR 25 (pCW S0 (nI (k + 1))) 0)]) (rest := []) F9 (m_X1_mix l dC dI cI cZ cJ cD (pm (pm (pDc (pDm (nI wn) (nI hn) nd wv bd sb q0 S0) S0 k) (pBC (pCW S0 (nI (k + 1))))) (nI (pCR 25 (pCW S0 (nI (k + 1))) 0))) (pGR 25 (pCW S0 (nI (k + 1))) 0) ) (va_cwS 2 hts gX1_digest_X1_mix rfl rfl rfl (by decide +kernel) ⟨Nat.le_of_ble_eq_true rfl, Nat.le_of_ble_eq_true rfl⟩) hK hN hP hD hS hA rfl hl.1 rfl (Nat.le_of_ble_eq_true rfl) dX1_digest_47 ⟨Nat.zero_le _, Nat.zero_le _⟩ (fun r_12 H locs hp_47 hP hS => ?_)
        have hp_47 : r_12 = pm (pm (pm (pDc (pDm (nI wn) (nI hn) nd wv bd sb q0 S0) S0 k) (pBC (pCW S0 (nI (k + 1))))) (nI (pCR 25 (pCW S0 (nI (k + 1))) 0))) (pGR 25 (pCW S0 (nI (k + 1))) 0) := hp_47
        refine z_topl (y := pm (pm (pm (pDc (pDm (nI wn) (nI hn) nd wv bd sb q0 S0) S0 k) (pBC (pCW S0 (nI (k + 1))))) (nI (pCR 25 (pCW S0 (nI (k + 1))) 0))) (pGR 25 (pCW S0 (nI (k + 1))) 0)) hp_47 ?_
        refine z_topl (y := pDc (pDm (nI wn) (nI hn) nd wv bd sb q0 S0) S0 (k + 1)) (rfl) ?_
        refine lv_lstore_n (lv' := [(1, .long (pDc (pDm (nI wn) (nI hn) nd wv bd sb q0 S0) S0 (k + 1))), (0, .ref h0), (3, .int (nI (k + 1)))]) hx hb dX1_digest_50 rfl hl (by decide) rfl (fun ls hl => ?_)
        refine lv_iinc (v := nI ((k + 1) + 1)) (lv' := [(3, .int (nI ((k + 1) + 1))), (1, .long (pDc (pDm (nI wn) (nI hn) nd wv bd sb q0 S0) S0 (k + 1))), (0, .ref h0)]) hx hb dX1_digest_51 hl (k := 2) rfl (nI_1 (k + 1)) (by decide) rfl (fun ls hl => ?_)
        refine lv_goto (tgt := 7) hx hb dX1_digest_54 (by decide) ?_
        exact ih_7 (k + 1) Crk Gk (by omega)  _ _ _ hP hD hS (lv_sub hl [2, 1, 0] rfl)
  exact loop_7 4 0 Cru_2 Gu_3 (by omega)  _ _ _ hP hD hS (lv_sub hl [2, 1, 0] rfl)
abbrev rmX1_countAfter : Room := { frames := 4, cells := 0, slots := 0, locals := 94 }
set_option maxRecDepth 20000 in
theorem iX1_countAfter_X0 : ∀ w ∈ wsX00, w ∈ wsX1_countAfter := fun w h => (goodIn_r (big := wsX1_countAfter) wsX00 [57, 58, 59, 60, 61, 62] (by decide +kernel) (by decide +kernel) w h).1
set_option maxRecDepth 20000 in
theorem iX1_countAfter_X1 : ∀ w ∈ wsX10, w ∈ wsX1_countAfter := fun w h => (goodIn_r (big := wsX1_countAfter) wsX10 [52, 53, 54, 55, 56] (by decide +kernel) (by decide +kernel) w h).1
set_option maxHeartbeats 4000000 in
set_option maxRecDepth 100000 in
theorem m_X1_countAfter (l : Launch) (dC : Nat → ClassId) (dI : Nat → Nat → Nat) (cI cZ cJ cD : ClassId) (h0 : Nat) (hM : Nat) (aS : Nat) (aC : Nat) (aG : Nat) (hV : Nat) (bS : Nat) (bC : Nat) (bG : Nat) (wd : Int32) (hg : Int32) (wv : Int32) (bd : Int32) (sb : Int32) (nd : Int32) (S0 : Nat → Int32) (Cr : Nat → Int32) (G0 : Nat → Int32) (bd2 : Int32) (sb2 : Int32) (nd2 : Int32) (S2 : Nat → Int32) (Cr2 : Nat → Int32) (G2 : Nat → Int32) (q0 : Nat) (z0 : Int32) (col : Int32) (nw : Nat) (hq : 1 ≤ q0 ∧ q0 ≤ 4) (hnd : nd = nI q0) (hnw : nw < 1000) : zI l (dC, dI) (wT cI cZ cJ cD) yX1_countAfter wsX1_countAfter rmX1_countAfter [(h0, .inr (1, [.ref hM, .ref hV, .int wd, .int hg, .int wv])), (hM, .inr (0, [.int bd, .int sb, .int nd, .ref aS, .ref aC, .ref aG])), (aS, .inl (cI, 5, .inl S0)), (aC, .inl (cI, 5, .inl Cr)), (aG, .inl (cI, 5, .inl G0)), (hV, .inr (0, [.int bd2, .int sb2, .int nd2, .ref bS, .ref bC, .ref bG])), (bS, .inl (cI, 5, .inl S2)), (bC, .inl (cI, 5, .inl Cr2)), (bG, .inl (cI, 5, .inl G2))] [.ref h0, .int z0, .int col, .int (nI nw)] (fun (u : Int32 × Int32 × Int32 × (Nat → Int32) × (Nat → Int32) × (Nat → Int32)) => [(h0, .inr (1, [.ref hM, .ref hV, .int wd, .int hg, .int wv])), (hM, .inr (0, [.int bd, .int sb, .int nd, .ref aS, .ref aC, .ref aG])), (aS, .inl (cI, 5, .inl S0)), (aC, .inl (cI, 5, .inl Cr)), (aG, .inl (cI, 5, .inl G0)), (hV, .inr (0, [.int u.1, .int u.2.1, .int u.2.2.1, .ref bS, .ref bC, .ref bG])), (bS, .inl (cI, 5, .inl u.2.2.2.1)), (bC, .inl (cI, 5, .inl u.2.2.2.2.1)), (bG, .inl (cI, 5, .inl u.2.2.2.2.2))]) (fun (r : Int32) (u : Int32 × Int32 × Int32 × (Nat → Int32) × (Nat → Int32) × (Nat → Int32)) => r = pAft S0 bd sb q0 z0 col nw) := by
  intro sz
  refine Met.ofW (cc := cX1_countAfter) (maxL := 4) (ret := (some .int)) (by decide) rfl ?_
  intro p e s m args below meth c s₁ B hml hv
  obtain ⟨ha, hsz, hP, hK, hD0, hN⟩ := hv
  have hx := B.exec
  have hb := B.bytes
  have hr := B.returns
  have hts := atoms_spec (ws := wsX1_countAfter) B.pre
  have hown : s.vm.findClass RX1 = some m.cls := findClass_of_methodNamed B.named
  have hlocks := B.notSynchronized
  subst hsz
  have hD := hD0.self (sz := s.heap.size)
  generalize hAe : va_A [(h0, .inr (1, [.ref hM, .ref hV, .int wd, .int hg, .int wv])), (hM, .inr (0, [.int bd, .int sb, .int nd, .ref aS, .ref aC, .ref aG])), (aS, .inl (cI, 5, .inl S0)), (aC, .inl (cI, 5, .inl Cr)), (aG, .inl (cI, 5, .inl G0)), (hV, .inr (0, [.int bd2, .int sb2, .int nd2, .ref bS, .ref bC, .ref bG])), (bS, .inl (cI, 5, .inl S2)), (bC, .inl (cI, 5, .inl Cr2)), (bG, .inl (cI, 5, .inl G2))] s.heap.size = A at hD ⊢
  have hA : ∀ q : Nat, s.heap.size ≤ q → A q := fun q h => by rw [← hAe]; exact Or.inr h
  have hS : va_S A s.heap s.heap [] := va_S.rf
  generalize hQ : MQ below (va_Qi (fun (r : Int32) (u : Int32 × Int32 × Int32 × (Nat → Int32) × (Nat → Int32) × (Nat → Int32)) => r = pAft S0 bd sb q0 z0 col nw) (fun u t => va_P (dC, dI) vwCl ((fun (u : Int32 × Int32 × Int32 × (Nat → Int32) × (Nat → Int32) × (Nat → Int32)) => [(h0, .inr (1, [.ref hM, .ref hV, .int wd, .int hg, .int wv])), (hM, .inr (0, [.int bd, .int sb, .int nd, .ref aS, .ref aC, .ref aG])), (aS, .inl (cI, 5, .inl S0)), (aC, .inl (cI, 5, .inl Cr)), (aG, .inl (cI, 5, .inl G0)), (hV, .inr (0, [.int u.1, .int u.2.1, .int u.2.2.1, .ref bS, .ref bC, .ref bG])), (bS, .inl (cI, 5, .inl u.2.2.2.1)), (bC, .inl (cI, 5, .inl u.2.2.2.2.1)), (bG, .inl (cI, 5, .inl u.2.2.2.2.2))]) u) t.heap) A) args s 0 0 A = Q
  have F9 : CallFix p m c cX1_countAfter 4 s args wsX1_countAfter RX1 := ⟨hx, hb, hml, hown, hts⟩
  refine z_entry (R := rmX1_countAfter) ha (Nat.le_of_ble_eq_true rfl) (fun ls hl => ?_)
  have hl : lv_has ls 4 [(0, .ref h0), (1, .int z0), (2, .int col), (3, .int (nI nw))] := hl
  refine lv_aload_n hx hb dX1_countAfter_0 rfl (lv_at hl 0 rfl) ?_
  refine va_get (D := (dC, dI)) (ci := 1) (v := .ref hV) (C := RX1) (T := TX1) (N := 5) hx hb hts iX1_countAfter_X1 hown hK hP 0 rfl rfl 1 (by decide) (hts (.fieldLink RX1 16 "ColourTide" "trial" "LColourTide$Tide;") (List.mem_of_getElem? (i := 1) rfl)) (fun _ h9 => h9) rfl dX1_countAfter_1 ?_
  refine lv_aload_n hx hb dX1_countAfter_4 rfl (lv_at hl 0 rfl) ?_
  refine va_get (D := (dC, dI)) (ci := 1) (v := .ref hM) (C := RX1) (T := TX1) (N := 5) hx hb hts iX1_countAfter_X1 hown hK hP 0 rfl rfl 0 (by decide) (hts (.fieldLink RX1 12 "ColourTide" "map" "LColourTide$Tide;") (List.mem_of_getElem? (i := 2) rfl)) (fun _ h9 => h9) rfl dX1_countAfter_5 ?_
  refine z_callVv (As := [.ref hM]) (rest := []) F9 (m_X0_copyFrom l dC dI cI cZ cJ cD hV bS bC bG bd2 sb2 nd2 S2 Cr2 G2 hM aS aC aG bd sb nd S0 Cr G0 ) (cwV 1 hts gX1_countAfter_X0_copyFrom rfl rfl rfl (by decide +kernel) ⟨Nat.le_of_ble_eq_true rfl, Nat.le_of_ble_eq_true rfl⟩) hK hN hP hD hS hA [5, 6, 7, 8, 1, 2, 3, 4] rfl rfl (fun _ => rfl) 5 (ci := 0) rfl rfl rfl rfl hl.1 rfl (Nat.le_of_ble_eq_true rfl) dX1_countAfter_8 ⟨Nat.zero_le _, Nat.zero_le _⟩ (fun u H locs hp_8 hP hD hS => ?_)
  have hP : va_P (dC, dI) vwCl [(h0, .inr (1, [.ref hM, .ref hV, .int wd, .int hg, .int wv])), (hM, .inr (0, [.int bd, .int sb, .int nd, .ref aS, .ref aC, .ref aG])), (aS, .inl (cI, 5, .inl S0)), (aC, .inl (cI, 5, .inl Cr)), (aG, .inl (cI, 5, .inl G0)), (hV, .inr (0, [.int bd, .int sb, .int nd, .ref bS, .ref bC, .ref bG])), (bS, .inl (cI, 5, .inl (zfill S0 S2 5))), (bC, .inl (cI, 5, .inl Cr2)), (bG, .inl (cI, 5, .inl G2))] H := hP
  have hD : va_D A [(h0, .inr (1, [.ref hM, .ref hV, .int wd, .int hg, .int wv])), (hM, .inr (0, [.int bd, .int sb, .int nd, .ref aS, .ref aC, .ref aG])), (aS, .inl (cI, 5, .inl S0)), (aC, .inl (cI, 5, .inl Cr)), (aG, .inl (cI, 5, .inl G0)), (hV, .inr (0, [.int bd, .int sb, .int nd, .ref bS, .ref bC, .ref bG])), (bS, .inl (cI, 5, .inl (zfill S0 S2 5))), (bC, .inl (cI, 5, .inl Cr2)), (bG, .inl (cI, 5, .inl G2))] := hD
  refine lv_aload_n hx hb dX1_countAfter_11 rfl (lv_at hl 0 rfl) ?_
  refine va_get (D := (dC, dI)) (ci := 1) (v := .ref hV) (C := RX1) (T := TX1) (N := 5) hx hb hts iX1_countAfter_X1 hown hK hP 0 rfl rfl 1 (by decide) (hts (.fieldLink RX1 16 "ColourTide" "trial" "LColourTide$Tide;") (List.mem_of_getElem? (i := 1) rfl)) (fun _ h9 => h9) rfl dX1_countAfter_12 ?_
  refine lv_iload_n hx hb dX1_countAfter_15 rfl (lv_at hl 1 rfl) ?_
  refine lv_iload_n hx hb dX1_countAfter_16 rfl (lv_at hl 2 rfl) ?_
  refine z_callVv (As := [.int z0, .int col]) (rest := []) F9 (m_X0_dye l dC dI cI cZ cJ cD hV bS bC bG bd sb nd (zfill S0 S2 5) Cr2 G2 z0 col ) (cwV 2 hts gX1_countAfter_X0_dye rfl rfl rfl (by decide +kernel) ⟨Nat.le_of_ble_eq_true rfl, Nat.le_of_ble_eq_true rfl⟩) hK hN hP hD hS hA [5, 6, 7, 8] rfl rfl (fun _ => rfl) 5 (ci := 0) rfl rfl rfl rfl hl.1 rfl (Nat.le_of_ble_eq_true rfl) dX1_countAfter_17 ⟨Nat.zero_le _, Nat.zero_le _⟩ (fun u H locs hp_17 hP hD hS => ?_)
  have hP : va_P (dC, dI) vwCl [(h0, .inr (1, [.ref hM, .ref hV, .int wd, .int hg, .int wv])), (hM, .inr (0, [.int bd, .int sb, .int nd, .ref aS, .ref aC, .ref aG])), (aS, .inl (cI, 5, .inl S0)), (aC, .inl (cI, 5, .inl Cr)), (aG, .inl (cI, 5, .inl G0)), (hV, .inr (0, [.int bd, .int sb, .int nd, .ref bS, .ref bC, .ref bG])), (bS, .inl (cI, 5, .inl (pDye (zfill S0 S2 5) z0 col))), (bC, .inl (cI, 5, .inl Cr2)), (bG, .inl (cI, 5, .inl G2))] H := hP
  have hD : va_D A [(h0, .inr (1, [.ref hM, .ref hV, .int wd, .int hg, .int wv])), (hM, .inr (0, [.int bd, .int sb, .int nd, .ref aS, .ref aC, .ref aG])), (aS, .inl (cI, 5, .inl S0)), (aC, .inl (cI, 5, .inl Cr)), (aG, .inl (cI, 5, .inl G0)), (hV, .inr (0, [.int bd, .int sb, .int nd, .ref bS, .ref bC, .ref bG])), (bS, .inl (cI, 5, .inl (pDye (zfill S0 S2 5) z0 col))), (bC, .inl (cI, 5, .inl Cr2)), (bG, .inl (cI, 5, .inl G2))] := hD
  refine lv_aload_n hx hb dX1_countAfter_20 rfl (lv_at hl 0 rfl) ?_
  refine va_get (D := (dC, dI)) (ci := 1) (v := .ref hV) (C := RX1) (T := TX1) (N := 5) hx hb hts iX1_countAfter_X1 hown hK hP 0 rfl rfl 1 (by decide) (hts (.fieldLink RX1 16 "ColourTide" "trial" "LColourTide$Tide;") (List.mem_of_getElem? (i := 1) rfl)) (fun _ h9 => h9) rfl dX1_countAfter_21 ?_
  refine lv_iload_n hx hb dX1_countAfter_24 rfl (lv_at hl 3 rfl) ?_
  refine z_callVi (As := [.int (nI nw)]) (rest := []) F9 (m_X0_surge l dC dI cI cZ cJ cD hV bS bC bG bd sb nd (pDye (zfill S0 S2 5) z0 col) Cr2 G2 q0 nw (hq) (hnd) (hnw)) (cwV 1 hts gX1_countAfter_X0_surge rfl rfl rfl (by decide +kernel) ⟨Nat.le_of_ble_eq_true rfl, Nat.le_of_ble_eq_true rfl⟩) hK hN hP hD hS hA [5, 6, 7, 8] rfl rfl (fun _ => rfl) 5 (ci := 0) rfl rfl rfl rfl hl.1 rfl (Nat.le_of_ble_eq_true rfl) dX1_countAfter_25 ⟨Nat.zero_le _, Nat.zero_le _⟩ (fun r_3 u H locs hp_25 hP hD hS => ?_)
  obtain ⟨Cr1_4, G1_5⟩ := u
  have hP : va_P (dC, dI) vwCl [(h0, .inr (1, [.ref hM, .ref hV, .int wd, .int hg, .int wv])), (hM, .inr (0, [.int bd, .int sb, .int nd, .ref aS, .ref aC, .ref aG])), (aS, .inl (cI, 5, .inl S0)), (aC, .inl (cI, 5, .inl Cr)), (aG, .inl (cI, 5, .inl G0)), (hV, .inr (0, [.int bd, .int sb, .int nd, .ref bS, .ref bC, .ref bG])), (bS, .inl (cI, 5, .inl (pIt bd sb q0 (pDye (zfill S0 S2 5) z0 col) nw))), (bC, .inl (cI, 5, .inl Cr1_4)), (bG, .inl (cI, 5, .inl G1_5))] H := hP
  have hD : va_D A [(h0, .inr (1, [.ref hM, .ref hV, .int wd, .int hg, .int wv])), (hM, .inr (0, [.int bd, .int sb, .int nd, .ref aS, .ref aC, .ref aG])), (aS, .inl (cI, 5, .inl S0)), (aC, .inl (cI, 5, .inl Cr)), (aG, .inl (cI, 5, .inl G0)), (hV, .inr (0, [.int bd, .int sb, .int nd, .ref bS, .ref bC, .ref bG])), (bS, .inl (cI, 5, .inl (pIt bd sb q0 (pDye (zfill S0 S2 5) z0 col) nw))), (bC, .inl (cI, 5, .inl Cr1_4)), (bG, .inl (cI, 5, .inl G1_5))] := hD
  have hp_25 : r_3 = pLast bd sb q0 (pDye (zfill S0 S2 5) z0 col) nw := hp_25
  refine z_topi (y := pLast bd sb q0 (pDye (zfill S0 S2 5) z0 col) nw) hp_25 ?_
  refine lv_pop hx hb dX1_countAfter_28 rfl ?_
  refine lv_aload_n hx hb dX1_countAfter_29 rfl (lv_at hl 0 rfl) ?_
  refine va_get (D := (dC, dI)) (ci := 1) (v := .ref hV) (C := RX1) (T := TX1) (N := 5) hx hb hts iX1_countAfter_X1 hown hK hP 0 rfl rfl 1 (by decide) (hts (.fieldLink RX1 16 "ColourTide" "trial" "LColourTide$Tide;") (List.mem_of_getElem? (i := 1) rfl)) (fun _ h9 => h9) rfl dX1_countAfter_30 ?_
  refine lv_iload_n hx hb dX1_countAfter_33 rfl (lv_at hl 2 rfl) ?_
  refine z_callVi (As := [.int col]) (rest := []) F9 (m_X0_count l dC dI cI cZ cJ cD hV bS bC bG bd sb nd (pIt bd sb q0 (pDye (zfill S0 S2 5) z0 col) nw) Cr1_4 G1_5 col ) (cwV 1 hts gX1_countAfter_X0_count rfl rfl rfl (by decide +kernel) ⟨Nat.le_of_ble_eq_true rfl, Nat.le_of_ble_eq_true rfl⟩) hK hN hP hD hS hA [5, 6, 7, 8] rfl rfl (fun _ => rfl) 5 (ci := 0) rfl rfl rfl rfl hl.1 rfl (Nat.le_of_ble_eq_true rfl) dX1_countAfter_34 ⟨Nat.zero_le _, Nat.zero_le _⟩ (fun r_6 u H locs hp_34 hP hD hS => ?_)
  have hP : va_P (dC, dI) vwCl [(h0, .inr (1, [.ref hM, .ref hV, .int wd, .int hg, .int wv])), (hM, .inr (0, [.int bd, .int sb, .int nd, .ref aS, .ref aC, .ref aG])), (aS, .inl (cI, 5, .inl S0)), (aC, .inl (cI, 5, .inl Cr)), (aG, .inl (cI, 5, .inl G0)), (hV, .inr (0, [.int bd, .int sb, .int nd, .ref bS, .ref bC, .ref bG])), (bS, .inl (cI, 5, .inl (pIt bd sb q0 (pDye (zfill S0 S2 5) z0 col) nw))), (bC, .inl (cI, 5, .inl Cr1_4)), (bG, .inl (cI, 5, .inl G1_5))] H := hP
  have hD : va_D A [(h0, .inr (1, [.ref hM, .ref hV, .int wd, .int hg, .int wv])), (hM, .inr (0, [.int bd, .int sb, .int nd, .ref aS, .ref aC, .ref aG])), (aS, .inl (cI, 5, .inl S0)), (aC, .inl (cI, 5, .inl Cr)), (aG, .inl (cI, 5, .inl G0)), (hV, .inr (0, [.int bd, .int sb, .int nd, .ref bS, .ref bC, .ref bG])), (bS, .inl (cI, 5, .inl (pIt bd sb q0 (pDye (zfill S0 S2 5) z0 col) nw))), (bC, .inl (cI, 5, .inl Cr1_4)), (bG, .inl (cI, 5, .inl G1_5))] := hD
  have hp_34 : r_6 = pBC (pCW (pIt bd sb q0 (pDye (zfill S0 S2 5) z0 col) nw) col) := hp_34
  refine z_topi (y := pBC (pCW (pIt bd sb q0 (pDye (zfill S0 S2 5) z0 col) nw) col)) hp_34 ?_
  rw [← hQ]
  exact z_iret (W1 := (fun (u : Int32 × Int32 × Int32 × (Nat → Int32) × (Nat → Int32) × (Nat → Int32)) => [(h0, .inr (1, [.ref hM, .ref hV, .int wd, .int hg, .int wv])), (hM, .inr (0, [.int bd, .int sb, .int nd, .ref aS, .ref aC, .ref aG])), (aS, .inl (cI, 5, .inl S0)), (aC, .inl (cI, 5, .inl Cr)), (aG, .inl (cI, 5, .inl G0)), (hV, .inr (0, [.int u.1, .int u.2.1, .int u.2.2.1, .ref bS, .ref bC, .ref bG])), (bS, .inl (cI, 5, .inl u.2.2.2.1)), (bC, .inl (cI, 5, .inl u.2.2.2.2.1)), (bG, .inl (cI, 5, .inl u.2.2.2.2.2))])) hx hb hr hlocks hP hS (bd, sb, nd, (pIt bd sb q0 (pDye (zfill S0 S2 5) z0 col) nw), Cr1_4, G1_5) (rfl) (by rw [pTr_CW]; rfl) dX1_countAfter_37
abbrev rmX1_winsWith : Room := { frames := 4, cells := 0, slots := 0, locals := 94 }
set_option maxRecDepth 20000 in
theorem iX1_winsWith_X0 : ∀ w ∈ wsX00, w ∈ wsX1_winsWith := fun w h => (goodIn_r (big := wsX1_winsWith) wsX00 [50, 51, 52, 53, 54, 55] (by decide +kernel) (by decide +kernel) w h).1
set_option maxRecDepth 20000 in
theorem iX1_winsWith_X1 : ∀ w ∈ wsX10, w ∈ wsX1_winsWith := fun w h => (goodIn_r (big := wsX1_winsWith) wsX10 [45, 46, 47, 48, 49] (by decide +kernel) (by decide +kernel) w h).1
set_option maxHeartbeats 4000000 in
set_option maxRecDepth 100000 in
theorem m_X1_winsWith (l : Launch) (dC : Nat → ClassId) (dI : Nat → Nat → Nat) (cI cZ cJ cD : ClassId) (h0 : Nat) (hM : Nat) (aS : Nat) (aC : Nat) (aG : Nat) (hV : Nat) (bS : Nat) (bC : Nat) (bG : Nat) (wd : Int32) (hg : Int32) (wv : Int32) (bd : Int32) (sb : Int32) (nd : Int32) (S0 : Nat → Int32) (Cr : Nat → Int32) (G0 : Nat → Int32) (bd2 : Int32) (sb2 : Int32) (nd2 : Int32) (S2 : Nat → Int32) (Cr2 : Nat → Int32) (G2 : Nat → Int32) (q0 : Nat) (z0 : Int32) (col : Int32) (hq : 1 ≤ q0 ∧ q0 ≤ 4) (hnd : nd = nI q0) : zI l (dC, dI) (wT cI cZ cJ cD) yX1_winsWith wsX1_winsWith rmX1_winsWith [(h0, .inr (1, [.ref hM, .ref hV, .int wd, .int hg, .int wv])), (hM, .inr (0, [.int bd, .int sb, .int nd, .ref aS, .ref aC, .ref aG])), (aS, .inl (cI, 5, .inl S0)), (aC, .inl (cI, 5, .inl Cr)), (aG, .inl (cI, 5, .inl G0)), (hV, .inr (0, [.int bd2, .int sb2, .int nd2, .ref bS, .ref bC, .ref bG])), (bS, .inl (cI, 5, .inl S2)), (bC, .inl (cI, 5, .inl Cr2)), (bG, .inl (cI, 5, .inl G2))] [.ref h0, .int z0, .int col] (fun (u : Int32 × Int32 × Int32 × (Nat → Int32) × (Nat → Int32) × (Nat → Int32)) => [(h0, .inr (1, [.ref hM, .ref hV, .int wd, .int hg, .int wv])), (hM, .inr (0, [.int bd, .int sb, .int nd, .ref aS, .ref aC, .ref aG])), (aS, .inl (cI, 5, .inl S0)), (aC, .inl (cI, 5, .inl Cr)), (aG, .inl (cI, 5, .inl G0)), (hV, .inr (0, [.int u.1, .int u.2.1, .int u.2.2.1, .ref bS, .ref bC, .ref bG])), (bS, .inl (cI, 5, .inl u.2.2.2.1)), (bC, .inl (cI, 5, .inl u.2.2.2.2.1)), (bG, .inl (cI, 5, .inl u.2.2.2.2.2))]) (fun (r : Int32) (u : Int32 × Int32 × Int32 × (Nat → Int32) × (Nat → Int32) × (Nat → Int32)) => r = if pWin S0 bd sb q0 z0 col then 1 else 0) := by
  intro sz
  refine Met.ofW (cc := cX1_winsWith) (maxL := 3) (ret := (some .boolean)) (by decide) rfl ?_
  intro p e s m args below meth c s₁ B hml hv
  obtain ⟨ha, hsz, hP, hK, hD0, hN⟩ := hv
  have hx := B.exec
  have hb := B.bytes
  have hr := B.returns
  have hts := atoms_spec (ws := wsX1_winsWith) B.pre
  have hown : s.vm.findClass RX1 = some m.cls := findClass_of_methodNamed B.named
  have hlocks := B.notSynchronized
  subst hsz
  have hD := hD0.self (sz := s.heap.size)
  generalize hAe : va_A [(h0, .inr (1, [.ref hM, .ref hV, .int wd, .int hg, .int wv])), (hM, .inr (0, [.int bd, .int sb, .int nd, .ref aS, .ref aC, .ref aG])), (aS, .inl (cI, 5, .inl S0)), (aC, .inl (cI, 5, .inl Cr)), (aG, .inl (cI, 5, .inl G0)), (hV, .inr (0, [.int bd2, .int sb2, .int nd2, .ref bS, .ref bC, .ref bG])), (bS, .inl (cI, 5, .inl S2)), (bC, .inl (cI, 5, .inl Cr2)), (bG, .inl (cI, 5, .inl G2))] s.heap.size = A at hD ⊢
  have hA : ∀ q : Nat, s.heap.size ≤ q → A q := fun q h => by rw [← hAe]; exact Or.inr h
  have hS : va_S A s.heap s.heap [] := va_S.rf
  generalize hQ : MQ below (va_Qi (fun (r : Int32) (u : Int32 × Int32 × Int32 × (Nat → Int32) × (Nat → Int32) × (Nat → Int32)) => r = if pWin S0 bd sb q0 z0 col then 1 else 0) (fun u t => va_P (dC, dI) vwCl ((fun (u : Int32 × Int32 × Int32 × (Nat → Int32) × (Nat → Int32) × (Nat → Int32)) => [(h0, .inr (1, [.ref hM, .ref hV, .int wd, .int hg, .int wv])), (hM, .inr (0, [.int bd, .int sb, .int nd, .ref aS, .ref aC, .ref aG])), (aS, .inl (cI, 5, .inl S0)), (aC, .inl (cI, 5, .inl Cr)), (aG, .inl (cI, 5, .inl G0)), (hV, .inr (0, [.int u.1, .int u.2.1, .int u.2.2.1, .ref bS, .ref bC, .ref bG])), (bS, .inl (cI, 5, .inl u.2.2.2.1)), (bC, .inl (cI, 5, .inl u.2.2.2.2.1)), (bG, .inl (cI, 5, .inl u.2.2.2.2.2))]) u) t.heap) A) args s 0 0 A = Q
  have F9 : CallFix p m c cX1_winsWith 3 s args wsX1_winsWith RX1 := ⟨hx, hb, hml, hown, hts⟩
  refine z_entry (R := rmX1_winsWith) ha (Nat.le_of_ble_eq_true rfl) (fun ls hl => ?_)
  have hl : lv_has ls 3 [(0, .ref h0), (1, .int z0), (2, .int col)] := hl
  refine lv_aload_n hx hb dX1_winsWith_0 rfl (lv_at hl 0 rfl) ?_
  refine va_get (D := (dC, dI)) (ci := 1) (v := .ref hV) (C := RX1) (T := TX1) (N := 5) hx hb hts iX1_winsWith_X1 hown hK hP 0 rfl rfl 1 (by decide) (hts (.fieldLink RX1 16 "ColourTide" "trial" "LColourTide$Tide;") (List.mem_of_getElem? (i := 1) rfl)) (fun _ h9 => h9) rfl dX1_winsWith_1 ?_
  refine lv_aload_n hx hb dX1_winsWith_4 rfl (lv_at hl 0 rfl) ?_
  refine va_get (D := (dC, dI)) (ci := 1) (v := .ref hM) (C := RX1) (T := TX1) (N := 5) hx hb hts iX1_winsWith_X1 hown hK hP 0 rfl rfl 0 (by decide) (hts (.fieldLink RX1 12 "ColourTide" "map" "LColourTide$Tide;") (List.mem_of_getElem? (i := 2) rfl)) (fun _ h9 => h9) rfl dX1_winsWith_5 ?_
  refine z_callVv (As := [.ref hM]) (rest := []) F9 (m_X0_copyFrom l dC dI cI cZ cJ cD hV bS bC bG bd2 sb2 nd2 S2 Cr2 G2 hM aS aC aG bd sb nd S0 Cr G0 ) (cwV 1 hts gX1_winsWith_X0_copyFrom rfl rfl rfl (by decide +kernel) ⟨Nat.le_of_ble_eq_true rfl, Nat.le_of_ble_eq_true rfl⟩) hK hN hP hD hS hA [5, 6, 7, 8, 1, 2, 3, 4] rfl rfl (fun _ => rfl) 5 (ci := 0) rfl rfl rfl rfl hl.1 rfl (Nat.le_of_ble_eq_true rfl) dX1_winsWith_8 ⟨Nat.zero_le _, Nat.zero_le _⟩ (fun u H locs hp_8 hP hD hS => ?_)
  have hP : va_P (dC, dI) vwCl [(h0, .inr (1, [.ref hM, .ref hV, .int wd, .int hg, .int wv])), (hM, .inr (0, [.int bd, .int sb, .int nd, .ref aS, .ref aC, .ref aG])), (aS, .inl (cI, 5, .inl S0)), (aC, .inl (cI, 5, .inl Cr)), (aG, .inl (cI, 5, .inl G0)), (hV, .inr (0, [.int bd, .int sb, .int nd, .ref bS, .ref bC, .ref bG])), (bS, .inl (cI, 5, .inl (zfill S0 S2 5))), (bC, .inl (cI, 5, .inl Cr2)), (bG, .inl (cI, 5, .inl G2))] H := hP
  have hD : va_D A [(h0, .inr (1, [.ref hM, .ref hV, .int wd, .int hg, .int wv])), (hM, .inr (0, [.int bd, .int sb, .int nd, .ref aS, .ref aC, .ref aG])), (aS, .inl (cI, 5, .inl S0)), (aC, .inl (cI, 5, .inl Cr)), (aG, .inl (cI, 5, .inl G0)), (hV, .inr (0, [.int bd, .int sb, .int nd, .ref bS, .ref bC, .ref bG])), (bS, .inl (cI, 5, .inl (zfill S0 S2 5))), (bC, .inl (cI, 5, .inl Cr2)), (bG, .inl (cI, 5, .inl G2))] := hD
  refine lv_aload_n hx hb dX1_winsWith_11 rfl (lv_at hl 0 rfl) ?_
  refine va_get (D := (dC, dI)) (ci := 1) (v := .ref hV) (C := RX1) (T := TX1) (N := 5) hx hb hts iX1_winsWith_X1 hown hK hP 0 rfl rfl 1 (by decide) (hts (.fieldLink RX1 16 "ColourTide" "trial" "LColourTide$Tide;") (List.mem_of_getElem? (i := 1) rfl)) (fun _ h9 => h9) rfl dX1_winsWith_12 ?_
  refine lv_iload_n hx hb dX1_winsWith_15 rfl (lv_at hl 1 rfl) ?_
  refine lv_iload_n hx hb dX1_winsWith_16 rfl (lv_at hl 2 rfl) ?_
  refine z_callVv (As := [.int z0, .int col]) (rest := []) F9 (m_X0_dye l dC dI cI cZ cJ cD hV bS bC bG bd sb nd (zfill S0 S2 5) Cr2 G2 z0 col ) (cwV 2 hts gX1_winsWith_X0_dye rfl rfl rfl (by decide +kernel) ⟨Nat.le_of_ble_eq_true rfl, Nat.le_of_ble_eq_true rfl⟩) hK hN hP hD hS hA [5, 6, 7, 8] rfl rfl (fun _ => rfl) 5 (ci := 0) rfl rfl rfl rfl hl.1 rfl (Nat.le_of_ble_eq_true rfl) dX1_winsWith_17 ⟨Nat.zero_le _, Nat.zero_le _⟩ (fun u H locs hp_17 hP hD hS => ?_)
  have hP : va_P (dC, dI) vwCl [(h0, .inr (1, [.ref hM, .ref hV, .int wd, .int hg, .int wv])), (hM, .inr (0, [.int bd, .int sb, .int nd, .ref aS, .ref aC, .ref aG])), (aS, .inl (cI, 5, .inl S0)), (aC, .inl (cI, 5, .inl Cr)), (aG, .inl (cI, 5, .inl G0)), (hV, .inr (0, [.int bd, .int sb, .int nd, .ref bS, .ref bC, .ref bG])), (bS, .inl (cI, 5, .inl (pDye (zfill S0 S2 5) z0 col))), (bC, .inl (cI, 5, .inl Cr2)), (bG, .inl (cI, 5, .inl G2))] H := hP
  have hD : va_D A [(h0, .inr (1, [.ref hM, .ref hV, .int wd, .int hg, .int wv])), (hM, .inr (0, [.int bd, .int sb, .int nd, .ref aS, .ref aC, .ref aG])), (aS, .inl (cI, 5, .inl S0)), (aC, .inl (cI, 5, .inl Cr)), (aG, .inl (cI, 5, .inl G0)), (hV, .inr (0, [.int bd, .int sb, .int nd, .ref bS, .ref bC, .ref bG])), (bS, .inl (cI, 5, .inl (pDye (zfill S0 S2 5) z0 col))), (bC, .inl (cI, 5, .inl Cr2)), (bG, .inl (cI, 5, .inl G2))] := hD
  refine lv_aload_n hx hb dX1_winsWith_20 rfl (lv_at hl 0 rfl) ?_
  refine va_get (D := (dC, dI)) (ci := 1) (v := .ref hV) (C := RX1) (T := TX1) (N := 5) hx hb hts iX1_winsWith_X1 hown hK hP 0 rfl rfl 1 (by decide) (hts (.fieldLink RX1 16 "ColourTide" "trial" "LColourTide$Tide;") (List.mem_of_getElem? (i := 1) rfl)) (fun _ h9 => h9) rfl dX1_winsWith_21 ?_
  refine lv_bipush (v := 8) hx hb dX1_winsWith_24 (by decide +kernel) ?_
  refine z_callVi (As := [.int 8]) (rest := []) F9 (m_X0_surge l dC dI cI cZ cJ cD hV bS bC bG bd sb nd (pDye (zfill S0 S2 5) z0 col) Cr2 G2 q0 8 (hq) (hnd) (by decide)) (cwV 1 hts gX1_winsWith_X0_surge rfl rfl rfl (by decide +kernel) ⟨Nat.le_of_ble_eq_true rfl, Nat.le_of_ble_eq_true rfl⟩) hK hN hP hD hS hA [5, 6, 7, 8] rfl rfl (fun _ => rfl) 5 (ci := 0) rfl rfl rfl rfl hl.1 rfl (Nat.le_of_ble_eq_true rfl) dX1_winsWith_26 ⟨Nat.zero_le _, Nat.zero_le _⟩ (fun r_3 u H locs hp_26 hP hD hS => ?_)
  obtain ⟨Cr1_4, G1_5⟩ := u
  have hP : va_P (dC, dI) vwCl [(h0, .inr (1, [.ref hM, .ref hV, .int wd, .int hg, .int wv])), (hM, .inr (0, [.int bd, .int sb, .int nd, .ref aS, .ref aC, .ref aG])), (aS, .inl (cI, 5, .inl S0)), (aC, .inl (cI, 5, .inl Cr)), (aG, .inl (cI, 5, .inl G0)), (hV, .inr (0, [.int bd, .int sb, .int nd, .ref bS, .ref bC, .ref bG])), (bS, .inl (cI, 5, .inl (pIt bd sb q0 (pDye (zfill S0 S2 5) z0 col) 8))), (bC, .inl (cI, 5, .inl Cr1_4)), (bG, .inl (cI, 5, .inl G1_5))] H := hP
  have hD : va_D A [(h0, .inr (1, [.ref hM, .ref hV, .int wd, .int hg, .int wv])), (hM, .inr (0, [.int bd, .int sb, .int nd, .ref aS, .ref aC, .ref aG])), (aS, .inl (cI, 5, .inl S0)), (aC, .inl (cI, 5, .inl Cr)), (aG, .inl (cI, 5, .inl G0)), (hV, .inr (0, [.int bd, .int sb, .int nd, .ref bS, .ref bC, .ref bG])), (bS, .inl (cI, 5, .inl (pIt bd sb q0 (pDye (zfill S0 S2 5) z0 col) 8))), (bC, .inl (cI, 5, .inl Cr1_4)), (bG, .inl (cI, 5, .inl G1_5))] := hD
  have hp_26 : r_3 = pLast bd sb q0 (pDye (zfill S0 S2 5) z0 col) 8 := hp_26
  refine z_topi (y := pLast bd sb q0 (pDye (zfill S0 S2 5) z0 col) 8) hp_26 ?_
  refine lv_pop hx hb dX1_winsWith_29 rfl ?_
  refine lv_aload_n hx hb dX1_winsWith_30 rfl (lv_at hl 0 rfl) ?_
  refine va_get (D := (dC, dI)) (ci := 1) (v := .ref hV) (C := RX1) (T := TX1) (N := 5) hx hb hts iX1_winsWith_X1 hown hK hP 0 rfl rfl 1 (by decide) (hts (.fieldLink RX1 16 "ColourTide" "trial" "LColourTide$Tide;") (List.mem_of_getElem? (i := 1) rfl)) (fun _ h9 => h9) rfl dX1_winsWith_31 ?_
  refine lv_iload_n hx hb dX1_winsWith_34 rfl (lv_at hl 2 rfl) ?_
  refine z_callVi (As := [.int col]) (rest := []) F9 (m_X0_isAll l dC dI cI cZ cJ cD hV bS bC bG bd sb nd (pIt bd sb q0 (pDye (zfill S0 S2 5) z0 col) 8) Cr1_4 G1_5 col ) (cwV 1 hts gX1_winsWith_X0_isAll rfl rfl rfl (by decide +kernel) ⟨Nat.le_of_ble_eq_true rfl, Nat.le_of_ble_eq_true rfl⟩) hK hN hP hD hS hA [5, 6, 7, 8] rfl rfl (fun _ => rfl) 5 (ci := 0) rfl rfl rfl rfl hl.1 rfl (Nat.le_of_ble_eq_true rfl) dX1_winsWith_35 ⟨Nat.zero_le _, Nat.zero_le _⟩ (fun r_6 u H locs hp_35 hP hD hS => ?_)
  have hP : va_P (dC, dI) vwCl [(h0, .inr (1, [.ref hM, .ref hV, .int wd, .int hg, .int wv])), (hM, .inr (0, [.int bd, .int sb, .int nd, .ref aS, .ref aC, .ref aG])), (aS, .inl (cI, 5, .inl S0)), (aC, .inl (cI, 5, .inl Cr)), (aG, .inl (cI, 5, .inl G0)), (hV, .inr (0, [.int bd, .int sb, .int nd, .ref bS, .ref bC, .ref bG])), (bS, .inl (cI, 5, .inl (pIt bd sb q0 (pDye (zfill S0 S2 5) z0 col) 8))), (bC, .inl (cI, 5, .inl Cr1_4)), (bG, .inl (cI, 5, .inl G1_5))] H := hP
  have hD : va_D A [(h0, .inr (1, [.ref hM, .ref hV, .int wd, .int hg, .int wv])), (hM, .inr (0, [.int bd, .int sb, .int nd, .ref aS, .ref aC, .ref aG])), (aS, .inl (cI, 5, .inl S0)), (aC, .inl (cI, 5, .inl Cr)), (aG, .inl (cI, 5, .inl G0)), (hV, .inr (0, [.int bd, .int sb, .int nd, .ref bS, .ref bC, .ref bG])), (bS, .inl (cI, 5, .inl (pIt bd sb q0 (pDye (zfill S0 S2 5) z0 col) 8))), (bC, .inl (cI, 5, .inl Cr1_4)), (bG, .inl (cI, 5, .inl G1_5))] := hD
  have hp_35 : r_6 = if pCW (pIt bd sb q0 (pDye (zfill S0 S2 5) z0 col) 8) col = bd then 1 else 0 := hp_35
  refine z_topi (y := if pCW (pIt bd sb q0 (pDye (zfill S0 S2 5) z0 col) 8) col = bd then 1 else 0) hp_35 ?_
  rw [← hQ]
  exact z_zret (W1 := (fun (u : Int32 × Int32 × Int32 × (Nat → Int32) × (Nat → Int32) × (Nat → Int32)) => [(h0, .inr (1, [.ref hM, .ref hV, .int wd, .int hg, .int wv])), (hM, .inr (0, [.int bd, .int sb, .int nd, .ref aS, .ref aC, .ref aG])), (aS, .inl (cI, 5, .inl S0)), (aC, .inl (cI, 5, .inl Cr)), (aG, .inl (cI, 5, .inl G0)), (hV, .inr (0, [.int u.1, .int u.2.1, .int u.2.2.1, .ref bS, .ref bC, .ref bG])), (bS, .inl (cI, 5, .inl u.2.2.2.1)), (bC, .inl (cI, 5, .inl u.2.2.2.2.1)), (bG, .inl (cI, 5, .inl u.2.2.2.2.2))])) hx hb hr hlocks (z_narif) hP hS (bd, sb, nd, (pIt bd sb q0 (pDye (zfill S0 S2 5) z0 col) 8), Cr1_4, G1_5) (rfl) (by rw [pTr_CW]) dX1_winsWith_38
abbrev rmX1_winsWithOneSeed : Room := { frames := 5, cells := 0, slots := 0, locals := 116 }
set_option maxRecDepth 20000 in
theorem iX1_winsWithOneSeed_X0 : ∀ w ∈ wsX00, w ∈ wsX1_winsWithOneSeed := fun w h => (goodIn_r (big := wsX1_winsWithOneSeed) wsX00 [56, 57, 58, 59, 60, 61] (by decide +kernel) (by decide +kernel) w h).1
set_option maxRecDepth 20000 in
theorem iX1_winsWithOneSeed_X1 : ∀ w ∈ wsX10, w ∈ wsX1_winsWithOneSeed := fun w h => (goodIn_r (big := wsX1_winsWithOneSeed) wsX10 [51, 52, 53, 54, 55] (by decide +kernel) (by decide +kernel) w h).1
set_option maxHeartbeats 4000000 in
set_option maxRecDepth 100000 in
theorem m_X1_winsWithOneSeed (l : Launch) (dC : Nat → ClassId) (dI : Nat → Nat → Nat) (cI cZ cJ cD : ClassId) (h0 : Nat) (hM : Nat) (aS : Nat) (aC : Nat) (aG : Nat) (hV : Nat) (bS : Nat) (bC : Nat) (bG : Nat) (wd : Int32) (hg : Int32) (wv : Int32) (bd : Int32) (sb : Int32) (nd : Int32) (S0 : Nat → Int32) (Cr : Nat → Int32) (G0 : Nat → Int32) (bd2 : Int32) (sb2 : Int32) (nd2 : Int32) (S2 : Nat → Int32) (Cr2 : Nat → Int32) (G2 : Nat → Int32) (q0 : Nat) (col : Int32) (hq : 1 ≤ q0 ∧ q0 ≤ 4) (hnd : nd = nI q0) : zI l (dC, dI) (wT cI cZ cJ cD) yX1_winsWithOneSeed wsX1_winsWithOneSeed rmX1_winsWithOneSeed [(h0, .inr (1, [.ref hM, .ref hV, .int wd, .int hg, .int wv])), (hM, .inr (0, [.int bd, .int sb, .int nd, .ref aS, .ref aC, .ref aG])), (aS, .inl (cI, 5, .inl S0)), (aC, .inl (cI, 5, .inl Cr)), (aG, .inl (cI, 5, .inl G0)), (hV, .inr (0, [.int bd2, .int sb2, .int nd2, .ref bS, .ref bC, .ref bG])), (bS, .inl (cI, 5, .inl S2)), (bC, .inl (cI, 5, .inl Cr2)), (bG, .inl (cI, 5, .inl G2))] [.ref h0, .int col] (fun (u : Int32 × Int32 × Int32 × (Nat → Int32) × (Nat → Int32) × (Nat → Int32)) => [(h0, .inr (1, [.ref hM, .ref hV, .int wd, .int hg, .int wv])), (hM, .inr (0, [.int bd, .int sb, .int nd, .ref aS, .ref aC, .ref aG])), (aS, .inl (cI, 5, .inl S0)), (aC, .inl (cI, 5, .inl Cr)), (aG, .inl (cI, 5, .inl G0)), (hV, .inr (0, [.int u.1, .int u.2.1, .int u.2.2.1, .ref bS, .ref bC, .ref bG])), (bS, .inl (cI, 5, .inl u.2.2.2.1)), (bC, .inl (cI, 5, .inl u.2.2.2.2.1)), (bG, .inl (cI, 5, .inl u.2.2.2.2.2))]) (fun (r : Int32) (u : Int32 × Int32 × Int32 × (Nat → Int32) × (Nat → Int32) × (Nat → Int32)) => (r = 1 ∧ ∃ j, j < 30 ∧ ¬ bd &&& pSd j = 0 ∧ pWin S0 bd sb q0 (bd &&& pSd j) col) ∨ (r = 0 ∧ ∀ j, j < 30 → ¬ (¬ bd &&& pSd j = 0 ∧ pWin S0 bd sb q0 (bd &&& pSd j) col))) := by
  intro sz
  refine Met.ofW (cc := cX1_winsWithOneSeed) (maxL := 4) (ret := (some .boolean)) (by decide) rfl ?_
  intro p e s m args below meth c s₁ B hml hv
  obtain ⟨ha, hsz, hP, hK, hD0, hN⟩ := hv
  have hx := B.exec
  have hb := B.bytes
  have hr := B.returns
  have hts := atoms_spec (ws := wsX1_winsWithOneSeed) B.pre
  have hown : s.vm.findClass RX1 = some m.cls := findClass_of_methodNamed B.named
  have hlocks := B.notSynchronized
  subst hsz
  have hD := hD0.self (sz := s.heap.size)
  generalize hAe : va_A [(h0, .inr (1, [.ref hM, .ref hV, .int wd, .int hg, .int wv])), (hM, .inr (0, [.int bd, .int sb, .int nd, .ref aS, .ref aC, .ref aG])), (aS, .inl (cI, 5, .inl S0)), (aC, .inl (cI, 5, .inl Cr)), (aG, .inl (cI, 5, .inl G0)), (hV, .inr (0, [.int bd2, .int sb2, .int nd2, .ref bS, .ref bC, .ref bG])), (bS, .inl (cI, 5, .inl S2)), (bC, .inl (cI, 5, .inl Cr2)), (bG, .inl (cI, 5, .inl G2))] s.heap.size = A at hD ⊢
  have hA : ∀ q : Nat, s.heap.size ≤ q → A q := fun q h => by rw [← hAe]; exact Or.inr h
  have hS : va_S A s.heap s.heap [] := va_S.rf
  generalize hQ : MQ below (va_Qi (fun (r : Int32) (u : Int32 × Int32 × Int32 × (Nat → Int32) × (Nat → Int32) × (Nat → Int32)) => (r = 1 ∧ ∃ j, j < 30 ∧ ¬ bd &&& pSd j = 0 ∧ pWin S0 bd sb q0 (bd &&& pSd j) col) ∨ (r = 0 ∧ ∀ j, j < 30 → ¬ (¬ bd &&& pSd j = 0 ∧ pWin S0 bd sb q0 (bd &&& pSd j) col))) (fun u t => va_P (dC, dI) vwCl ((fun (u : Int32 × Int32 × Int32 × (Nat → Int32) × (Nat → Int32) × (Nat → Int32)) => [(h0, .inr (1, [.ref hM, .ref hV, .int wd, .int hg, .int wv])), (hM, .inr (0, [.int bd, .int sb, .int nd, .ref aS, .ref aC, .ref aG])), (aS, .inl (cI, 5, .inl S0)), (aC, .inl (cI, 5, .inl Cr)), (aG, .inl (cI, 5, .inl G0)), (hV, .inr (0, [.int u.1, .int u.2.1, .int u.2.2.1, .ref bS, .ref bC, .ref bG])), (bS, .inl (cI, 5, .inl u.2.2.2.1)), (bC, .inl (cI, 5, .inl u.2.2.2.2.1)), (bG, .inl (cI, 5, .inl u.2.2.2.2.2))]) u) t.heap) A) args s 0 0 A = Q
  have F9 : CallFix p m c cX1_winsWithOneSeed 4 s args wsX1_winsWithOneSeed RX1 := ⟨hx, hb, hml, hown, hts⟩
  refine z_entry (R := rmX1_winsWithOneSeed) ha (Nat.le_of_ble_eq_true rfl) (fun ls hl => ?_)
  have hl : lv_has ls 4 [(0, .ref h0), (1, .int col)] := hl
  refine lv_iconst (v := 0) hx hb dX1_winsWithOneSeed_0 (by decide) ?_
  refine lv_istore_n (lv' := [(2, .int 0), (0, .ref h0), (1, .int col)]) hx hb dX1_winsWithOneSeed_1 rfl hl (by decide) rfl (fun ls hl => ?_)
  have loop_2 : ∀ (n : Nat) (k : Nat) (bdq : Int32) (sbq : Int32) (ndq : Int32) (Sq : Nat → Int32) (Crq : Nat → Int32) (Gq : Nat → Int32) (hkn : k + n = 30) (hz : ∀ j, j < k → ¬ (¬ bd &&& pSd j = 0 ∧ pWin S0 bd sb q0 (bd &&& pSd j) col)) (H : Heap) (locs : List Loc) (ls : Array Slot) (hP : va_P (dC, dI) vwCl [(h0, .inr (1, [.ref hM, .ref hV, .int wd, .int hg, .int wv])), (hM, .inr (0, [.int bd, .int sb, .int nd, .ref aS, .ref aC, .ref aG])), (aS, .inl (cI, 5, .inl S0)), (aC, .inl (cI, 5, .inl Cr)), (aG, .inl (cI, 5, .inl G0)), (hV, .inr (0, [.int bdq, .int sbq, .int ndq, .ref bS, .ref bC, .ref bG])), (bS, .inl (cI, 5, .inl Sq)), (bC, .inl (cI, 5, .inl Crq)), (bG, .inl (cI, 5, .inl Gq))] H) (hD : va_D A [(h0, .inr (1, [.ref hM, .ref hV, .int wd, .int hg, .int wv])), (hM, .inr (0, [.int bd, .int sb, .int nd, .ref aS, .ref aC, .ref aG])), (aS, .inl (cI, 5, .inl S0)), (aC, .inl (cI, 5, .inl Cr)), (aG, .inl (cI, 5, .inl G0)), (hV, .inr (0, [.int bdq, .int sbq, .int ndq, .ref bS, .ref bC, .ref bG])), (bS, .inl (cI, 5, .inl Sq)), (bC, .inl (cI, 5, .inl Crq)), (bG, .inl (cI, 5, .inl Gq))]) (hS : va_S A s.heap H locs) (hl : lv_has ls 4 [(0, .ref h0), (1, .int col), (2, .int (nI k))]), W p l e rmX1_winsWithOneSeed s m args below meth c H locs 0 0 Q (F0 m 2 ls []) := by
    intro n
    induction n with
    | zero =>
      intro k bdq sbq ndq Sq Crq Gq hkn hz H locs ls hP hD hS hl
      refine lv_iload_n hx hb dX1_winsWithOneSeed_2 rfl (lv_at hl 2 rfl) ?_
      refine lv_bipush (v := 30) hx hb dX1_winsWithOneSeed_3 (by decide +kernel) ?_
      refine lv_icmp_ge (tgt := 41) hx hb dX1_winsWithOneSeed_5 (by decide) (fun c_5 => ?_) (fun c_5 => ?_)
      · skip
        have n_5 := zc_le_t (a := 30) (b := k) (by omega) (by omega) c_5
        refine lv_iconst (v := 0) hx hb dX1_winsWithOneSeed_41 (by decide) ?_
        rw [← hQ]
        exact z_zret (W1 := (fun (u : Int32 × Int32 × Int32 × (Nat → Int32) × (Nat → Int32) × (Nat → Int32)) => [(h0, .inr (1, [.ref hM, .ref hV, .int wd, .int hg, .int wv])), (hM, .inr (0, [.int bd, .int sb, .int nd, .ref aS, .ref aC, .ref aG])), (aS, .inl (cI, 5, .inl S0)), (aC, .inl (cI, 5, .inl Cr)), (aG, .inl (cI, 5, .inl G0)), (hV, .inr (0, [.int u.1, .int u.2.1, .int u.2.2.1, .ref bS, .ref bC, .ref bG])), (bS, .inl (cI, 5, .inl u.2.2.2.1)), (bC, .inl (cI, 5, .inl u.2.2.2.2.1)), (bG, .inl (cI, 5, .inl u.2.2.2.2.2))])) hx hb hr hlocks (by decide +kernel) hP hS (bdq, sbq, ndq, Sq, Crq, Gq) (rfl) (Or.inr ⟨rfl, fun j hj => hz j (by omega)⟩) dX1_winsWithOneSeed_42
      · skip
        have n_5 := zc_le_f (a := 30) (b := k) (by omega) (by omega) c_5
        exact absurd n_5 (by omega)
    | succ n ih_2 =>
      intro k bdq sbq ndq Sq Crq Gq hkn hz H locs ls hP hD hS hl
      refine lv_iload_n hx hb dX1_winsWithOneSeed_2 rfl (lv_at hl 2 rfl) ?_
      refine lv_bipush (v := 30) hx hb dX1_winsWithOneSeed_3 (by decide +kernel) ?_
      refine lv_icmp_ge (tgt := 41) hx hb dX1_winsWithOneSeed_5 (by decide) (fun c_5 => ?_) (fun c_5 => ?_)
      · skip
        have n_5 := zc_le_t (a := 30) (b := k) (by omega) (by omega) c_5
        exact absurd n_5 (by omega)
      · skip
        have n_5 := zc_le_f (a := 30) (b := k) (by omega) (by omega) c_5
        refine lv_aload_n hx hb dX1_winsWithOneSeed_8 rfl (lv_at hl 0 rfl) ?_
        refine va_get (D := (dC, dI)) (ci := 1) (v := .ref hM) (C := RX1) (T := TX1) (N := 5) hx hb hts iX1_winsWithOneSeed_X1 hown hK hP 0 rfl rfl 0 (by decide) (hts (.fieldLink RX1 12 "ColourTide" "map" "LColourTide$Tide;") (List.mem_of_getElem? (i := 1) rfl)) (fun _ h9 => h9) rfl dX1_winsWithOneSeed_9 ?_
        refine va_get (D := (dC, dI)) (ci := 0) (v := .int bd) (C := RX0) (T := TX0) (N := 6) hx hb hts iX1_winsWithOneSeed_X0 hown hK hP 1 rfl rfl 0 (by decide) (hts (.fieldLink RX1 173 "ColourTide$Tide" "board" "I") (List.mem_of_getElem? (i := 2) rfl)) (fun _ h9 => h9) rfl dX1_winsWithOneSeed_12 ?_
        refine lv_iconst (v := 1) hx hb dX1_winsWithOneSeed_15 (by decide) ?_
        refine lv_iload_n hx hb dX1_winsWithOneSeed_16 rfl (lv_at hl 2 rfl) ?_
        refine lv_ishl hx hb dX1_winsWithOneSeed_17 ?_
        refine z_topi (y := pSd k) (rfl) ?_
        refine lv_iand hx hb dX1_winsWithOneSeed_18 ?_
        refine lv_istore_n (lv' := [(3, .int (bd &&& (pSd k))), (0, .ref h0), (1, .int col), (2, .int (nI k))]) hx hb dX1_winsWithOneSeed_19 rfl hl (by decide) rfl (fun ls hl => ?_)
        refine lv_iload_n hx hb dX1_winsWithOneSeed_20 rfl (lv_at hl 0 rfl) ?_
        refine lv_if_eq (tgt := 35) hx hb dX1_winsWithOneSeed_21 (by decide) (fun c_21 => ?_) (fun c_21 => ?_)
        · skip
          refine lv_iinc (v := nI (k + 1)) (lv' := [(2, .int (nI (k + 1))), (3, .int (bd &&& (pSd k))), (0, .ref h0), (1, .int col)]) hx hb dX1_winsWithOneSeed_35 hl (k := 3) rfl (nI_1 k) (by decide) rfl (fun ls hl => ?_)
          refine lv_goto (tgt := 2) hx hb dX1_winsWithOneSeed_38 (by decide) ?_
          exact ih_2 (k + 1) bdq sbq ndq Sq Crq Gq (by omega) (fun j h2 => by rcases Nat.lt_succ_iff_lt_or_eq.mp h2 with h | rfl; exact hz j h; exact fun q => q.1 c_21) _ _ _ hP hD hS (lv_sub hl [2, 3, 0] rfl)
        · skip
          refine lv_aload_n hx hb dX1_winsWithOneSeed_24 rfl (lv_at hl 1 rfl) ?_
          refine lv_iload_n hx hb dX1_winsWithOneSeed_25 rfl (lv_at hl 0 rfl) ?_
          refine lv_iload_n hx hb dX1_winsWithOneSeed_26 rfl (lv_at hl 2 rfl) ?_
          refine z_callVi (As := [.int (bd &&& (pSd k)), .int col]) (rest := []) F9 (m_X1_winsWith l dC dI cI cZ cJ cD h0 hM aS aC aG hV bS bC bG wd hg wv bd sb nd S0 Cr G0 bdq sbq ndq Sq Crq Gq q0 (bd &&& (pSd k)) col (hq) (hnd)) (cwV 2 hts gX1_winsWithOneSeed_X1_winsWith rfl rfl rfl (by decide +kernel) ⟨Nat.le_of_ble_eq_true rfl, Nat.le_of_ble_eq_true rfl⟩) hK hN hP hD hS hA [0, 1, 2, 3, 4, 5, 6, 7, 8] rfl rfl (fun _ => rfl) 0 (ci := 1) rfl rfl rfl rfl hl.1 rfl (Nat.le_of_ble_eq_true rfl) dX1_winsWithOneSeed_27 ⟨Nat.zero_le _, Nat.zero_le _⟩ (fun r_1 u H locs hp_27 hP hD hS => ?_)
          obtain ⟨bdq_2, sbq_3, ndq_4, Sq_5, Crq_6, Gq_7⟩ := u
          have hP : va_P (dC, dI) vwCl [(h0, .inr (1, [.ref hM, .ref hV, .int wd, .int hg, .int wv])), (hM, .inr (0, [.int bd, .int sb, .int nd, .ref aS, .ref aC, .ref aG])), (aS, .inl (cI, 5, .inl S0)), (aC, .inl (cI, 5, .inl Cr)), (aG, .inl (cI, 5, .inl G0)), (hV, .inr (0, [.int bdq_2, .int sbq_3, .int ndq_4, .ref bS, .ref bC, .ref bG])), (bS, .inl (cI, 5, .inl Sq_5)), (bC, .inl (cI, 5, .inl Crq_6)), (bG, .inl (cI, 5, .inl Gq_7))] H := hP
          have hD : va_D A [(h0, .inr (1, [.ref hM, .ref hV, .int wd, .int hg, .int wv])), (hM, .inr (0, [.int bd, .int sb, .int nd, .ref aS, .ref aC, .ref aG])), (aS, .inl (cI, 5, .inl S0)), (aC, .inl (cI, 5, .inl Cr)), (aG, .inl (cI, 5, .inl G0)), (hV, .inr (0, [.int bdq_2, .int sbq_3, .int ndq_4, .ref bS, .ref bC, .ref bG])), (bS, .inl (cI, 5, .inl Sq_5)), (bC, .inl (cI, 5, .inl Crq_6)), (bG, .inl (cI, 5, .inl Gq_7))] := hD
          have hp_27 : r_1 = if pWin S0 bd sb q0 (bd &&& (pSd k)) col then 1 else 0 := hp_27
          refine z_topi (y := if pWin S0 bd sb q0 (bd &&& (pSd k)) col then 1 else 0) hp_27 ?_
          refine lv_if_eq (tgt := 35) hx hb dX1_winsWithOneSeed_30 (by decide) (fun c_30 => ?_) (fun c_30 => ?_)
          · skip
            refine lv_iinc (v := nI (k + 1)) (lv' := [(2, .int (nI (k + 1))), (3, .int (bd &&& (pSd k))), (0, .ref h0), (1, .int col)]) hx hb dX1_winsWithOneSeed_35 hl (k := 3) rfl (nI_1 k) (by decide) rfl (fun ls hl => ?_)
            refine lv_goto (tgt := 2) hx hb dX1_winsWithOneSeed_38 (by decide) ?_
            exact ih_2 (k + 1) bdq_2 sbq_3 ndq_4 Sq_5 Crq_6 Gq_7 (by omega) (fun j h2 => by rcases Nat.lt_succ_iff_lt_or_eq.mp h2 with h | rfl; exact hz j h; exact fun q => z_if0 c_30 q.2) _ _ _ hP hD hS (lv_sub hl [2, 3, 0] rfl)
          · skip
            refine lv_iconst (v := 1) hx hb dX1_winsWithOneSeed_33 (by decide) ?_
            rw [← hQ]
            exact z_zret (W1 := (fun (u : Int32 × Int32 × Int32 × (Nat → Int32) × (Nat → Int32) × (Nat → Int32)) => [(h0, .inr (1, [.ref hM, .ref hV, .int wd, .int hg, .int wv])), (hM, .inr (0, [.int bd, .int sb, .int nd, .ref aS, .ref aC, .ref aG])), (aS, .inl (cI, 5, .inl S0)), (aC, .inl (cI, 5, .inl Cr)), (aG, .inl (cI, 5, .inl G0)), (hV, .inr (0, [.int u.1, .int u.2.1, .int u.2.2.1, .ref bS, .ref bC, .ref bG])), (bS, .inl (cI, 5, .inl u.2.2.2.1)), (bC, .inl (cI, 5, .inl u.2.2.2.2.1)), (bG, .inl (cI, 5, .inl u.2.2.2.2.2))])) hx hb hr hlocks (by decide +kernel) hP hS (bdq_2, sbq_3, ndq_4, Sq_5, Crq_6, Gq_7) (rfl) (Or.inl ⟨rfl, k, by omega, c_21, z_if1 c_30⟩) dX1_winsWithOneSeed_34
  exact loop_2 30 0 bd2 sb2 nd2 S2 Cr2 G2 (by omega) (fun j h2 => absurd h2 (by omega)) _ _ _ hP hD hS (lv_sub hl [1, 2, 0] rfl)
abbrev rmX1_winsWithTwoSeeds : Room := { frames := 5, cells := 0, slots := 0, locals := 116 }
set_option maxRecDepth 20000 in
theorem iX1_winsWithTwoSeeds_X0 : ∀ w ∈ wsX00, w ∈ wsX1_winsWithTwoSeeds := fun w h => (goodIn_r (big := wsX1_winsWithTwoSeeds) wsX00 [56, 57, 58, 59, 60, 61] (by decide +kernel) (by decide +kernel) w h).1
set_option maxRecDepth 20000 in
theorem iX1_winsWithTwoSeeds_X1 : ∀ w ∈ wsX10, w ∈ wsX1_winsWithTwoSeeds := fun w h => (goodIn_r (big := wsX1_winsWithTwoSeeds) wsX10 [51, 52, 53, 54, 55] (by decide +kernel) (by decide +kernel) w h).1
set_option maxHeartbeats 4000000 in
set_option maxRecDepth 100000 in
theorem m_X1_winsWithTwoSeeds (l : Launch) (dC : Nat → ClassId) (dI : Nat → Nat → Nat) (cI cZ cJ cD : ClassId) (h0 : Nat) (hM : Nat) (aS : Nat) (aC : Nat) (aG : Nat) (hV : Nat) (bS : Nat) (bC : Nat) (bG : Nat) (wd : Int32) (hg : Int32) (wv : Int32) (bd : Int32) (sb : Int32) (nd : Int32) (S0 : Nat → Int32) (Cr : Nat → Int32) (G0 : Nat → Int32) (bd2 : Int32) (sb2 : Int32) (nd2 : Int32) (S2 : Nat → Int32) (Cr2 : Nat → Int32) (G2 : Nat → Int32) (q0 : Nat) (col : Int32) (hq : 1 ≤ q0 ∧ q0 ≤ 4) (hnd : nd = nI q0) : zI l (dC, dI) (wT cI cZ cJ cD) yX1_winsWithTwoSeeds wsX1_winsWithTwoSeeds rmX1_winsWithTwoSeeds [(h0, .inr (1, [.ref hM, .ref hV, .int wd, .int hg, .int wv])), (hM, .inr (0, [.int bd, .int sb, .int nd, .ref aS, .ref aC, .ref aG])), (aS, .inl (cI, 5, .inl S0)), (aC, .inl (cI, 5, .inl Cr)), (aG, .inl (cI, 5, .inl G0)), (hV, .inr (0, [.int bd2, .int sb2, .int nd2, .ref bS, .ref bC, .ref bG])), (bS, .inl (cI, 5, .inl S2)), (bC, .inl (cI, 5, .inl Cr2)), (bG, .inl (cI, 5, .inl G2))] [.ref h0, .int col] (fun (u : Int32 × Int32 × Int32 × (Nat → Int32) × (Nat → Int32) × (Nat → Int32)) => [(h0, .inr (1, [.ref hM, .ref hV, .int wd, .int hg, .int wv])), (hM, .inr (0, [.int bd, .int sb, .int nd, .ref aS, .ref aC, .ref aG])), (aS, .inl (cI, 5, .inl S0)), (aC, .inl (cI, 5, .inl Cr)), (aG, .inl (cI, 5, .inl G0)), (hV, .inr (0, [.int u.1, .int u.2.1, .int u.2.2.1, .ref bS, .ref bC, .ref bG])), (bS, .inl (cI, 5, .inl u.2.2.2.1)), (bC, .inl (cI, 5, .inl u.2.2.2.2.1)), (bG, .inl (cI, 5, .inl u.2.2.2.2.2))]) (fun (r : Int32) (u : Int32 × Int32 × Int32 × (Nat → Int32) × (Nat → Int32) × (Nat → Int32)) => (r = 1 ∧ ∃ i j, i < j ∧ j < 30 ∧ (pSd i ||| pSd j) &&& (bd ^^^ (-1)) = 0 ∧ pWin S0 bd sb q0 (pSd i ||| pSd j) col) ∨ (r = 0 ∧ ∀ i j, i < j → j < 30 → ¬ ((pSd i ||| pSd j) &&& (bd ^^^ (-1)) = 0 ∧ pWin S0 bd sb q0 (pSd i ||| pSd j) col))) := by
  intro sz
  refine Met.ofW (cc := cX1_winsWithTwoSeeds) (maxL := 5) (ret := (some .boolean)) (by decide) rfl ?_
  intro p e s m args below meth c s₁ B hml hv
  obtain ⟨ha, hsz, hP, hK, hD0, hN⟩ := hv
  have hx := B.exec
  have hb := B.bytes
  have hr := B.returns
  have hts := atoms_spec (ws := wsX1_winsWithTwoSeeds) B.pre
  have hown : s.vm.findClass RX1 = some m.cls := findClass_of_methodNamed B.named
  have hlocks := B.notSynchronized
  subst hsz
  have hD := hD0.self (sz := s.heap.size)
  generalize hAe : va_A [(h0, .inr (1, [.ref hM, .ref hV, .int wd, .int hg, .int wv])), (hM, .inr (0, [.int bd, .int sb, .int nd, .ref aS, .ref aC, .ref aG])), (aS, .inl (cI, 5, .inl S0)), (aC, .inl (cI, 5, .inl Cr)), (aG, .inl (cI, 5, .inl G0)), (hV, .inr (0, [.int bd2, .int sb2, .int nd2, .ref bS, .ref bC, .ref bG])), (bS, .inl (cI, 5, .inl S2)), (bC, .inl (cI, 5, .inl Cr2)), (bG, .inl (cI, 5, .inl G2))] s.heap.size = A at hD ⊢
  have hA : ∀ q : Nat, s.heap.size ≤ q → A q := fun q h => by rw [← hAe]; exact Or.inr h
  have hS : va_S A s.heap s.heap [] := va_S.rf
  generalize hQ : MQ below (va_Qi (fun (r : Int32) (u : Int32 × Int32 × Int32 × (Nat → Int32) × (Nat → Int32) × (Nat → Int32)) => (r = 1 ∧ ∃ i j, i < j ∧ j < 30 ∧ (pSd i ||| pSd j) &&& (bd ^^^ (-1)) = 0 ∧ pWin S0 bd sb q0 (pSd i ||| pSd j) col) ∨ (r = 0 ∧ ∀ i j, i < j → j < 30 → ¬ ((pSd i ||| pSd j) &&& (bd ^^^ (-1)) = 0 ∧ pWin S0 bd sb q0 (pSd i ||| pSd j) col))) (fun u t => va_P (dC, dI) vwCl ((fun (u : Int32 × Int32 × Int32 × (Nat → Int32) × (Nat → Int32) × (Nat → Int32)) => [(h0, .inr (1, [.ref hM, .ref hV, .int wd, .int hg, .int wv])), (hM, .inr (0, [.int bd, .int sb, .int nd, .ref aS, .ref aC, .ref aG])), (aS, .inl (cI, 5, .inl S0)), (aC, .inl (cI, 5, .inl Cr)), (aG, .inl (cI, 5, .inl G0)), (hV, .inr (0, [.int u.1, .int u.2.1, .int u.2.2.1, .ref bS, .ref bC, .ref bG])), (bS, .inl (cI, 5, .inl u.2.2.2.1)), (bC, .inl (cI, 5, .inl u.2.2.2.2.1)), (bG, .inl (cI, 5, .inl u.2.2.2.2.2))]) u) t.heap) A) args s 0 0 A = Q
  have F9 : CallFix p m c cX1_winsWithTwoSeeds 5 s args wsX1_winsWithTwoSeeds RX1 := ⟨hx, hb, hml, hown, hts⟩
  refine z_entry (R := rmX1_winsWithTwoSeeds) ha (Nat.le_of_ble_eq_true rfl) (fun ls hl => ?_)
  have hl : lv_has ls 5 [(0, .ref h0), (1, .int col)] := hl
  refine lv_iconst (v := 0) hx hb dX1_winsWithTwoSeeds_0 (by decide) ?_
  refine lv_istore_n (lv' := [(2, .int 0), (0, .ref h0), (1, .int col)]) hx hb dX1_winsWithTwoSeeds_1 rfl hl (by decide) rfl (fun ls hl => ?_)
  have loop_2 : ∀ (n : Nat) (k : Nat) (bdq : Int32) (sbq : Int32) (ndq : Int32) (Sq : Nat → Int32) (Crq : Nat → Int32) (Gq : Nat → Int32) (hkn : k + n = 30) (hz : ∀ i j, i < k → i < j → j < 30 → ¬ ((pSd i ||| pSd j) &&& (bd ^^^ (-1)) = 0 ∧ pWin S0 bd sb q0 (pSd i ||| pSd j) col)) (H : Heap) (locs : List Loc) (ls : Array Slot) (hP : va_P (dC, dI) vwCl [(h0, .inr (1, [.ref hM, .ref hV, .int wd, .int hg, .int wv])), (hM, .inr (0, [.int bd, .int sb, .int nd, .ref aS, .ref aC, .ref aG])), (aS, .inl (cI, 5, .inl S0)), (aC, .inl (cI, 5, .inl Cr)), (aG, .inl (cI, 5, .inl G0)), (hV, .inr (0, [.int bdq, .int sbq, .int ndq, .ref bS, .ref bC, .ref bG])), (bS, .inl (cI, 5, .inl Sq)), (bC, .inl (cI, 5, .inl Crq)), (bG, .inl (cI, 5, .inl Gq))] H) (hD : va_D A [(h0, .inr (1, [.ref hM, .ref hV, .int wd, .int hg, .int wv])), (hM, .inr (0, [.int bd, .int sb, .int nd, .ref aS, .ref aC, .ref aG])), (aS, .inl (cI, 5, .inl S0)), (aC, .inl (cI, 5, .inl Cr)), (aG, .inl (cI, 5, .inl G0)), (hV, .inr (0, [.int bdq, .int sbq, .int ndq, .ref bS, .ref bC, .ref bG])), (bS, .inl (cI, 5, .inl Sq)), (bC, .inl (cI, 5, .inl Crq)), (bG, .inl (cI, 5, .inl Gq))]) (hS : va_S A s.heap H locs) (hl : lv_has ls 5 [(0, .ref h0), (1, .int col), (2, .int (nI k))]), W p l e rmX1_winsWithTwoSeeds s m args below meth c H locs 0 0 Q (F0 m 2 ls []) := by
    intro n
    induction n with
    | zero =>
      intro k bdq sbq ndq Sq Crq Gq hkn hz H locs ls hP hD hS hl
      refine lv_iload_n hx hb dX1_winsWithTwoSeeds_2 rfl (lv_at hl 2 rfl) ?_
      refine lv_bipush (v := 30) hx hb dX1_winsWithTwoSeeds_3 (by decide +kernel) ?_
      refine lv_icmp_ge (tgt := 66) hx hb dX1_winsWithTwoSeeds_5 (by decide) (fun c_5 => ?_) (fun c_5 => ?_)
      · skip
        have n_5 := zc_le_t (a := 30) (b := k) (by omega) (by omega) c_5
        refine lv_iconst (v := 0) hx hb dX1_winsWithTwoSeeds_66 (by decide) ?_
        rw [← hQ]
        exact z_zret (W1 := (fun (u : Int32 × Int32 × Int32 × (Nat → Int32) × (Nat → Int32) × (Nat → Int32)) => [(h0, .inr (1, [.ref hM, .ref hV, .int wd, .int hg, .int wv])), (hM, .inr (0, [.int bd, .int sb, .int nd, .ref aS, .ref aC, .ref aG])), (aS, .inl (cI, 5, .inl S0)), (aC, .inl (cI, 5, .inl Cr)), (aG, .inl (cI, 5, .inl G0)), (hV, .inr (0, [.int u.1, .int u.2.1, .int u.2.2.1, .ref bS, .ref bC, .ref bG])), (bS, .inl (cI, 5, .inl u.2.2.2.1)), (bC, .inl (cI, 5, .inl u.2.2.2.2.1)), (bG, .inl (cI, 5, .inl u.2.2.2.2.2))])) hx hb hr hlocks (by decide +kernel) hP hS (bdq, sbq, ndq, Sq, Crq, Gq) (rfl) (Or.inr ⟨rfl, fun i j h1 h2 => hz i j (by omega) h1 h2⟩) dX1_winsWithTwoSeeds_67
      · skip
        have n_5 := zc_le_f (a := 30) (b := k) (by omega) (by omega) c_5
        exact absurd n_5 (by omega)
    | succ n ih_2 =>
      intro k bdq sbq ndq Sq Crq Gq hkn hz H locs ls hP hD hS hl
      refine lv_iload_n hx hb dX1_winsWithTwoSeeds_2 rfl (lv_at hl 2 rfl) ?_
      refine lv_bipush (v := 30) hx hb dX1_winsWithTwoSeeds_3 (by decide +kernel) ?_
      refine lv_icmp_ge (tgt := 66) hx hb dX1_winsWithTwoSeeds_5 (by decide) (fun c_5 => ?_) (fun c_5 => ?_)
      · skip
        have n_5 := zc_le_t (a := 30) (b := k) (by omega) (by omega) c_5
        exact absurd n_5 (by omega)
      · skip
        have n_5 := zc_le_f (a := 30) (b := k) (by omega) (by omega) c_5
        refine lv_iload_n hx hb dX1_winsWithTwoSeeds_8 rfl (lv_at hl 2 rfl) ?_
        refine lv_iconst (v := 1) hx hb dX1_winsWithTwoSeeds_9 (by decide) ?_
        refine lv_iadd hx hb dX1_winsWithTwoSeeds_10 ?_
        refine z_topi (y := nI (k + 1)) (nI_add k 1) ?_
        refine lv_istore_n (lv' := [(3, .int (nI (k + 1))), (0, .ref h0), (1, .int col), (2, .int (nI k))]) hx hb dX1_winsWithTwoSeeds_11 rfl hl (by decide) rfl (fun ls hl => ?_)
        have loop_12 : ∀ (n : Nat) (t : Nat) (bdq : Int32) (sbq : Int32) (ndq : Int32) (Sq : Nat → Int32) (Crq : Nat → Int32) (Gq : Nat → Int32) (hkn : t + n = 30) (ht : k < t) (hy : ∀ j, k < j → j < t → ¬ ((pSd k ||| pSd j) &&& (bd ^^^ (-1)) = 0 ∧ pWin S0 bd sb q0 (pSd k ||| pSd j) col)) (H : Heap) (locs : List Loc) (ls : Array Slot) (hP : va_P (dC, dI) vwCl [(h0, .inr (1, [.ref hM, .ref hV, .int wd, .int hg, .int wv])), (hM, .inr (0, [.int bd, .int sb, .int nd, .ref aS, .ref aC, .ref aG])), (aS, .inl (cI, 5, .inl S0)), (aC, .inl (cI, 5, .inl Cr)), (aG, .inl (cI, 5, .inl G0)), (hV, .inr (0, [.int bdq, .int sbq, .int ndq, .ref bS, .ref bC, .ref bG])), (bS, .inl (cI, 5, .inl Sq)), (bC, .inl (cI, 5, .inl Crq)), (bG, .inl (cI, 5, .inl Gq))] H) (hD : va_D A [(h0, .inr (1, [.ref hM, .ref hV, .int wd, .int hg, .int wv])), (hM, .inr (0, [.int bd, .int sb, .int nd, .ref aS, .ref aC, .ref aG])), (aS, .inl (cI, 5, .inl S0)), (aC, .inl (cI, 5, .inl Cr)), (aG, .inl (cI, 5, .inl G0)), (hV, .inr (0, [.int bdq, .int sbq, .int ndq, .ref bS, .ref bC, .ref bG])), (bS, .inl (cI, 5, .inl Sq)), (bC, .inl (cI, 5, .inl Crq)), (bG, .inl (cI, 5, .inl Gq))]) (hS : va_S A s.heap H locs) (hl : lv_has ls 5 [(0, .ref h0), (1, .int col), (2, .int (nI k)), (3, .int (nI t))]), W p l e rmX1_winsWithTwoSeeds s m args below meth c H locs 0 0 Q (F0 m 12 ls []) := by
          intro n
          induction n with
          | zero =>
            intro t bdq sbq ndq Sq Crq Gq hkn ht hy H locs ls hP hD hS hl
            refine lv_iload_n hx hb dX1_winsWithTwoSeeds_12 rfl (lv_at hl 3 rfl) ?_
            refine lv_bipush (v := 30) hx hb dX1_winsWithTwoSeeds_13 (by decide +kernel) ?_
            refine lv_icmp_ge (tgt := 60) hx hb dX1_winsWithTwoSeeds_15 (by decide) (fun c_15 => ?_) (fun c_15 => ?_)
            · skip
              have n_15 := zc_le_t (a := 30) (b := t) (by omega) (by omega) c_15
              refine lv_iinc (v := nI (k + 1)) (lv' := [(2, .int (nI (k + 1))), (0, .ref h0), (1, .int col), (3, .int (nI t))]) hx hb dX1_winsWithTwoSeeds_60 hl (k := 2) rfl (nI_1 k) (by decide) rfl (fun ls hl => ?_)
              refine lv_goto (tgt := 2) hx hb dX1_winsWithTwoSeeds_63 (by decide) ?_
              exact ih_2 (k + 1) bdq sbq ndq Sq Crq Gq (by omega) (fun i j h2 h3 h4 => by rcases Nat.lt_succ_iff_lt_or_eq.mp h2 with h | rfl; exact hz i j h h3 h4; exact hy j h3 (by omega)) _ _ _ hP hD hS (lv_sub hl [1, 2, 0] rfl)
            · skip
              have n_15 := zc_le_f (a := 30) (b := t) (by omega) (by omega) c_15
              exact absurd n_15 (by omega)
          | succ n ih_12 =>
            intro t bdq sbq ndq Sq Crq Gq hkn ht hy H locs ls hP hD hS hl
            refine lv_iload_n hx hb dX1_winsWithTwoSeeds_12 rfl (lv_at hl 3 rfl) ?_
            refine lv_bipush (v := 30) hx hb dX1_winsWithTwoSeeds_13 (by decide +kernel) ?_
            refine lv_icmp_ge (tgt := 60) hx hb dX1_winsWithTwoSeeds_15 (by decide) (fun c_15 => ?_) (fun c_15 => ?_)
            · skip
              have n_15 := zc_le_t (a := 30) (b := t) (by omega) (by omega) c_15
              exact absurd n_15 (by omega)
            · skip
              have n_15 := zc_le_f (a := 30) (b := t) (by omega) (by omega) c_15
              refine lv_iconst (v := 1) hx hb dX1_winsWithTwoSeeds_18 (by decide) ?_
              refine lv_iload_n hx hb dX1_winsWithTwoSeeds_19 rfl (lv_at hl 2 rfl) ?_
              refine lv_ishl hx hb dX1_winsWithTwoSeeds_20 ?_
              refine z_topi (y := pSd k) (rfl) ?_
              refine lv_iconst (v := 1) hx hb dX1_winsWithTwoSeeds_21 (by decide) ?_
              refine lv_iload_n hx hb dX1_winsWithTwoSeeds_22 rfl (lv_at hl 3 rfl) ?_
              refine lv_ishl hx hb dX1_winsWithTwoSeeds_23 ?_
              refine z_topi (y := pSd t) (rfl) ?_
              refine lv_ior hx hb dX1_winsWithTwoSeeds_24 ?_
              refine lv_istore (lv' := [(4, .int ((pSd k) ||| (pSd t))), (0, .ref h0), (1, .int col), (2, .int (nI k)), (3, .int (nI t))]) hx hb dX1_winsWithTwoSeeds_25 hl (by decide) rfl (fun ls hl => ?_)
              refine lv_iload hx hb dX1_winsWithTwoSeeds_27 (lv_at hl 0 rfl) ?_
              refine lv_aload_n hx hb dX1_winsWithTwoSeeds_29 rfl (lv_at hl 1 rfl) ?_
              refine va_get (D := (dC, dI)) (ci := 1) (v := .ref hM) (C := RX1) (T := TX1) (N := 5) hx hb hts iX1_winsWithTwoSeeds_X1 hown hK hP 0 rfl rfl 0 (by decide) (hts (.fieldLink RX1 12 "ColourTide" "map" "LColourTide$Tide;") (List.mem_of_getElem? (i := 1) rfl)) (fun _ h9 => h9) rfl dX1_winsWithTwoSeeds_30 ?_
              refine va_get (D := (dC, dI)) (ci := 0) (v := .int bd) (C := RX0) (T := TX0) (N := 6) hx hb hts iX1_winsWithTwoSeeds_X0 hown hK hP 1 rfl rfl 0 (by decide) (hts (.fieldLink RX1 173 "ColourTide$Tide" "board" "I") (List.mem_of_getElem? (i := 2) rfl)) (fun _ h9 => h9) rfl dX1_winsWithTwoSeeds_33 ?_
              refine lv_iconst (v := (-1)) hx hb dX1_winsWithTwoSeeds_36 (by decide) ?_
              refine lv_ixor hx hb dX1_winsWithTwoSeeds_37 ?_
              refine lv_iand hx hb dX1_winsWithTwoSeeds_38 ?_
              refine lv_if_ne (tgt := 54) hx hb dX1_winsWithTwoSeeds_39 (by decide) (fun c_39 => ?_) (fun c_39 => ?_)
              · skip
                refine lv_iinc (v := nI (t + 1)) (lv' := [(3, .int (nI (t + 1))), (4, .int ((pSd k) ||| (pSd t))), (0, .ref h0), (1, .int col), (2, .int (nI k))]) hx hb dX1_winsWithTwoSeeds_54 hl (k := 4) rfl (nI_1 t) (by decide) rfl (fun ls hl => ?_)
                refine lv_goto (tgt := 12) hx hb dX1_winsWithTwoSeeds_57 (by decide) ?_
                exact ih_12 (t + 1) bdq sbq ndq Sq Crq Gq (by omega) (by omega) (fun j h2 h3 => by rcases Nat.lt_succ_iff_lt_or_eq.mp h3 with h | rfl; exact hy j h2 h; exact fun q => c_39 q.1) _ _ _ hP hD hS (lv_sub hl [2, 3, 4, 0] rfl)
              · skip
                refine lv_aload_n hx hb dX1_winsWithTwoSeeds_42 rfl (lv_at hl 1 rfl) ?_
                refine lv_iload hx hb dX1_winsWithTwoSeeds_43 (lv_at hl 0 rfl) ?_
                refine lv_iload_n hx hb dX1_winsWithTwoSeeds_45 rfl (lv_at hl 2 rfl) ?_
                refine z_callVi (As := [.int ((pSd k) ||| (pSd t)), .int col]) (rest := []) F9 (m_X1_winsWith l dC dI cI cZ cJ cD h0 hM aS aC aG hV bS bC bG wd hg wv bd sb nd S0 Cr G0 bdq sbq ndq Sq Crq Gq q0 ((pSd k) ||| (pSd t)) col (hq) (hnd)) (cwV 2 hts gX1_winsWithTwoSeeds_X1_winsWith rfl rfl rfl (by decide +kernel) ⟨Nat.le_of_ble_eq_true rfl, Nat.le_of_ble_eq_true rfl⟩) hK hN hP hD hS hA [0, 1, 2, 3, 4, 5, 6, 7, 8] rfl rfl (fun _ => rfl) 0 (ci := 1) rfl rfl rfl rfl hl.1 rfl (Nat.le_of_ble_eq_true rfl) dX1_winsWithTwoSeeds_46 ⟨Nat.zero_le _, Nat.zero_le _⟩ (fun r_1 u H locs hp_46 hP hD hS => ?_)
                obtain ⟨bdq_2, sbq_3, ndq_4, Sq_5, Crq_6, Gq_7⟩ := u
                have hP : va_P (dC, dI) vwCl [(h0, .inr (1, [.ref hM, .ref hV, .int wd, .int hg, .int wv])), (hM, .inr (0, [.int bd, .int sb, .int nd, .ref aS, .ref aC, .ref aG])), (aS, .inl (cI, 5, .inl S0)), (aC, .inl (cI, 5, .inl Cr)), (aG, .inl (cI, 5, .inl G0)), (hV, .inr (0, [.int bdq_2, .int sbq_3, .int ndq_4, .ref bS, .ref bC, .ref bG])), (bS, .inl (cI, 5, .inl Sq_5)), (bC, .inl (cI, 5, .inl Crq_6)), (bG, .inl (cI, 5, .inl Gq_7))] H := hP
                have hD : va_D A [(h0, .inr (1, [.ref hM, .ref hV, .int wd, .int hg, .int wv])), (hM, .inr (0, [.int bd, .int sb, .int nd, .ref aS, .ref aC, .ref aG])), (aS, .inl (cI, 5, .inl S0)), (aC, .inl (cI, 5, .inl Cr)), (aG, .inl (cI, 5, .inl G0)), (hV, .inr (0, [.int bdq_2, .int sbq_3, .int ndq_4, .ref bS, .ref bC, .ref bG])), (bS, .inl (cI, 5, .inl Sq_5)), (bC, .inl (cI, 5, .inl Crq_6)), (bG, .inl (cI, 5, .inl Gq_7))] := hD
                have hp_46 : r_1 = if pWin S0 bd sb q0 ((pSd k) ||| (pSd t)) col then 1 else 0 := hp_46
                refine z_topi (y := if pWin S0 bd sb q0 ((pSd k) ||| (pSd t)) col then 1 else 0) hp_46 ?_
                refine lv_if_eq (tgt := 54) hx hb dX1_winsWithTwoSeeds_49 (by decide) (fun c_49 => ?_) (fun c_49 => ?_)
                · skip
                  refine lv_iinc (v := nI (t + 1)) (lv' := [(3, .int (nI (t + 1))), (4, .int ((pSd k) ||| (pSd t))), (0, .ref h0), (1, .int col), (2, .int (nI k))]) hx hb dX1_winsWithTwoSeeds_54 hl (k := 4) rfl (nI_1 t) (by decide) rfl (fun ls hl => ?_)
                  refine lv_goto (tgt := 12) hx hb dX1_winsWithTwoSeeds_57 (by decide) ?_
                  exact ih_12 (t + 1) bdq_2 sbq_3 ndq_4 Sq_5 Crq_6 Gq_7 (by omega) (by omega) (fun j h2 h3 => by rcases Nat.lt_succ_iff_lt_or_eq.mp h3 with h | rfl; exact hy j h2 h; exact fun q => z_if0 c_49 q.2) _ _ _ hP hD hS (lv_sub hl [2, 3, 4, 0] rfl)
                · skip
                  refine lv_iconst (v := 1) hx hb dX1_winsWithTwoSeeds_52 (by decide) ?_
                  rw [← hQ]
                  exact z_zret (W1 := (fun (u : Int32 × Int32 × Int32 × (Nat → Int32) × (Nat → Int32) × (Nat → Int32)) => [(h0, .inr (1, [.ref hM, .ref hV, .int wd, .int hg, .int wv])), (hM, .inr (0, [.int bd, .int sb, .int nd, .ref aS, .ref aC, .ref aG])), (aS, .inl (cI, 5, .inl S0)), (aC, .inl (cI, 5, .inl Cr)), (aG, .inl (cI, 5, .inl G0)), (hV, .inr (0, [.int u.1, .int u.2.1, .int u.2.2.1, .ref bS, .ref bC, .ref bG])), (bS, .inl (cI, 5, .inl u.2.2.2.1)), (bC, .inl (cI, 5, .inl u.2.2.2.2.1)), (bG, .inl (cI, 5, .inl u.2.2.2.2.2))])) hx hb hr hlocks (by decide +kernel) hP hS (bdq_2, sbq_3, ndq_4, Sq_5, Crq_6, Gq_7) (rfl) (Or.inl ⟨rfl, k, t, ht, by omega, c_39, z_if1 c_49⟩) dX1_winsWithTwoSeeds_53
        exact loop_12 (30 - (k + 1)) (k + 1) bdq sbq ndq Sq Crq Gq (by omega) (Nat.lt_succ_self k) (fun j h2 h3 => absurd h3 (by omega)) _ _ _ hP hD hS (lv_sub hl [1, 2, 3, 0] rfl)
  exact loop_2 30 0 bd2 sb2 nd2 S2 Cr2 G2 (by omega) (fun i j h2 => absurd h2 (by omega)) _ _ _ hP hD hS (lv_sub hl [1, 2, 0] rfl)
abbrev rmX1_wavesUntilStill : Room := { frames := 4, cells := 0, slots := 0, locals := 94 }
set_option maxRecDepth 20000 in
theorem iX1_wavesUntilStill_X0 : ∀ w ∈ wsX00, w ∈ wsX1_wavesUntilStill := fun w h => (goodIn_r (big := wsX1_wavesUntilStill) wsX00 [38, 39, 40, 41, 42, 43] (by decide +kernel) (by decide +kernel) w h).1
set_option maxRecDepth 20000 in
theorem iX1_wavesUntilStill_X1 : ∀ w ∈ wsX10, w ∈ wsX1_wavesUntilStill := fun w h => (goodIn_r (big := wsX1_wavesUntilStill) wsX10 [33, 34, 35, 36, 37] (by decide +kernel) (by decide +kernel) w h).1
set_option maxHeartbeats 4000000 in
set_option maxRecDepth 100000 in
theorem m_X1_wavesUntilStill (l : Launch) (dC : Nat → ClassId) (dI : Nat → Nat → Nat) (cI cZ cJ cD : ClassId) (h0 : Nat) (hM : Nat) (aS : Nat) (aC : Nat) (aG : Nat) (hV : Nat) (bS : Nat) (bC : Nat) (bG : Nat) (wd : Int32) (hg : Int32) (wv : Int32) (bd : Int32) (sb : Int32) (nd : Int32) (S0 : Nat → Int32) (Cr : Nat → Int32) (G0 : Nat → Int32) (bd2 : Int32) (sb2 : Int32) (nd2 : Int32) (S2 : Nat → Int32) (Cr2 : Nat → Int32) (G2 : Nat → Int32) (q0 : Nat) (hq : 1 ≤ q0 ∧ q0 ≤ 4) (hnd : nd = nI q0) : zI l (dC, dI) (wT cI cZ cJ cD) yX1_wavesUntilStill wsX1_wavesUntilStill rmX1_wavesUntilStill [(h0, .inr (1, [.ref hM, .ref hV, .int wd, .int hg, .int wv])), (hM, .inr (0, [.int bd, .int sb, .int nd, .ref aS, .ref aC, .ref aG])), (aS, .inl (cI, 5, .inl S0)), (aC, .inl (cI, 5, .inl Cr)), (aG, .inl (cI, 5, .inl G0)), (hV, .inr (0, [.int bd2, .int sb2, .int nd2, .ref bS, .ref bC, .ref bG])), (bS, .inl (cI, 5, .inl S2)), (bC, .inl (cI, 5, .inl Cr2)), (bG, .inl (cI, 5, .inl G2))] [.ref h0] (fun (u : Int32 × Int32 × Int32 × (Nat → Int32) × (Nat → Int32) × (Nat → Int32)) => [(h0, .inr (1, [.ref hM, .ref hV, .int wd, .int hg, .int wv])), (hM, .inr (0, [.int bd, .int sb, .int nd, .ref aS, .ref aC, .ref aG])), (aS, .inl (cI, 5, .inl S0)), (aC, .inl (cI, 5, .inl Cr)), (aG, .inl (cI, 5, .inl G0)), (hV, .inr (0, [.int u.1, .int u.2.1, .int u.2.2.1, .ref bS, .ref bC, .ref bG])), (bS, .inl (cI, 5, .inl u.2.2.2.1)), (bC, .inl (cI, 5, .inl u.2.2.2.2.1)), (bG, .inl (cI, 5, .inl u.2.2.2.2.2))]) (fun (r : Int32) (u : Int32 × Int32 × Int32 × (Nat → Int32) × (Nat → Int32) × (Nat → Int32)) => (∃ k, k ≤ 40 ∧ r = nI k ∧ pC0 (pIt bd sb q0 S0 k) bd sb q0 = 0 ∧ ∀ j, j < k → ¬ pC0 (pIt bd sb q0 S0 j) bd sb q0 = 0) ∨ (r = -1 ∧ ∀ j, j ≤ 40 → ¬ pC0 (pIt bd sb q0 S0 j) bd sb q0 = 0)) := by
  intro sz
  refine Met.ofW (cc := cX1_wavesUntilStill) (maxL := 2) (ret := (some .int)) (by decide) rfl ?_
  intro p e s m args below meth c s₁ B hml hv
  obtain ⟨ha, hsz, hP, hK, hD0, hN⟩ := hv
  have hx := B.exec
  have hb := B.bytes
  have hr := B.returns
  have hts := atoms_spec (ws := wsX1_wavesUntilStill) B.pre
  have hown : s.vm.findClass RX1 = some m.cls := findClass_of_methodNamed B.named
  have hlocks := B.notSynchronized
  subst hsz
  have hD := hD0.self (sz := s.heap.size)
  generalize hAe : va_A [(h0, .inr (1, [.ref hM, .ref hV, .int wd, .int hg, .int wv])), (hM, .inr (0, [.int bd, .int sb, .int nd, .ref aS, .ref aC, .ref aG])), (aS, .inl (cI, 5, .inl S0)), (aC, .inl (cI, 5, .inl Cr)), (aG, .inl (cI, 5, .inl G0)), (hV, .inr (0, [.int bd2, .int sb2, .int nd2, .ref bS, .ref bC, .ref bG])), (bS, .inl (cI, 5, .inl S2)), (bC, .inl (cI, 5, .inl Cr2)), (bG, .inl (cI, 5, .inl G2))] s.heap.size = A at hD ⊢
  have hA : ∀ q : Nat, s.heap.size ≤ q → A q := fun q h => by rw [← hAe]; exact Or.inr h
  have hS : va_S A s.heap s.heap [] := va_S.rf
  generalize hQ : MQ below (va_Qi (fun (r : Int32) (u : Int32 × Int32 × Int32 × (Nat → Int32) × (Nat → Int32) × (Nat → Int32)) => (∃ k, k ≤ 40 ∧ r = nI k ∧ pC0 (pIt bd sb q0 S0 k) bd sb q0 = 0 ∧ ∀ j, j < k → ¬ pC0 (pIt bd sb q0 S0 j) bd sb q0 = 0) ∨ (r = -1 ∧ ∀ j, j ≤ 40 → ¬ pC0 (pIt bd sb q0 S0 j) bd sb q0 = 0)) (fun u t => va_P (dC, dI) vwCl ((fun (u : Int32 × Int32 × Int32 × (Nat → Int32) × (Nat → Int32) × (Nat → Int32)) => [(h0, .inr (1, [.ref hM, .ref hV, .int wd, .int hg, .int wv])), (hM, .inr (0, [.int bd, .int sb, .int nd, .ref aS, .ref aC, .ref aG])), (aS, .inl (cI, 5, .inl S0)), (aC, .inl (cI, 5, .inl Cr)), (aG, .inl (cI, 5, .inl G0)), (hV, .inr (0, [.int u.1, .int u.2.1, .int u.2.2.1, .ref bS, .ref bC, .ref bG])), (bS, .inl (cI, 5, .inl u.2.2.2.1)), (bC, .inl (cI, 5, .inl u.2.2.2.2.1)), (bG, .inl (cI, 5, .inl u.2.2.2.2.2))]) u) t.heap) A) args s 0 0 A = Q
  have F9 : CallFix p m c cX1_wavesUntilStill 2 s args wsX1_wavesUntilStill RX1 := ⟨hx, hb, hml, hown, hts⟩
  refine z_entry (R := rmX1_wavesUntilStill) ha (Nat.le_of_ble_eq_true rfl) (fun ls hl => ?_)
  have hl : lv_has ls 2 [(0, .ref h0)] := hl
  refine lv_aload_n hx hb dX1_wavesUntilStill_0 rfl (lv_at hl 0 rfl) ?_
  refine va_get (D := (dC, dI)) (ci := 1) (v := .ref hV) (C := RX1) (T := TX1) (N := 5) hx hb hts iX1_wavesUntilStill_X1 hown hK hP 0 rfl rfl 1 (by decide) (hts (.fieldLink RX1 16 "ColourTide" "trial" "LColourTide$Tide;") (List.mem_of_getElem? (i := 1) rfl)) (fun _ h9 => h9) rfl dX1_wavesUntilStill_1 ?_
  refine lv_aload_n hx hb dX1_wavesUntilStill_4 rfl (lv_at hl 0 rfl) ?_
  refine va_get (D := (dC, dI)) (ci := 1) (v := .ref hM) (C := RX1) (T := TX1) (N := 5) hx hb hts iX1_wavesUntilStill_X1 hown hK hP 0 rfl rfl 0 (by decide) (hts (.fieldLink RX1 12 "ColourTide" "map" "LColourTide$Tide;") (List.mem_of_getElem? (i := 2) rfl)) (fun _ h9 => h9) rfl dX1_wavesUntilStill_5 ?_
  refine z_callVv (As := [.ref hM]) (rest := []) F9 (m_X0_copyFrom l dC dI cI cZ cJ cD hV bS bC bG bd2 sb2 nd2 S2 Cr2 G2 hM aS aC aG bd sb nd S0 Cr G0 ) (cwV 1 hts gX1_wavesUntilStill_X0_copyFrom rfl rfl rfl (by decide +kernel) ⟨Nat.le_of_ble_eq_true rfl, Nat.le_of_ble_eq_true rfl⟩) hK hN hP hD hS hA [5, 6, 7, 8, 1, 2, 3, 4] rfl rfl (fun _ => rfl) 5 (ci := 0) rfl rfl rfl rfl hl.1 rfl (Nat.le_of_ble_eq_true rfl) dX1_wavesUntilStill_8 ⟨Nat.zero_le _, Nat.zero_le _⟩ (fun u H locs hp_8 hP hD hS => ?_)
  have hP : va_P (dC, dI) vwCl [(h0, .inr (1, [.ref hM, .ref hV, .int wd, .int hg, .int wv])), (hM, .inr (0, [.int bd, .int sb, .int nd, .ref aS, .ref aC, .ref aG])), (aS, .inl (cI, 5, .inl S0)), (aC, .inl (cI, 5, .inl Cr)), (aG, .inl (cI, 5, .inl G0)), (hV, .inr (0, [.int bd, .int sb, .int nd, .ref bS, .ref bC, .ref bG])), (bS, .inl (cI, 5, .inl (zfill S0 S2 5))), (bC, .inl (cI, 5, .inl Cr2)), (bG, .inl (cI, 5, .inl G2))] H := hP
  have hD : va_D A [(h0, .inr (1, [.ref hM, .ref hV, .int wd, .int hg, .int wv])), (hM, .inr (0, [.int bd, .int sb, .int nd, .ref aS, .ref aC, .ref aG])), (aS, .inl (cI, 5, .inl S0)), (aC, .inl (cI, 5, .inl Cr)), (aG, .inl (cI, 5, .inl G0)), (hV, .inr (0, [.int bd, .int sb, .int nd, .ref bS, .ref bC, .ref bG])), (bS, .inl (cI, 5, .inl (zfill S0 S2 5))), (bC, .inl (cI, 5, .inl Cr2)), (bG, .inl (cI, 5, .inl G2))] := hD
  refine lv_iconst (v := 0) hx hb dX1_wavesUntilStill_11 (by decide) ?_
  refine lv_istore_n (lv' := [(1, .int 0), (0, .ref h0)]) hx hb dX1_wavesUntilStill_12 rfl hl (by decide) rfl (fun ls hl => ?_)
  have loop_13 : ∀ (n : Nat) (k : Nat) (Crk : Nat → Int32) (Gk : Nat → Int32) (hkn : k + n = 41) (hz : ∀ j, j < k → ¬ pC0 (pIt bd sb q0 S0 j) bd sb q0 = 0) (H : Heap) (locs : List Loc) (ls : Array Slot) (hP : va_P (dC, dI) vwCl [(h0, .inr (1, [.ref hM, .ref hV, .int wd, .int hg, .int wv])), (hM, .inr (0, [.int bd, .int sb, .int nd, .ref aS, .ref aC, .ref aG])), (aS, .inl (cI, 5, .inl S0)), (aC, .inl (cI, 5, .inl Cr)), (aG, .inl (cI, 5, .inl G0)), (hV, .inr (0, [.int bd, .int sb, .int nd, .ref bS, .ref bC, .ref bG])), (bS, .inl (cI, 5, .inl (pIt bd sb q0 (zfill S0 S2 5) k))), (bC, .inl (cI, 5, .inl Crk)), (bG, .inl (cI, 5, .inl Gk))] H) (hD : va_D A [(h0, .inr (1, [.ref hM, .ref hV, .int wd, .int hg, .int wv])), (hM, .inr (0, [.int bd, .int sb, .int nd, .ref aS, .ref aC, .ref aG])), (aS, .inl (cI, 5, .inl S0)), (aC, .inl (cI, 5, .inl Cr)), (aG, .inl (cI, 5, .inl G0)), (hV, .inr (0, [.int bd, .int sb, .int nd, .ref bS, .ref bC, .ref bG])), (bS, .inl (cI, 5, .inl (pIt bd sb q0 (zfill S0 S2 5) k))), (bC, .inl (cI, 5, .inl Crk)), (bG, .inl (cI, 5, .inl Gk))]) (hS : va_S A s.heap H locs) (hl : lv_has ls 2 [(0, .ref h0), (1, .int (nI k))]), W p l e rmX1_wavesUntilStill s m args below meth c H locs 0 0 Q (F0 m 13 ls []) := by
    intro n
    induction n with
    | zero =>
      intro k Crk Gk hkn hz H locs ls hP hD hS hl
      refine lv_iload_n hx hb dX1_wavesUntilStill_13 rfl (lv_at hl 1 rfl) ?_
      refine lv_bipush (v := 40) hx hb dX1_wavesUntilStill_14 (by decide +kernel) ?_
      refine lv_icmp_gt (tgt := 38) hx hb dX1_wavesUntilStill_16 (by decide) (fun c_16 => ?_) (fun c_16 => ?_)
      · skip
        have n_16 := zc_lt_t (a := 40) (b := k) (by omega) (by omega) c_16
        refine lv_iconst (v := (-1)) hx hb dX1_wavesUntilStill_38 (by decide) ?_
        rw [← hQ]
        exact z_iret (W1 := (fun (u : Int32 × Int32 × Int32 × (Nat → Int32) × (Nat → Int32) × (Nat → Int32)) => [(h0, .inr (1, [.ref hM, .ref hV, .int wd, .int hg, .int wv])), (hM, .inr (0, [.int bd, .int sb, .int nd, .ref aS, .ref aC, .ref aG])), (aS, .inl (cI, 5, .inl S0)), (aC, .inl (cI, 5, .inl Cr)), (aG, .inl (cI, 5, .inl G0)), (hV, .inr (0, [.int u.1, .int u.2.1, .int u.2.2.1, .ref bS, .ref bC, .ref bG])), (bS, .inl (cI, 5, .inl u.2.2.2.1)), (bC, .inl (cI, 5, .inl u.2.2.2.2.1)), (bG, .inl (cI, 5, .inl u.2.2.2.2.2))])) hx hb hr hlocks hP hS (bd, sb, nd, pIt bd sb q0 (zfill S0 S2 5) k, Crk, Gk) (rfl) (Or.inr ⟨rfl, fun j hj => hz j (by omega)⟩) dX1_wavesUntilStill_39
      · skip
        have n_16 := zc_lt_f (a := 40) (b := k) (by omega) (by omega) c_16
        exact absurd n_16 (by omega)
    | succ n ih_13 =>
      intro k Crk Gk hkn hz H locs ls hP hD hS hl
      refine lv_iload_n hx hb dX1_wavesUntilStill_13 rfl (lv_at hl 1 rfl) ?_
      refine lv_bipush (v := 40) hx hb dX1_wavesUntilStill_14 (by decide +kernel) ?_
      refine lv_icmp_gt (tgt := 38) hx hb dX1_wavesUntilStill_16 (by decide) (fun c_16 => ?_) (fun c_16 => ?_)
      · skip
        have n_16 := zc_lt_t (a := 40) (b := k) (by omega) (by omega) c_16
        exact absurd n_16 (by omega)
      · skip
        have n_16 := zc_lt_f (a := 40) (b := k) (by omega) (by omega) c_16
        refine lv_aload_n hx hb dX1_wavesUntilStill_19 rfl (lv_at hl 0 rfl) ?_
        refine va_get (D := (dC, dI)) (ci := 1) (v := .ref hV) (C := RX1) (T := TX1) (N := 5) hx hb hts iX1_wavesUntilStill_X1 hown hK hP 0 rfl rfl 1 (by decide) (hts (.fieldLink RX1 16 "ColourTide" "trial" "LColourTide$Tide;") (List.mem_of_getElem? (i := 1) rfl)) (fun _ h9 => h9) rfl dX1_wavesUntilStill_20 ?_
        refine lv_iconst (v := 1) hx hb dX1_wavesUntilStill_23 (by decide) ?_
        refine z_callVi (As := [.int 1]) (rest := []) F9 (m_X0_surge l dC dI cI cZ cJ cD hV bS bC bG bd sb nd (pIt bd sb q0 (zfill S0 S2 5) k) Crk Gk q0 1 (hq) (hnd) (by decide)) (cwV 1 hts gX1_wavesUntilStill_X0_surge rfl rfl rfl (by decide +kernel) ⟨Nat.le_of_ble_eq_true rfl, Nat.le_of_ble_eq_true rfl⟩) hK hN hP hD hS hA [5, 6, 7, 8] rfl rfl (fun _ => rfl) 5 (ci := 0) rfl rfl rfl rfl hl.1 rfl (Nat.le_of_ble_eq_true rfl) dX1_wavesUntilStill_24 ⟨Nat.zero_le _, Nat.zero_le _⟩ (fun r_2 u H locs hp_24 hP hD hS => ?_)
        obtain ⟨Cr1_3, G1_4⟩ := u
        have hP : va_P (dC, dI) vwCl [(h0, .inr (1, [.ref hM, .ref hV, .int wd, .int hg, .int wv])), (hM, .inr (0, [.int bd, .int sb, .int nd, .ref aS, .ref aC, .ref aG])), (aS, .inl (cI, 5, .inl S0)), (aC, .inl (cI, 5, .inl Cr)), (aG, .inl (cI, 5, .inl G0)), (hV, .inr (0, [.int bd, .int sb, .int nd, .ref bS, .ref bC, .ref bG])), (bS, .inl (cI, 5, .inl (pIt bd sb q0 (pIt bd sb q0 (zfill S0 S2 5) k) 1))), (bC, .inl (cI, 5, .inl Cr1_3)), (bG, .inl (cI, 5, .inl G1_4))] H := hP
        have hD : va_D A [(h0, .inr (1, [.ref hM, .ref hV, .int wd, .int hg, .int wv])), (hM, .inr (0, [.int bd, .int sb, .int nd, .ref aS, .ref aC, .ref aG])), (aS, .inl (cI, 5, .inl S0)), (aC, .inl (cI, 5, .inl Cr)), (aG, .inl (cI, 5, .inl G0)), (hV, .inr (0, [.int bd, .int sb, .int nd, .ref bS, .ref bC, .ref bG])), (bS, .inl (cI, 5, .inl (pIt bd sb q0 (pIt bd sb q0 (zfill S0 S2 5) k) 1))), (bC, .inl (cI, 5, .inl Cr1_3)), (bG, .inl (cI, 5, .inl G1_4))] := hD
        have hp_24 : r_2 = pLast bd sb q0 (pIt bd sb q0 (zfill S0 S2 5) k) 1 := hp_24
        refine z_topi (y := pLast bd sb q0 (pIt bd sb q0 (zfill S0 S2 5) k) 1) hp_24 ?_
        refine lv_if_ne (tgt := 32) hx hb dX1_wavesUntilStill_27 (by decide) (fun c_27 => ?_) (fun c_27 => ?_)
        · skip
          refine lv_iinc (v := nI (k + 1)) (lv' := [(1, .int (nI (k + 1))), (0, .ref h0)]) hx hb dX1_wavesUntilStill_32 hl (k := 1) rfl (nI_1 k) (by decide) rfl (fun ls hl => ?_)
          refine lv_goto (tgt := 13) hx hb dX1_wavesUntilStill_35 (by decide) ?_
          exact ih_13 (k + 1) Cr1_3 G1_4 (by omega) (fun j h2 => by rcases Nat.lt_succ_iff_lt_or_eq.mp h2 with h | rfl; exact hz j h; rw [← pC0_inS (pIt_inS (copy_in S0 S2) bd sb q0 j) bd sb q0]; exact c_27) _ _ _ hP hD hS (lv_sub hl [1, 0] rfl)
        · skip
          refine lv_iload_n hx hb dX1_wavesUntilStill_30 rfl (lv_at hl 1 rfl) ?_
          rw [← hQ]
          exact z_iret (W1 := (fun (u : Int32 × Int32 × Int32 × (Nat → Int32) × (Nat → Int32) × (Nat → Int32)) => [(h0, .inr (1, [.ref hM, .ref hV, .int wd, .int hg, .int wv])), (hM, .inr (0, [.int bd, .int sb, .int nd, .ref aS, .ref aC, .ref aG])), (aS, .inl (cI, 5, .inl S0)), (aC, .inl (cI, 5, .inl Cr)), (aG, .inl (cI, 5, .inl G0)), (hV, .inr (0, [.int u.1, .int u.2.1, .int u.2.2.1, .ref bS, .ref bC, .ref bG])), (bS, .inl (cI, 5, .inl u.2.2.2.1)), (bC, .inl (cI, 5, .inl u.2.2.2.2.1)), (bG, .inl (cI, 5, .inl u.2.2.2.2.2))])) hx hb hr hlocks hP hS (bd, sb, nd, (pIt bd sb q0 (pIt bd sb q0 (zfill S0 S2 5) k) 1), Cr1_3, G1_4) (rfl) (Or.inl ⟨k, by omega, rfl, by rw [← pC0_inS (pIt_inS (copy_in S0 S2) bd sb q0 k) bd sb q0]; exact c_27, hz⟩) dX1_wavesUntilStill_31
  exact loop_13 41 0 Cr2 G2 (by omega) (fun j h2 => absurd h2 (by omega)) _ _ _ hP hD hS (lv_sub hl [1, 0] rfl)
