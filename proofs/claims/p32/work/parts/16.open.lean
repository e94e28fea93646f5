abbrev rmX1_newMap : Room := { frames := 2, cells := 0, slots := 0, locals := 45 }
set_option maxRecDepth 20000 in
theorem iX1_newMap_X0 : ∀ w ∈ wsX00, w ∈ wsX1_newMap := fun w h => (goodIn_r (big := wsX1_newMap) wsX00 [26, 27, 28, 29, 30, 31] (by decide +kernel) (by decide +kernel) w h).1
set_option maxRecDepth 20000 in
theorem iX1_newMap_X1 : ∀ w ∈ wsX10, w ∈ wsX1_newMap := fun w h => (goodIn_r (big := wsX1_newMap) wsX10 [21, 22, 23, 24, 25] (by decide +kernel) (by decide +kernel) w h).1
set_option maxHeartbeats 4000000 in
set_option maxRecDepth 100000 in
theorem m_X1_newMap (l : Launch) (dC : Nat → ClassId) (dI : Nat → Nat → Nat) (cI cZ cJ cD : ClassId) (h0 : Nat) (hM : Nat) (aS : Nat) (aC : Nat) (aG : Nat) (hV : Nat) (bS : Nat) (bC : Nat) (bG : Nat) (wd : Int32) (hg : Int32) (wv : Int32) (bd : Int32) (sb : Int32) (nd : Int32) (S0 : Nat → Int32) (Cr : Nat → Int32) (G0 : Nat → Int32) (bd2 : Int32) (sb2 : Int32) (nd2 : Int32) (S2 : Nat → Int32) (Cr2 : Nat → Int32) (G2 : Nat → Int32) (wn : Nat) (hn : Nat) (hw : 2 ≤ wn ∧ wn ≤ 5) (hh : 2 ≤ hn ∧ hn ≤ 5) : zI l (dC, dI) (wT cI cZ cJ cD) yX1_newMap wsX1_newMap rmX1_newMap [(h0, .inr (1, [.ref hM, .ref hV, .int wd, .int hg, .int wv])), (hM, .inr (0, [.int bd, .int sb, .int nd, .ref aS, .ref aC, .ref aG])), (aS, .inl (cI, 5, .inl S0)), (aC, .inl (cI, 5, .inl Cr)), (aG, .inl (cI, 5, .inl G0)), (hV, .inr (0, [.int bd2, .int sb2, .int nd2, .ref bS, .ref bC, .ref bG])), (bS, .inl (cI, 5, .inl S2)), (bC, .inl (cI, 5, .inl Cr2)), (bG, .inl (cI, 5, .inl G2))] [.ref h0, .int (nI wn), .int (nI hn)] (fun (_ : Unit) => [(h0, .inr (1, [.ref hM, .ref hV, .int (nI wn), .int (nI hn), .int 0])), (hM, .inr (0, [.int (pBrd wn hn), .int 0, .int nd, .ref aS, .ref aC, .ref aG])), (aS, .inl (cI, 5, .inl (zfill (pClrF (pBrd wn hn)) S0 5))), (aC, .inl (cI, 5, .inl Cr)), (aG, .inl (cI, 5, .inl G0)), (hV, .inr (0, [.int bd2, .int sb2, .int nd2, .ref bS, .ref bC, .ref bG])), (bS, .inl (cI, 5, .inl S2)), (bC, .inl (cI, 5, .inl Cr2)), (bG, .inl (cI, 5, .inl G2))]) (fun (r : Int32) (_ : Unit) => r = nI (wn * hn)) := by
  intro sz
  refine Met.ofW (cc := cX1_newMap) (maxL := 3) (ret := (some .int)) (by decide) rfl ?_
  intro p e s m args below meth c s₁ B hml hv
  obtain ⟨ha, hsz, hP, hK, hD0, hN⟩ := hv
  have hx := B.exec
  have hb := B.bytes
  have hr := B.returns
  have hts := atoms_spec (ws := wsX1_newMap) B.pre
  have hown : s.vm.findClass RX1 = some m.cls := findClass_of_methodNamed B.named
  have hlocks := B.notSynchronized
  subst hsz
  have hD := hD0.self (sz := s.heap.size)
  generalize hAe : va_A [(h0, .inr (1, [.ref hM, .ref hV, .int wd, .int hg, .int wv])), (hM, .inr (0, [.int bd, .int sb, .int nd, .ref aS, .ref aC, .ref aG])), (aS, .inl (cI, 5, .inl S0)), (aC, .inl (cI, 5, .inl Cr)), (aG, .inl (cI, 5, .inl G0)), (hV, .inr (0, [.int bd2, .int sb2, .int nd2, .ref bS, .ref bC, .ref bG])), (bS, .inl (cI, 5, .inl S2)), (bC, .inl (cI, 5, .inl Cr2)), (bG, .inl (cI, 5, .inl G2))] s.heap.size = A at hD ⊢
  have hA : ∀ q : Nat, s.heap.size ≤ q → A q := fun q h => by rw [← hAe]; exact Or.inr h
  have hS : va_S A s.heap s.heap [] := va_S.rf
  generalize hQ : MQ below (va_Qi (fun (r : Int32) (_ : Unit) => r = nI (wn * hn)) (fun u t => va_P (dC, dI) vwCl ((fun (_ : Unit) => [(h0, .inr (1, [.ref hM, .ref hV, .int (nI wn), .int (nI hn), .int 0])), (hM, .inr (0, [.int (pBrd wn hn), .int 0, .int nd, .ref aS, .ref aC, .ref aG])), (aS, .inl (cI, 5, .inl (zfill (pClrF (pBrd wn hn)) S0 5))), (aC, .inl (cI, 5, .inl Cr)), (aG, .inl (cI, 5, .inl G0)), (hV, .inr (0, [.int bd2, .int sb2, .int nd2, .ref bS, .ref bC, .ref bG])), (bS, .inl (cI, 5, .inl S2)), (bC, .inl (cI, 5, .inl Cr2)), (bG, .inl (cI, 5, .inl G2))]) u) t.heap) A) args s 0 0 A = Q
  have F9 : CallFix p m c cX1_newMap 3 s args wsX1_newMap RX1 := ⟨hx, hb, hml, hown, hts⟩
  refine z_entry (R := rmX1_newMap) ha (Nat.le_of_ble_eq_true rfl) (fun ls hl => ?_)
  have hl : lv_has ls 3 [(0, .ref h0), (1, .int (nI wn)), (2, .int (nI hn))] := hl
  refine lv_iload_n hx hb dX1_newMap_0 rfl (lv_at hl 1 rfl) ?_
  refine z_callSi (As := [.int (nI wn)]) (rest := []) F9 (m_X1_isSide l dC dI cI cZ cJ cD (nI wn) ) (va_cwS 1 hts gX1_newMap_X1_isSide rfl rfl rfl (by decide +kernel) ⟨Nat.le_of_ble_eq_true rfl, Nat.le_of_ble_eq_true rfl⟩) hK hN hP hD hS hA rfl hl.1 rfl (Nat.le_of_ble_eq_true rfl) dX1_newMap_1 ⟨Nat.zero_le _, Nat.zero_le _⟩ (fun r_1 H locs hp_1 hP hS => ?_)
  have hp_1 : r_1 = if pSide (nI wn) then 1 else 0 := hp_1
  refine z_topi (y := if pSide (nI wn) then 1 else 0) hp_1 ?_
  refine lv_if_eq (tgt := 14) hx hb dX1_newMap_4 (by decide) (fun c_4 => ?_) (fun c_4 => ?_)
  · skip
    exact absurd (z_sideN hw) (z_if0 c_4)
  · skip
    refine lv_iload_n hx hb dX1_newMap_7 rfl (lv_at hl 2 rfl) ?_
    refine z_callSi (As := [.int (nI hn)]) (rest := []) F9 (m_X1_isSide l dC dI cI cZ cJ cD (nI hn) ) (va_cwS 1 hts gX1_newMap_X1_isSide rfl rfl rfl (by decide +kernel) ⟨Nat.le_of_ble_eq_true rfl, Nat.le_of_ble_eq_true rfl⟩) hK hN hP hD hS hA rfl hl.1 rfl (Nat.le_of_ble_eq_true rfl) dX1_newMap_8 ⟨Nat.zero_le _, Nat.zero_le _⟩ (fun r_2 H locs hp_8 hP hS => ?_)
    have hp_8 : r_2 = if pSide (nI hn) then 1 else 0 := hp_8
    refine z_topi (y := if pSide (nI hn) then 1 else 0) hp_8 ?_
    refine lv_if_ne (tgt := 24) hx hb dX1_newMap_11 (by decide) (fun c_11 => ?_) (fun c_11 => ?_)
    · skip
      refine lv_aload_n hx hb dX1_newMap_24 rfl (lv_at hl 0 rfl) ?_
      refine lv_iload_n hx hb dX1_newMap_25 rfl (lv_at hl 1 rfl) ?_
      refine va_put (D := (dC, dI)) (ci := 1) (v := .int (nI wn)) (ty := .int) (C := RX1) (T := TX1) (N := 5) hx hb hts iX1_newMap_X1 tyX1 tyX1_ok nmX1 hown hK hP hD hS 0 rfl rfl 2 (by decide) (hts (.fieldLink RX1 19 "ColourTide" "width" "I") (List.mem_of_getElem? (i := 3) rfl)) (fun _ h9 => h9) rfl (by decide +kernel) rfl rfl (Nat.le_of_ble_eq_true rfl) dX1_newMap_26 (fun H locs hP hD hS => ?_)
      have hP : va_P (dC, dI) vwCl [(h0, .inr (1, [.ref hM, .ref hV, .int (nI wn), .int hg, .int wv])), (hM, .inr (0, [.int bd, .int sb, .int nd, .ref aS, .ref aC, .ref aG])), (aS, .inl (cI, 5, .inl S0)), (aC, .inl (cI, 5, .inl Cr)), (aG, .inl (cI, 5, .inl G0)), (hV, .inr (0, [.int bd2, .int sb2, .int nd2, .ref bS, .ref bC, .ref bG])), (bS, .inl (cI, 5, .inl S2)), (bC, .inl (cI, 5, .inl Cr2)), (bG, .inl (cI, 5, .inl G2))] H := hP
      have hD : va_D A [(h0, .inr (1, [.ref hM, .ref hV, .int (nI wn), .int hg, .int wv])), (hM, .inr (0, [.int bd, .int sb, .int nd, .ref aS, .ref aC, .ref aG])), (aS, .inl (cI, 5, .inl S0)), (aC, .inl (cI, 5, .inl Cr)), (aG, .inl (cI, 5, .inl G0)), (hV, .inr (0, [.int bd2, .int sb2, .int nd2, .ref bS, .ref bC, .ref bG])), (bS, .inl (cI, 5, .inl S2)), (bC, .inl (cI, 5, .inl Cr2)), (bG, .inl (cI, 5, .inl G2))] := hD
      refine lv_aload_n hx hb dX1_newMap_29 rfl (lv_at hl 0 rfl) ?_
      refine lv_iload_n hx hb dX1_newMap_30 rfl (lv_at hl 2 rfl) ?_
      refine va_put (D := (dC, dI)) (ci := 1) (v := .int (nI hn)) (ty := .int) (C := RX1) (T := TX1) (N := 5) hx hb hts iX1_newMap_X1 tyX1 tyX1_ok nmX1 hown hK hP hD hS 0 rfl rfl 3 (by decide) (hts (.fieldLink RX1 23 "ColourTide" "height" "I") (List.mem_of_getElem? (i := 4) rfl)) (fun _ h9 => h9) rfl (by decide +kernel) rfl rfl (Nat.le_of_ble_eq_true rfl) dX1_newMap_31 (fun H locs hP hD hS => ?_)
      have hP : va_P (dC, dI) vwCl [(h0, .inr (1, [.ref hM, .ref hV, .int (nI wn), .int (nI hn), .int wv])), (hM, .inr (0, [.int bd, .int sb, .int nd, .ref aS, .ref aC, .ref aG])), (aS, .inl (cI, 5, .inl S0)), (aC, .inl (cI, 5, .inl Cr)), (aG, .inl (cI, 5, .inl G0)), (hV, .inr (0, [.int bd2, .int sb2, .int nd2, .ref bS, .ref bC, .ref bG])), (bS, .inl (cI, 5, .inl S2)), (bC, .inl (cI, 5, .inl Cr2)), (bG, .inl (cI, 5, .inl G2))] H := hP
      have hD : va_D A [(h0, .inr (1, [.ref hM, .ref hV, .int (nI wn), .int (nI hn), .int wv])), (hM, .inr (0, [.int bd, .int sb, .int nd, .ref aS, .ref aC, .ref aG])), (aS, .inl (cI, 5, .inl S0)), (aC, .inl (cI, 5, .inl Cr)), (aG, .inl (cI, 5, .inl G0)), (hV, .inr (0, [.int bd2, .int sb2, .int nd2, .ref bS, .ref bC, .ref bG])), (bS, .inl (cI, 5, .inl S2)), (bC, .inl (cI, 5, .inl Cr2)), (bG, .inl (cI, 5, .inl G2))] := hD
      refine lv_aload_n hx hb dX1_newMap_34 rfl (lv_at hl 0 rfl) ?_
      refine lv_iconst (v := 0) hx hb dX1_newMap_35 (by decide) ?_
      refine va_put (D := (dC, dI)) (ci := 1) (v := .int 0) (ty := .int) (C := RX1) (T := TX1) (N := 5) hx hb hts iX1_newMap_X1 tyX1 tyX1_ok nmX1 hown hK hP hD hS 0 rfl rfl 4 (by decide) (hts (.fieldLink RX1 26 "ColourTide" "waves" "I") (List.mem_of_getElem? (i := 5) rfl)) (fun _ h9 => h9) rfl (by decide +kernel) rfl rfl (Nat.le_of_ble_eq_true rfl) dX1_newMap_36 (fun H locs hP hD hS => ?_)
      have hP : va_P (dC, dI) vwCl [(h0, .inr (1, [.ref hM, .ref hV, .int (nI wn), .int (nI hn), .int 0])), (hM, .inr (0, [.int bd, .int sb, .int nd, .ref aS, .ref aC, .ref aG])), (aS, .inl (cI, 5, .inl S0)), (aC, .inl (cI, 5, .inl Cr)), (aG, .inl (cI, 5, .inl G0)), (hV, .inr (0, [.int bd2, .int sb2, .int nd2, .ref bS, .ref bC, .ref bG])), (bS, .inl (cI, 5, .inl S2)), (bC, .inl (cI, 5, .inl Cr2)), (bG, .inl (cI, 5, .inl G2))] H := hP
      have hD : va_D A [(h0, .inr (1, [.ref hM, .ref hV, .int (nI wn), .int (nI hn), .int 0])), (hM, .inr (0, [.int bd, .int sb, .int nd, .ref aS, .ref aC, .ref aG])), (aS, .inl (cI, 5, .inl S0)), (aC, .inl (cI, 5, .inl Cr)), (aG, .inl (cI, 5, .inl G0)), (hV, .inr (0, [.int bd2, .int sb2, .int nd2, .ref bS, .ref bC, .ref bG])), (bS, .inl (cI, 5, .inl S2)), (bC, .inl (cI, 5, .inl Cr2)), (bG, .inl (cI, 5, .inl G2))] := hD
      refine lv_aload_n hx hb dX1_newMap_39 rfl (lv_at hl 0 rfl) ?_
      refine va_get (D := (dC, dI)) (ci := 1) (v := .ref hM) (C := RX1) (T := TX1) (N := 5) hx hb hts iX1_newMap_X1 hown hK hP 0 rfl rfl 0 (by decide) (hts (.fieldLink RX1 12 "ColourTide" "map" "LColourTide$Tide;") (List.mem_of_getElem? (i := 6) rfl)) (fun _ h9 => h9) rfl dX1_newMap_40 ?_
      refine lv_iload_n hx hb dX1_newMap_43 rfl (lv_at hl 1 rfl) ?_
      refine lv_iload_n hx hb dX1_newMap_44 rfl (lv_at hl 2 rfl) ?_
      refine z_callVv (As := [.int (nI wn), .int (nI hn)]) (rest := []) F9 (m_X0_clear l dC dI cI cZ cJ cD hM aS aC aG bd sb nd S0 Cr G0 wn hn (hw.2) (hh.2)) (cwV 2 hts gX1_newMap_X0_clear rfl rfl rfl (by decide +kernel) ⟨Nat.le_of_ble_eq_true rfl, Nat.le_of_ble_eq_true rfl⟩) hK hN hP hD hS hA [1, 2, 3, 4] rfl rfl (fun _ => rfl) 1 (ci := 0) rfl rfl rfl rfl hl.1 rfl (Nat.le_of_ble_eq_true rfl) dX1_newMap_45 ⟨Nat.zero_le _, Nat.zero_le _⟩ (fun u H locs hp_45 hP hD hS => ?_)
      have hP : va_P (dC, dI) vwCl [(h0, .inr (1, [.ref hM, .ref hV, .int (nI wn), .int (nI hn), .int 0])), (hM, .inr (0, [.int (pBrd wn hn), .int 0, .int nd, .ref aS, .ref aC, .ref aG])), (aS, .inl (cI, 5, .inl (zfill (pClrF (pBrd wn hn)) S0 5))), (aC, .inl (cI, 5, .inl Cr)), (aG, .inl (cI, 5, .inl G0)), (hV, .inr (0, [.int bd2, .int sb2, .int nd2, .ref bS, .ref bC, .ref bG])), (bS, .inl (cI, 5, .inl S2)), (bC, .inl (cI, 5, .inl Cr2)), (bG, .inl (cI, 5, .inl G2))] H := hP
      have hD : va_D A [(h0, .inr (1, [.ref hM, .ref hV, .int (nI wn), .int (nI hn), .int 0])), (hM, .inr (0, [.int (pBrd wn hn), .int 0, .int nd, .ref aS, .ref aC, .ref aG])), (aS, .inl (cI, 5, .inl (zfill (pClrF (pBrd wn hn)) S0 5))), (aC, .inl (cI, 5, .inl Cr)), (aG, .inl (cI, 5, .inl G0)), (hV, .inr (0, [.int bd2, .int sb2, .int nd2, .ref bS, .ref bC, .ref bG])), (bS, .inl (cI, 5, .inl S2)), (bC, .inl (cI, 5, .inl Cr2)), (bG, .inl (cI, 5, .inl G2))] := hD
      refine lv_iload_n hx hb dX1_newMap_48 rfl (lv_at hl 1 rfl) ?_
      refine lv_iload_n hx hb dX1_newMap_49 rfl (lv_at hl 2 rfl) ?_
      refine lv_imul hx hb dX1_newMap_50 ?_
      refine z_topi (y := nI (wn * hn)) (pk_mul wn hn) ?_
      rw [← hQ]
      exact z_iret (W1 := (fun (_ : Unit) => [(h0, .inr (1, [.ref hM, .ref hV, .int (nI wn), .int (nI hn), .int 0])), (hM, .inr (0, [.int (pBrd wn hn), .int 0, .int nd, .ref aS, .ref aC, .ref aG])), (aS, .inl (cI, 5, .inl (zfill (pClrF (pBrd wn hn)) S0 5))), (aC, .inl (cI, 5, .inl Cr)), (aG, .inl (cI, 5, .inl G0)), (hV, .inr (0, [.int bd2, .int sb2, .int nd2, .ref bS, .ref bC, .ref bG])), (bS, .inl (cI, 5, .inl S2)), (bC, .inl (cI, 5, .inl Cr2)), (bG, .inl (cI, 5, .inl G2))])) hx hb hr hlocks hP hS () (rfl) (rfl) dX1_newMap_51
    · skip
      exact absurd (z_sideN hh) (z_if0 c_11)
abbrev rmX1_paint : Room := { frames := 2, cells := 0, slots := 0, locals := 43 }
set_option maxRecDepth 20000 in
theorem iX1_paint_X0 : ∀ w ∈ wsX00, w ∈ wsX1_paint := fun w h => (goodIn_r (big := wsX1_paint) wsX00 [38, 39, 40, 41, 42, 43] (by decide +kernel) (by decide +kernel) w h).1
set_option maxRecDepth 20000 in
theorem iX1_paint_X1 : ∀ w ∈ wsX10, w ∈ wsX1_paint := fun w h => (goodIn_r (big := wsX1_paint) wsX10 [33, 34, 35, 36, 37] (by decide +kernel) (by decide +kernel) w h).1
set_option maxHeartbeats 4000000 in
set_option maxRecDepth 100000 in
theorem m_X1_paint (l : Launch) (dC : Nat → ClassId) (dI : Nat → Nat → Nat) (cI cZ cJ cD : ClassId) (h0 : Nat) (hM : Nat) (aS : Nat) (aC : Nat) (aG : Nat) (hV : Nat) (bS : Nat) (bC : Nat) (bG : Nat) (wd : Int32) (hg : Int32) (wv : Int32) (bd : Int32) (sb : Int32) (nd : Int32) (S0 : Nat → Int32) (Cr : Nat → Int32) (G0 : Nat → Int32) (bd2 : Int32) (sb2 : Int32) (nd2 : Int32) (S2 : Nat → Int32) (Cr2 : Nat → Int32) (G2 : Nat → Int32) (x0 : Int32) (y0 : Int32) (col : Int32) (hon : pOn x0 y0 wd hg) (hcl : pAny col) : zI l (dC, dI) (wT cI cZ cJ cD) yX1_paint wsX1_paint rmX1_paint [(h0, .inr (1, [.ref hM, .ref hV, .int wd, .int hg, .int wv])), (hM, .inr (0, [.int bd, .int sb, .int nd, .ref aS, .ref aC, .ref aG])), (aS, .inl (cI, 5, .inl S0)), (aC, .inl (cI, 5, .inl Cr)), (aG, .inl (cI, 5, .inl G0)), (hV, .inr (0, [.int bd2, .int sb2, .int nd2, .ref bS, .ref bC, .ref bG])), (bS, .inl (cI, 5, .inl S2)), (bC, .inl (cI, 5, .inl Cr2)), (bG, .inl (cI, 5, .inl G2))] [.ref h0, .int x0, .int y0, .int col] (fun (_ : Unit) => [(h0, .inr (1, [.ref hM, .ref hV, .int wd, .int hg, .int wv])), (hM, .inr (0, [.int bd, .int sb, .int nd, .ref aS, .ref aC, .ref aG])), (aS, .inl (cI, 5, .inl (pDye S0 (pCell x0 y0) col))), (aC, .inl (cI, 5, .inl Cr)), (aG, .inl (cI, 5, .inl G0)), (hV, .inr (0, [.int bd2, .int sb2, .int nd2, .ref bS, .ref bC, .ref bG])), (bS, .inl (cI, 5, .inl S2)), (bC, .inl (cI, 5, .inl Cr2)), (bG, .inl (cI, 5, .inl G2))]) (fun (r : Int32) (_ : Unit) => r = pFirst S0 (pCell x0 y0)) := by
  intro sz
  refine Met.ofW (cc := cX1_paint) (maxL := 5) (ret := (some .int)) (by decide) rfl ?_
  intro p e s m args below meth c s₁ B hml hv
  obtain ⟨ha, hsz, hP, hK, hD0, hN⟩ := hv
  have hx := B.exec
  have hb := B.bytes
  have hr := B.returns
  have hts := atoms_spec (ws := wsX1_paint) B.pre
  have hown : s.vm.findClass RX1 = some m.cls := findClass_of_methodNamed B.named
  have hlocks := B.notSynchronized
  subst hsz
  have hD := hD0.self (sz := s.heap.size)
  generalize hAe : va_A [(h0, .inr (1, [.ref hM, .ref hV, .int wd, .int hg, .int wv])), (hM, .inr (0, [.int bd, .int sb, .int nd, .ref aS, .ref aC, .ref aG])), (aS, .inl (cI, 5, .inl S0)), (aC, .inl (cI, 5, .inl Cr)), (aG, .inl (cI, 5, .inl G0)), (hV, .inr (0, [.int bd2, .int sb2, .int nd2, .ref bS, .ref bC, .ref bG])), (bS, .inl (cI, 5, .inl S2)), (bC, .inl (cI, 5, .inl Cr2)), (bG, .inl (cI, 5, .inl G2))] s.heap.size = A at hD ⊢
  have hA : ∀ q : Nat, s.heap.size ≤ q → A q := fun q h => by rw [← hAe]; exact Or.inr h
  have hS : va_S A s.heap s.heap [] := va_S.rf
  generalize hQ : MQ below (va_Qi (fun (r : Int32) (_ : Unit) => r = pFirst S0 (pCell x0 y0)) (fun u t => va_P (dC, dI) vwCl ((fun (_ : Unit) => [(h0, .inr (1, [.ref hM, .ref hV, .int wd, .int hg, .int wv])), (hM, .inr (0, [.int bd, .int sb, .int nd, .ref aS, .ref aC, .ref aG])), (aS, .inl (cI, 5, .inl (pDye S0 (pCell x0 y0) col))), (aC, .inl (cI, 5, .inl Cr)), (aG, .inl (cI, 5, .inl G0)), (hV, .inr (0, [.int bd2, .int sb2, .int nd2, .ref bS, .ref bC, .ref bG])), (bS, .inl (cI, 5, .inl S2)), (bC, .inl (cI, 5, .inl Cr2)), (bG, .inl (cI, 5, .inl G2))]) u) t.heap) A) args s 0 0 A = Q
  have F9 : CallFix p m c cX1_paint 5 s args wsX1_paint RX1 := ⟨hx, hb, hml, hown, hts⟩
  refine z_entry (R := rmX1_paint) ha (Nat.le_of_ble_eq_true rfl) (fun ls hl => ?_)
  have hl : lv_has ls 5 [(0, .ref h0), (1, .int x0), (2, .int y0), (3, .int col)] := hl
  refine lv_aload_n hx hb dX1_paint_0 rfl (lv_at hl 0 rfl) ?_
  refine lv_iload_n hx hb dX1_paint_1 rfl (lv_at hl 1 rfl) ?_
  refine lv_iload_n hx hb dX1_paint_2 rfl (lv_at hl 2 rfl) ?_
  refine z_callVi (As := [.int x0, .int y0]) (rest := []) F9 (m_X1_isOnMap l dC dI cI cZ cJ cD h0 hM aS aC aG hV bS bC bG wd hg wv bd sb nd S0 Cr G0 bd2 sb2 nd2 S2 Cr2 G2 x0 y0 ) (cwV 2 hts gX1_paint_X1_isOnMap rfl rfl rfl (by decide +kernel) ⟨Nat.le_of_ble_eq_true rfl, Nat.le_of_ble_eq_true rfl⟩) hK hN hP hD hS hA [0, 1, 2, 3, 4, 5, 6, 7, 8] rfl rfl (fun _ => rfl) 0 (ci := 1) rfl rfl rfl rfl hl.1 rfl (Nat.le_of_ble_eq_true rfl) dX1_paint_3 ⟨Nat.zero_le _, Nat.zero_le _⟩ (fun r_1 u H locs hp_3 hP hD hS => ?_)
  have hP : va_P (dC, dI) vwCl [(h0, .inr (1, [.ref hM, .ref hV, .int wd, .int hg, .int wv])), (hM, .inr (0, [.int bd, .int sb, .int nd, .ref aS, .ref aC, .ref aG])), (aS, .inl (cI, 5, .inl S0)), (aC, .inl (cI, 5, .inl Cr)), (aG, .inl (cI, 5, .inl G0)), (hV, .inr (0, [.int bd2, .int sb2, .int nd2, .ref bS, .ref bC, .ref bG])), (bS, .inl (cI, 5, .inl S2)), (bC, .inl (cI, 5, .inl Cr2)), (bG, .inl (cI, 5, .inl G2))] H := hP
  have hD : va_D A [(h0, .inr (1, [.ref hM, .ref hV, .int wd, .int hg, .int wv])), (hM, .inr (0, [.int bd, .int sb, .int nd, .ref aS, .ref aC, .ref aG])), (aS, .inl (cI, 5, .inl S0)), (aC, .inl (cI, 5, .inl Cr)), (aG, .inl (cI, 5, .inl G0)), (hV, .inr (0, [.int bd2, .int sb2, .int nd2, .ref bS, .ref bC, .ref bG])), (bS, .inl (cI, 5, .inl S2)), (bC, .inl (cI, 5, .inl Cr2)), (bG, .inl (cI, 5, .inl G2))] := hD
  have hp_3 : r_1 = if pOn x0 y0 wd hg then 1 else 0 := hp_3
  refine z_topi (y := if pOn x0 y0 wd hg then 1 else 0) hp_3 ?_
  refine lv_if_eq (tgt := 16) hx hb dX1_paint_6 (by decide) (fun c_6 => ?_) (fun c_6 => ?_)
  · skip
    exact absurd hon (z_if0 c_6)
  · skip
    refine lv_iload_n hx hb dX1_paint_9 rfl (lv_at hl 3 rfl) ?_
    refine z_callSi (As := [.int col]) (rest := []) F9 (m_X1_isColourOrBare l dC dI cI cZ cJ cD col ) (va_cwS 1 hts gX1_paint_X1_isColourOrBare rfl rfl rfl (by decide +kernel) ⟨Nat.le_of_ble_eq_true rfl, Nat.le_of_ble_eq_true rfl⟩) hK hN hP hD hS hA rfl hl.1 rfl (Nat.le_of_ble_eq_true rfl) dX1_paint_10 ⟨Nat.zero_le _, Nat.zero_le _⟩ (fun r_2 H locs hp_10 hP hS => ?_)
    have hp_10 : r_2 = if pAny col then 1 else 0 := hp_10
    refine z_topi (y := if pAny col then 1 else 0) hp_10 ?_
    refine lv_if_ne (tgt := 26) hx hb dX1_paint_13 (by decide) (fun c_13 => ?_) (fun c_13 => ?_)
    · skip
      refine lv_aload_n hx hb dX1_paint_26 rfl (lv_at hl 0 rfl) ?_
      refine va_get (D := (dC, dI)) (ci := 1) (v := .ref hM) (C := RX1) (T := TX1) (N := 5) hx hb hts iX1_paint_X1 hown hK hP 0 rfl rfl 0 (by decide) (hts (.fieldLink RX1 12 "ColourTide" "map" "LColourTide$Tide;") (List.mem_of_getElem? (i := 3) rfl)) (fun _ h9 => h9) rfl dX1_paint_27 ?_
      refine lv_iload_n hx hb dX1_paint_30 rfl (lv_at hl 1 rfl) ?_
      refine lv_iload_n hx hb dX1_paint_31 rfl (lv_at hl 2 rfl) ?_
      refine z_callSi (As := [.int x0, .int y0]) (rest := [.ref hM]) F9 (m_X1_cell l dC dI cI cZ cJ cD x0 y0 ) (va_cwS 2 hts gX1_paint_X1_cell rfl rfl rfl (by decide +kernel) ⟨Nat.le_of_ble_eq_true rfl, Nat.le_of_ble_eq_true rfl⟩) hK hN hP hD hS hA rfl hl.1 rfl (Nat.le_of_ble_eq_true rfl) dX1_paint_32 ⟨Nat.zero_le _, Nat.zero_le _⟩ (fun r_3 H locs hp_32 hP hS => ?_)
      have hp_32 : r_3 = pCell x0 y0 := hp_32
      refine z_topi (y := pCell x0 y0) hp_32 ?_
      refine z_callVi (As := [.int (pCell x0 y0)]) (rest := []) F9 (m_X0_colourOf l dC dI cI cZ cJ cD hM aS aC aG bd sb nd S0 Cr G0 (pCell x0 y0) ) (cwV 1 hts gX1_paint_X0_colourOf rfl rfl rfl (by decide +kernel) ⟨Nat.le_of_ble_eq_true rfl, Nat.le_of_ble_eq_true rfl⟩) hK hN hP hD hS hA [1, 2, 3, 4] rfl rfl (fun _ => rfl) 1 (ci := 0) rfl rfl rfl rfl hl.1 rfl (Nat.le_of_ble_eq_true rfl) dX1_paint_35 ⟨Nat.zero_le _, Nat.zero_le _⟩ (fun r_4 u H locs hp_35 hP hD hS => ?_)
      have hP : va_P (dC, dI) vwCl [(h0, .inr (1, [.ref hM, .ref hV, .int wd, .int hg, .int wv])), (hM, .inr (0, [.int bd, .int sb, .int nd, .ref aS, .ref aC, .ref aG])), (aS, .inl (cI, 5, .inl S0)), (aC, .inl (cI, 5, .inl Cr)), (aG, .inl (cI, 5, .inl G0)), (hV, .inr (0, [.int bd2, .int sb2, .int nd2, .ref bS, .ref bC, .ref bG])), (bS, .inl (cI, 5, .inl S2)), (bC, .inl (cI, 5, .inl Cr2)), (bG, .inl (cI, 5, .inl G2))] H := hP
      have hD : va_D A [(h0, .inr (1, [.ref hM, .ref hV, .int wd, .int hg, .int wv])), (hM, .inr (0, [.int bd, .int sb, .int nd, .ref aS, .ref aC, .ref aG])), (aS, .inl (cI, 5, .inl S0)), (aC, .inl (cI, 5, .inl Cr)), (aG, .inl (cI, 5, .inl G0)), (hV, .inr (0, [.int bd2, .int sb2, .int nd2, .ref bS, .ref bC, .ref bG])), (bS, .inl (cI, 5, .inl S2)), (bC, .inl (cI, 5, .inl Cr2)), (bG, .inl (cI, 5, .inl G2))] := hD
      have hp_35 : r_4 = pFirst S0 (pCell x0 y0) := hp_35
      refine z_topi (y := pFirst S0 (pCell x0 y0)) hp_35 ?_
      refine lv_istore (lv' := [(4, .int (pFirst S0 (pCell x0 y0))), (0, .ref h0), (1, .int x0), (2, .int y0), (3, .int col)]) hx hb dX1_paint_38 hl (by decide) rfl (fun ls hl => ?_)
      refine lv_aload_n hx hb dX1_paint_40 rfl (lv_at hl 1 rfl) ?_
      refine va_get (D := (dC, dI)) (ci := 1) (v := .ref hM) (C := RX1) (T := TX1) (N := 5) hx hb hts iX1_paint_X1 hown hK hP 0 rfl rfl 0 (by decide) (hts (.fieldLink RX1 12 "ColourTide" "map" "LColourTide$Tide;") (List.mem_of_getElem? (i := 3) rfl)) (fun _ h9 => h9) rfl dX1_paint_41 ?_
      refine lv_iload_n hx hb dX1_paint_44 rfl (lv_at hl 2 rfl) ?_
      refine lv_iload_n hx hb dX1_paint_45 rfl (lv_at hl 3 rfl) ?_
      refine z_callSi (As := [.int x0, .int y0]) (rest := [.ref hM]) F9 (m_X1_cell l dC dI cI cZ cJ cD x0 y0 ) (va_cwS 2 hts gX1_paint_X1_cell rfl rfl rfl (by decide +kernel) ⟨Nat.le_of_ble_eq_true rfl, Nat.le_of_ble_eq_true rfl⟩) hK hN hP hD hS hA rfl hl.1 rfl (Nat.le_of_ble_eq_true rfl) dX1_paint_46 ⟨Nat.zero_le _, Nat.zero_le _⟩ (fun r_5 H locs hp_46 hP hS => ?_)
      have hp_46 : r_5 = pCell x0 y0 := hp_46
      refine z_topi (y := pCell x0 y0) hp_46 ?_
      refine lv_iload_n hx hb dX1_paint_49 rfl (lv_at hl 4 rfl) ?_
      refine z_callVv (As := [.int (pCell x0 y0), .int col]) (rest := []) F9 (m_X0_dye l dC dI cI cZ cJ cD hM aS aC aG bd sb nd S0 Cr G0 (pCell x0 y0) col ) (cwV 2 hts gX1_paint_X0_dye rfl rfl rfl (by decide +kernel) ⟨Nat.le_of_ble_eq_true rfl, Nat.le_of_ble_eq_true rfl⟩) hK hN hP hD hS hA [1, 2, 3, 4] rfl rfl (fun _ => rfl) 1 (ci := 0) rfl rfl rfl rfl hl.1 rfl (Nat.le_of_ble_eq_true rfl) dX1_paint_50 ⟨Nat.zero_le _, Nat.zero_le _⟩ (fun u H locs hp_50 hP hD hS => ?_)
      have hP : va_P (dC, dI) vwCl [(h0, .inr (1, [.ref hM, .ref hV, .int wd, .int hg, .int wv])), (hM, .inr (0, [.int bd, .int sb, .int nd, .ref aS, .ref aC, .ref aG])), (aS, .inl (cI, 5, .inl (pDye S0 (pCell x0 y0) col))), (aC, .inl (cI, 5, .inl Cr)), (aG, .inl (cI, 5, .inl G0)), (hV, .inr (0, [.int bd2, .int sb2, .int nd2, .ref bS, .ref bC, .ref bG])), (bS, .inl (cI, 5, .inl S2)), (bC, .inl (cI, 5, .inl Cr2)), (bG, .inl (cI, 5, .inl G2))] H := hP
      have hD : va_D A [(h0, .inr (1, [.ref hM, .ref hV, .int wd, .int hg, .int wv])), (hM, .inr (0, [.int bd, .int sb, .int nd, .ref aS, .ref aC, .ref aG])), (aS, .inl (cI, 5, .inl (pDye S0 (pCell x0 y0) col))), (aC, .inl (cI, 5, .inl Cr)), (aG, .inl (cI, 5, .inl G0)), (hV, .inr (0, [.int bd2, .int sb2, .int nd2, .ref bS, .ref bC, .ref bG])), (bS, .inl (cI, 5, .inl S2)), (bC, .inl (cI, 5, .inl Cr2)), (bG, .inl (cI, 5, .inl G2))] := hD
      refine lv_iload hx hb dX1_paint_53 (lv_at hl 0 rfl) ?_
      rw [← hQ]
      exact z_iret (W1 := (fun (_ : Unit) => [(h0, .inr (1, [.ref hM, .ref hV, .int wd, .int hg, .int wv])), (hM, .inr (0, [.int bd, .int sb, .int nd, .ref aS, .ref aC, .ref aG])), (aS, .inl (cI, 5, .inl (pDye S0 (pCell x0 y0) col))), (aC, .inl (cI, 5, .inl Cr)), (aG, .inl (cI, 5, .inl G0)), (hV, .inr (0, [.int bd2, .int sb2, .int nd2, .ref bS, .ref bC, .ref bG])), (bS, .inl (cI, 5, .inl S2)), (bC, .inl (cI, 5, .inl Cr2)), (bG, .inl (cI, 5, .inl G2))])) hx hb hr hlocks hP hS () (rfl) (rfl) dX1_paint_55
    · skip
      exact absurd hcl (z_if0 c_13)
abbrev rmX1_turnStubborn : Room := { frames := 1, cells := 0, slots := 0, locals := 30 }
set_option maxRecDepth 20000 in
theorem iX1_turnStubborn_X0 : ∀ w ∈ wsX00, w ∈ wsX1_turnStubborn := fun w h => (goodIn_r (big := wsX1_turnStubborn) wsX00 [20, 21, 22, 23, 24, 25] (by decide +kernel) (by decide +kernel) w h).1
set_option maxRecDepth 20000 in
theorem iX1_turnStubborn_X1 : ∀ w ∈ wsX10, w ∈ wsX1_turnStubborn := fun w h => (goodIn_r (big := wsX1_turnStubborn) wsX10 [15, 16, 17, 18, 19] (by decide +kernel) (by decide +kernel) w h).1
set_option maxHeartbeats 4000000 in
set_option maxRecDepth 100000 in
theorem m_X1_turnStubborn (l : Launch) (dC : Nat → ClassId) (dI : Nat → Nat → Nat) (cI cZ cJ cD : ClassId) (h0 : Nat) (hM : Nat) (aS : Nat) (aC : Nat) (aG : Nat) (hV : Nat) (bS : Nat) (bC : Nat) (bG : Nat) (wd : Int32) (hg : Int32) (wv : Int32) (bd : Int32) (sb : Int32) (nd : Int32) (S0 : Nat → Int32) (Cr : Nat → Int32) (G0 : Nat → Int32) (bd2 : Int32) (sb2 : Int32) (nd2 : Int32) (S2 : Nat → Int32) (Cr2 : Nat → Int32) (G2 : Nat → Int32) (x0 : Int32) (y0 : Int32) (hon : pOn x0 y0 wd hg) : zI l (dC, dI) (wT cI cZ cJ cD) yX1_turnStubborn wsX1_turnStubborn rmX1_turnStubborn [(h0, .inr (1, [.ref hM, .ref hV, .int wd, .int hg, .int wv])), (hM, .inr (0, [.int bd, .int sb, .int nd, .ref aS, .ref aC, .ref aG])), (aS, .inl (cI, 5, .inl S0)), (aC, .inl (cI, 5, .inl Cr)), (aG, .inl (cI, 5, .inl G0)), (hV, .inr (0, [.int bd2, .int sb2, .int nd2, .ref bS, .ref bC, .ref bG])), (bS, .inl (cI, 5, .inl S2)), (bC, .inl (cI, 5, .inl Cr2)), (bG, .inl (cI, 5, .inl G2))] [.ref h0, .int x0, .int y0] (fun (_ : Unit) => [(h0, .inr (1, [.ref hM, .ref hV, .int wd, .int hg, .int wv])), (hM, .inr (0, [.int bd, .int (sb ^^^ pCell x0 y0), .int nd, .ref aS, .ref aC, .ref aG])), (aS, .inl (cI, 5, .inl S0)), (aC, .inl (cI, 5, .inl Cr)), (aG, .inl (cI, 5, .inl G0)), (hV, .inr (0, [.int bd2, .int sb2, .int nd2, .ref bS, .ref bC, .ref bG])), (bS, .inl (cI, 5, .inl S2)), (bC, .inl (cI, 5, .inl Cr2)), (bG, .inl (cI, 5, .inl G2))]) (fun (r : Int32) (_ : Unit) => r = if (sb ^^^ pCell x0 y0) &&& pCell x0 y0 = 0 then 0 else 1) := by
  intro sz
  refine Met.ofW (cc := cX1_turnStubborn) (maxL := 3) (ret := (some .boolean)) (by decide) rfl ?_
  intro p e s m args below meth c s₁ B hml hv
  obtain ⟨ha, hsz, hP, hK, hD0, hN⟩ := hv
  have hx := B.exec
  have hb := B.bytes
  have hr := B.returns
  have hts := atoms_spec (ws := wsX1_turnStubborn) B.pre
  have hown : s.vm.findClass RX1 = some m.cls := findClass_of_methodNamed B.named
  have hlocks := B.notSynchronized
  subst hsz
  have hD := hD0.self (sz := s.heap.size)
  generalize hAe : va_A [(h0, .inr (1, [.ref hM, .ref hV, .int wd, .int hg, .int wv])), (hM, .inr (0, [.int bd, .int sb, .int nd, .ref aS, .ref aC, .ref aG])), (aS, .inl (cI, 5, .inl S0)), (aC, .inl (cI, 5, .inl Cr)), (aG, .inl (cI, 5, .inl G0)), (hV, .inr (0, [.int bd2, .int sb2, .int nd2, .ref bS, .ref bC, .ref bG])), (bS, .inl (cI, 5, .inl S2)), (bC, .inl (cI, 5, .inl Cr2)), (bG, .inl (cI, 5, .inl G2))] s.heap.size = A at hD ⊢
  have hA : ∀ q : Nat, s.heap.size ≤ q → A q := fun q h => by rw [← hAe]; exact Or.inr h
  have hS : va_S A s.heap s.heap [] := va_S.rf
  generalize hQ : MQ below (va_Qi (fun (r : Int32) (_ : Unit) => r = if (sb ^^^ pCell x0 y0) &&& pCell x0 y0 = 0 then 0 else 1) (fun u t => va_P (dC, dI) vwCl ((fun (_ : Unit) => [(h0, .inr (1, [.ref hM, .ref hV, .int wd, .int hg, .int wv])), (hM, .inr (0, [.int bd, .int (sb ^^^ pCell x0 y0), .int nd, .ref aS, .ref aC, .ref aG])), (aS, .inl (cI, 5, .inl S0)), (aC, .inl (cI, 5, .inl Cr)), (aG, .inl (cI, 5, .inl G0)), (hV, .inr (0, [.int bd2, .int sb2, .int nd2, .ref bS, .ref bC, .ref bG])), (bS, .inl (cI, 5, .inl S2)), (bC, .inl (cI, 5, .inl Cr2)), (bG, .inl (cI, 5, .inl G2))]) u) t.heap) A) args s 0 0 A = Q
  have F9 : CallFix p m c cX1_turnStubborn 3 s args wsX1_turnStubborn RX1 := ⟨hx, hb, hml, hown, hts⟩
  refine z_entry (R := rmX1_turnStubborn) ha (Nat.le_of_ble_eq_true rfl) (fun ls hl => ?_)
  have hl : lv_has ls 3 [(0, .ref h0), (1, .int x0), (2, .int y0)] := hl
  refine lv_aload_n hx hb dX1_turnStubborn_0 rfl (lv_at hl 0 rfl) ?_
  refine lv_iload_n hx hb dX1_turnStubborn_1 rfl (lv_at hl 1 rfl) ?_
  refine lv_iload_n hx hb dX1_turnStubborn_2 rfl (lv_at hl 2 rfl) ?_
  refine z_callVi (As := [.int x0, .int y0]) (rest := []) F9 (m_X1_isOnMap l dC dI cI cZ cJ cD h0 hM aS aC aG hV bS bC bG wd hg wv bd sb nd S0 Cr G0 bd2 sb2 nd2 S2 Cr2 G2 x0 y0 ) (cwV 2 hts gX1_turnStubborn_X1_isOnMap rfl rfl rfl (by decide +kernel) ⟨Nat.le_of_ble_eq_true rfl, Nat.le_of_ble_eq_true rfl⟩) hK hN hP hD hS hA [0, 1, 2, 3, 4, 5, 6, 7, 8] rfl rfl (fun _ => rfl) 0 (ci := 1) rfl rfl rfl rfl hl.1 rfl (Nat.le_of_ble_eq_true rfl) dX1_turnStubborn_3 ⟨Nat.zero_le _, Nat.zero_le _⟩ (fun r_1 u H locs hp_3 hP hD hS => ?_)
  have hP : va_P (dC, dI) vwCl [(h0, .inr (1, [.ref hM, .ref hV, .int wd, .int hg, .int wv])), (hM, .inr (0, [.int bd, .int sb, .int nd, .ref aS, .ref aC, .ref aG])), (aS, .inl (cI, 5, .inl S0)), (aC, .inl (cI, 5, .inl Cr)), (aG, .inl (cI, 5, .inl G0)), (hV, .inr (0, [.int bd2, .int sb2, .int nd2, .ref bS, .ref bC, .ref bG])), (bS, .inl (cI, 5, .inl S2)), (bC, .inl (cI, 5, .inl Cr2)), (bG, .inl (cI, 5, .inl G2))] H := hP
  have hD : va_D A [(h0, .inr (1, [.ref hM, .ref hV, .int wd, .int hg, .int wv])), (hM, .inr (0, [.int bd, .int sb, .int nd, .ref aS, .ref aC, .ref aG])), (aS, .inl (cI, 5, .inl S0)), (aC, .inl (cI, 5, .inl Cr)), (aG, .inl (cI, 5, .inl G0)), (hV, .inr (0, [.int bd2, .int sb2, .int nd2, .ref bS, .ref bC, .ref bG])), (bS, .inl (cI, 5, .inl S2)), (bC, .inl (cI, 5, .inl Cr2)), (bG, .inl (cI, 5, .inl G2))] := hD
  have hp_3 : r_1 = if pOn x0 y0 wd hg then 1 else 0 := hp_3
  refine z_topi (y := if pOn x0 y0 wd hg then 1 else 0) hp_3 ?_
  refine lv_if_ne (tgt := 19) hx hb dX1_turnStubborn_6 (by decide) (fun c_6 => ?_) (fun c_6 => ?_)
  · skip
    refine lv_aload_n hx hb dX1_turnStubborn_19 rfl (lv_at hl 0 rfl) ?_
    refine va_get (D := (dC, dI)) (ci := 1) (v := .ref hM) (C := RX1) (T := TX1) (N := 5) hx hb hts iX1_turnStubborn_X1 hown hK hP 0 rfl rfl 0 (by decide) (hts (.fieldLink RX1 12 "ColourTide" "map" "LColourTide$Tide;") (List.mem_of_getElem? (i := 3) rfl)) (fun _ h9 => h9) rfl dX1_turnStubborn_20 ?_
    refine lv_dup hx hb dX1_turnStubborn_23 rfl ?_
    refine va_get (D := (dC, dI)) (ci := 0) (v := .int sb) (C := RX0) (T := TX0) (N := 6) hx hb hts iX1_turnStubborn_X0 hown hK hP 1 rfl rfl 1 (by decide) (hts (.fieldLink RX1 69 "ColourTide$Tide" "stubborn" "I") (List.mem_of_getElem? (i := 4) rfl)) (fun _ h9 => h9) rfl dX1_turnStubborn_24 ?_
    refine lv_iload_n hx hb dX1_turnStubborn_27 rfl (lv_at hl 1 rfl) ?_
    refine lv_iload_n hx hb dX1_turnStubborn_28 rfl (lv_at hl 2 rfl) ?_
    refine z_callSi (As := [.int x0, .int y0]) (rest := [.int sb, .ref hM]) F9 (m_X1_cell l dC dI cI cZ cJ cD x0 y0 ) (va_cwS 2 hts gX1_turnStubborn_X1_cell rfl rfl rfl (by decide +kernel) ⟨Nat.le_of_ble_eq_true rfl, Nat.le_of_ble_eq_true rfl⟩) hK hN hP hD hS hA rfl hl.1 rfl (Nat.le_of_ble_eq_true rfl) dX1_turnStubborn_29 ⟨Nat.zero_le _, Nat.zero_le _⟩ (fun r_2 H locs hp_29 hP hS => ?_)
    have hp_29 : r_2 = pCell x0 y0 := hp_29
    refine z_topi (y := pCell x0 y0) hp_29 ?_
    refine lv_ixor hx hb dX1_turnStubborn_32 ?_
    refine va_put (D := (dC, dI)) (ci := 0) (v := .int (sb ^^^ (pCell x0 y0))) (ty := .int) (C := RX0) (T := TX0) (N := 6) hx hb hts iX1_turnStubborn_X0 tyX0 tyX0_ok nmX0 hown hK hP hD hS 1 rfl rfl 1 (by decide) (hts (.fieldLink RX1 69 "ColourTide$Tide" "stubborn" "I") (List.mem_of_getElem? (i := 4) rfl)) (fun _ h9 => h9) rfl (by decide +kernel) rfl rfl (Nat.le_of_ble_eq_true rfl) dX1_turnStubborn_33 (fun H locs hP hD hS => ?_)
    have hP : va_P (dC, dI) vwCl [(h0, .inr (1, [.ref hM, .ref hV, .int wd, .int hg, .int wv])), (hM, .inr (0, [.int bd, .int (sb ^^^ (pCell x0 y0)), .int nd, .ref aS, .ref aC, .ref aG])), (aS, .inl (cI, 5, .inl S0)), (aC, .inl (cI, 5, .inl Cr)), (aG, .inl (cI, 5, .inl G0)), (hV, .inr (0, [.int bd2, .int sb2, .int nd2, .ref bS, .ref bC, .ref bG])), (bS, .inl (cI, 5, .inl S2)), (bC, .inl (cI, 5, .inl Cr2)), (bG, .inl (cI, 5, .inl G2))] H := hP
    have hD : va_D A [(h0, .inr (1, [.ref hM, .ref hV, .int wd, .int hg, .int wv])), (hM, .inr (0, [.int bd, .int (sb ^^^ (pCell x0 y0)), .int nd, .ref aS, .ref aC, .ref aG])), (aS, .inl (cI, 5, .inl S0)), (aC, .inl (cI, 5, .inl Cr)), (aG, .inl (cI, 5, .inl G0)), (hV, .inr (0, [.int bd2, .int sb2, .int nd2, .ref bS, .ref bC, .ref bG])), (bS, .inl (cI, 5, .inl S2)), (bC, .inl (cI, 5, .inl Cr2)), (bG, .inl (cI, 5, .inl G2))] := hD
    refine lv_aload_n hx hb dX1_turnStubborn_36 rfl (lv_at hl 0 rfl) ?_
    refine va_get (D := (dC, dI)) (ci := 1) (v := .ref hM) (C := RX1) (T := TX1) (N := 5) hx hb hts iX1_turnStubborn_X1 hown hK hP 0 rfl rfl 0 (by decide) (hts (.fieldLink RX1 12 "ColourTide" "map" "LColourTide$Tide;") (List.mem_of_getElem? (i := 3) rfl)) (fun _ h9 => h9) rfl dX1_turnStubborn_37 ?_
    refine va_get (D := (dC, dI)) (ci := 0) (v := .int (sb ^^^ (pCell x0 y0))) (C := RX0) (T := TX0) (N := 6) hx hb hts iX1_turnStubborn_X0 hown hK hP 1 rfl rfl 1 (by decide) (hts (.fieldLink RX1 69 "ColourTide$Tide" "stubborn" "I") (List.mem_of_getElem? (i := 4) rfl)) (fun _ h9 => h9) rfl dX1_turnStubborn_40 ?_
    refine lv_iload_n hx hb dX1_turnStubborn_43 rfl (lv_at hl 1 rfl) ?_
    refine lv_iload_n hx hb dX1_turnStubborn_44 rfl (lv_at hl 2 rfl) ?_
    refine z_callSi (As := [.int x0, .int y0]) (rest := [.int (sb ^^^ (pCell x0 y0))]) F9 (m_X1_cell l dC dI cI cZ cJ cD x0 y0 ) (va_cwS 2 hts gX1_turnStubborn_X1_cell rfl rfl rfl (by decide +kernel) ⟨Nat.le_of_ble_eq_true rfl, Nat.le_of_ble_eq_true rfl⟩) hK hN hP hD hS hA rfl hl.1 rfl (Nat.le_of_ble_eq_true rfl) dX1_turnStubborn_45 ⟨Nat.zero_le _, Nat.zero_le _⟩ (fun r_3 H locs hp_45 hP hS => ?_)
    have hp_45 : r_3 = pCell x0 y0 := hp_45
    refine z_topi (y := pCell x0 y0) hp_45 ?_
    refine lv_iand hx hb dX1_turnStubborn_48 ?_
    refine lv_if_eq (tgt := 56) hx hb dX1_turnStubborn_49 (by decide) (fun c_49 => ?_) (fun c_49 => ?_)
    · skip
      refine lv_iconst (v := 0) hx hb dX1_turnStubborn_56 (by decide) ?_
      rw [← hQ]
      exact z_zret (W1 := (fun (_ : Unit) => [(h0, .inr (1, [.ref hM, .ref hV, .int wd, .int hg, .int wv])), (hM, .inr (0, [.int bd, .int (sb ^^^ pCell x0 y0), .int nd, .ref aS, .ref aC, .ref aG])), (aS, .inl (cI, 5, .inl S0)), (aC, .inl (cI, 5, .inl Cr)), (aG, .inl (cI, 5, .inl G0)), (hV, .inr (0, [.int bd2, .int sb2, .int nd2, .ref bS, .ref bC, .ref bG])), (bS, .inl (cI, 5, .inl S2)), (bC, .inl (cI, 5, .inl Cr2)), (bG, .inl (cI, 5, .inl G2))])) hx hb hr hlocks (by decide +kernel) hP hS () (rfl) (by rw [if_pos c_49]) dX1_turnStubborn_57
    · skip
      refine lv_iconst (v := 1) hx hb dX1_turnStubborn_52 (by decide) ?_
      refine lv_goto (tgt := 57) hx hb dX1_turnStubborn_53 (by decide) ?_
      rw [← hQ]
      exact z_zret (W1 := (fun (_ : Unit) => [(h0, .inr (1, [.ref hM, .ref hV, .int wd, .int hg, .int wv])), (hM, .inr (0, [.int bd, .int (sb ^^^ pCell x0 y0), .int nd, .ref aS, .ref aC, .ref aG])), (aS, .inl (cI, 5, .inl S0)), (aC, .inl (cI, 5, .inl Cr)), (aG, .inl (cI, 5, .inl G0)), (hV, .inr (0, [.int bd2, .int sb2, .int nd2, .ref bS, .ref bC, .ref bG])), (bS, .inl (cI, 5, .inl S2)), (bC, .inl (cI, 5, .inl Cr2)), (bG, .inl (cI, 5, .inl G2))])) hx hb hr hlocks (by decide +kernel) hP hS () (rfl) (by rw [if_neg c_49]) dX1_turnStubborn_57
  · skip
    exact absurd hon (z_if0 c_6)
abbrev rmX1_setNeed : Room := { frames := 1, cells := 0, slots := 0, locals := 30 }
set_option maxRecDepth 20000 in
theorem iX1_setNeed_X0 : ∀ w ∈ wsX00, w ∈ wsX1_setNeed := fun w h => (goodIn_r (big := wsX1_setNeed) wsX00 [10, 11, 12, 13, 14, 15] (by decide +kernel) (by decide +kernel) w h).1
set_option maxRecDepth 20000 in
theorem iX1_setNeed_X1 : ∀ w ∈ wsX10, w ∈ wsX1_setNeed := fun w h => (goodIn_r (big := wsX1_setNeed) wsX10 [5, 6, 7, 8, 9] (by decide +kernel) (by decide +kernel) w h).1
set_option maxHeartbeats 4000000 in
set_option maxRecDepth 100000 in
theorem m_X1_setNeed (l : Launch) (dC : Nat → ClassId) (dI : Nat → Nat → Nat) (cI cZ cJ cD : ClassId) (h0 : Nat) (hM : Nat) (aS : Nat) (aC : Nat) (aG : Nat) (hV : Nat) (bS : Nat) (bC : Nat) (bG : Nat) (wd : Int32) (hg : Int32) (wv : Int32) (bd : Int32) (sb : Int32) (nd : Int32) (S0 : Nat → Int32) (Cr : Nat → Int32) (G0 : Nat → Int32) (bd2 : Int32) (sb2 : Int32) (nd2 : Int32) (S2 : Nat → Int32) (Cr2 : Nat → Int32) (G2 : Nat → Int32) (n0 : Nat) (hn0 : 1 ≤ n0 ∧ n0 ≤ 4) : zI l (dC, dI) (wT cI cZ cJ cD) yX1_setNeed wsX1_setNeed rmX1_setNeed [(h0, .inr (1, [.ref hM, .ref hV, .int wd, .int hg, .int wv])), (hM, .inr (0, [.int bd, .int sb, .int nd, .ref aS, .ref aC, .ref aG])), (aS, .inl (cI, 5, .inl S0)), (aC, .inl (cI, 5, .inl Cr)), (aG, .inl (cI, 5, .inl G0)), (hV, .inr (0, [.int bd2, .int sb2, .int nd2, .ref bS, .ref bC, .ref bG])), (bS, .inl (cI, 5, .inl S2)), (bC, .inl (cI, 5, .inl Cr2)), (bG, .inl (cI, 5, .inl G2))] [.ref h0, .int (nI n0)] (fun (_ : Unit) => [(h0, .inr (1, [.ref hM, .ref hV, .int wd, .int hg, .int wv])), (hM, .inr (0, [.int bd, .int sb, .int (nI n0), .ref aS, .ref aC, .ref aG])), (aS, .inl (cI, 5, .inl S0)), (aC, .inl (cI, 5, .inl Cr)), (aG, .inl (cI, 5, .inl G0)), (hV, .inr (0, [.int bd2, .int sb2, .int nd2, .ref bS, .ref bC, .ref bG])), (bS, .inl (cI, 5, .inl S2)), (bC, .inl (cI, 5, .inl Cr2)), (bG, .inl (cI, 5, .inl G2))]) (fun (r : Int32) (_ : Unit) => r = nd) := by
  intro sz
  refine Met.ofW (cc := cX1_setNeed) (maxL := 3) (ret := (some .int)) (by decide) rfl ?_
  intro p e s m args below meth c s₁ B hml hv
  obtain ⟨ha, hsz, hP, hK, hD0, hN⟩ := hv
  have hx := B.exec
  have hb := B.bytes
  have hr := B.returns
  have hts := atoms_spec (ws := wsX1_setNeed) B.pre
  have hown : s.vm.findClass RX1 = some m.cls := findClass_of_methodNamed B.named
  have hlocks := B.notSynchronized
  subst hsz
  have hD := hD0.self (sz := s.heap.size)
  generalize hAe : va_A [(h0, .inr (1, [.ref hM, .ref hV, .int wd, .int hg, .int wv])), (hM, .inr (0, [.int bd, .int sb, .int nd, .ref aS, .ref aC, .ref aG])), (aS, .inl (cI, 5, .inl S0)), (aC, .inl (cI, 5, .inl Cr)), (aG, .inl (cI, 5, .inl G0)), (hV, .inr (0, [.int bd2, .int sb2, .int nd2, .ref bS, .ref bC, .ref bG])), (bS, .inl (cI, 5, .inl S2)), (bC, .inl (cI, 5, .inl Cr2)), (bG, .inl (cI, 5, .inl G2))] s.heap.size = A at hD ⊢
  have hA : ∀ q : Nat, s.heap.size ≤ q → A q := fun q h => by rw [← hAe]; exact Or.inr h
  have hS : va_S A s.heap s.heap [] := va_S.rf
  generalize hQ : MQ below (va_Qi (fun (r : Int32) (_ : Unit) => r = nd) (fun u t => va_P (dC, dI) vwCl ((fun (_ : Unit) => [(h0, .inr (1, [.ref hM, .ref hV, .int wd, .int hg, .int wv])), (hM, .inr (0, [.int bd, .int sb, .int (nI n0), .ref aS, .ref aC, .ref aG])), (aS, .inl (cI, 5, .inl S0)), (aC, .inl (cI, 5, .inl Cr)), (aG, .inl (cI, 5, .inl G0)), (hV, .inr (0, [.int bd2, .int sb2, .int nd2, .ref bS, .ref bC, .ref bG])), (bS, .inl (cI, 5, .inl S2)), (bC, .inl (cI, 5, .inl Cr2)), (bG, .inl (cI, 5, .inl G2))]) u) t.heap) A) args s 0 0 A = Q
  have F9 : CallFix p m c cX1_setNeed 3 s args wsX1_setNeed RX1 := ⟨hx, hb, hml, hown, hts⟩
  refine z_entry (R := rmX1_setNeed) ha (Nat.le_of_ble_eq_true rfl) (fun ls hl => ?_)
  have hl : lv_has ls 3 [(0, .ref h0), (1, .int (nI n0))] := hl
  refine lv_iload_n hx hb dX1_setNeed_0 rfl (lv_at hl 1 rfl) ?_
  refine lv_iconst (v := 1) hx hb dX1_setNeed_1 (by decide) ?_
  refine lv_icmp_lt (tgt := 10) hx hb dX1_setNeed_2 (by decide) (fun c_2 => ?_) (fun c_2 => ?_)
  · skip
    have n_2 := zc_lt_t (a := n0) (b := 1) (by omega) (by omega) c_2
    exact absurd n_2 (by omega)
  · skip
    have n_2 := zc_lt_f (a := n0) (b := 1) (by omega) (by omega) c_2
    refine lv_iload_n hx hb dX1_setNeed_5 rfl (lv_at hl 1 rfl) ?_
    refine lv_iconst (v := 4) hx hb dX1_setNeed_6 (by decide) ?_
    refine lv_icmp_le (tgt := 20) hx hb dX1_setNeed_7 (by decide) (fun c_7 => ?_) (fun c_7 => ?_)
    · skip
      have n_7 := zc_le_t (a := n0) (b := 4) (by omega) (by omega) c_7
      refine lv_aload_n hx hb dX1_setNeed_20 rfl (lv_at hl 0 rfl) ?_
      refine va_get (D := (dC, dI)) (ci := 1) (v := .ref hM) (C := RX1) (T := TX1) (N := 5) hx hb hts iX1_setNeed_X1 hown hK hP 0 rfl rfl 0 (by decide) (hts (.fieldLink RX1 12 "ColourTide" "map" "LColourTide$Tide;") (List.mem_of_getElem? (i := 3) rfl)) (fun _ h9 => h9) rfl dX1_setNeed_21 ?_
      refine va_get (D := (dC, dI)) (ci := 0) (v := .int nd) (C := RX0) (T := TX0) (N := 6) hx hb hts iX1_setNeed_X0 hown hK hP 1 rfl rfl 2 (by decide) (hts (.fieldLink RX1 74 "ColourTide$Tide" "need" "I") (List.mem_of_getElem? (i := 4) rfl)) (fun _ h9 => h9) rfl dX1_setNeed_24 ?_
      refine lv_istore_n (lv' := [(2, .int nd), (0, .ref h0), (1, .int (nI n0))]) hx hb dX1_setNeed_27 rfl hl (by decide) rfl (fun ls hl => ?_)
      refine lv_aload_n hx hb dX1_setNeed_28 rfl (lv_at hl 1 rfl) ?_
      refine va_get (D := (dC, dI)) (ci := 1) (v := .ref hM) (C := RX1) (T := TX1) (N := 5) hx hb hts iX1_setNeed_X1 hown hK hP 0 rfl rfl 0 (by decide) (hts (.fieldLink RX1 12 "ColourTide" "map" "LColourTide$Tide;") (List.mem_of_getElem? (i := 3) rfl)) (fun _ h9 => h9) rfl dX1_setNeed_29 ?_
      refine lv_iload_n hx hb dX1_setNeed_32 rfl (lv_at hl 2 rfl) ?_
      refine va_put (D := (dC, dI)) (ci := 0) (v := .int (nI n0)) (ty := .int) (C := RX0) (T := TX0) (N := 6) hx hb hts iX1_setNeed_X0 tyX0 tyX0_ok nmX0 hown hK hP hD hS 1 rfl rfl 2 (by decide) (hts (.fieldLink RX1 74 "ColourTide$Tide" "need" "I") (List.mem_of_getElem? (i := 4) rfl)) (fun _ h9 => h9) rfl (by decide +kernel) rfl rfl (Nat.le_of_ble_eq_true rfl) dX1_setNeed_33 (fun H locs hP hD hS => ?_)
      have hP : va_P (dC, dI) vwCl [(h0, .inr (1, [.ref hM, .ref hV, .int wd, .int hg, .int wv])), (hM, .inr (0, [.int bd, .int sb, .int (nI n0), .ref aS, .ref aC, .ref aG])), (aS, .inl (cI, 5, .inl S0)), (aC, .inl (cI, 5, .inl Cr)), (aG, .inl (cI, 5, .inl G0)), (hV, .inr (0, [.int bd2, .int sb2, .int nd2, .ref bS, .ref bC, .ref bG])), (bS, .inl (cI, 5, .inl S2)), (bC, .inl (cI, 5, .inl Cr2)), (bG, .inl (cI, 5, .inl G2))] H := hP
      have hD : va_D A [(h0, .inr (1, [.ref hM, .ref hV, .int wd, .int hg, .int wv])), (hM, .inr (0, [.int bd, .int sb, .int (nI n0), .ref aS, .ref aC, .ref aG])), (aS, .inl (cI, 5, .inl S0)), (aC, .inl (cI, 5, .inl Cr)), (aG, .inl (cI, 5, .inl G0)), (hV, .inr (0, [.int bd2, .int sb2, .int nd2, .ref bS, .ref bC, .ref bG])), (bS, .inl (cI, 5, .inl S2)), (bC, .inl (cI, 5, .inl Cr2)), (bG, .inl (cI, 5, .inl G2))] := hD
      refine lv_iload_n hx hb dX1_setNeed_36 rfl (lv_at hl 0 rfl) ?_
      rw [← hQ]
      exact z_iret (W1 := (fun (_ : Unit) => [(h0, .inr (1, [.ref hM, .ref hV, .int wd, .int hg, .int wv])), (hM, .inr (0, [.int bd, .int sb, .int (nI n0), .ref aS, .ref aC, .ref aG])), (aS, .inl (cI, 5, .inl S0)), (aC, .inl (cI, 5, .inl Cr)), (aG, .inl (cI, 5, .inl G0)), (hV, .inr (0, [.int bd2, .int sb2, .int nd2, .ref bS, .ref bC, .ref bG])), (bS, .inl (cI, 5, .inl S2)), (bC, .inl (cI, 5, .inl Cr2)), (bG, .inl (cI, 5, .inl G2))])) hx hb hr hlocks hP hS () (rfl) (rfl) dX1_setNeed_37
    · skip
      have n_7 := zc_le_f (a := n0) (b := 4) (by omega) (by omega) c_7
      exact absurd n_7 (by omega)
abbrev rmX1_pass : Room := { frames := 4, cells := 0, slots := 0, locals := 94 }
set_option maxRecDepth 20000 in
theorem iX1_pass_X0 : ∀ w ∈ wsX00, w ∈ wsX1_pass := fun w h => (goodIn_r (big := wsX1_pass) wsX00 [43, 44, 45, 46, 47, 48] (by decide +kernel) (by decide +kernel) w h).1
set_option maxRecDepth 20000 in
theorem iX1_pass_X1 : ∀ w ∈ wsX10, w ∈ wsX1_pass := fun w h => (goodIn_r (big := wsX1_pass) wsX10 [38, 39, 40, 41, 42] (by decide +kernel) (by decide +kernel) w h).1
set_option maxHeartbeats 4000000 in
set_option maxRecDepth 100000 in
theorem m_X1_pass (l : Launch) (dC : Nat → ClassId) (dI : Nat → Nat → Nat) (cI cZ cJ cD : ClassId) (h0 : Nat) (hM : Nat) (aS : Nat) (aC : Nat) (aG : Nat) (hV : Nat) (bS : Nat) (bC : Nat) (bG : Nat) (wd : Int32) (hg : Int32) (wv : Int32) (bd : Int32) (sb : Int32) (nd : Int32) (S0 : Nat → Int32) (Cr : Nat → Int32) (G0 : Nat → Int32) (bd2 : Int32) (sb2 : Int32) (nd2 : Int32) (S2 : Nat → Int32) (Cr2 : Nat → Int32) (G2 : Nat → Int32) (q0 : Nat) (nw : Nat) (hq : 1 ≤ q0 ∧ q0 ≤ 4) (hnd : nd = nI q0) (hnw : 1 ≤ nw ∧ nw ≤ 40) : zI l (dC, dI) (wT cI cZ cJ cD) yX1_pass wsX1_pass rmX1_pass [(h0, .inr (1, [.ref hM, .ref hV, .int wd, .int hg, .int wv])), (hM, .inr (0, [.int bd, .int sb, .int nd, .ref aS, .ref aC, .ref aG])), (aS, .inl (cI, 5, .inl S0)), (aC, .inl (cI, 5, .inl Cr)), (aG, .inl (cI, 5, .inl G0)), (hV, .inr (0, [.int bd2, .int sb2, .int nd2, .ref bS, .ref bC, .ref bG])), (bS, .inl (cI, 5, .inl S2)), (bC, .inl (cI, 5, .inl Cr2)), (bG, .inl (cI, 5, .inl G2))] [.ref h0, .int (nI nw)] (fun (u : (Nat → Int32) × (Nat → Int32)) => [(h0, .inr (1, [.ref hM, .ref hV, .int wd, .int hg, .int (wv + nI nw)])), (hM, .inr (0, [.int bd, .int sb, .int nd, .ref aS, .ref aC, .ref aG])), (aS, .inl (cI, 5, .inl (pIt bd sb q0 S0 nw))), (aC, .inl (cI, 5, .inl u.1)), (aG, .inl (cI, 5, .inl u.2)), (hV, .inr (0, [.int bd2, .int sb2, .int nd2, .ref bS, .ref bC, .ref bG])), (bS, .inl (cI, 5, .inl S2)), (bC, .inl (cI, 5, .inl Cr2)), (bG, .inl (cI, 5, .inl G2))]) (fun (r : Int32) (u : (Nat → Int32) × (Nat → Int32)) => r = pBC (pLast bd sb q0 S0 nw)) := by
  intro sz
  refine Met.ofW (cc := cX1_pass) (maxL := 2) (ret := (some .int)) (by decide) rfl ?_
  intro p e s m args below meth c s₁ B hml hv
  obtain ⟨ha, hsz, hP, hK, hD0, hN⟩ := hv
  have hx := B.exec
  have hb := B.bytes
  have hr := B.returns
  have hts := atoms_spec (ws := wsX1_pass) B.pre
  have hown : s.vm.findClass RX1 = some m.cls := findClass_of_methodNamed B.named
  have hlocks := B.notSynchronized
  subst hsz
  have hD := hD0.self (sz := s.heap.size)
  generalize hAe : va_A [(h0, .inr (1, [.ref hM, .ref hV, .int wd, .int hg, .int wv])), (hM, .inr (0, [.int bd, .int sb, .int nd, .ref aS, .ref aC, .ref aG])), (aS, .inl (cI, 5, .inl S0)), (aC, .inl (cI, 5, .inl Cr)), (aG, .inl (cI, 5, .inl G0)), (hV, .inr (0, [.int bd2, .int sb2, .int nd2, .ref bS, .ref bC, .ref bG])), (bS, .inl (cI, 5, .inl S2)), (bC, .inl (cI, 5, .inl Cr2)), (bG, .inl (cI, 5, .inl G2))] s.heap.size = A at hD ⊢
  have hA : ∀ q : Nat, s.heap.size ≤ q → A q := fun q h => by rw [← hAe]; exact Or.inr h
  have hS : va_S A s.heap s.heap [] := va_S.rf
  generalize hQ : MQ below (va_Qi (fun (r : Int32) (u : (Nat → Int32) × (Nat → Int32)) => r = pBC (pLast bd sb q0 S0 nw)) (fun u t => va_P (dC, dI) vwCl ((fun (u : (Nat → Int32) × (Nat → Int32)) => [(h0, .inr (1, [.ref hM, .ref hV, .int wd, .int hg, .int (wv + nI nw)])), (hM, .inr (0, [.int bd, .int sb, .int nd, .ref aS, .ref aC, .ref aG])), (aS, .inl (cI, 5, .inl (pIt bd sb q0 S0 nw))), (aC, .inl (cI, 5, .inl u.1)), (aG, .inl (cI, 5, .inl u.2)), (hV, .inr (0, [.int bd2, .int sb2, .int nd2, .ref bS, .ref bC, .ref bG])), (bS, .inl (cI, 5, .inl S2)), (bC, .inl (cI, 5, .inl Cr2)), (bG, .inl (cI, 5, .inl G2))]) u) t.heap) A) args s 0 0 A = Q
  have F9 : CallFix p m c cX1_pass 2 s args wsX1_pass RX1 := ⟨hx, hb, hml, hown, hts⟩
  refine z_entry (R := rmX1_pass) ha (Nat.le_of_ble_eq_true rfl) (fun ls hl => ?_)
  have hl : lv_has ls 2 [(0, .ref h0), (1, .int (nI nw))] := hl
  refine lv_iload_n hx hb dX1_pass_0 rfl (lv_at hl 1 rfl) ?_
  refine lv_iconst (v := 1) hx hb dX1_pass_1 (by decide) ?_
  refine lv_icmp_lt (tgt := 11) hx hb dX1_pass_2 (by decide) (fun c_2 => ?_) (fun c_2 => ?_)
  · skip
    have n_2 := zc_lt_t (a := nw) (b := 1) (by omega) (by omega) c_2
    exact absurd n_2 (by omega)
  · skip
    have n_2 := zc_lt_f (a := nw) (b := 1) (by omega) (by omega) c_2
    refine lv_iload_n hx hb dX1_pass_5 rfl (lv_at hl 1 rfl) ?_
    refine lv_bipush (v := 40) hx hb dX1_pass_6 (by decide +kernel) ?_
    refine lv_icmp_le (tgt := 21) hx hb dX1_pass_8 (by decide) (fun c_8 => ?_) (fun c_8 => ?_)
    · skip
      have n_8 := zc_le_t (a := nw) (b := 40) (by omega) (by omega) c_8
      refine lv_aload_n hx hb dX1_pass_21 rfl (lv_at hl 0 rfl) ?_
      refine lv_dup hx hb dX1_pass_22 rfl ?_
      refine va_get (D := (dC, dI)) (ci := 1) (v := .int wv) (C := RX1) (T := TX1) (N := 5) hx hb hts iX1_pass_X1 hown hK hP 0 rfl rfl 4 (by decide) (hts (.fieldLink RX1 26 "ColourTide" "waves" "I") (List.mem_of_getElem? (i := 3) rfl)) (fun _ h9 => h9) rfl dX1_pass_23 ?_
      refine lv_iload_n hx hb dX1_pass_26 rfl (lv_at hl 1 rfl) ?_
      refine lv_iadd hx hb dX1_pass_27 ?_
      refine va_put (D := (dC, dI)) (ci := 1) (v := .int (wv + (nI nw))) (ty := .int) (C := RX1) (T := TX1) (N := 5) hx hb hts iX1_pass_X1 tyX1 tyX1_ok nmX1 hown hK hP hD hS 0 rfl rfl 4 (by decide) (hts (.fieldLink RX1 26 "ColourTide" "waves" "I") (List.mem_of_getElem? (i := 3) rfl)) (fun _ h9 => h9) rfl (by decide +kernel) rfl rfl (Nat.le_of_ble_eq_true rfl) dX1_pass_28 (fun H locs hP hD hS => ?_)
      have hP : va_P (dC, dI) vwCl [(h0, .inr (1, [.ref hM, .ref hV, .int wd, .int hg, .int (wv + (nI nw))])), (hM, .inr (0, [.int bd, .int sb, .int nd, .ref aS, .ref aC, .ref aG])), (aS, .inl (cI, 5, .inl S0)), (aC, .inl (cI, 5, .inl Cr)), (aG, .inl (cI, 5, .inl G0)), (hV, .inr (0, [.int bd2, .int sb2, .int nd2, .ref bS, .ref bC, .ref bG])), (bS, .inl (cI, 5, .inl S2)), (bC, .inl (cI, 5, .inl Cr2)), (bG, .inl (cI, 5, .inl G2))] H := hP
      have hD : va_D A [(h0, .inr (1, [.ref hM, .ref hV, .int wd, .int hg, .int (wv + (nI nw))])), (hM, .inr (0, [.int bd, .int sb, .int nd, .ref aS, .ref aC, .ref aG])), (aS, .inl (cI, 5, .inl S0)), (aC, .inl (cI, 5, .inl Cr)), (aG, .inl (cI, 5, .inl G0)), (hV, .inr (0, [.int bd2, .int sb2, .int nd2, .ref bS, .ref bC, .ref bG])), (bS, .inl (cI, 5, .inl S2)), (bC, .inl (cI, 5, .inl Cr2)), (bG, .inl (cI, 5, .inl G2))] := hD
      refine lv_aload_n hx hb dX1_pass_31 rfl (lv_at hl 0 rfl) ?_
      refine va_get (D := (dC, dI)) (ci := 1) (v := .ref hM) (C := RX1) (T := TX1) (N := 5) hx hb hts iX1_pass_X1 hown hK hP 0 rfl rfl 0 (by decide) (hts (.fieldLink RX1 12 "ColourTide" "map" "LColourTide$Tide;") (List.mem_of_getElem? (i := 4) rfl)) (fun _ h9 => h9) rfl dX1_pass_32 ?_
      refine lv_iload_n hx hb dX1_pass_35 rfl (lv_at hl 1 rfl) ?_
      refine z_callVi (As := [.int (nI nw)]) (rest := []) F9 (m_X0_surge l dC dI cI cZ cJ cD hM aS aC aG bd sb nd S0 Cr G0 q0 nw (hq) (hnd) (by omega)) (cwV 1 hts gX1_pass_X0_surge rfl rfl rfl (by decide +kernel) ⟨Nat.le_of_ble_eq_true rfl, Nat.le_of_ble_eq_true rfl⟩) hK hN hP hD hS hA [1, 2, 3, 4] rfl rfl (fun _ => rfl) 1 (ci := 0) rfl rfl rfl rfl hl.1 rfl (Nat.le_of_ble_eq_true rfl) dX1_pass_36 ⟨Nat.zero_le _, Nat.zero_le _⟩ (fun r_1 u H locs hp_36 hP hD hS => ?_)
      obtain ⟨Cr1_2, G1_3⟩ := u
      have hP : va_P (dC, dI) vwCl [(h0, .inr (1, [.ref hM, .ref hV, .int wd, .int hg, .int (wv + (nI nw))])), (hM, .inr (0, [.int bd, .int sb, .int nd, .ref aS, .ref aC, .ref aG])), (aS, .inl (cI, 5, .inl (pIt bd sb q0 S0 nw))), (aC, .inl (cI, 5, .inl Cr1_2)), (aG, .inl (cI, 5, .inl G1_3)), (hV, .inr (0, [.int bd2, .int sb2, .int nd2, .ref bS, .ref bC, .ref bG])), (bS, .inl (cI, 5, .inl S2)), (bC, .inl (cI, 5, .inl Cr2)), (bG, .inl (cI, 5, .inl G2))] H := hP
      have hD : va_D A [(h0, .inr (1, [.ref hM, .ref hV, .int wd, .int hg, .int (wv + (nI nw))])), (hM, .inr (0, [.int bd, .int sb, .int nd, .ref aS, .ref aC, .ref aG])), (aS, .inl (cI, 5, .inl (pIt bd sb q0 S0 nw))), (aC, .inl (cI, 5, .inl Cr1_2)), (aG, .inl (cI, 5, .inl G1_3)), (hV, .inr (0, [.int bd2, .int sb2, .int nd2, .ref bS, .ref bC, .ref bG])), (bS, .inl (cI, 5, .inl S2)), (bC, .inl (cI, 5, .inl Cr2)), (bG, .inl (cI, 5, .inl G2))] := hD
      have hp_36 : r_1 = pLast bd sb q0 S0 nw := hp_36
      refine z_topi (y := pLast bd sb q0 S0 nw) hp_36 ?_
      refine z_callSi (As := [.int (pLast bd sb q0 S0 nw)]) (rest := []) F9 (m_J6_bitCount_0f7a4 l dC dI cI cZ cJ cD (pLast bd sb q0 S0 nw) ) (va_cwS 1 hts gX1_pass_J6_bitCount_0f7a4 rfl rfl rfl (by decide +kernel) ⟨Nat.le_of_ble_eq_true rfl, Nat.le_of_ble_eq_true rfl⟩) hK hN hP hD hS hA rfl hl.1 rfl (Nat.le_of_ble_eq_true rfl) dX1_pass_39 ⟨Nat.zero_le _, Nat.zero_le _⟩ (fun r_4 H locs hp_39 hP hS => ?_)
      have hp_39 : r_4 = pBC (pLast bd sb q0 S0 nw) := hp_39
      refine z_topi (y := pBC (pLast bd sb q0 S0 nw)) hp_39 ?_
      rw [← hQ]
      exact z_iret (W1 := (fun (u : (Nat → Int32) × (Nat → Int32)) => [(h0, .inr (1, [.ref hM, .ref hV, .int wd, .int hg, .int (wv + nI nw)])), (hM, .inr (0, [.int bd, .int sb, .int nd, .ref aS, .ref aC, .ref aG])), (aS, .inl (cI, 5, .inl (pIt bd sb q0 S0 nw))), (aC, .inl (cI, 5, .inl u.1)), (aG, .inl (cI, 5, .inl u.2)), (hV, .inr (0, [.int bd2, .int sb2, .int nd2, .ref bS, .ref bC, .ref bG])), (bS, .inl (cI, 5, .inl S2)), (bC, .inl (cI, 5, .inl Cr2)), (bG, .inl (cI, 5, .inl G2))])) hx hb hr hlocks hP hS (Cr1_2, G1_3) (rfl) (rfl) dX1_pass_42
    · skip
      have n_8 := zc_le_f (a := nw) (b := 40) (by omega) (by omega) c_8
      exact absurd n_8 (by omega)
abbrev rmX1_colourAt : Room := { frames := 2, cells := 0, slots := 0, locals := 43 }
set_option maxRecDepth 20000 in
theorem iX1_colourAt_X0 : ∀ w ∈ wsX00, w ∈ wsX1_colourAt := fun w h => (goodIn_r (big := wsX1_colourAt) wsX00 [28, 29, 30, 31, 32, 33] (by decide +kernel) (by decide +kernel) w h).1
set_option maxRecDepth 20000 in
theorem iX1_colourAt_X1 : ∀ w ∈ wsX10, w ∈ wsX1_colourAt := fun w h => (goodIn_r (big := wsX1_colourAt) wsX10 [23, 24, 25, 26, 27] (by decide +kernel) (by decide +kernel) w h).1
set_option maxHeartbeats 4000000 in
set_option maxRecDepth 100000 in
theorem m_X1_colourAt (l : Launch) (dC : Nat → ClassId) (dI : Nat → Nat → Nat) (cI cZ cJ cD : ClassId) (h0 : Nat) (hM : Nat) (aS : Nat) (aC : Nat) (aG : Nat) (hV : Nat) (bS : Nat) (bC : Nat) (bG : Nat) (wd : Int32) (hg : Int32) (wv : Int32) (bd : Int32) (sb : Int32) (nd : Int32) (S0 : Nat → Int32) (Cr : Nat → Int32) (G0 : Nat → Int32) (bd2 : Int32) (sb2 : Int32) (nd2 : Int32) (S2 : Nat → Int32) (Cr2 : Nat → Int32) (G2 : Nat → Int32) (x0 : Int32) (y0 : Int32) (hon : pOn x0 y0 wd hg) : zI l (dC, dI) (wT cI cZ cJ cD) yX1_colourAt wsX1_colourAt rmX1_colourAt [(h0, .inr (1, [.ref hM, .ref hV, .int wd, .int hg, .int wv])), (hM, .inr (0, [.int bd, .int sb, .int nd, .ref aS, .ref aC, .ref aG])), (aS, .inl (cI, 5, .inl S0)), (aC, .inl (cI, 5, .inl Cr)), (aG, .inl (cI, 5, .inl G0)), (hV, .inr (0, [.int bd2, .int sb2, .int nd2, .ref bS, .ref bC, .ref bG])), (bS, .inl (cI, 5, .inl S2)), (bC, .inl (cI, 5, .inl Cr2)), (bG, .inl (cI, 5, .inl G2))] [.ref h0, .int x0, .int y0] (fun (_ : Unit) => [(h0, .inr (1, [.ref hM, .ref hV, .int wd, .int hg, .int wv])), (hM, .inr (0, [.int bd, .int sb, .int nd, .ref aS, .ref aC, .ref aG])), (aS, .inl (cI, 5, .inl S0)), (aC, .inl (cI, 5, .inl Cr)), (aG, .inl (cI, 5, .inl G0)), (hV, .inr (0, [.int bd2, .int sb2, .int nd2, .ref bS, .ref bC, .ref bG])), (bS, .inl (cI, 5, .inl S2)), (bC, .inl (cI, 5, .inl Cr2)), (bG, .inl (cI, 5, .inl G2))]) (fun (r : Int32) (_ : Unit) => r = pFirst S0 (pCell x0 y0)) := by
  intro sz
  refine Met.ofW (cc := cX1_colourAt) (maxL := 3) (ret := (some .int)) (by decide) rfl ?_
  intro p e s m args below meth c s₁ B hml hv
  obtain ⟨ha, hsz, hP, hK, hD0, hN⟩ := hv
  have hx := B.exec
  have hb := B.bytes
  have hr := B.returns
  have hts := atoms_spec (ws := wsX1_colourAt) B.pre
  have hown : s.vm.findClass RX1 = some m.cls := findClass_of_methodNamed B.named
  have hlocks := B.notSynchronized
  subst hsz
  have hD := hD0.self (sz := s.heap.size)
  generalize hAe : va_A [(h0, .inr (1, [.ref hM, .ref hV, .int wd, .int hg, .int wv])), (hM, .inr (0, [.int bd, .int sb, .int nd, .ref aS, .ref aC, .ref aG])), (aS, .inl (cI, 5, .inl S0)), (aC, .inl (cI, 5, .inl Cr)), (aG, .inl (cI, 5, .inl G0)), (hV, .inr (0, [.int bd2, .int sb2, .int nd2, .ref bS, .ref bC, .ref bG])), (bS, .inl (cI, 5, .inl S2)), (bC, .inl (cI, 5, .inl Cr2)), (bG, .inl (cI, 5, .inl G2))] s.heap.size = A at hD ⊢
  have hA : ∀ q : Nat, s.heap.size ≤ q → A q := fun q h => by rw [← hAe]; exact Or.inr h
  have hS : va_S A s.heap s.heap [] := va_S.rf
  generalize hQ : MQ below (va_Qi (fun (r : Int32) (_ : Unit) => r = pFirst S0 (pCell x0 y0)) (fun u t => va_P (dC, dI) vwCl ((fun (_ : Unit) => [(h0, .inr (1, [.ref hM, .ref hV, .int wd, .int hg, .int wv])), (hM, .inr (0, [.int bd, .int sb, .int nd, .ref aS, .ref aC, .ref aG])), (aS, .inl (cI, 5, .inl S0)), (aC, .inl (cI, 5, .inl Cr)), (aG, .inl (cI, 5, .inl G0)), (hV, .inr (0, [.int bd2, .int sb2, .int nd2, .ref bS, .ref bC, .ref bG])), (bS, .inl (cI, 5, .inl S2)), (bC, .inl (cI, 5, .inl Cr2)), (bG, .inl (cI, 5, .inl G2))]) u) t.heap) A) args s 0 0 A = Q
  have F9 : CallFix p m c cX1_colourAt 3 s args wsX1_colourAt RX1 := ⟨hx, hb, hml, hown, hts⟩
  refine z_entry (R := rmX1_colourAt) ha (Nat.le_of_ble_eq_true rfl) (fun ls hl => ?_)
  have hl : lv_has ls 3 [(0, .ref h0), (1, .int x0), (2, .int y0)] := hl
  refine lv_aload_n hx hb dX1_colourAt_0 rfl (lv_at hl 0 rfl) ?_
  refine lv_iload_n hx hb dX1_colourAt_1 rfl (lv_at hl 1 rfl) ?_
  refine lv_iload_n hx hb dX1_colourAt_2 rfl (lv_at hl 2 rfl) ?_
  refine z_callVi (As := [.int x0, .int y0]) (rest := []) F9 (m_X1_isOnMap l dC dI cI cZ cJ cD h0 hM aS aC aG hV bS bC bG wd hg wv bd sb nd S0 Cr G0 bd2 sb2 nd2 S2 Cr2 G2 x0 y0 ) (cwV 2 hts gX1_colourAt_X1_isOnMap rfl rfl rfl (by decide +kernel) ⟨Nat.le_of_ble_eq_true rfl, Nat.le_of_ble_eq_true rfl⟩) hK hN hP hD hS hA [0, 1, 2, 3, 4, 5, 6, 7, 8] rfl rfl (fun _ => rfl) 0 (ci := 1) rfl rfl rfl rfl hl.1 rfl (Nat.le_of_ble_eq_true rfl) dX1_colourAt_3 ⟨Nat.zero_le _, Nat.zero_le _⟩ (fun r_1 u H locs hp_3 hP hD hS => ?_)
  have hP : va_P (dC, dI) vwCl [(h0, .inr (1, [.ref hM, .ref hV, .int wd, .int hg, .int wv])), (hM, .inr (0, [.int bd, .int sb, .int nd, .ref aS, .ref aC, .ref aG])), (aS, .inl (cI, 5, .inl S0)), (aC, .inl (cI, 5, .inl Cr)), (aG, .inl (cI, 5, .inl G0)), (hV, .inr (0, [.int bd2, .int sb2, .int nd2, .ref bS, .ref bC, .ref bG])), (bS, .inl (cI, 5, .inl S2)), (bC, .inl (cI, 5, .inl Cr2)), (bG, .inl (cI, 5, .inl G2))] H := hP
  have hD : va_D A [(h0, .inr (1, [.ref hM, .ref hV, .int wd, .int hg, .int wv])), (hM, .inr (0, [.int bd, .int sb, .int nd, .ref aS, .ref aC, .ref aG])), (aS, .inl (cI, 5, .inl S0)), (aC, .inl (cI, 5, .inl Cr)), (aG, .inl (cI, 5, .inl G0)), (hV, .inr (0, [.int bd2, .int sb2, .int nd2, .ref bS, .ref bC, .ref bG])), (bS, .inl (cI, 5, .inl S2)), (bC, .inl (cI, 5, .inl Cr2)), (bG, .inl (cI, 5, .inl G2))] := hD
  have hp_3 : r_1 = if pOn x0 y0 wd hg then 1 else 0 := hp_3
  refine z_topi (y := if pOn x0 y0 wd hg then 1 else 0) hp_3 ?_
  refine lv_if_ne (tgt := 19) hx hb dX1_colourAt_6 (by decide) (fun c_6 => ?_) (fun c_6 => ?_)
  · skip
    refine lv_aload_n hx hb dX1_colourAt_19 rfl (lv_at hl 0 rfl) ?_
    refine va_get (D := (dC, dI)) (ci := 1) (v := .ref hM) (C := RX1) (T := TX1) (N := 5) hx hb hts iX1_colourAt_X1 hown hK hP 0 rfl rfl 0 (by decide) (hts (.fieldLink RX1 12 "ColourTide" "map" "LColourTide$Tide;") (List.mem_of_getElem? (i := 3) rfl)) (fun _ h9 => h9) rfl dX1_colourAt_20 ?_
    refine lv_iload_n hx hb dX1_colourAt_23 rfl (lv_at hl 1 rfl) ?_
    refine lv_iload_n hx hb dX1_colourAt_24 rfl (lv_at hl 2 rfl) ?_
    refine z_callSi (As := [.int x0, .int y0]) (rest := [.ref hM]) F9 (m_X1_cell l dC dI cI cZ cJ cD x0 y0 ) (va_cwS 2 hts gX1_colourAt_X1_cell rfl rfl rfl (by decide +kernel) ⟨Nat.le_of_ble_eq_true rfl, Nat.le_of_ble_eq_true rfl⟩) hK hN hP hD hS hA rfl hl.1 rfl (Nat.le_of_ble_eq_true rfl) dX1_colourAt_25 ⟨Nat.zero_le _, Nat.zero_le _⟩ (fun r_2 H locs hp_25 hP hS => ?_)
    have hp_25 : r_2 = pCell x0 y0 := hp_25
    refine z_topi (y := pCell x0 y0) hp_25 ?_
    refine z_callVi (As := [.int (pCell x0 y0)]) (rest := []) F9 (m_X0_colourOf l dC dI cI cZ cJ cD hM aS aC aG bd sb nd S0 Cr G0 (pCell x0 y0) ) (cwV 1 hts gX1_colourAt_X0_colourOf rfl rfl rfl (by decide +kernel) ⟨Nat.le_of_ble_eq_true rfl, Nat.le_of_ble_eq_true rfl⟩) hK hN hP hD hS hA [1, 2, 3, 4] rfl rfl (fun _ => rfl) 1 (ci := 0) rfl rfl rfl rfl hl.1 rfl (Nat.le_of_ble_eq_true rfl) dX1_colourAt_28 ⟨Nat.zero_le _, Nat.zero_le _⟩ (fun r_3 u H locs hp_28 hP hD hS => ?_)
    have hP : va_P (dC, dI) vwCl [(h0, .inr (1, [.ref hM, .ref hV, .int wd, .int hg, .int wv])), (hM, .inr (0, [.int bd, .int sb, .int nd, .ref aS, .ref aC, .ref aG])), (aS, .inl (cI, 5, .inl S0)), (aC, .inl (cI, 5, .inl Cr)), (aG, .inl (cI, 5, .inl G0)), (hV, .inr (0, [.int bd2, .int sb2, .int nd2, .ref bS, .ref bC, .ref bG])), (bS, .inl (cI, 5, .inl S2)), (bC, .inl (cI, 5, .inl Cr2)), (bG, .inl (cI, 5, .inl G2))] H := hP
    have hD : va_D A [(h0, .inr (1, [.ref hM, .ref hV, .int wd, .int hg, .int wv])), (hM, .inr (0, [.int bd, .int sb, .int nd, .ref aS, .ref aC, .ref aG])), (aS, .inl (cI, 5, .inl S0)), (aC, .inl (cI, 5, .inl Cr)), (aG, .inl (cI, 5, .inl G0)), (hV, .inr (0, [.int bd2, .int sb2, .int nd2, .ref bS, .ref bC, .ref bG])), (bS, .inl (cI, 5, .inl S2)), (bC, .inl (cI, 5, .inl Cr2)), (bG, .inl (cI, 5, .inl G2))] := hD
    have hp_28 : r_3 = pFirst S0 (pCell x0 y0) := hp_28
    refine z_topi (y := pFirst S0 (pCell x0 y0)) hp_28 ?_
    rw [← hQ]
    exact z_iret (W1 := (fun (_ : Unit) => [(h0, .inr (1, [.ref hM, .ref hV, .int wd, .int hg, .int wv])), (hM, .inr (0, [.int bd, .int sb, .int nd, .ref aS, .ref aC, .ref aG])), (aS, .inl (cI, 5, .inl S0)), (aC, .inl (cI, 5, .inl Cr)), (aG, .inl (cI, 5, .inl G0)), (hV, .inr (0, [.int bd2, .int sb2, .int nd2, .ref bS, .ref bC, .ref bG])), (bS, .inl (cI, 5, .inl S2)), (bC, .inl (cI, 5, .inl Cr2)), (bG, .inl (cI, 5, .inl G2))])) hx hb hr hlocks hP hS () (rfl) (rfl) dX1_colourAt_31
  · skip
    exact absurd hon (z_if0 c_6)
abbrev rmX1_isStubborn : Room := { frames := 1, cells := 0, slots := 0, locals := 30 }
set_option maxRecDepth 20000 in
theorem iX1_isStubborn_X0 : ∀ w ∈ wsX00, w ∈ wsX1_isStubborn := fun w h => (goodIn_r (big := wsX1_isStubborn) wsX00 [20, 21, 22, 23, 24, 25] (by decide +kernel) (by decide +kernel) w h).1
set_option maxRecDepth 20000 in
theorem iX1_isStubborn_X1 : ∀ w ∈ wsX10, w ∈ wsX1_isStubborn := fun w h => (goodIn_r (big := wsX1_isStubborn) wsX10 [15, 16, 17, 18, 19] (by decide +kernel) (by decide +kernel) w h).1
set_option maxHeartbeats 4000000 in
set_option maxRecDepth 100000 in
theorem m_X1_isStubborn (l : Launch) (dC : Nat → ClassId) (dI : Nat → Nat → Nat) (cI cZ cJ cD : ClassId) (h0 : Nat) (hM : Nat) (aS : Nat) (aC : Nat) (aG : Nat) (hV : Nat) (bS : Nat) (bC : Nat) (bG : Nat) (wd : Int32) (hg : Int32) (wv : Int32) (bd : Int32) (sb : Int32) (nd : Int32) (S0 : Nat → Int32) (Cr : Nat → Int32) (G0 : Nat → Int32) (bd2 : Int32) (sb2 : Int32) (nd2 : Int32) (S2 : Nat → Int32) (Cr2 : Nat → Int32) (G2 : Nat → Int32) (x0 : Int32) (y0 : Int32) (hon : pOn x0 y0 wd hg) : zI l (dC, dI) (wT cI cZ cJ cD) yX1_isStubborn wsX1_isStubborn rmX1_isStubborn [(h0, .inr (1, [.ref hM, .ref hV, .int wd, .int hg, .int wv])), (hM, .inr (0, [.int bd, .int sb, .int nd, .ref aS, .ref aC, .ref aG])), (aS, .inl (cI, 5, .inl S0)), (aC, .inl (cI, 5, .inl Cr)), (aG, .inl (cI, 5, .inl G0)), (hV, .inr (0, [.int bd2, .int sb2, .int nd2, .ref bS, .ref bC, .ref bG])), (bS, .inl (cI, 5, .inl S2)), (bC, .inl (cI, 5, .inl Cr2)), (bG, .inl (cI, 5, .inl G2))] [.ref h0, .int x0, .int y0] (fun (_ : Unit) => [(h0, .inr (1, [.ref hM, .ref hV, .int wd, .int hg, .int wv])), (hM, .inr (0, [.int bd, .int sb, .int nd, .ref aS, .ref aC, .ref aG])), (aS, .inl (cI, 5, .inl S0)), (aC, .inl (cI, 5, .inl Cr)), (aG, .inl (cI, 5, .inl G0)), (hV, .inr (0, [.int bd2, .int sb2, .int nd2, .ref bS, .ref bC, .ref bG])), (bS, .inl (cI, 5, .inl S2)), (bC, .inl (cI, 5, .inl Cr2)), (bG, .inl (cI, 5, .inl G2))]) (fun (r : Int32) (_ : Unit) => r = if sb &&& pCell x0 y0 = 0 then 0 else 1) := by
  intro sz
  refine Met.ofW (cc := cX1_isStubborn) (maxL := 3) (ret := (some .boolean)) (by decide) rfl ?_
  intro p e s m args below meth c s₁ B hml hv
  obtain ⟨ha, hsz, hP, hK, hD0, hN⟩ := hv
  have hx := B.exec
  have hb := B.bytes
  have hr := B.returns
  have hts := atoms_spec (ws := wsX1_isStubborn) B.pre
  have hown : s.vm.findClass RX1 = some m.cls := findClass_of_methodNamed B.named
  have hlocks := B.notSynchronized
  subst hsz
  have hD := hD0.self (sz := s.heap.size)
  generalize hAe : va_A [(h0, .inr (1, [.ref hM, .ref hV, .int wd, .int hg, .int wv])), (hM, .inr (0, [.int bd, .int sb, .int nd, .ref aS, .ref aC, .ref aG])), (aS, .inl (cI, 5, .inl S0)), (aC, .inl (cI, 5, .inl Cr)), (aG, .inl (cI, 5, .inl G0)), (hV, .inr (0, [.int bd2, .int sb2, .int nd2, .ref bS, .ref bC, .ref bG])), (bS, .inl (cI, 5, .inl S2)), (bC, .inl (cI, 5, .inl Cr2)), (bG, .inl (cI, 5, .inl G2))] s.heap.size = A at hD ⊢
  have hA : ∀ q : Nat, s.heap.size ≤ q → A q := fun q h => by rw [← hAe]; exact Or.inr h
  have hS : va_S A s.heap s.heap [] := va_S.rf
  generalize hQ : MQ below (va_Qi (fun (r : Int32) (_ : Unit) => r = if sb &&& pCell x0 y0 = 0 then 0 else 1) (fun u t => va_P (dC, dI) vwCl ((fun (_ : Unit) => [(h0, .inr (1, [.ref hM, .ref hV, .int wd, .int hg, .int wv])), (hM, .inr (0, [.int bd, .int sb, .int nd, .ref aS, .ref aC, .ref aG])), (aS, .inl (cI, 5, .inl S0)), (aC, .inl (cI, 5, .inl Cr)), (aG, .inl (cI, 5, .inl G0)), (hV, .inr (0, [.int bd2, .int sb2, .int nd2, .ref bS, .ref bC, .ref bG])), (bS, .inl (cI, 5, .inl S2)), (bC, .inl (cI, 5, .inl Cr2)), (bG, .inl (cI, 5, .inl G2))]) u) t.heap) A) args s 0 0 A = Q
  have F9 : CallFix p m c cX1_isStubborn 3 s args wsX1_isStubborn RX1 := ⟨hx, hb, hml, hown, hts⟩
  refine z_entry (R := rmX1_isStubborn) ha (Nat.le_of_ble_eq_true rfl) (fun ls hl => ?_)
  have hl : lv_has ls 3 [(0, .ref h0), (1, .int x0), (2, .int y0)] := hl
  refine lv_aload_n hx hb dX1_isStubborn_0 rfl (lv_at hl 0 rfl) ?_
  refine lv_iload_n hx hb dX1_isStubborn_1 rfl (lv_at hl 1 rfl) ?_
  refine lv_iload_n hx hb dX1_isStubborn_2 rfl (lv_at hl 2 rfl) ?_
  refine z_callVi (As := [.int x0, .int y0]) (rest := []) F9 (m_X1_isOnMap l dC dI cI cZ cJ cD h0 hM aS aC aG hV bS bC bG wd hg wv bd sb nd S0 Cr G0 bd2 sb2 nd2 S2 Cr2 G2 x0 y0 ) (cwV 2 hts gX1_isStubborn_X1_isOnMap rfl rfl rfl (by decide +kernel) ⟨Nat.le_of_ble_eq_true rfl, Nat.le_of_ble_eq_true rfl⟩) hK hN hP hD hS hA [0, 1, 2, 3, 4, 5, 6, 7, 8] rfl rfl (fun _ => rfl) 0 (ci := 1) rfl rfl rfl rfl hl.1 rfl (Nat.le_of_ble_eq_true rfl) dX1_isStubborn_3 ⟨Nat.zero_le _, Nat.zero_le _⟩ (fun r_1 u H locs hp_3 hP hD hS => ?_)
  have hP : va_P (dC, dI) vwCl [(h0, .inr (1, [.ref hM, .ref hV, .int wd, .int hg, .int wv])), (hM, .inr (0, [.int bd, .int sb, .int nd, .ref aS, .ref aC, .ref aG])), (aS, .inl (cI, 5, .inl S0)), (aC, .inl (cI, 5, .inl Cr)), (aG, .inl (cI, 5, .inl G0)), (hV, .inr (0, [.int bd2, .int sb2, .int nd2, .ref bS, .ref bC, .ref bG])), (bS, .inl (cI, 5, .inl S2)), (bC, .inl (cI, 5, .inl Cr2)), (bG, .inl (cI, 5, .inl G2))] H := hP
  have hD : va_D A [(h0, .inr (1, [.ref hM, .ref hV, .int wd, .int hg, .int wv])), (hM, .inr (0, [.int bd, .int sb, .int nd, .ref aS, .ref aC, .ref aG])), (aS, .inl (cI, 5, .inl S0)), (aC, .inl (cI, 5, .inl Cr)), (aG, .inl (cI, 5, .inl G0)), (hV, .inr (0, [.int bd2, .int sb2, .int nd2, .ref bS, .ref bC, .ref bG])), (bS, .inl (cI, 5, .inl S2)), (bC, .inl (cI, 5, .inl Cr2)), (bG, .inl (cI, 5, .inl G2))] := hD
  have hp_3 : r_1 = if pOn x0 y0 wd hg then 1 else 0 := hp_3
  refine z_topi (y := if pOn x0 y0 wd hg then 1 else 0) hp_3 ?_
  refine lv_if_ne (tgt := 19) hx hb dX1_isStubborn_6 (by decide) (fun c_6 => ?_) (fun c_6 => ?_)
  · skip
    refine lv_aload_n hx hb dX1_isStubborn_19 rfl (lv_at hl 0 rfl) ?_
    refine va_get (D := (dC, dI)) (ci := 1) (v := .ref hM) (C := RX1) (T := TX1) (N := 5) hx hb hts iX1_isStubborn_X1 hown hK hP 0 rfl rfl 0 (by decide) (hts (.fieldLink RX1 12 "ColourTide" "map" "LColourTide$Tide;") (List.mem_of_getElem? (i := 3) rfl)) (fun _ h9 => h9) rfl dX1_isStubborn_20 ?_
    refine va_get (D := (dC, dI)) (ci := 0) (v := .int sb) (C := RX0) (T := TX0) (N := 6) hx hb hts iX1_isStubborn_X0 hown hK hP 1 rfl rfl 1 (by decide) (hts (.fieldLink RX1 69 "ColourTide$Tide" "stubborn" "I") (List.mem_of_getElem? (i := 4) rfl)) (fun _ h9 => h9) rfl dX1_isStubborn_23 ?_
    refine lv_iload_n hx hb dX1_isStubborn_26 rfl (lv_at hl 1 rfl) ?_
    refine lv_iload_n hx hb dX1_isStubborn_27 rfl (lv_at hl 2 rfl) ?_
    refine z_callSi (As := [.int x0, .int y0]) (rest := [.int sb]) F9 (m_X1_cell l dC dI cI cZ cJ cD x0 y0 ) (va_cwS 2 hts gX1_isStubborn_X1_cell rfl rfl rfl (by decide +kernel) ⟨Nat.le_of_ble_eq_true rfl, Nat.le_of_ble_eq_true rfl⟩) hK hN hP hD hS hA rfl hl.1 rfl (Nat.le_of_ble_eq_true rfl) dX1_isStubborn_28 ⟨Nat.zero_le _, Nat.zero_le _⟩ (fun r_2 H locs hp_28 hP hS => ?_)
    have hp_28 : r_2 = pCell x0 y0 := hp_28
    refine z_topi (y := pCell x0 y0) hp_28 ?_
    refine lv_iand hx hb dX1_isStubborn_31 ?_
    refine lv_if_eq (tgt := 39) hx hb dX1_isStubborn_32 (by decide) (fun c_32 => ?_) (fun c_32 => ?_)
    · skip
      refine lv_iconst (v := 0) hx hb dX1_isStubborn_39 (by decide) ?_
      rw [← hQ]
      exact z_zret (W1 := (fun (_ : Unit) => [(h0, .inr (1, [.ref hM, .ref hV, .int wd, .int hg, .int wv])), (hM, .inr (0, [.int bd, .int sb, .int nd, .ref aS, .ref aC, .ref aG])), (aS, .inl (cI, 5, .inl S0)), (aC, .inl (cI, 5, .inl Cr)), (aG, .inl (cI, 5, .inl G0)), (hV, .inr (0, [.int bd2, .int sb2, .int nd2, .ref bS, .ref bC, .ref bG])), (bS, .inl (cI, 5, .inl S2)), (bC, .inl (cI, 5, .inl Cr2)), (bG, .inl (cI, 5, .inl G2))])) hx hb hr hlocks (by decide +kernel) hP hS () (rfl) (by rw [if_pos c_32]) dX1_isStubborn_40
    · skip
      refine lv_iconst (v := 1) hx hb dX1_isStubborn_35 (by decide) ?_
      refine lv_goto (tgt := 40) hx hb dX1_isStubborn_36 (by decide) ?_
      rw [← hQ]
      exact z_zret (W1 := (fun (_ : Unit) => [(h0, .inr (1, [.ref hM, .ref hV, .int wd, .int hg, .int wv])), (hM, .inr (0, [.int bd, .int sb, .int nd, .ref aS, .ref aC, .ref aG])), (aS, .inl (cI, 5, .inl S0)), (aC, .inl (cI, 5, .inl Cr)), (aG, .inl (cI, 5, .inl G0)), (hV, .inr (0, [.int bd2, .int sb2, .int nd2, .ref bS, .ref bC, .ref bG])), (bS, .inl (cI, 5, .inl S2)), (bC, .inl (cI, 5, .inl Cr2)), (bG, .inl (cI, 5, .inl G2))])) hx hb hr hlocks (by decide +kernel) hP hS () (rfl) (by rw [if_neg c_32]) dX1_isStubborn_40
  · skip
    exact absurd hon (z_if0 c_6)
abbrev rmX1_neighboursWith : Room := { frames := 2, cells := 0, slots := 0, locals := 40 }
set_option maxRecDepth 20000 in
theorem iX1_neighboursWith_X0 : ∀ w ∈ wsX00, w ∈ wsX1_neighboursWith := fun w h => (goodIn_r (big := wsX1_neighboursWith) wsX00 [41, 42, 43, 44, 45, 46] (by decide +kernel) (by decide +kernel) w h).1
set_option maxRecDepth 20000 in
theorem iX1_neighboursWith_X1 : ∀ w ∈ wsX10, w ∈ wsX1_neighboursWith := fun w h => (goodIn_r (big := wsX1_neighboursWith) wsX10 [36, 37, 38, 39, 40] (by decide +kernel) (by decide +kernel) w h).1
set_option maxHeartbeats 4000000 in
set_option maxRecDepth 100000 in
theorem m_X1_neighboursWith (l : Launch) (dC : Nat → ClassId) (dI : Nat → Nat → Nat) (cI cZ cJ cD : ClassId) (h0 : Nat) (hM : Nat) (aS : Nat) (aC : Nat) (aG : Nat) (hV : Nat) (bS : Nat) (bC : Nat) (bG : Nat) (wd : Int32) (hg : Int32) (wv : Int32) (bd : Int32) (sb : Int32) (nd : Int32) (S0 : Nat → Int32) (Cr : Nat → Int32) (G0 : Nat → Int32) (bd2 : Int32) (sb2 : Int32) (nd2 : Int32) (S2 : Nat → Int32) (Cr2 : Nat → Int32) (G2 : Nat → Int32) (x0 : Int32) (y0 : Int32) (col : Int32) (hon : pOn x0 y0 wd hg) (hcl : pAny col) : zI l (dC, dI) (wT cI cZ cJ cD) yX1_neighboursWith wsX1_neighboursWith rmX1_neighboursWith [(h0, .inr (1, [.ref hM, .ref hV, .int wd, .int hg, .int wv])), (hM, .inr (0, [.int bd, .int sb, .int nd, .ref aS, .ref aC, .ref aG])), (aS, .inl (cI, 5, .inl S0)), (aC, .inl (cI, 5, .inl Cr)), (aG, .inl (cI, 5, .inl G0)), (hV, .inr (0, [.int bd2, .int sb2, .int nd2, .ref bS, .ref bC, .ref bG])), (bS, .inl (cI, 5, .inl S2)), (bC, .inl (cI, 5, .inl Cr2)), (bG, .inl (cI, 5, .inl G2))] [.ref h0, .int x0, .int y0, .int col] (fun (_ : Unit) => [(h0, .inr (1, [.ref hM, .ref hV, .int wd, .int hg, .int wv])), (hM, .inr (0, [.int bd, .int sb, .int nd, .ref aS, .ref aC, .ref aG])), (aS, .inl (cI, 5, .inl S0)), (aC, .inl (cI, 5, .inl Cr)), (aG, .inl (cI, 5, .inl G0)), (hV, .inr (0, [.int bd2, .int sb2, .int nd2, .ref bS, .ref bC, .ref bG])), (bS, .inl (cI, 5, .inl S2)), (bC, .inl (cI, 5, .inl Cr2)), (bG, .inl (cI, 5, .inl G2))]) (fun (r : Int32) (_ : Unit) => r = pBC (pNext (pCell x0 y0) &&& pCW S0 col)) := by
  intro sz
  refine Met.ofW (cc := cX1_neighboursWith) (maxL := 4) (ret := (some .int)) (by decide) rfl ?_
  intro p e s m args below meth c s₁ B hml hv
  obtain ⟨ha, hsz, hP, hK, hD0, hN⟩ := hv
  have hx := B.exec
  have hb := B.bytes
  have hr := B.returns
  have hts := atoms_spec (ws := wsX1_neighboursWith) B.pre
  have hown : s.vm.findClass RX1 = some m.cls := findClass_of_methodNamed B.named
  have hlocks := B.notSynchronized
  subst hsz
  have hD := hD0.self (sz := s.heap.size)
  generalize hAe : va_A [(h0, .inr (1, [.ref hM, .ref hV, .int wd, .int hg, .int wv])), (hM, .inr (0, [.int bd, .int sb, .int nd, .ref aS, .ref aC, .ref aG])), (aS, .inl (cI, 5, .inl S0)), (aC, .inl (cI, 5, .inl Cr)), (aG, .inl (cI, 5, .inl G0)), (hV, .inr (0, [.int bd2, .int sb2, .int nd2, .ref bS, .ref bC, .ref bG])), (bS, .inl (cI, 5, .inl S2)), (bC, .inl (cI, 5, .inl Cr2)), (bG, .inl (cI, 5, .inl G2))] s.heap.size = A at hD ⊢
  have hA : ∀ q : Nat, s.heap.size ≤ q → A q := fun q h => by rw [← hAe]; exact Or.inr h
  have hS : va_S A s.heap s.heap [] := va_S.rf
  generalize hQ : MQ below (va_Qi (fun (r : Int32) (_ : Unit) => r = pBC (pNext (pCell x0 y0) &&& pCW S0 col)) (fun u t => va_P (dC, dI) vwCl ((fun (_ : Unit) => [(h0, .inr (1, [.ref hM, .ref hV, .int wd, .int hg, .int wv])), (hM, .inr (0, [.int bd, .int sb, .int nd, .ref aS, .ref aC, .ref aG])), (aS, .inl (cI, 5, .inl S0)), (aC, .inl (cI, 5, .inl Cr)), (aG, .inl (cI, 5, .inl G0)), (hV, .inr (0, [.int bd2, .int sb2, .int nd2, .ref bS, .ref bC, .ref bG])), (bS, .inl (cI, 5, .inl S2)), (bC, .inl (cI, 5, .inl Cr2)), (bG, .inl (cI, 5, .inl G2))]) u) t.heap) A) args s 0 0 A = Q
  have F9 : CallFix p m c cX1_neighboursWith 4 s args wsX1_neighboursWith RX1 := ⟨hx, hb, hml, hown, hts⟩
  refine z_entry (R := rmX1_neighboursWith) ha (Nat.le_of_ble_eq_true rfl) (fun ls hl => ?_)
  have hl : lv_has ls 4 [(0, .ref h0), (1, .int x0), (2, .int y0), (3, .int col)] := hl
  refine lv_aload_n hx hb dX1_neighboursWith_0 rfl (lv_at hl 0 rfl) ?_
  refine lv_iload_n hx hb dX1_neighboursWith_1 rfl (lv_at hl 1 rfl) ?_
  refine lv_iload_n hx hb dX1_neighboursWith_2 rfl (lv_at hl 2 rfl) ?_
  refine z_callVi (As := [.int x0, .int y0]) (rest := []) F9 (m_X1_isOnMap l dC dI cI cZ cJ cD h0 hM aS aC aG hV bS bC bG wd hg wv bd sb nd S0 Cr G0 bd2 sb2 nd2 S2 Cr2 G2 x0 y0 ) (cwV 2 hts gX1_neighboursWith_X1_isOnMap rfl rfl rfl (by decide +kernel) ⟨Nat.le_of_ble_eq_true rfl, Nat.le_of_ble_eq_true rfl⟩) hK hN hP hD hS hA [0, 1, 2, 3, 4, 5, 6, 7, 8] rfl rfl (fun _ => rfl) 0 (ci := 1) rfl rfl rfl rfl hl.1 rfl (Nat.le_of_ble_eq_true rfl) dX1_neighboursWith_3 ⟨Nat.zero_le _, Nat.zero_le _⟩ (fun r_1 u H locs hp_3 hP hD hS => ?_)
  have hP : va_P (dC, dI) vwCl [(h0, .inr (1, [.ref hM, .ref hV, .int wd, .int hg, .int wv])), (hM, .inr (0, [.int bd, .int sb, .int nd, .ref aS, .ref aC, .ref aG])), (aS, .inl (cI, 5, .inl S0)), (aC, .inl (cI, 5, .inl Cr)), (aG, .inl (cI, 5, .inl G0)), (hV, .inr (0, [.int bd2, .int sb2, .int nd2, .ref bS, .ref bC, .ref bG])), (bS, .inl (cI, 5, .inl S2)), (bC, .inl (cI, 5, .inl Cr2)), (bG, .inl (cI, 5, .inl G2))] H := hP
  have hD : va_D A [(h0, .inr (1, [.ref hM, .ref hV, .int wd, .int hg, .int wv])), (hM, .inr (0, [.int bd, .int sb, .int nd, .ref aS, .ref aC, .ref aG])), (aS, .inl (cI, 5, .inl S0)), (aC, .inl (cI, 5, .inl Cr)), (aG, .inl (cI, 5, .inl G0)), (hV, .inr (0, [.int bd2, .int sb2, .int nd2, .ref bS, .ref bC, .ref bG])), (bS, .inl (cI, 5, .inl S2)), (bC, .inl (cI, 5, .inl Cr2)), (bG, .inl (cI, 5, .inl G2))] := hD
  have hp_3 : r_1 = if pOn x0 y0 wd hg then 1 else 0 := hp_3
  refine z_topi (y := if pOn x0 y0 wd hg then 1 else 0) hp_3 ?_
  refine lv_if_eq (tgt := 16) hx hb dX1_neighboursWith_6 (by decide) (fun c_6 => ?_) (fun c_6 => ?_)
  · skip
    exact absurd hon (z_if0 c_6)
  · skip
    refine lv_iload_n hx hb dX1_neighboursWith_9 rfl (lv_at hl 3 rfl) ?_
    refine z_callSi (As := [.int col]) (rest := []) F9 (m_X1_isColourOrBare l dC dI cI cZ cJ cD col ) (va_cwS 1 hts gX1_neighboursWith_X1_isColourOrBare rfl rfl rfl (by decide +kernel) ⟨Nat.le_of_ble_eq_true rfl, Nat.le_of_ble_eq_true rfl⟩) hK hN hP hD hS hA rfl hl.1 rfl (Nat.le_of_ble_eq_true rfl) dX1_neighboursWith_10 ⟨Nat.zero_le _, Nat.zero_le _⟩ (fun r_2 H locs hp_10 hP hS => ?_)
    have hp_10 : r_2 = if pAny col then 1 else 0 := hp_10
    refine z_topi (y := if pAny col then 1 else 0) hp_10 ?_
    refine lv_if_ne (tgt := 26) hx hb dX1_neighboursWith_13 (by decide) (fun c_13 => ?_) (fun c_13 => ?_)
    · skip
      refine lv_iload_n hx hb dX1_neighboursWith_26 rfl (lv_at hl 1 rfl) ?_
      refine lv_iload_n hx hb dX1_neighboursWith_27 rfl (lv_at hl 2 rfl) ?_
      refine z_callSi (As := [.int x0, .int y0]) (rest := []) F9 (m_X1_cell l dC dI cI cZ cJ cD x0 y0 ) (va_cwS 2 hts gX1_neighboursWith_X1_cell rfl rfl rfl (by decide +kernel) ⟨Nat.le_of_ble_eq_true rfl, Nat.le_of_ble_eq_true rfl⟩) hK hN hP hD hS hA rfl hl.1 rfl (Nat.le_of_ble_eq_true rfl) dX1_neighboursWith_28 ⟨Nat.zero_le _, Nat.zero_le _⟩ (fun r_3 H locs hp_28 hP hS => ?_)
      have hp_28 : r_3 = pCell x0 y0 := hp_28
      refine z_topi (y := pCell x0 y0) hp_28 ?_
      refine z_callSi (As := [.int (pCell x0 y0)]) (rest := []) F9 (m_X1_nextTo l dC dI cI cZ cJ cD (pCell x0 y0) ) (va_cwS 1 hts gX1_neighboursWith_X1_nextTo rfl rfl rfl (by decide +kernel) ⟨Nat.le_of_ble_eq_true rfl, Nat.le_of_ble_eq_true rfl⟩) hK hN hP hD hS hA rfl hl.1 rfl (Nat.le_of_ble_eq_true rfl) dX1_neighboursWith_31 ⟨Nat.zero_le _, Nat.zero_le _⟩ (fun r_4 H locs hp_31 hP hS => ?_)
      have hp_31 : r_4 = pNext (pCell x0 y0) := hp_31
      refine z_topi (y := pNext (pCell x0 y0)) hp_31 ?_
      refine lv_aload_n hx hb dX1_neighboursWith_34 rfl (lv_at hl 0 rfl) ?_
      refine va_get (D := (dC, dI)) (ci := 1) (v := .ref hM) (C := RX1) (T := TX1) (N := 5) hx hb hts iX1_neighboursWith_X1 hown hK hP 0 rfl rfl 0 (by decide) (hts (.fieldLink RX1 12 "ColourTide" "map" "LColourTide$Tide;") (List.mem_of_getElem? (i := 3) rfl)) (fun _ h9 => h9) rfl dX1_neighboursWith_35 ?_
      refine lv_iload_n hx hb dX1_neighboursWith_38 rfl (lv_at hl 3 rfl) ?_
      refine z_callVi (As := [.int col]) (rest := [.int (pNext (pCell x0 y0))]) F9 (m_X0_cellsWith l dC dI cI cZ cJ cD hM aS aC aG bd sb nd S0 Cr G0 col ) (cwV 1 hts gX1_neighboursWith_X0_cellsWith rfl rfl rfl (by decide +kernel) ⟨Nat.le_of_ble_eq_true rfl, Nat.le_of_ble_eq_true rfl⟩) hK hN hP hD hS hA [1, 2, 3, 4] rfl rfl (fun _ => rfl) 1 (ci := 0) rfl rfl rfl rfl hl.1 rfl (Nat.le_of_ble_eq_true rfl) dX1_neighboursWith_39 ⟨Nat.zero_le _, Nat.zero_le _⟩ (fun r_5 u H locs hp_39 hP hD hS => ?_)
      have hP : va_P (dC, dI) vwCl [(h0, .inr (1, [.ref hM, .ref hV, .int wd, .int hg, .int wv])), (hM, .inr (0, [.int bd, .int sb, .int nd, .ref aS, .ref aC, .ref aG])), (aS, .inl (cI, 5, .inl S0)), (aC, .inl (cI, 5, .inl Cr)), (aG, .inl (cI, 5, .inl G0)), (hV, .inr (0, [.int bd2, .int sb2, .int nd2, .ref bS, .ref bC, .ref bG])), (bS, .inl (cI, 5, .inl S2)), (bC, .inl (cI, 5, .inl Cr2)), (bG, .inl (cI, 5, .inl G2))] H := hP
      have hD : va_D A [(h0, .inr (1, [.ref hM, .ref hV, .int wd, .int hg, .int wv])), (hM, .inr (0, [.int bd, .int sb, .int nd, .ref aS, .ref aC, .ref aG])), (aS, .inl (cI, 5, .inl S0)), (aC, .inl (cI, 5, .inl Cr)), (aG, .inl (cI, 5, .inl G0)), (hV, .inr (0, [.int bd2, .int sb2, .int nd2, .ref bS, .ref bC, .ref bG])), (bS, .inl (cI, 5, .inl S2)), (bC, .inl (cI, 5, .inl Cr2)), (bG, .inl (cI, 5, .inl G2))] := hD
      have hp_39 : r_5 = pCW S0 col := hp_39
      refine z_topi (y := pCW S0 col) hp_39 ?_
      refine lv_iand hx hb dX1_neighboursWith_42 ?_
      refine z_callSi (As := [.int ((pNext (pCell x0 y0)) &&& (pCW S0 col))]) (rest := []) F9 (m_J6_bitCount_0f7a4 l dC dI cI cZ cJ cD ((pNext (pCell x0 y0)) &&& (pCW S0 col)) ) (va_cwS 1 hts gX1_neighboursWith_J6_bitCount_0f7a4 rfl rfl rfl (by decide +kernel) ⟨Nat.le_of_ble_eq_true rfl, Nat.le_of_ble_eq_true rfl⟩) hK hN hP hD hS hA rfl hl.1 rfl (Nat.le_of_ble_eq_true rfl) dX1_neighboursWith_43 ⟨Nat.zero_le _, Nat.zero_le _⟩ (fun r_6 H locs hp_43 hP hS => ?_)
      have hp_43 : r_6 = pBC ((pNext (pCell x0 y0)) &&& (pCW S0 col)) := hp_43
      refine z_topi (y := pBC ((pNext (pCell x0 y0)) &&& (pCW S0 col))) hp_43 ?_
      rw [← hQ]
      exact z_iret (W1 := (fun (_ : Unit) => [(h0, .inr (1, [.ref hM, .ref hV, .int wd, .int hg, .int wv])), (hM, .inr (0, [.int bd, .int sb, .int nd, .ref aS, .ref aC, .ref aG])), (aS, .inl (cI, 5, .inl S0)), (aC, .inl (cI, 5, .inl Cr)), (aG, .inl (cI, 5, .inl G0)), (hV, .inr (0, [.int bd2, .int sb2, .int nd2, .ref bS, .ref bC, .ref bG])), (bS, .inl (cI, 5, .inl S2)), (bC, .inl (cI, 5, .inl Cr2)), (bG, .inl (cI, 5, .inl G2))])) hx hb hr hlocks hP hS () (rfl) (rfl) dX1_neighboursWith_46
    · skip
      exact absurd hcl (z_if0 c_13)
abbrev rmX1_nextColour : Room := { frames := 3, cells := 0, slots := 0, locals := 71 }
set_option maxRecDepth 20000 in
theorem iX1_nextColour_X0 : ∀ w ∈ wsX00, w ∈ wsX1_nextColour := fun w h => (goodIn_r (big := wsX1_nextColour) wsX00 [48, 49, 50, 51, 52, 53] (by decide +kernel) (by decide +kernel) w h).1
set_option maxRecDepth 20000 in
theorem iX1_nextColour_X1 : ∀ w ∈ wsX10, w ∈ wsX1_nextColour := fun w h => (goodIn_r (big := wsX1_nextColour) wsX10 [43, 44, 45, 46, 47] (by decide +kernel) (by decide +kernel) w h).1
set_option maxHeartbeats 4000000 in
set_option maxRecDepth 100000 in
theorem m_X1_nextColour (l : Launch) (dC : Nat → ClassId) (dI : Nat → Nat → Nat) (cI cZ cJ cD : ClassId) (h0 : Nat) (hM : Nat) (aS : Nat) (aC : Nat) (aG : Nat) (hV : Nat) (bS : Nat) (bC : Nat) (bG : Nat) (wd : Int32) (hg : Int32) (wv : Int32) (bd : Int32) (sb : Int32) (nd : Int32) (S0 : Nat → Int32) (Cr : Nat → Int32) (G0 : Nat → Int32) (bd2 : Int32) (sb2 : Int32) (nd2 : Int32) (S2 : Nat → Int32) (Cr2 : Nat → Int32) (G2 : Nat → Int32) (q0 : Nat) (x0 : Int32) (y0 : Int32) (hq : 1 ≤ q0 ∧ q0 ≤ 4) (hnd : nd = nI q0) (hon : pOn x0 y0 wd hg) : zI l (dC, dI) (wT cI cZ cJ cD) yX1_nextColour wsX1_nextColour rmX1_nextColour [(h0, .inr (1, [.ref hM, .ref hV, .int wd, .int hg, .int wv])), (hM, .inr (0, [.int bd, .int sb, .int nd, .ref aS, .ref aC, .ref aG])), (aS, .inl (cI, 5, .inl S0)), (aC, .inl (cI, 5, .inl Cr)), (aG, .inl (cI, 5, .inl G0)), (hV, .inr (0, [.int bd2, .int sb2, .int nd2, .ref bS, .ref bC, .ref bG])), (bS, .inl (cI, 5, .inl S2)), (bC, .inl (cI, 5, .inl Cr2)), (bG, .inl (cI, 5, .inl G2))] [.ref h0, .int x0, .int y0] (fun (u : (Nat → Int32) × (Nat → Int32)) => [(h0, .inr (1, [.ref hM, .ref hV, .int wd, .int hg, .int wv])), (hM, .inr (0, [.int bd, .int sb, .int nd, .ref aS, .ref aC, .ref aG])), (aS, .inl (cI, 5, .inl S0)), (aC, .inl (cI, 5, .inl u.1)), (aG, .inl (cI, 5, .inl u.2)), (hV, .inr (0, [.int bd2, .int sb2, .int nd2, .ref bS, .ref bC, .ref bG])), (bS, .inl (cI, 5, .inl S2)), (bC, .inl (cI, 5, .inl Cr2)), (bG, .inl (cI, 5, .inl G2))]) (fun (r : Int32) (u : (Nat → Int32) × (Nat → Int32)) => r = pFore S0 (pG0 S0 bd sb q0) (pCell x0 y0)) := by
  intro sz
  refine Met.ofW (cc := cX1_nextColour) (maxL := 3) (ret := (some .int)) (by decide) rfl ?_
  intro p e s m args below meth c s₁ B hml hv
  obtain ⟨ha, hsz, hP, hK, hD0, hN⟩ := hv
  have hx := B.exec
  have hb := B.bytes
  have hr := B.returns
  have hts := atoms_spec (ws := wsX1_nextColour) B.pre
  have hown : s.vm.findClass RX1 = some m.cls := findClass_of_methodNamed B.named
  have hlocks := B.notSynchronized
  subst hsz
  have hD := hD0.self (sz := s.heap.size)
  generalize hAe : va_A [(h0, .inr (1, [.ref hM, .ref hV, .int wd, .int hg, .int wv])), (hM, .inr (0, [.int bd, .int sb, .int nd, .ref aS, .ref aC, .ref aG])), (aS, .inl (cI, 5, .inl S0)), (aC, .inl (cI, 5, .inl Cr)), (aG, .inl (cI, 5, .inl G0)), (hV, .inr (0, [.int bd2, .int sb2, .int nd2, .ref bS, .ref bC, .ref bG])), (bS, .inl (cI, 5, .inl S2)), (bC, .inl (cI, 5, .inl Cr2)), (bG, .inl (cI, 5, .inl G2))] s.heap.size = A at hD ⊢
  have hA : ∀ q : Nat, s.heap.size ≤ q → A q := fun q h => by rw [← hAe]; exact Or.inr h
  have hS : va_S A s.heap s.heap [] := va_S.rf
  generalize hQ : MQ below (va_Qi (fun (r : Int32) (u : (Nat → Int32) × (Nat → Int32)) => r = pFore S0 (pG0 S0 bd sb q0) (pCell x0 y0)) (fun u t => va_P (dC, dI) vwCl ((fun (u : (Nat → Int32) × (Nat → Int32)) => [(h0, .inr (1, [.ref hM, .ref hV, .int wd, .int hg, .int wv])), (hM, .inr (0, [.int bd, .int sb, .int nd, .ref aS, .ref aC, .ref aG])), (aS, .inl (cI, 5, .inl S0)), (aC, .inl (cI, 5, .inl u.1)), (aG, .inl (cI, 5, .inl u.2)), (hV, .inr (0, [.int bd2, .int sb2, .int nd2, .ref bS, .ref bC, .ref bG])), (bS, .inl (cI, 5, .inl S2)), (bC, .inl (cI, 5, .inl Cr2)), (bG, .inl (cI, 5, .inl G2))]) u) t.heap) A) args s 0 0 A = Q
  have F9 : CallFix p m c cX1_nextColour 3 s args wsX1_nextColour RX1 := ⟨hx, hb, hml, hown, hts⟩
  refine z_entry (R := rmX1_nextColour) ha (Nat.le_of_ble_eq_true rfl) (fun ls hl => ?_)
  have hl : lv_has ls 3 [(0, .ref h0), (1, .int x0), (2, .int y0)] := hl
  refine lv_aload_n hx hb dX1_nextColour_0 rfl (lv_at hl 0 rfl) ?_
  refine lv_iload_n hx hb dX1_nextColour_1 rfl (lv_at hl 1 rfl) ?_
  refine lv_iload_n hx hb dX1_nextColour_2 rfl (lv_at hl 2 rfl) ?_
  refine z_callVi (As := [.int x0, .int y0]) (rest := []) F9 (m_X1_isOnMap l dC dI cI cZ cJ cD h0 hM aS aC aG hV bS bC bG wd hg wv bd sb nd S0 Cr G0 bd2 sb2 nd2 S2 Cr2 G2 x0 y0 ) (cwV 2 hts gX1_nextColour_X1_isOnMap rfl rfl rfl (by decide +kernel) ⟨Nat.le_of_ble_eq_true rfl, Nat.le_of_ble_eq_true rfl⟩) hK hN hP hD hS hA [0, 1, 2, 3, 4, 5, 6, 7, 8] rfl rfl (fun _ => rfl) 0 (ci := 1) rfl rfl rfl rfl hl.1 rfl (Nat.le_of_ble_eq_true rfl) dX1_nextColour_3 ⟨Nat.zero_le _, Nat.zero_le _⟩ (fun r_1 u H locs hp_3 hP hD hS => ?_)
  have hP : va_P (dC, dI) vwCl [(h0, .inr (1, [.ref hM, .ref hV, .int wd, .int hg, .int wv])), (hM, .inr (0, [.int bd, .int sb, .int nd, .ref aS, .ref aC, .ref aG])), (aS, .inl (cI, 5, .inl S0)), (aC, .inl (cI, 5, .inl Cr)), (aG, .inl (cI, 5, .inl G0)), (hV, .inr (0, [.int bd2, .int sb2, .int nd2, .ref bS, .ref bC, .ref bG])), (bS, .inl (cI, 5, .inl S2)), (bC, .inl (cI, 5, .inl Cr2)), (bG, .inl (cI, 5, .inl G2))] H := hP
  have hD : va_D A [(h0, .inr (1, [.ref hM, .ref hV, .int wd, .int hg, .int wv])), (hM, .inr (0, [.int bd, .int sb, .int nd, .ref aS, .ref aC, .ref aG])), (aS, .inl (cI, 5, .inl S0)), (aC, .inl (cI, 5, .inl Cr)), (aG, .inl (cI, 5, .inl G0)), (hV, .inr (0, [.int bd2, .int sb2, .int nd2, .ref bS, .ref bC, .ref bG])), (bS, .inl (cI, 5, .inl S2)), (bC, .inl (cI, 5, .inl Cr2)), (bG, .inl (cI, 5, .inl G2))] := hD
  have hp_3 : r_1 = if pOn x0 y0 wd hg then 1 else 0 := hp_3
  refine z_topi (y := if pOn x0 y0 wd hg then 1 else 0) hp_3 ?_
  refine lv_if_ne (tgt := 19) hx hb dX1_nextColour_6 (by decide) (fun c_6 => ?_) (fun c_6 => ?_)
  · skip
    refine lv_aload_n hx hb dX1_nextColour_19 rfl (lv_at hl 0 rfl) ?_
    refine va_get (D := (dC, dI)) (ci := 1) (v := .ref hM) (C := RX1) (T := TX1) (N := 5) hx hb hts iX1_nextColour_X1 hown hK hP 0 rfl rfl 0 (by decide) (hts (.fieldLink RX1 12 "ColourTide" "map" "LColourTide$Tide;") (List.mem_of_getElem? (i := 3) rfl)) (fun _ h9 => h9) rfl dX1_nextColour_20 ?_
    refine z_callVi (As := []) (rest := []) F9 (m_X0_foresee l dC dI cI cZ cJ cD hM aS aC aG bd sb nd S0 Cr G0 q0 (hq) (hnd)) (cwV 0 hts gX1_nextColour_X0_foresee rfl rfl rfl (by decide +kernel) ⟨Nat.le_of_ble_eq_true rfl, Nat.le_of_ble_eq_true rfl⟩) hK hN hP hD hS hA [1, 2, 3, 4] rfl rfl (fun _ => rfl) 1 (ci := 0) rfl rfl rfl rfl hl.1 rfl (Nat.le_of_ble_eq_true rfl) dX1_nextColour_23 ⟨Nat.zero_le _, Nat.zero_le _⟩ (fun r_2 u H locs hp_23 hP hD hS => ?_)
    have hP : va_P (dC, dI) vwCl [(h0, .inr (1, [.ref hM, .ref hV, .int wd, .int hg, .int wv])), (hM, .inr (0, [.int bd, .int sb, .int nd, .ref aS, .ref aC, .ref aG])), (aS, .inl (cI, 5, .inl S0)), (aC, .inl (cI, 5, .inl (pCs S0 q0 Cr (5 - q0)))), (aG, .inl (cI, 5, .inl (pGf S0 bd sb q0 G0))), (hV, .inr (0, [.int bd2, .int sb2, .int nd2, .ref bS, .ref bC, .ref bG])), (bS, .inl (cI, 5, .inl S2)), (bC, .inl (cI, 5, .inl Cr2)), (bG, .inl (cI, 5, .inl G2))] H := hP
    have hD : va_D A [(h0, .inr (1, [.ref hM, .ref hV, .int wd, .int hg, .int wv])), (hM, .inr (0, [.int bd, .int sb, .int nd, .ref aS, .ref aC, .ref aG])), (aS, .inl (cI, 5, .inl S0)), (aC, .inl (cI, 5, .inl (pCs S0 q0 Cr (5 - q0)))), (aG, .inl (cI, 5, .inl (pGf S0 bd sb q0 G0))), (hV, .inr (0, [.int bd2, .int sb2, .int nd2, .ref bS, .ref bC, .ref bG])), (bS, .inl (cI, 5, .inl S2)), (bC, .inl (cI, 5, .inl Cr2)), (bG, .inl (cI, 5, .inl G2))] := hD
    have hp_23 : r_2 = pC0 S0 bd sb q0 := hp_23
    refine z_topi (y := pC0 S0 bd sb q0) hp_23 ?_
    refine lv_pop hx hb dX1_nextColour_26 rfl ?_
    refine lv_aload_n hx hb dX1_nextColour_27 rfl (lv_at hl 0 rfl) ?_
    refine va_get (D := (dC, dI)) (ci := 1) (v := .ref hM) (C := RX1) (T := TX1) (N := 5) hx hb hts iX1_nextColour_X1 hown hK hP 0 rfl rfl 0 (by decide) (hts (.fieldLink RX1 12 "ColourTide" "map" "LColourTide$Tide;") (List.mem_of_getElem? (i := 3) rfl)) (fun _ h9 => h9) rfl dX1_nextColour_28 ?_
    refine lv_iload_n hx hb dX1_nextColour_31 rfl (lv_at hl 1 rfl) ?_
    refine lv_iload_n hx hb dX1_nextColour_32 rfl (lv_at hl 2 rfl) ?_
    refine z_callSi (As := [.int x0, .int y0]) (rest := [.ref hM]) F9 (m_X1_cell l dC dI cI cZ cJ cD x0 y0 ) (va_cwS 2 hts gX1_nextColour_X1_cell rfl rfl rfl (by decide +kernel) ⟨Nat.le_of_ble_eq_true rfl, Nat.le_of_ble_eq_true rfl⟩) hK hN hP hD hS hA rfl hl.1 rfl (Nat.le_of_ble_eq_true rfl) dX1_nextColour_33 ⟨Nat.zero_le _, Nat.zero_le _⟩ (fun r_3 H locs hp_33 hP hS => ?_)
    have hp_33 : r_3 = pCell x0 y0 := hp_33
    refine z_topi (y := pCell x0 y0) hp_33 ?_
    refine z_callVi (As := [.int (pCell x0 y0)]) (rest := []) F9 (m_X0_foreseenColourOf l dC dI cI cZ cJ cD hM aS aC aG bd sb nd S0 (pCs S0 q0 Cr (5 - q0)) (pGf S0 bd sb q0 G0) (pCell x0 y0) ) (cwV 1 hts gX1_nextColour_X0_foreseenColourOf rfl rfl rfl (by decide +kernel) ⟨Nat.le_of_ble_eq_true rfl, Nat.le_of_ble_eq_true rfl⟩) hK hN hP hD hS hA [1, 2, 3, 4] rfl rfl (fun _ => rfl) 1 (ci := 0) rfl rfl rfl rfl hl.1 rfl (Nat.le_of_ble_eq_true rfl) dX1_nextColour_36 ⟨Nat.zero_le _, Nat.zero_le _⟩ (fun r_4 u H locs hp_36 hP hD hS => ?_)
    have hP : va_P (dC, dI) vwCl [(h0, .inr (1, [.ref hM, .ref hV, .int wd, .int hg, .int wv])), (hM, .inr (0, [.int bd, .int sb, .int nd, .ref aS, .ref aC, .ref aG])), (aS, .inl (cI, 5, .inl S0)), (aC, .inl (cI, 5, .inl (pCs S0 q0 Cr (5 - q0)))), (aG, .inl (cI, 5, .inl (pGf S0 bd sb q0 G0))), (hV, .inr (0, [.int bd2, .int sb2, .int nd2, .ref bS, .ref bC, .ref bG])), (bS, .inl (cI, 5, .inl S2)), (bC, .inl (cI, 5, .inl Cr2)), (bG, .inl (cI, 5, .inl G2))] H := hP
    have hD : va_D A [(h0, .inr (1, [.ref hM, .ref hV, .int wd, .int hg, .int wv])), (hM, .inr (0, [.int bd, .int sb, .int nd, .ref aS, .ref aC, .ref aG])), (aS, .inl (cI, 5, .inl S0)), (aC, .inl (cI, 5, .inl (pCs S0 q0 Cr (5 - q0)))), (aG, .inl (cI, 5, .inl (pGf S0 bd sb q0 G0))), (hV, .inr (0, [.int bd2, .int sb2, .int nd2, .ref bS, .ref bC, .ref bG])), (bS, .inl (cI, 5, .inl S2)), (bC, .inl (cI, 5, .inl Cr2)), (bG, .inl (cI, 5, .inl G2))] := hD
    have hp_36 : r_4 = pFore S0 (pGf S0 bd sb q0 G0) (pCell x0 y0) := hp_36
    refine z_topi (y := pFore S0 (pGf S0 bd sb q0 G0) (pCell x0 y0)) hp_36 ?_
    rw [← hQ]
    exact z_iret (W1 := (fun (u : (Nat → Int32) × (Nat → Int32)) => [(h0, .inr (1, [.ref hM, .ref hV, .int wd, .int hg, .int wv])), (hM, .inr (0, [.int bd, .int sb, .int nd, .ref aS, .ref aC, .ref aG])), (aS, .inl (cI, 5, .inl S0)), (aC, .inl (cI, 5, .inl u.1)), (aG, .inl (cI, 5, .inl u.2)), (hV, .inr (0, [.int bd2, .int sb2, .int nd2, .ref bS, .ref bC, .ref bG])), (bS, .inl (cI, 5, .inl S2)), (bC, .inl (cI, 5, .inl Cr2)), (bG, .inl (cI, 5, .inl G2))])) hx hb hr hlocks hP hS ((pCs S0 q0 Cr (5 - q0)), (pGf S0 bd sb q0 G0)) (rfl) (pFore_in _ _ _ _ _ _) dX1_nextColour_39
  · skip
    exact absurd hon (z_if0 c_6)
abbrev rmX1_regionSize : Room := { frames := 3, cells := 0, slots := 0, locals := 66 }
set_option maxRecDepth 20000 in
theorem iX1_regionSize_X0 : ∀ w ∈ wsX00, w ∈ wsX1_regionSize := fun w h => (goodIn_r (big := wsX1_regionSize) wsX00 [48, 49, 50, 51, 52, 53] (by decide +kernel) (by decide +kernel) w h).1
set_option maxRecDepth 20000 in
theorem iX1_regionSize_X1 : ∀ w ∈ wsX10, w ∈ wsX1_regionSize := fun w h => (goodIn_r (big := wsX1_regionSize) wsX10 [43, 44, 45, 46, 47] (by decide +kernel) (by decide +kernel) w h).1
set_option maxHeartbeats 4000000 in
set_option maxRecDepth 100000 in
theorem m_X1_regionSize (l : Launch) (dC : Nat → ClassId) (dI : Nat → Nat → Nat) (cI cZ cJ cD : ClassId) (h0 : Nat) (hM : Nat) (aS : Nat) (aC : Nat) (aG : Nat) (hV : Nat) (bS : Nat) (bC : Nat) (bG : Nat) (wd : Int32) (hg : Int32) (wv : Int32) (bd : Int32) (sb : Int32) (nd : Int32) (S0 : Nat → Int32) (Cr : Nat → Int32) (G0 : Nat → Int32) (bd2 : Int32) (sb2 : Int32) (nd2 : Int32) (S2 : Nat → Int32) (Cr2 : Nat → Int32) (G2 : Nat → Int32) (x0 : Int32) (y0 : Int32) (hon : pOn x0 y0 wd hg) : zI l (dC, dI) (wT cI cZ cJ cD) yX1_regionSize wsX1_regionSize rmX1_regionSize [(h0, .inr (1, [.ref hM, .ref hV, .int wd, .int hg, .int wv])), (hM, .inr (0, [.int bd, .int sb, .int nd, .ref aS, .ref aC, .ref aG])), (aS, .inl (cI, 5, .inl S0)), (aC, .inl (cI, 5, .inl Cr)), (aG, .inl (cI, 5, .inl G0)), (hV, .inr (0, [.int bd2, .int sb2, .int nd2, .ref bS, .ref bC, .ref bG])), (bS, .inl (cI, 5, .inl S2)), (bC, .inl (cI, 5, .inl Cr2)), (bG, .inl (cI, 5, .inl G2))] [.ref h0, .int x0, .int y0] (fun (_ : Unit) => [(h0, .inr (1, [.ref hM, .ref hV, .int wd, .int hg, .int wv])), (hM, .inr (0, [.int bd, .int sb, .int nd, .ref aS, .ref aC, .ref aG])), (aS, .inl (cI, 5, .inl S0)), (aC, .inl (cI, 5, .inl Cr)), (aG, .inl (cI, 5, .inl G0)), (hV, .inr (0, [.int bd2, .int sb2, .int nd2, .ref bS, .ref bC, .ref bG])), (bS, .inl (cI, 5, .inl S2)), (bC, .inl (cI, 5, .inl Cr2)), (bG, .inl (cI, 5, .inl G2))]) (fun (r : Int32) (_ : Unit) => r = pSoR S0 (pCell x0 y0)) := by
  intro sz
  refine Met.ofW (cc := cX1_regionSize) (maxL := 3) (ret := (some .int)) (by decide) rfl ?_
  intro p e s m args below meth c s₁ B hml hv
  obtain ⟨ha, hsz, hP, hK, hD0, hN⟩ := hv
  have hx := B.exec
  have hb := B.bytes
  have hr := B.returns
  have hts := atoms_spec (ws := wsX1_regionSize) B.pre
  have hown : s.vm.findClass RX1 = some m.cls := findClass_of_methodNamed B.named
  have hlocks := B.notSynchronized
  subst hsz
  have hD := hD0.self (sz := s.heap.size)
  generalize hAe : va_A [(h0, .inr (1, [.ref hM, .ref hV, .int wd, .int hg, .int wv])), (hM, .inr (0, [.int bd, .int sb, .int nd, .ref aS, .ref aC, .ref aG])), (aS, .inl (cI, 5, .inl S0)), (aC, .inl (cI, 5, .inl Cr)), (aG, .inl (cI, 5, .inl G0)), (hV, .inr (0, [.int bd2, .int sb2, .int nd2, .ref bS, .ref bC, .ref bG])), (bS, .inl (cI, 5, .inl S2)), (bC, .inl (cI, 5, .inl Cr2)), (bG, .inl (cI, 5, .inl G2))] s.heap.size = A at hD ⊢
  have hA : ∀ q : Nat, s.heap.size ≤ q → A q := fun q h => by rw [← hAe]; exact Or.inr h
  have hS : va_S A s.heap s.heap [] := va_S.rf
  generalize hQ : MQ below (va_Qi (fun (r : Int32) (_ : Unit) => r = pSoR S0 (pCell x0 y0)) (fun u t => va_P (dC, dI) vwCl ((fun (_ : Unit) => [(h0, .inr (1, [.ref hM, .ref hV, .int wd, .int hg, .int wv])), (hM, .inr (0, [.int bd, .int sb, .int nd, .ref aS, .ref aC, .ref aG])), (aS, .inl (cI, 5, .inl S0)), (aC, .inl (cI, 5, .inl Cr)), (aG, .inl (cI, 5, .inl G0)), (hV, .inr (0, [.int bd2, .int sb2, .int nd2, .ref bS, .ref bC, .ref bG])), (bS, .inl (cI, 5, .inl S2)), (bC, .inl (cI, 5, .inl Cr2)), (bG, .inl (cI, 5, .inl G2))]) u) t.heap) A) args s 0 0 A = Q
  have F9 : CallFix p m c cX1_regionSize 3 s args wsX1_regionSize RX1 := ⟨hx, hb, hml, hown, hts⟩
  refine z_entry (R := rmX1_regionSize) ha (Nat.le_of_ble_eq_true rfl) (fun ls hl => ?_)
  have hl : lv_has ls 3 [(0, .ref h0), (1, .int x0), (2, .int y0)] := hl
  refine lv_aload_n hx hb dX1_regionSize_0 rfl (lv_at hl 0 rfl) ?_
  refine lv_iload_n hx hb dX1_regionSize_1 rfl (lv_at hl 1 rfl) ?_
  refine lv_iload_n hx hb dX1_regionSize_2 rfl (lv_at hl 2 rfl) ?_
  refine z_callVi (As := [.int x0, .int y0]) (rest := []) F9 (m_X1_isOnMap l dC dI cI cZ cJ cD h0 hM aS aC aG hV bS bC bG wd hg wv bd sb nd S0 Cr G0 bd2 sb2 nd2 S2 Cr2 G2 x0 y0 ) (cwV 2 hts gX1_regionSize_X1_isOnMap rfl rfl rfl (by decide +kernel) ⟨Nat.le_of_ble_eq_true rfl, Nat.le_of_ble_eq_true rfl⟩) hK hN hP hD hS hA [0, 1, 2, 3, 4, 5, 6, 7, 8] rfl rfl (fun _ => rfl) 0 (ci := 1) rfl rfl rfl rfl hl.1 rfl (Nat.le_of_ble_eq_true rfl) dX1_regionSize_3 ⟨Nat.zero_le _, Nat.zero_le _⟩ (fun r_1 u H locs hp_3 hP hD hS => ?_)
  have hP : va_P (dC, dI) vwCl [(h0, .inr (1, [.ref hM, .ref hV, .int wd, .int hg, .int wv])), (hM, .inr (0, [.int bd, .int sb, .int nd, .ref aS, .ref aC, .ref aG])), (aS, .inl (cI, 5, .inl S0)), (aC, .inl (cI, 5, .inl Cr)), (aG, .inl (cI, 5, .inl G0)), (hV, .inr (0, [.int bd2, .int sb2, .int nd2, .ref bS, .ref bC, .ref bG])), (bS, .inl (cI, 5, .inl S2)), (bC, .inl (cI, 5, .inl Cr2)), (bG, .inl (cI, 5, .inl G2))] H := hP
  have hD : va_D A [(h0, .inr (1, [.ref hM, .ref hV, .int wd, .int hg, .int wv])), (hM, .inr (0, [.int bd, .int sb, .int nd, .ref aS, .ref aC, .ref aG])), (aS, .inl (cI, 5, .inl S0)), (aC, .inl (cI, 5, .inl Cr)), (aG, .inl (cI, 5, .inl G0)), (hV, .inr (0, [.int bd2, .int sb2, .int nd2, .ref bS, .ref bC, .ref bG])), (bS, .inl (cI, 5, .inl S2)), (bC, .inl (cI, 5, .inl Cr2)), (bG, .inl (cI, 5, .inl G2))] := hD
  have hp_3 : r_1 = if pOn x0 y0 wd hg then 1 else 0 := hp_3
  refine z_topi (y := if pOn x0 y0 wd hg then 1 else 0) hp_3 ?_
  refine lv_if_ne (tgt := 19) hx hb dX1_regionSize_6 (by decide) (fun c_6 => ?_) (fun c_6 => ?_)
  · skip
    refine lv_aload_n hx hb dX1_regionSize_19 rfl (lv_at hl 0 rfl) ?_
    refine va_get (D := (dC, dI)) (ci := 1) (v := .ref hM) (C := RX1) (T := TX1) (N := 5) hx hb hts iX1_regionSize_X1 hown hK hP 0 rfl rfl 0 (by decide) (hts (.fieldLink RX1 12 "ColourTide" "map" "LColourTide$Tide;") (List.mem_of_getElem? (i := 3) rfl)) (fun _ h9 => h9) rfl dX1_regionSize_20 ?_
    refine lv_iload_n hx hb dX1_regionSize_23 rfl (lv_at hl 1 rfl) ?_
    refine lv_iload_n hx hb dX1_regionSize_24 rfl (lv_at hl 2 rfl) ?_
    refine z_callSi (As := [.int x0, .int y0]) (rest := [.ref hM]) F9 (m_X1_cell l dC dI cI cZ cJ cD x0 y0 ) (va_cwS 2 hts gX1_regionSize_X1_cell rfl rfl rfl (by decide +kernel) ⟨Nat.le_of_ble_eq_true rfl, Nat.le_of_ble_eq_true rfl⟩) hK hN hP hD hS hA rfl hl.1 rfl (Nat.le_of_ble_eq_true rfl) dX1_regionSize_25 ⟨Nat.zero_le _, Nat.zero_le _⟩ (fun r_2 H locs hp_25 hP hS => ?_)
    have hp_25 : r_2 = pCell x0 y0 := hp_25
    refine z_topi (y := pCell x0 y0) hp_25 ?_
    refine z_callVi (As := [.int (pCell x0 y0)]) (rest := []) F9 (m_X0_sizeOfRegion l dC dI cI cZ cJ cD hM aS aC aG bd sb nd S0 Cr G0 (pCell x0 y0) ) (cwV 1 hts gX1_regionSize_X0_sizeOfRegion rfl rfl rfl (by decide +kernel) ⟨Nat.le_of_ble_eq_true rfl, Nat.le_of_ble_eq_true rfl⟩) hK hN hP hD hS hA [1, 2, 3, 4] rfl rfl (fun _ => rfl) 1 (ci := 0) rfl rfl rfl rfl hl.1 rfl (Nat.le_of_ble_eq_true rfl) dX1_regionSize_28 ⟨Nat.zero_le _, Nat.zero_le _⟩ (fun r_3 u H locs hp_28 hP hD hS => ?_)
    have hP : va_P (dC, dI) vwCl [(h0, .inr (1, [.ref hM, .ref hV, .int wd, .int hg, .int wv])), (hM, .inr (0, [.int bd, .int sb, .int nd, .ref aS, .ref aC, .ref aG])), (aS, .inl (cI, 5, .inl S0)), (aC, .inl (cI, 5, .inl Cr)), (aG, .inl (cI, 5, .inl G0)), (hV, .inr (0, [.int bd2, .int sb2, .int nd2, .ref bS, .ref bC, .ref bG])), (bS, .inl (cI, 5, .inl S2)), (bC, .inl (cI, 5, .inl Cr2)), (bG, .inl (cI, 5, .inl G2))] H := hP
    have hD : va_D A [(h0, .inr (1, [.ref hM, .ref hV, .int wd, .int hg, .int wv])), (hM, .inr (0, [.int bd, .int sb, .int nd, .ref aS, .ref aC, .ref aG])), (aS, .inl (cI, 5, .inl S0)), (aC, .inl (cI, 5, .inl Cr)), (aG, .inl (cI, 5, .inl G0)), (hV, .inr (0, [.int bd2, .int sb2, .int nd2, .ref bS, .ref bC, .ref bG])), (bS, .inl (cI, 5, .inl S2)), (bC, .inl (cI, 5, .inl Cr2)), (bG, .inl (cI, 5, .inl G2))] := hD
    have hp_28 : r_3 = pSoR S0 (pCell x0 y0) := hp_28
    refine z_topi (y := pSoR S0 (pCell x0 y0)) hp_28 ?_
    rw [← hQ]
    exact z_iret (W1 := (fun (_ : Unit) => [(h0, .inr (1, [.ref hM, .ref hV, .int wd, .int hg, .int wv])), (hM, .inr (0, [.int bd, .int sb, .int nd, .ref aS, .ref aC, .ref aG])), (aS, .inl (cI, 5, .inl S0)), (aC, .inl (cI, 5, .inl Cr)), (aG, .inl (cI, 5, .inl G0)), (hV, .inr (0, [.int bd2, .int sb2, .int nd2, .ref bS, .ref bC, .ref bG])), (bS, .inl (cI, 5, .inl S2)), (bC, .inl (cI, 5, .inl Cr2)), (bG, .inl (cI, 5, .inl G2))])) hx hb hr hlocks hP hS () (rfl) (rfl) dX1_regionSize_31
  · skip
    exact absurd hon (z_if0 c_6)
abbrev rmX1_cellsOf : Room := { frames := 2, cells := 0, slots := 0, locals := 42 }
set_option maxRecDepth 20000 in
theorem iX1_cellsOf_X0 : ∀ w ∈ wsX00, w ∈ wsX1_cellsOf := fun w h => (goodIn_r (big := wsX1_cellsOf) wsX00 [33, 34, 35, 36, 37, 38] (by decide +kernel) (by decide +kernel) w h).1
set_option maxRecDepth 20000 in
theorem iX1_cellsOf_X1 : ∀ w ∈ wsX10, w ∈ wsX1_cellsOf := fun w h => (goodIn_r (big := wsX1_cellsOf) wsX10 [28, 29, 30, 31, 32] (by decide +kernel) (by decide +kernel) w h).1
set_option maxHeartbeats 4000000 in
set_option maxRecDepth 100000 in
theorem m_X1_cellsOf (l : Launch) (dC : Nat → ClassId) (dI : Nat → Nat → Nat) (cI cZ cJ cD : ClassId) (h0 : Nat) (hM : Nat) (aS : Nat) (aC : Nat) (aG : Nat) (hV : Nat) (bS : Nat) (bC : Nat) (bG : Nat) (wd : Int32) (hg : Int32) (wv : Int32) (bd : Int32) (sb : Int32) (nd : Int32) (S0 : Nat → Int32) (Cr : Nat → Int32) (G0 : Nat → Int32) (bd2 : Int32) (sb2 : Int32) (nd2 : Int32) (S2 : Nat → Int32) (Cr2 : Nat → Int32) (G2 : Nat → Int32) (col : Int32) (hcl : pAny col) : zI l (dC, dI) (wT cI cZ cJ cD) yX1_cellsOf wsX1_cellsOf rmX1_cellsOf [(h0, .inr (1, [.ref hM, .ref hV, .int wd, .int hg, .int wv])), (hM, .inr (0, [.int bd, .int sb, .int nd, .ref aS, .ref aC, .ref aG])), (aS, .inl (cI, 5, .inl S0)), (aC, .inl (cI, 5, .inl Cr)), (aG, .inl (cI, 5, .inl G0)), (hV, .inr (0, [.int bd2, .int sb2, .int nd2, .ref bS, .ref bC, .ref bG])), (bS, .inl (cI, 5, .inl S2)), (bC, .inl (cI, 5, .inl Cr2)), (bG, .inl (cI, 5, .inl G2))] [.ref h0, .int col] (fun (_ : Unit) => [(h0, .inr (1, [.ref hM, .ref hV, .int wd, .int hg, .int wv])), (hM, .inr (0, [.int bd, .int sb, .int nd, .ref aS, .ref aC, .ref aG])), (aS, .inl (cI, 5, .inl S0)), (aC, .inl (cI, 5, .inl Cr)), (aG, .inl (cI, 5, .inl G0)), (hV, .inr (0, [.int bd2, .int sb2, .int nd2, .ref bS, .ref bC, .ref bG])), (bS, .inl (cI, 5, .inl S2)), (bC, .inl (cI, 5, .inl Cr2)), (bG, .inl (cI, 5, .inl G2))]) (fun (r : Int32) (_ : Unit) => r = pBC (pCW S0 col)) := by
  intro sz
  refine Met.ofW (cc := cX1_cellsOf) (maxL := 2) (ret := (some .int)) (by decide) rfl ?_
  intro p e s m args below meth c s₁ B hml hv
  obtain ⟨ha, hsz, hP, hK, hD0, hN⟩ := hv
  have hx := B.exec
  have hb := B.bytes
  have hr := B.returns
  have hts := atoms_spec (ws := wsX1_cellsOf) B.pre
  have hown : s.vm.findClass RX1 = some m.cls := findClass_of_methodNamed B.named
  have hlocks := B.notSynchronized
  subst hsz
  have hD := hD0.self (sz := s.heap.size)
  generalize hAe : va_A [(h0, .inr (1, [.ref hM, .ref hV, .int wd, .int hg, .int wv])), (hM, .inr (0, [.int bd, .int sb, .int nd, .ref aS, .ref aC, .ref aG])), (aS, .inl (cI, 5, .inl S0)), (aC, .inl (cI, 5, .inl Cr)), (aG, .inl (cI, 5, .inl G0)), (hV, .inr (0, [.int bd2, .int sb2, .int nd2, .ref bS, .ref bC, .ref bG])), (bS, .inl (cI, 5, .inl S2)), (bC, .inl (cI, 5, .inl Cr2)), (bG, .inl (cI, 5, .inl G2))] s.heap.size = A at hD ⊢
  have hA : ∀ q : Nat, s.heap.size ≤ q → A q := fun q h => by rw [← hAe]; exact Or.inr h
  have hS : va_S A s.heap s.heap [] := va_S.rf
  generalize hQ : MQ below (va_Qi (fun (r : Int32) (_ : Unit) => r = pBC (pCW S0 col)) (fun u t => va_P (dC, dI) vwCl ((fun (_ : Unit) => [(h0, .inr (1, [.ref hM, .ref hV, .int wd, .int hg, .int wv])), (hM, .inr (0, [.int bd, .int sb, .int nd, .ref aS, .ref aC, .ref aG])), (aS, .inl (cI, 5, .inl S0)), (aC, .inl (cI, 5, .inl Cr)), (aG, .inl (cI, 5, .inl G0)), (hV, .inr (0, [.int bd2, .int sb2, .int nd2, .ref bS, .ref bC, .ref bG])), (bS, .inl (cI, 5, .inl S2)), (bC, .inl (cI, 5, .inl Cr2)), (bG, .inl (cI, 5, .inl G2))]) u) t.heap) A) args s 0 0 A = Q
  have F9 : CallFix p m c cX1_cellsOf 2 s args wsX1_cellsOf RX1 := ⟨hx, hb, hml, hown, hts⟩
  refine z_entry (R := rmX1_cellsOf) ha (Nat.le_of_ble_eq_true rfl) (fun ls hl => ?_)
  have hl : lv_has ls 2 [(0, .ref h0), (1, .int col)] := hl
  refine lv_iload_n hx hb dX1_cellsOf_0 rfl (lv_at hl 1 rfl) ?_
  refine z_callSi (As := [.int col]) (rest := []) F9 (m_X1_isColourOrBare l dC dI cI cZ cJ cD col ) (va_cwS 1 hts gX1_cellsOf_X1_isColourOrBare rfl rfl rfl (by decide +kernel) ⟨Nat.le_of_ble_eq_true rfl, Nat.le_of_ble_eq_true rfl⟩) hK hN hP hD hS hA rfl hl.1 rfl (Nat.le_of_ble_eq_true rfl) dX1_cellsOf_1 ⟨Nat.zero_le _, Nat.zero_le _⟩ (fun r_1 H locs hp_1 hP hS => ?_)
  have hp_1 : r_1 = if pAny col then 1 else 0 := hp_1
  refine z_topi (y := if pAny col then 1 else 0) hp_1 ?_
  refine lv_if_ne (tgt := 17) hx hb dX1_cellsOf_4 (by decide) (fun c_4 => ?_) (fun c_4 => ?_)
  · skip
    refine lv_aload_n hx hb dX1_cellsOf_17 rfl (lv_at hl 0 rfl) ?_
    refine va_get (D := (dC, dI)) (ci := 1) (v := .ref hM) (C := RX1) (T := TX1) (N := 5) hx hb hts iX1_cellsOf_X1 hown hK hP 0 rfl rfl 0 (by decide) (hts (.fieldLink RX1 12 "ColourTide" "map" "LColourTide$Tide;") (List.mem_of_getElem? (i := 3) rfl)) (fun _ h9 => h9) rfl dX1_cellsOf_18 ?_
    refine lv_iload_n hx hb dX1_cellsOf_21 rfl (lv_at hl 1 rfl) ?_
    refine z_callVi (As := [.int col]) (rest := []) F9 (m_X0_count l dC dI cI cZ cJ cD hM aS aC aG bd sb nd S0 Cr G0 col ) (cwV 1 hts gX1_cellsOf_X0_count rfl rfl rfl (by decide +kernel) ⟨Nat.le_of_ble_eq_true rfl, Nat.le_of_ble_eq_true rfl⟩) hK hN hP hD hS hA [1, 2, 3, 4] rfl rfl (fun _ => rfl) 1 (ci := 0) rfl rfl rfl rfl hl.1 rfl (Nat.le_of_ble_eq_true rfl) dX1_cellsOf_22 ⟨Nat.zero_le _, Nat.zero_le _⟩ (fun r_2 u H locs hp_22 hP hD hS => ?_)
    have hP : va_P (dC, dI) vwCl [(h0, .inr (1, [.ref hM, .ref hV, .int wd, .int hg, .int wv])), (hM, .inr (0, [.int bd, .int sb, .int nd, .ref aS, .ref aC, .ref aG])), (aS, .inl (cI, 5, .inl S0)), (aC, .inl (cI, 5, .inl Cr)), (aG, .inl (cI, 5, .inl G0)), (hV, .inr (0, [.int bd2, .int sb2, .int nd2, .ref bS, .ref bC, .ref bG])), (bS, .inl (cI, 5, .inl S2)), (bC, .inl (cI, 5, .inl Cr2)), (bG, .inl (cI, 5, .inl G2))] H := hP
    have hD : va_D A [(h0, .inr (1, [.ref hM, .ref hV, .int wd, .int hg, .int wv])), (hM, .inr (0, [.int bd, .int sb, .int nd, .ref aS, .ref aC, .ref aG])), (aS, .inl (cI, 5, .inl S0)), (aC, .inl (cI, 5, .inl Cr)), (aG, .inl (cI, 5, .inl G0)), (hV, .inr (0, [.int bd2, .int sb2, .int nd2, .ref bS, .ref bC, .ref bG])), (bS, .inl (cI, 5, .inl S2)), (bC, .inl (cI, 5, .inl Cr2)), (bG, .inl (cI, 5, .inl G2))] := hD
    have hp_22 : r_2 = pBC (pCW S0 col) := hp_22
    refine z_topi (y := pBC (pCW S0 col)) hp_22 ?_
    rw [← hQ]
    exact z_iret (W1 := (fun (_ : Unit) => [(h0, .inr (1, [.ref hM, .ref hV, .int wd, .int hg, .int wv])), (hM, .inr (0, [.int bd, .int sb, .int nd, .ref aS, .ref aC, .ref aG])), (aS, .inl (cI, 5, .inl S0)), (aC, .inl (cI, 5, .inl Cr)), (aG, .inl (cI, 5, .inl G0)), (hV, .inr (0, [.int bd2, .int sb2, .int nd2, .ref bS, .ref bC, .ref bG])), (bS, .inl (cI, 5, .inl S2)), (bC, .inl (cI, 5, .inl Cr2)), (bG, .inl (cI, 5, .inl G2))])) hx hb hr hlocks hP hS () (rfl) (rfl) dX1_cellsOf_25
  · skip
    exact absurd hcl (z_if0 c_4)
abbrev rmX1_regionsOf : Room := { frames := 3, cells := 0, slots := 0, locals := 68 }
set_option maxRecDepth 20000 in
theorem iX1_regionsOf_X0 : ∀ w ∈ wsX00, w ∈ wsX1_regionsOf := fun w h => (goodIn_r (big := wsX1_regionsOf) wsX00 [28, 29, 30, 31, 32, 33] (by decide +kernel) (by decide +kernel) w h).1
set_option maxRecDepth 20000 in
theorem iX1_regionsOf_X1 : ∀ w ∈ wsX10, w ∈ wsX1_regionsOf := fun w h => (goodIn_r (big := wsX1_regionsOf) wsX10 [23, 24, 25, 26, 27] (by decide +kernel) (by decide +kernel) w h).1
set_option maxHeartbeats 4000000 in
set_option maxRecDepth 100000 in
theorem m_X1_regionsOf (l : Launch) (dC : Nat → ClassId) (dI : Nat → Nat → Nat) (cI cZ cJ cD : ClassId) (h0 : Nat) (hM : Nat) (aS : Nat) (aC : Nat) (aG : Nat) (hV : Nat) (bS : Nat) (bC : Nat) (bG : Nat) (wd : Int32) (hg : Int32) (wv : Int32) (bd : Int32) (sb : Int32) (nd : Int32) (S0 : Nat → Int32) (Cr : Nat → Int32) (G0 : Nat → Int32) (bd2 : Int32) (sb2 : Int32) (nd2 : Int32) (S2 : Nat → Int32) (Cr2 : Nat → Int32) (G2 : Nat → Int32) (col : Int32) (hcl : pCol col) : zI l (dC, dI) (wT cI cZ cJ cD) yX1_regionsOf wsX1_regionsOf rmX1_regionsOf [(h0, .inr (1, [.ref hM, .ref hV, .int wd, .int hg, .int wv])), (hM, .inr (0, [.int bd, .int sb, .int nd, .ref aS, .ref aC, .ref aG])), (aS, .inl (cI, 5, .inl S0)), (aC, .inl (cI, 5, .inl Cr)), (aG, .inl (cI, 5, .inl G0)), (hV, .inr (0, [.int bd2, .int sb2, .int nd2, .ref bS, .ref bC, .ref bG])), (bS, .inl (cI, 5, .inl S2)), (bC, .inl (cI, 5, .inl Cr2)), (bG, .inl (cI, 5, .inl G2))] [.ref h0, .int col] (fun (_ : Unit) => [(h0, .inr (1, [.ref hM, .ref hV, .int wd, .int hg, .int wv])), (hM, .inr (0, [.int bd, .int sb, .int nd, .ref aS, .ref aC, .ref aG])), (aS, .inl (cI, 5, .inl S0)), (aC, .inl (cI, 5, .inl Cr)), (aG, .inl (cI, 5, .inl G0)), (hV, .inr (0, [.int bd2, .int sb2, .int nd2, .ref bS, .ref bC, .ref bG])), (bS, .inl (cI, 5, .inl S2)), (bC, .inl (cI, 5, .inl Cr2)), (bG, .inl (cI, 5, .inl G2))]) (fun (r : Int32) (_ : Unit) => r = nI (pCR 25 (pCW S0 col) 0)) := by
  intro sz
  refine Met.ofW (cc := cX1_regionsOf) (maxL := 2) (ret := (some .int)) (by decide) rfl ?_
  intro p e s m args below meth c s₁ B hml hv
  obtain ⟨ha, hsz, hP, hK, hD0, hN⟩ := hv
  have hx := B.exec
  have hb := B.bytes
  have hr := B.returns
  have hts := atoms_spec (ws := wsX1_regionsOf) B.pre
  have hown : s.vm.findClass RX1 = some m.cls := findClass_of_methodNamed B.named
  have hlocks := B.notSynchronized
  subst hsz
  have hD := hD0.self (sz := s.heap.size)
  generalize hAe : va_A [(h0, .inr (1, [.ref hM, .ref hV, .int wd, .int hg, .int wv])), (hM, .inr (0, [.int bd, .int sb, .int nd, .ref aS, .ref aC, .ref aG])), (aS, .inl (cI, 5, .inl S0)), (aC, .inl (cI, 5, .inl Cr)), (aG, .inl (cI, 5, .inl G0)), (hV, .inr (0, [.int bd2, .int sb2, .int nd2, .ref bS, .ref bC, .ref bG])), (bS, .inl (cI, 5, .inl S2)), (bC, .inl (cI, 5, .inl Cr2)), (bG, .inl (cI, 5, .inl G2))] s.heap.size = A at hD ⊢
  have hA : ∀ q : Nat, s.heap.size ≤ q → A q := fun q h => by rw [← hAe]; exact Or.inr h
  have hS : va_S A s.heap s.heap [] := va_S.rf
  generalize hQ : MQ below (va_Qi (fun (r : Int32) (_ : Unit) => r = nI (pCR 25 (pCW S0 col) 0)) (fun u t => va_P (dC, dI) vwCl ((fun (_ : Unit) => [(h0, .inr (1, [.ref hM, .ref hV, .int wd, .int hg, .int wv])), (hM, .inr (0, [.int bd, .int sb, .int nd, .ref aS, .ref aC, .ref aG])), (aS, .inl (cI, 5, .inl S0)), (aC, .inl (cI, 5, .inl Cr)), (aG, .inl (cI, 5, .inl G0)), (hV, .inr (0, [.int bd2, .int sb2, .int nd2, .ref bS, .ref bC, .ref bG])), (bS, .inl (cI, 5, .inl S2)), (bC, .inl (cI, 5, .inl Cr2)), (bG, .inl (cI, 5, .inl G2))]) u) t.heap) A) args s 0 0 A = Q
  have F9 : CallFix p m c cX1_regionsOf 2 s args wsX1_regionsOf RX1 := ⟨hx, hb, hml, hown, hts⟩
  refine z_entry (R := rmX1_regionsOf) ha (Nat.le_of_ble_eq_true rfl) (fun ls hl => ?_)
  have hl : lv_has ls 2 [(0, .ref h0), (1, .int col)] := hl
  refine lv_iload_n hx hb dX1_regionsOf_0 rfl (lv_at hl 1 rfl) ?_
  refine z_callSi (As := [.int col]) (rest := []) F9 (m_X1_isColour l dC dI cI cZ cJ cD col ) (va_cwS 1 hts gX1_regionsOf_X1_isColour rfl rfl rfl (by decide +kernel) ⟨Nat.le_of_ble_eq_true rfl, Nat.le_of_ble_eq_true rfl⟩) hK hN hP hD hS hA rfl hl.1 rfl (Nat.le_of_ble_eq_true rfl) dX1_regionsOf_1 ⟨Nat.zero_le _, Nat.zero_le _⟩ (fun r_1 H locs hp_1 hP hS => ?_)
  have hp_1 : r_1 = if pCol col then 1 else 0 := hp_1
  refine z_topi (y := if pCol col then 1 else 0) hp_1 ?_
  refine lv_if_ne (tgt := 17) hx hb dX1_regionsOf_4 (by decide) (fun c_4 => ?_) (fun c_4 => ?_)
  · skip
    refine lv_aload_n hx hb dX1_regionsOf_17 rfl (lv_at hl 0 rfl) ?_
    refine va_get (D := (dC, dI)) (ci := 1) (v := .ref hM) (C := RX1) (T := TX1) (N := 5) hx hb hts iX1_regionsOf_X1 hown hK hP 0 rfl rfl 0 (by decide) (hts (.fieldLink RX1 12 "ColourTide" "map" "LColourTide$Tide;") (List.mem_of_getElem? (i := 3) rfl)) (fun _ h9 => h9) rfl dX1_regionsOf_18 ?_
    refine lv_iload_n hx hb dX1_regionsOf_21 rfl (lv_at hl 1 rfl) ?_
    refine z_callVi (As := [.int col]) (rest := []) F9 (m_X0_countRegions l dC dI cI cZ cJ cD hM aS aC aG bd sb nd S0 Cr G0 col ) (cwV 1 hts gX1_regionsOf_X0_countRegions rfl rfl rfl (by decide +kernel) ⟨Nat.le_of_ble_eq_true rfl, Nat.le_of_ble_eq_true rfl⟩) hK hN hP hD hS hA [1, 2, 3, 4] rfl rfl (fun _ => rfl) 1 (ci := 0) rfl rfl rfl rfl hl.1 rfl (Nat.le_of_ble_eq_true rfl) dX1_regionsOf_22 ⟨Nat.zero_le _, Nat.zero_le _⟩ (fun r_2 u H locs hp_22 hP hD hS => ?_)
    have hP : va_P (dC, dI) vwCl [(h0, .inr (1, [.ref hM, .ref hV, .int wd, .int hg, .int wv])), (hM, .inr (0, [.int bd, .int sb, .int nd, .ref aS, .ref aC, .ref aG])), (aS, .inl (cI, 5, .inl S0)), (aC, .inl (cI, 5, .inl Cr)), (aG, .inl (cI, 5, .inl G0)), (hV, .inr (0, [.int bd2, .int sb2, .int nd2, .ref bS, .ref bC, .ref bG])), (bS, .inl (cI, 5, .inl S2)), (bC, .inl (cI, 5, .inl Cr2)), (bG, .inl (cI, 5, .inl G2))] H := hP
    have hD : va_D A [(h0, .inr (1, [.ref hM, .ref hV, .int wd, .int hg, .int wv])), (hM, .inr (0, [.int bd, .int sb, .int nd, .ref aS, .ref aC, .ref aG])), (aS, .inl (cI, 5, .inl S0)), (aC, .inl (cI, 5, .inl Cr)), (aG, .inl (cI, 5, .inl G0)), (hV, .inr (0, [.int bd2, .int sb2, .int nd2, .ref bS, .ref bC, .ref bG])), (bS, .inl (cI, 5, .inl S2)), (bC, .inl (cI, 5, .inl Cr2)), (bG, .inl (cI, 5, .inl G2))] := hD
    have hp_22 : r_2 = nI (pCR 25 (pCW S0 col) 0) := hp_22
    refine z_topi (y := nI (pCR 25 (pCW S0 col) 0)) hp_22 ?_
    rw [← hQ]
    exact z_iret (W1 := (fun (_ : Unit) => [(h0, .inr (1, [.ref hM, .ref hV, .int wd, .int hg, .int wv])), (hM, .inr (0, [.int bd, .int sb, .int nd, .ref aS, .ref aC, .ref aG])), (aS, .inl (cI, 5, .inl S0)), (aC, .inl (cI, 5, .inl Cr)), (aG, .inl (cI, 5, .inl G0)), (hV, .inr (0, [.int bd2, .int sb2, .int nd2, .ref bS, .ref bC, .ref bG])), (bS, .inl (cI, 5, .inl S2)), (bC, .inl (cI, 5, .inl Cr2)), (bG, .inl (cI, 5, .inl G2))])) hx hb hr hlocks hP hS () (rfl) (rfl) dX1_regionsOf_25
  · skip
    exact absurd hcl (z_if0 c_4)
abbrev rmX1_greatestRegion : Room := { frames := 3, cells := 0, slots := 0, locals := 69 }
set_option maxRecDepth 20000 in
theorem iX1_greatestRegion_X0 : ∀ w ∈ wsX00, w ∈ wsX1_greatestRegion := fun w h => (goodIn_r (big := wsX1_greatestRegion) wsX00 [39, 40, 41, 42, 43, 44] (by decide +kernel) (by decide +kernel) w h).1
set_option maxRecDepth 20000 in
theorem iX1_greatestRegion_X1 : ∀ w ∈ wsX10, w ∈ wsX1_greatestRegion := fun w h => (goodIn_r (big := wsX1_greatestRegion) wsX10 [34, 35, 36, 37, 38] (by decide +kernel) (by decide +kernel) w h).1
set_option maxHeartbeats 4000000 in
set_option maxRecDepth 100000 in
theorem m_X1_greatestRegion (l : Launch) (dC : Nat → ClassId) (dI : Nat → Nat → Nat) (cI cZ cJ cD : ClassId) (h0 : Nat) (hM : Nat) (aS : Nat) (aC : Nat) (aG : Nat) (hV : Nat) (bS : Nat) (bC : Nat) (bG : Nat) (wd : Int32) (hg : Int32) (wv : Int32) (bd : Int32) (sb : Int32) (nd : Int32) (S0 : Nat → Int32) (Cr : Nat → Int32) (G0 : Nat → Int32) (bd2 : Int32) (sb2 : Int32) (nd2 : Int32) (S2 : Nat → Int32) (Cr2 : Nat → Int32) (G2 : Nat → Int32) (col : Int32) (hcl : pCol col) : zI l (dC, dI) (wT cI cZ cJ cD) yX1_greatestRegion wsX1_greatestRegion rmX1_greatestRegion [(h0, .inr (1, [.ref hM, .ref hV, .int wd, .int hg, .int wv])), (hM, .inr (0, [.int bd, .int sb, .int nd, .ref aS, .ref aC, .ref aG])), (aS, .inl (cI, 5, .inl S0)), (aC, .inl (cI, 5, .inl Cr)), (aG, .inl (cI, 5, .inl G0)), (hV, .inr (0, [.int bd2, .int sb2, .int nd2, .ref bS, .ref bC, .ref bG])), (bS, .inl (cI, 5, .inl S2)), (bC, .inl (cI, 5, .inl Cr2)), (bG, .inl (cI, 5, .inl G2))] [.ref h0, .int col] (fun (_ : Unit) => [(h0, .inr (1, [.ref hM, .ref hV, .int wd, .int hg, .int wv])), (hM, .inr (0, [.int bd, .int sb, .int nd, .ref aS, .ref aC, .ref aG])), (aS, .inl (cI, 5, .inl S0)), (aC, .inl (cI, 5, .inl Cr)), (aG, .inl (cI, 5, .inl G0)), (hV, .inr (0, [.int bd2, .int sb2, .int nd2, .ref bS, .ref bC, .ref bG])), (bS, .inl (cI, 5, .inl S2)), (bC, .inl (cI, 5, .inl Cr2)), (bG, .inl (cI, 5, .inl G2))]) (fun (r : Int32) (_ : Unit) => r = pGR 25 (pCW S0 col) 0) := by
  intro sz
  refine Met.ofW (cc := cX1_greatestRegion) (maxL := 2) (ret := (some .int)) (by decide) rfl ?_
  intro p e s m args below meth c s₁ B hml hv
  obtain ⟨ha, hsz, hP, hK, hD0, hN⟩ := hv
  have hx := B.exec
  have hb := B.bytes
  have hr := B.returns
  have hts := atoms_spec (ws := wsX1_greatestRegion) B.pre
  have hown : s.vm.findClass RX1 = some m.cls := findClass_of_methodNamed B.named
  have hlocks := B.notSynchronized
  subst hsz
  have hD := hD0.self (sz := s.heap.size)
  generalize hAe : va_A [(h0, .inr (1, [.ref hM, .ref hV, .int wd, .int hg, .int wv])), (hM, .inr (0, [.int bd, .int sb, .int nd, .ref aS, .ref aC, .ref aG])), (aS, .inl (cI, 5, .inl S0)), (aC, .inl (cI, 5, .inl Cr)), (aG, .inl (cI, 5, .inl G0)), (hV, .inr (0, [.int bd2, .int sb2, .int nd2, .ref bS, .ref bC, .ref bG])), (bS, .inl (cI, 5, .inl S2)), (bC, .inl (cI, 5, .inl Cr2)), (bG, .inl (cI, 5, .inl G2))] s.heap.size = A at hD ⊢
  have hA : ∀ q : Nat, s.heap.size ≤ q → A q := fun q h => by rw [← hAe]; exact Or.inr h
  have hS : va_S A s.heap s.heap [] := va_S.rf
  generalize hQ : MQ below (va_Qi (fun (r : Int32) (_ : Unit) => r = pGR 25 (pCW S0 col) 0) (fun u t => va_P (dC, dI) vwCl ((fun (_ : Unit) => [(h0, .inr (1, [.ref hM, .ref hV, .int wd, .int hg, .int wv])), (hM, .inr (0, [.int bd, .int sb, .int nd, .ref aS, .ref aC, .ref aG])), (aS, .inl (cI, 5, .inl S0)), (aC, .inl (cI, 5, .inl Cr)), (aG, .inl (cI, 5, .inl G0)), (hV, .inr (0, [.int bd2, .int sb2, .int nd2, .ref bS, .ref bC, .ref bG])), (bS, .inl (cI, 5, .inl S2)), (bC, .inl (cI, 5, .inl Cr2)), (bG, .inl (cI, 5, .inl G2))]) u) t.heap) A) args s 0 0 A = Q
  have F9 : CallFix p m c cX1_greatestRegion 2 s args wsX1_greatestRegion RX1 := ⟨hx, hb, hml, hown, hts⟩
  refine z_entry (R := rmX1_greatestRegion) ha (Nat.le_of_ble_eq_true rfl) (fun ls hl => ?_)
  have hl : lv_has ls 2 [(0, .ref h0), (1, .int col)] := hl
  refine lv_iload_n hx hb dX1_greatestRegion_0 rfl (lv_at hl 1 rfl) ?_
  refine z_callSi (As := [.int col]) (rest := []) F9 (m_X1_isColour l dC dI cI cZ cJ cD col ) (va_cwS 1 hts gX1_greatestRegion_X1_isColour rfl rfl rfl (by decide +kernel) ⟨Nat.le_of_ble_eq_true rfl, Nat.le_of_ble_eq_true rfl⟩) hK hN hP hD hS hA rfl hl.1 rfl (Nat.le_of_ble_eq_true rfl) dX1_greatestRegion_1 ⟨Nat.zero_le _, Nat.zero_le _⟩ (fun r_1 H locs hp_1 hP hS => ?_)
  have hp_1 : r_1 = if pCol col then 1 else 0 := hp_1
  refine z_topi (y := if pCol col then 1 else 0) hp_1 ?_
  refine lv_if_ne (tgt := 17) hx hb dX1_greatestRegion_4 (by decide) (fun c_4 => ?_) (fun c_4 => ?_)
  · skip
    refine lv_aload_n hx hb dX1_greatestRegion_17 rfl (lv_at hl 0 rfl) ?_
    refine va_get (D := (dC, dI)) (ci := 1) (v := .ref hM) (C := RX1) (T := TX1) (N := 5) hx hb hts iX1_greatestRegion_X1 hown hK hP 0 rfl rfl 0 (by decide) (hts (.fieldLink RX1 12 "ColourTide" "map" "LColourTide$Tide;") (List.mem_of_getElem? (i := 3) rfl)) (fun _ h9 => h9) rfl dX1_greatestRegion_18 ?_
    refine lv_iload_n hx hb dX1_greatestRegion_21 rfl (lv_at hl 1 rfl) ?_
    refine z_callVi (As := [.int col]) (rest := []) F9 (m_X0_sizeOfGreatestRegion l dC dI cI cZ cJ cD hM aS aC aG bd sb nd S0 Cr G0 col ) (cwV 1 hts gX1_greatestRegion_X0_sizeOfGreatestRegion rfl rfl rfl (by decide +kernel) ⟨Nat.le_of_ble_eq_true rfl, Nat.le_of_ble_eq_true rfl⟩) hK hN hP hD hS hA [1, 2, 3, 4] rfl rfl (fun _ => rfl) 1 (ci := 0) rfl rfl rfl rfl hl.1 rfl (Nat.le_of_ble_eq_true rfl) dX1_greatestRegion_22 ⟨Nat.zero_le _, Nat.zero_le _⟩ (fun r_2 u H locs hp_22 hP hD hS => ?_)
    have hP : va_P (dC, dI) vwCl [(h0, .inr (1, [.ref hM, .ref hV, .int wd, .int hg, .int wv])), (hM, .inr (0, [.int bd, .int sb, .int nd, .ref aS, .ref aC, .ref aG])), (aS, .inl (cI, 5, .inl S0)), (aC, .inl (cI, 5, .inl Cr)), (aG, .inl (cI, 5, .inl G0)), (hV, .inr (0, [.int bd2, .int sb2, .int nd2, .ref bS, .ref bC, .ref bG])), (bS, .inl (cI, 5, .inl S2)), (bC, .inl (cI, 5, .inl Cr2)), (bG, .inl (cI, 5, .inl G2))] H := hP
    have hD : va_D A [(h0, .inr (1, [.ref hM, .ref hV, .int wd, .int hg, .int wv])), (hM, .inr (0, [.int bd, .int sb, .int nd, .ref aS, .ref aC, .ref aG])), (aS, .inl (cI, 5, .inl S0)), (aC, .inl (cI, 5, .inl Cr)), (aG, .inl (cI, 5, .inl G0)), (hV, .inr (0, [.int bd2, .int sb2, .int nd2, .ref bS, .ref bC, .ref bG])), (bS, .inl (cI, 5, .inl S2)), (bC, .inl (cI, 5, .inl Cr2)), (bG, .inl (cI, 5, .inl G2))] := hD
    have hp_22 : r_2 = pGR 25 (pCW S0 col) 0 := hp_22
    refine z_topi (y := pGR 25 (pCW S0 col) 0) hp_22 ?_
    rw [← hQ]
    exact z_iret (W1 := (fun (_ : Unit) => [(h0, .inr (1, [.ref hM, .ref hV, .int wd, .int hg, .int wv])), (hM, .inr (0, [.int bd, .int sb, .int nd, .ref aS, .ref aC, .ref aG])), (aS, .inl (cI, 5, .inl S0)), (aC, .inl (cI, 5, .inl Cr)), (aG, .inl (cI, 5, .inl G0)), (hV, .inr (0, [.int bd2, .int sb2, .int nd2, .ref bS, .ref bC, .ref bG])), (bS, .inl (cI, 5, .inl S2)), (bC, .inl (cI, 5, .inl Cr2)), (bG, .inl (cI, 5, .inl G2))])) hx hb hr hlocks hP hS () (rfl) (rfl) dX1_greatestRegion_25
  · skip
    exact absurd hcl (z_if0 c_4)
abbrev rmX1_share : Room := { frames := 2, cells := 0, slots := 0, locals := 42 }
set_option maxRecDepth 20000 in
theorem iX1_share_X0 : ∀ w ∈ wsX00, w ∈ wsX1_share := fun w h => (goodIn_r (big := wsX1_share) wsX00 [35, 36, 37, 38, 39, 40] (by decide +kernel) (by decide +kernel) w h).1
set_option maxRecDepth 20000 in
theorem iX1_share_X1 : ∀ w ∈ wsX10, w ∈ wsX1_share := fun w h => (goodIn_r (big := wsX1_share) wsX10 [30, 31, 32, 33, 34] (by decide +kernel) (by decide +kernel) w h).1
set_option maxHeartbeats 4000000 in
set_option maxRecDepth 100000 in
theorem m_X1_share (l : Launch) (dC : Nat → ClassId) (dI : Nat → Nat → Nat) (cI cZ cJ cD : ClassId) (h0 : Nat) (hM : Nat) (aS : Nat) (aC : Nat) (aG : Nat) (hV : Nat) (bS : Nat) (bC : Nat) (bG : Nat) (wn : Nat) (hn : Nat) (wv : Int32) (bd : Int32) (sb : Int32) (nd : Int32) (S0 : Nat → Int32) (Cr : Nat → Int32) (G0 : Nat → Int32) (bd2 : Int32) (sb2 : Int32) (nd2 : Int32) (S2 : Nat → Int32) (Cr2 : Nat → Int32) (G2 : Nat → Int32) (col : Int32) (cn : Nat) (hw : 2 ≤ wn ∧ wn ≤ 5) (hh : 2 ≤ hn ∧ hn ≤ 5) (hcn : pBC (pCW S0 col) = nI cn) (hcb : cn ≤ 32) (hcl : pAny col) : zDb l (dC, dI) (wT cI cZ cJ cD) yX1_share wsX1_share rmX1_share [(h0, .inr (1, [.ref hM, .ref hV, .int (nI wn), .int (nI hn), .int wv])), (hM, .inr (0, [.int bd, .int sb, .int nd, .ref aS, .ref aC, .ref aG])), (aS, .inl (cI, 5, .inl S0)), (aC, .inl (cI, 5, .inl Cr)), (aG, .inl (cI, 5, .inl G0)), (hV, .inr (0, [.int bd2, .int sb2, .int nd2, .ref bS, .ref bC, .ref bG])), (bS, .inl (cI, 5, .inl S2)), (bC, .inl (cI, 5, .inl Cr2)), (bG, .inl (cI, 5, .inl G2))] [.ref h0, .int col] (fun (_ : Unit) => [(h0, .inr (1, [.ref hM, .ref hV, .int (nI wn), .int (nI hn), .int wv])), (hM, .inr (0, [.int bd, .int sb, .int nd, .ref aS, .ref aC, .ref aG])), (aS, .inl (cI, 5, .inl S0)), (aC, .inl (cI, 5, .inl Cr)), (aG, .inl (cI, 5, .inl G0)), (hV, .inr (0, [.int bd2, .int sb2, .int nd2, .ref bS, .ref bC, .ref bG])), (bS, .inl (cI, 5, .inl S2)), (bC, .inl (cI, 5, .inl Cr2)), (bG, .inl (cI, 5, .inl G2))]) (fun (r : UInt64) (_ : Unit) => r = FP.ddiv (FP.i2d (nI cn)) (FP.i2d (nI (wn * hn)))) := by
  intro sz
  refine Met.ofW (cc := cX1_share) (maxL := 3) (ret := (some .double)) (by decide) rfl ?_
  intro p e s m args below meth c s₁ B hml hv
  obtain ⟨ha, hsz, hP, hK, hD0, hN⟩ := hv
  have hx := B.exec
  have hb := B.bytes
  have hr := B.returns
  have hts := atoms_spec (ws := wsX1_share) B.pre
  have hown : s.vm.findClass RX1 = some m.cls := findClass_of_methodNamed B.named
  have hlocks := B.notSynchronized
  subst hsz
  have hD := hD0.self (sz := s.heap.size)
  generalize hAe : va_A [(h0, .inr (1, [.ref hM, .ref hV, .int (nI wn), .int (nI hn), .int wv])), (hM, .inr (0, [.int bd, .int sb, .int nd, .ref aS, .ref aC, .ref aG])), (aS, .inl (cI, 5, .inl S0)), (aC, .inl (cI, 5, .inl Cr)), (aG, .inl (cI, 5, .inl G0)), (hV, .inr (0, [.int bd2, .int sb2, .int nd2, .ref bS, .ref bC, .ref bG])), (bS, .inl (cI, 5, .inl S2)), (bC, .inl (cI, 5, .inl Cr2)), (bG, .inl (cI, 5, .inl G2))] s.heap.size = A at hD ⊢
  have hA : ∀ q : Nat, s.heap.size ≤ q → A q := fun q h => by rw [← hAe]; exact Or.inr h
  have hS : va_S A s.heap s.heap [] := va_S.rf
  generalize hQ : MQ below (va_Qd (fun (r : UInt64) (_ : Unit) => r = FP.ddiv (FP.i2d (nI cn)) (FP.i2d (nI (wn * hn)))) (fun u t => va_P (dC, dI) vwCl ((fun (_ : Unit) => [(h0, .inr (1, [.ref hM, .ref hV, .int (nI wn), .int (nI hn), .int wv])), (hM, .inr (0, [.int bd, .int sb, .int nd, .ref aS, .ref aC, .ref aG])), (aS, .inl (cI, 5, .inl S0)), (aC, .inl (cI, 5, .inl Cr)), (aG, .inl (cI, 5, .inl G0)), (hV, .inr (0, [.int bd2, .int sb2, .int nd2, .ref bS, .ref bC, .ref bG])), (bS, .inl (cI, 5, .inl S2)), (bC, .inl (cI, 5, .inl Cr2)), (bG, .inl (cI, 5, .inl G2))]) u) t.heap) A) args s 0 0 A = Q
  have F9 : CallFix p m c cX1_share 3 s args wsX1_share RX1 := ⟨hx, hb, hml, hown, hts⟩
  refine z_entry (R := rmX1_share) ha (Nat.le_of_ble_eq_true rfl) (fun ls hl => ?_)
  have hl : lv_has ls 3 [(0, .ref h0), (1, .int col)] := hl
  refine lv_iload_n hx hb dX1_share_0 rfl (lv_at hl 1 rfl) ?_
  refine z_callSi (As := [.int col]) (rest := []) F9 (m_X1_isColourOrBare l dC dI cI cZ cJ cD col ) (va_cwS 1 hts gX1_share_X1_isColourOrBare rfl rfl rfl (by decide +kernel) ⟨Nat.le_of_ble_eq_true rfl, Nat.le_of_ble_eq_true rfl⟩) hK hN hP hD hS hA rfl hl.1 rfl (Nat.le_of_ble_eq_true rfl) dX1_share_1 ⟨Nat.zero_le _, Nat.zero_le _⟩ (fun r_1 H locs hp_1 hP hS => ?_)
  have hp_1 : r_1 = if pAny col then 1 else 0 := hp_1
  refine z_topi (y := if pAny col then 1 else 0) hp_1 ?_
  refine lv_if_ne (tgt := 17) hx hb dX1_share_4 (by decide) (fun c_4 => ?_) (fun c_4 => ?_)
  · skip
    refine lv_aload_n hx hb dX1_share_17 rfl (lv_at hl 0 rfl) ?_
    refine va_get (D := (dC, dI)) (ci := 1) (v := .int (nI wn)) (C := RX1) (T := TX1) (N := 5) hx hb hts iX1_share_X1 hown hK hP 0 rfl rfl 2 (by decide) (hts (.fieldLink RX1 19 "ColourTide" "width" "I") (List.mem_of_getElem? (i := 3) rfl)) (fun _ h9 => h9) rfl dX1_share_18 ?_
    refine lv_aload_n hx hb dX1_share_21 rfl (lv_at hl 0 rfl) ?_
    refine va_get (D := (dC, dI)) (ci := 1) (v := .int (nI hn)) (C := RX1) (T := TX1) (N := 5) hx hb hts iX1_share_X1 hown hK hP 0 rfl rfl 3 (by decide) (hts (.fieldLink RX1 23 "ColourTide" "height" "I") (List.mem_of_getElem? (i := 4) rfl)) (fun _ h9 => h9) rfl dX1_share_22 ?_
    refine lv_imul hx hb dX1_share_25 ?_
    refine z_topi (y := nI (wn * hn)) (pk_mul wn hn) ?_
    refine lv_istore_n (lv' := [(2, .int (nI (wn * hn))), (0, .ref h0), (1, .int col)]) hx hb dX1_share_26 rfl hl (by decide) rfl (fun ls hl => ?_)
    refine lv_iload_n hx hb dX1_share_27 rfl (lv_at hl 0 rfl) ?_
    refine lv_if_ne (tgt := 35) hx hb dX1_share_28 (by decide) (fun c_28 => ?_) (fun c_28 => ?_)
    · skip
      refine lv_aload_n hx hb dX1_share_35 rfl (lv_at hl 1 rfl) ?_
      refine va_get (D := (dC, dI)) (ci := 1) (v := .ref hM) (C := RX1) (T := TX1) (N := 5) hx hb hts iX1_share_X1 hown hK hP 0 rfl rfl 0 (by decide) (hts (.fieldLink RX1 12 "ColourTide" "map" "LColourTide$Tide;") (List.mem_of_getElem? (i := 5) rfl)) (fun _ h9 => h9) rfl dX1_share_36 ?_
      refine lv_iload_n hx hb dX1_share_39 rfl (lv_at hl 2 rfl) ?_
      refine z_callVi (As := [.int col]) (rest := []) F9 (m_X0_count l dC dI cI cZ cJ cD hM aS aC aG bd sb nd S0 Cr G0 col ) (cwV 1 hts gX1_share_X0_count rfl rfl rfl (by decide +kernel) ⟨Nat.le_of_ble_eq_true rfl, Nat.le_of_ble_eq_true rfl⟩) hK hN hP hD hS hA [1, 2, 3, 4] rfl rfl (fun _ => rfl) 1 (ci := 0) rfl rfl rfl rfl hl.1 rfl (Nat.le_of_ble_eq_true rfl) dX1_share_40 ⟨Nat.zero_le _, Nat.zero_le _⟩ (fun r_2 u H locs hp_40 hP hD hS => ?_)
      have hP : va_P (dC, dI) vwCl [(h0, .inr (1, [.ref hM, .ref hV, .int (nI wn), .int (nI hn), .int wv])), (hM, .inr (0, [.int bd, .int sb, .int nd, .ref aS, .ref aC, .ref aG])), (aS, .inl (cI, 5, .inl S0)), (aC, .inl (cI, 5, .inl Cr)), (aG, .inl (cI, 5, .inl G0)), (hV, .inr (0, [.int bd2, .int sb2, .int nd2, .ref bS, .ref bC, .ref bG])), (bS, .inl (cI, 5, .inl S2)), (bC, .inl (cI, 5, .inl Cr2)), (bG, .inl (cI, 5, .inl G2))] H := hP
      have hD : va_D A [(h0, .inr (1, [.ref hM, .ref hV, .int (nI wn), .int (nI hn), .int wv])), (hM, .inr (0, [.int bd, .int sb, .int nd, .ref aS, .ref aC, .ref aG])), (aS, .inl (cI, 5, .inl S0)), (aC, .inl (cI, 5, .inl Cr)), (aG, .inl (cI, 5, .inl G0)), (hV, .inr (0, [.int bd2, .int sb2, .int nd2, .ref bS, .ref bC, .ref bG])), (bS, .inl (cI, 5, .inl S2)), (bC, .inl (cI, 5, .inl Cr2)), (bG, .inl (cI, 5, .inl G2))] := hD
      have hp_40 : r_2 = pBC (pCW S0 col) := hp_40
      refine z_topi (y := pBC (pCW S0 col)) hp_40 ?_
      refine z_topi (y := nI cn) (hcn) ?_
      refine lv_i2d hx hb dX1_share_43 ?_
      refine lv_iload_n hx hb dX1_share_44 rfl (lv_at hl 0 rfl) ?_
      refine lv_i2d hx hb dX1_share_45 ?_
      refine lv_ddiv hx hb dX1_share_46 (z_quot cn (by omega) (wn * hn) (by have := mul_pos4 hw.1 hh.1 hw.2 hh.2; omega) (mul_pos4 hw.1 hh.1 hw.2 hh.2).1) ?_
      rw [← hQ]
      exact z_dret (W1 := (fun (_ : Unit) => [(h0, .inr (1, [.ref hM, .ref hV, .int (nI wn), .int (nI hn), .int wv])), (hM, .inr (0, [.int bd, .int sb, .int nd, .ref aS, .ref aC, .ref aG])), (aS, .inl (cI, 5, .inl S0)), (aC, .inl (cI, 5, .inl Cr)), (aG, .inl (cI, 5, .inl G0)), (hV, .inr (0, [.int bd2, .int sb2, .int nd2, .ref bS, .ref bC, .ref bG])), (bS, .inl (cI, 5, .inl S2)), (bC, .inl (cI, 5, .inl Cr2)), (bG, .inl (cI, 5, .inl G2))])) hx hb hr hlocks hP hS () (rfl) (rfl) dX1_share_47
    · skip
      exact absurd c_28 (z_ne0 (by have := mul_pos4 hw.1 hh.1 hw.2 hh.2; omega) (by have := mul_pos4 hw.1 hh.1 hw.2 hh.2; omega))
  · skip
    exact absurd hcl (z_if0 c_4)
abbrev rmX0_init : Room := { frames := 1, cells := 3, slots := 15, locals := 30 }
set_option maxRecDepth 20000 in
theorem iX0_init_X0 : ∀ w ∈ wsX00, w ∈ wsX0_init := fun w h => (goodIn_r (big := wsX0_init) wsX00 [9, 10, 11, 12, 13, 14] (by decide +kernel) (by decide +kernel) w h).1
set_option maxHeartbeats 4000000 in
set_option maxRecDepth 100000 in
theorem m_X0_init (l : Launch) (dC : Nat → ClassId) (dI : Nat → Nat → Nat) (cI cZ cJ cD : ClassId) (hT : Nat)  : zC l (dC, dI) (wT cI cZ cJ cD) yX0_init wsX0_init rmX0_init [(hT, .inr (0, [.int 0, .int 0, .int 0, .null, .null, .null]))] [.ref hT] (fun (u : Nat × Nat × Nat) => [(hT, .inr (0, [.int 0, .int 0, .int 2, .ref u.1, .ref u.2.1, .ref u.2.2])), (u.1, .inl (cI, 5, .inl (fun _ => 0))), (u.2.1, .inl (cI, 5, .inl (fun _ => 0))), (u.2.2, .inl (cI, 5, .inl (fun _ => 0)))]) (fun (u : Nat × Nat × Nat) => True) 3 15 := by
  intro sz
  refine Met.ofW (cc := cX0_init) (maxL := 1) (ret := none) (by decide) rfl ?_
  intro p e s m args below meth c s₁ B hml hv
  obtain ⟨ha, hsz, hP, hK, hD0, hN⟩ := hv
  have hx := B.exec
  have hb := B.bytes
  have hr := B.returns
  have hts := atoms_spec (ws := wsX0_init) B.pre
  have hown : s.vm.findClass RX0 = some m.cls := findClass_of_methodNamed B.named
  have hlocks := B.notSynchronized
  have hin : meth.name = "<init>" := (name_of_methodNamed B.named B.method).1
  subst hsz
  have hD := hD0.self (sz := s.heap.size)
  generalize hAe : va_A [(hT, .inr (0, [.int 0, .int 0, .int 0, .null, .null, .null]))] s.heap.size = A at hD ⊢
  have hA : ∀ q : Nat, s.heap.size ≤ q → A q := fun q h => by rw [← hAe]; exact Or.inr h
  have hS : va_S A s.heap s.heap [] := va_S.rf
  generalize hQ : MQ below (va_Qv (fun (u : Nat × Nat × Nat) => True) (fun u t => va_P (dC, dI) vwCl ((fun (u : Nat × Nat × Nat) => [(hT, .inr (0, [.int 0, .int 0, .int 2, .ref u.1, .ref u.2.1, .ref u.2.2])), (u.1, .inl (cI, 5, .inl (fun _ => 0))), (u.2.1, .inl (cI, 5, .inl (fun _ => 0))), (u.2.2, .inl (cI, 5, .inl (fun _ => 0)))]) u) t.heap ∧ va_D A ((fun (u : Nat × Nat × Nat) => [(hT, .inr (0, [.int 0, .int 0, .int 2, .ref u.1, .ref u.2.1, .ref u.2.2])), (u.1, .inl (cI, 5, .inl (fun _ => 0))), (u.2.1, .inl (cI, 5, .inl (fun _ => 0))), (u.2.2, .inl (cI, 5, .inl (fun _ => 0)))]) u)) A) args s 3 15 A = Q
  have F9 : CallFix p m c cX0_init 1 s args wsX0_init RX0 := ⟨hx, hb, hml, hown, hts⟩
  refine z_entry (R := rmX0_init) ha (Nat.le_of_ble_eq_true rfl) (fun ls hl => ?_)
  have hl : lv_has ls 1 [(0, .ref hT)] := hl
  refine lv_aload_n hx hb dX0_init_0 rfl (lv_at hl 0 rfl) ?_
  refine W.objInit hx hb hown (hts (.methodLink RX0 3 objectInit) (List.mem_of_getElem? (i := 1) rfl)) (hts (.instanceMethod objectInit) (List.mem_of_getElem? (i := 2) rfl)) (hts (.code objectInit ⟨#[0xb1]⟩ 1 none) (List.mem_of_getElem? (i := 3) rfl)) rfl (by rw [hml]; exact hl.1) rfl dX0_init_1 (Nat.le_of_ble_eq_true rfl) (Nat.le_of_ble_eq_true rfl) ?_
  refine W.eq (g2 := F0 m 4 ls []) rfl ?_
  refine lv_aload_n hx hb dX0_init_4 rfl (lv_at hl 0 rfl) ?_
  refine lv_iconst (v := 2) hx hb dX0_init_5 (by decide) ?_
  refine va_put (D := (dC, dI)) (ci := 0) (v := .int 2) (ty := .int) (C := RX0) (T := TX0) (N := 6) hx hb hts iX0_init_X0 tyX0 tyX0_ok nmX0 hown hK hP hD hS 0 rfl rfl 2 (by decide) (hts (.fieldLink RX0 9 "ColourTide$Tide" "need" "I") (List.mem_of_getElem? (i := 4) rfl)) (fun _ h9 => h9) rfl (by decide +kernel) rfl rfl (Nat.le_of_ble_eq_true rfl) dX0_init_6 (fun H locs hP hD hS => ?_)
  have hP : va_P (dC, dI) vwCl [(hT, .inr (0, [.int 0, .int 0, .int 2, .null, .null, .null]))] H := hP
  have hD : va_D A [(hT, .inr (0, [.int 0, .int 0, .int 2, .null, .null, .null]))] := hD
  refine lv_aload_n hx hb dX0_init_9 rfl (lv_at hl 0 rfl) ?_
  refine lv_iconst (v := 5) hx hb dX0_init_10 (by decide) ?_
  refine z_newa (atype := .int) (ty := .int) (N' := 5) (n := 5) (cA := cI) (a0 := (5, .inl (fun _ => 0))) hx hb (hts (.arrayClass .int) (List.mem_of_getElem? (i := 5) rfl)) rfl hK hP hD hS hA 0 rfl (fun _ => rfl) (by decide +kernel) (by decide +kernel) (by decide +kernel) (Nat.le_of_ble_eq_true rfl) (Nat.le_of_ble_eq_true rfl) dX0_init_11 (fun q_11 H hP hD hS => ?_)
  have hP : va_P (dC, dI) vwCl [(hT, .inr (0, [.int 0, .int 0, .int 2, .null, .null, .null])), (q_11, .inl (cI, 5, .inl (fun _ => 0)))] H := hP
  have hD : va_D A [(hT, .inr (0, [.int 0, .int 0, .int 2, .null, .null, .null])), (q_11, .inl (cI, 5, .inl (fun _ => 0)))] := hD
  refine W.widen (k := 1) (n := 5) (Nat.le_of_ble_eq_true rfl) (Nat.le_of_ble_eq_true rfl) ?_
  refine va_putF (D := (dC, dI)) (ci := 0) (v := .ref q_11) (ty := .array .int) (C := RX0) (T := TX0) (N := 6) hx hb hts iX0_init_X0 tyX0 tyX0_ok nmX0 hown hK hP hD hS 0 rfl rfl 3 (by decide) (hts (.fieldLink RX0 15 "ColourTide$Tide" "sets" "[I") (List.mem_of_getElem? (i := 6) rfl)) (fun _ h9 => h9) rfl hin rfl (by decide +kernel) rfl rfl (Nat.le_of_ble_eq_true rfl) dX0_init_13 (fun H locs hP hD hS => ?_)
  have hP : va_P (dC, dI) vwCl [(hT, .inr (0, [.int 0, .int 0, .int 2, .ref q_11, .null, .null])), (q_11, .inl (cI, 5, .inl (fun _ => 0)))] H := hP
  have hD : va_D A [(hT, .inr (0, [.int 0, .int 0, .int 2, .ref q_11, .null, .null])), (q_11, .inl (cI, 5, .inl (fun _ => 0)))] := hD
  refine lv_aload_n hx hb dX0_init_16 rfl (lv_at hl 0 rfl) ?_
  refine lv_iconst (v := 5) hx hb dX0_init_17 (by decide) ?_
  refine z_newa (atype := .int) (ty := .int) (N' := 5) (n := 5) (cA := cI) (a0 := (5, .inl (fun _ => 0))) hx hb (hts (.arrayClass .int) (List.mem_of_getElem? (i := 5) rfl)) rfl hK hP hD hS hA 0 rfl (fun _ => rfl) (by decide +kernel) (by decide +kernel) (by decide +kernel) (Nat.le_of_ble_eq_true rfl) (Nat.le_of_ble_eq_true rfl) dX0_init_18 (fun q_18 H hP hD hS => ?_)
  have hP : va_P (dC, dI) vwCl [(hT, .inr (0, [.int 0, .int 0, .int 2, .ref q_11, .null, .null])), (q_11, .inl (cI, 5, .inl (fun _ => 0))), (q_18, .inl (cI, 5, .inl (fun _ => 0)))] H := hP
  have hD : va_D A [(hT, .inr (0, [.int 0, .int 0, .int 2, .ref q_11, .null, .null])), (q_11, .inl (cI, 5, .inl (fun _ => 0))), (q_18, .inl (cI, 5, .inl (fun _ => 0)))] := hD
  refine W.widen (k := 2) (n := 10) (Nat.le_of_ble_eq_true rfl) (Nat.le_of_ble_eq_true rfl) ?_
  refine va_putF (D := (dC, dI)) (ci := 0) (v := .ref q_18) (ty := .array .int) (C := RX0) (T := TX0) (N := 6) hx hb hts iX0_init_X0 tyX0 tyX0_ok nmX0 hown hK hP hD hS 0 rfl rfl 4 (by decide) (hts (.fieldLink RX0 19 "ColourTide$Tide" "crowds" "[I") (List.mem_of_getElem? (i := 7) rfl)) (fun _ h9 => h9) rfl hin rfl (by decide +kernel) rfl rfl (Nat.le_of_ble_eq_true rfl) dX0_init_20 (fun H locs hP hD hS => ?_)
  have hP : va_P (dC, dI) vwCl [(hT, .inr (0, [.int 0, .int 0, .int 2, .ref q_11, .ref q_18, .null])), (q_11, .inl (cI, 5, .inl (fun _ => 0))), (q_18, .inl (cI, 5, .inl (fun _ => 0)))] H := hP
  have hD : va_D A [(hT, .inr (0, [.int 0, .int 0, .int 2, .ref q_11, .ref q_18, .null])), (q_11, .inl (cI, 5, .inl (fun _ => 0))), (q_18, .inl (cI, 5, .inl (fun _ => 0)))] := hD
  refine lv_aload_n hx hb dX0_init_23 rfl (lv_at hl 0 rfl) ?_
  refine lv_iconst (v := 5) hx hb dX0_init_24 (by decide) ?_
  refine z_newa (atype := .int) (ty := .int) (N' := 5) (n := 5) (cA := cI) (a0 := (5, .inl (fun _ => 0))) hx hb (hts (.arrayClass .int) (List.mem_of_getElem? (i := 5) rfl)) rfl hK hP hD hS hA 0 rfl (fun _ => rfl) (by decide +kernel) (by decide +kernel) (by decide +kernel) (Nat.le_of_ble_eq_true rfl) (Nat.le_of_ble_eq_true rfl) dX0_init_25 (fun q_25 H hP hD hS => ?_)
  have hP : va_P (dC, dI) vwCl [(hT, .inr (0, [.int 0, .int 0, .int 2, .ref q_11, .ref q_18, .null])), (q_11, .inl (cI, 5, .inl (fun _ => 0))), (q_18, .inl (cI, 5, .inl (fun _ => 0))), (q_25, .inl (cI, 5, .inl (fun _ => 0)))] H := hP
  have hD : va_D A [(hT, .inr (0, [.int 0, .int 0, .int 2, .ref q_11, .ref q_18, .null])), (q_11, .inl (cI, 5, .inl (fun _ => 0))), (q_18, .inl (cI, 5, .inl (fun _ => 0))), (q_25, .inl (cI, 5, .inl (fun _ => 0)))] := hD
  refine W.widen (k := 3) (n := 15) (Nat.le_of_ble_eq_true rfl) (Nat.le_of_ble_eq_true rfl) ?_
  refine va_putF (D := (dC, dI)) (ci := 0) (v := .ref q_25) (ty := .array .int) (C := RX0) (T := TX0) (N := 6) hx hb hts iX0_init_X0 tyX0 tyX0_ok nmX0 hown hK hP hD hS 0 rfl rfl 5 (by decide) (hts (.fieldLink RX0 22 "ColourTide$Tide" "gains" "[I") (List.mem_of_getElem? (i := 8) rfl)) (fun _ h9 => h9) rfl hin rfl (by decide +kernel) rfl rfl (Nat.le_of_ble_eq_true rfl) dX0_init_27 (fun H locs hP hD hS => ?_)
  have hP : va_P (dC, dI) vwCl [(hT, .inr (0, [.int 0, .int 0, .int 2, .ref q_11, .ref q_18, .ref q_25])), (q_11, .inl (cI, 5, .inl (fun _ => 0))), (q_18, .inl (cI, 5, .inl (fun _ => 0))), (q_25, .inl (cI, 5, .inl (fun _ => 0)))] H := hP
  have hD : va_D A [(hT, .inr (0, [.int 0, .int 0, .int 2, .ref q_11, .ref q_18, .ref q_25])), (q_11, .inl (cI, 5, .inl (fun _ => 0))), (q_18, .inl (cI, 5, .inl (fun _ => 0))), (q_25, .inl (cI, 5, .inl (fun _ => 0)))] := hD
  rw [← hQ]
  exact z_cret (W1 := (fun (u : Nat × Nat × Nat) => [(hT, .inr (0, [.int 0, .int 0, .int 2, .ref u.1, .ref u.2.1, .ref u.2.2])), (u.1, .inl (cI, 5, .inl (fun _ => 0))), (u.2.1, .inl (cI, 5, .inl (fun _ => 0))), (u.2.2, .inl (cI, 5, .inl (fun _ => 0)))])) hx hb hr hlocks hP hD hS (q_11, q_18, q_25) (rfl) (trivial) dX0_init_30
abbrev rmX1_init : Room := { frames := 2, cells := 8, slots := 42, locals := 50 }
set_option maxRecDepth 20000 in
theorem iX1_init_X0 : ∀ w ∈ wsX00, w ∈ wsX1_init := fun w h => (goodIn_r (big := wsX1_init) wsX00 [30, 31, 32, 33, 34, 35] (by decide +kernel) (by decide +kernel) w h).1
set_option maxRecDepth 20000 in
theorem iX1_init_X1 : ∀ w ∈ wsX10, w ∈ wsX1_init := fun w h => (goodIn_r (big := wsX1_init) wsX10 [36, 37, 38, 39, 40] (by decide +kernel) (by decide +kernel) w h).1
set_option maxHeartbeats 4000000 in
set_option maxRecDepth 100000 in
theorem m_X1_init (l : Launch) (dC : Nat → ClassId) (dI : Nat → Nat → Nat) (cI cZ cJ cD : ClassId) (h0 : Nat)  : zC l (dC, dI) (wT cI cZ cJ cD) yX1_init wsX1_init rmX1_init [(h0, .inr (1, [.null, .null, .int 0, .int 0, .int 0]))] [.ref h0] (fun (u : Nat × Nat × Nat × Nat × Nat × Nat × Nat × Nat) => [(h0, .inr (1, [.ref u.1, .ref u.2.2.2.2.1, .int 4, .int 4, .int 0])), (u.1, .inr (0, [.int (pBrd 4 4), .int 0, .int 2, .ref u.2.1, .ref u.2.2.1, .ref u.2.2.2.1])), (u.2.1, .inl (cI, 5, .inl (zfill (pClrF (pBrd 4 4)) (fun _ => 0) 5))), (u.2.2.1, .inl (cI, 5, .inl (fun _ => 0))), (u.2.2.2.1, .inl (cI, 5, .inl (fun _ => 0))), (u.2.2.2.2.1, .inr (0, [.int 0, .int 0, .int 2, .ref u.2.2.2.2.2.1, .ref u.2.2.2.2.2.2.1, .ref u.2.2.2.2.2.2.2])), (u.2.2.2.2.2.1, .inl (cI, 5, .inl (fun _ => 0))), (u.2.2.2.2.2.2.1, .inl (cI, 5, .inl (fun _ => 0))), (u.2.2.2.2.2.2.2, .inl (cI, 5, .inl (fun _ => 0)))]) (fun (u : Nat × Nat × Nat × Nat × Nat × Nat × Nat × Nat) => True) 8 42 := by
  intro sz
  refine Met.ofW (cc := cX1_init) (maxL := 1) (ret := none) (by decide) rfl ?_
  intro p e s m args below meth c s₁ B hml hv
  obtain ⟨ha, hsz, hP, hK, hD0, hN⟩ := hv
  have hx := B.exec
  have hb := B.bytes
  have hr := B.returns
  have hts := atoms_spec (ws := wsX1_init) B.pre
  have hown : s.vm.findClass RX1 = some m.cls := findClass_of_methodNamed B.named
  have hlocks := B.notSynchronized
  have hin : meth.name = "<init>" := (name_of_methodNamed B.named B.method).1
  subst hsz
  have hD := hD0.self (sz := s.heap.size)
  generalize hAe : va_A [(h0, .inr (1, [.null, .null, .int 0, .int 0, .int 0]))] s.heap.size = A at hD ⊢
  have hA : ∀ q : Nat, s.heap.size ≤ q → A q := fun q h => by rw [← hAe]; exact Or.inr h
  have hS : va_S A s.heap s.heap [] := va_S.rf
  generalize hQ : MQ below (va_Qv (fun (u : Nat × Nat × Nat × Nat × Nat × Nat × Nat × Nat) => True) (fun u t => va_P (dC, dI) vwCl ((fun (u : Nat × Nat × Nat × Nat × Nat × Nat × Nat × Nat) => [(h0, .inr (1, [.ref u.1, .ref u.2.2.2.2.1, .int 4, .int 4, .int 0])), (u.1, .inr (0, [.int (pBrd 4 4), .int 0, .int 2, .ref u.2.1, .ref u.2.2.1, .ref u.2.2.2.1])), (u.2.1, .inl (cI, 5, .inl (zfill (pClrF (pBrd 4 4)) (fun _ => 0) 5))), (u.2.2.1, .inl (cI, 5, .inl (fun _ => 0))), (u.2.2.2.1, .inl (cI, 5, .inl (fun _ => 0))), (u.2.2.2.2.1, .inr (0, [.int 0, .int 0, .int 2, .ref u.2.2.2.2.2.1, .ref u.2.2.2.2.2.2.1, .ref u.2.2.2.2.2.2.2])), (u.2.2.2.2.2.1, .inl (cI, 5, .inl (fun _ => 0))), (u.2.2.2.2.2.2.1, .inl (cI, 5, .inl (fun _ => 0))), (u.2.2.2.2.2.2.2, .inl (cI, 5, .inl (fun _ => 0)))]) u) t.heap ∧ va_D A ((fun (u : Nat × Nat × Nat × Nat × Nat × Nat × Nat × Nat) => [(h0, .inr (1, [.ref u.1, .ref u.2.2.2.2.1, .int 4, .int 4, .int 0])), (u.1, .inr (0, [.int (pBrd 4 4), .int 0, .int 2, .ref u.2.1, .ref u.2.2.1, .ref u.2.2.2.1])), (u.2.1, .inl (cI, 5, .inl (zfill (pClrF (pBrd 4 4)) (fun _ => 0) 5))), (u.2.2.1, .inl (cI, 5, .inl (fun _ => 0))), (u.2.2.2.1, .inl (cI, 5, .inl (fun _ => 0))), (u.2.2.2.2.1, .inr (0, [.int 0, .int 0, .int 2, .ref u.2.2.2.2.2.1, .ref u.2.2.2.2.2.2.1, .ref u.2.2.2.2.2.2.2])), (u.2.2.2.2.2.1, .inl (cI, 5, .inl (fun _ => 0))), (u.2.2.2.2.2.2.1, .inl (cI, 5, .inl (fun _ => 0))), (u.2.2.2.2.2.2.2, .inl (cI, 5, .inl (fun _ => 0)))]) u)) A) args s 8 42 A = Q
  have F9 : CallFix p m c cX1_init 1 s args wsX1_init RX1 := ⟨hx, hb, hml, hown, hts⟩
  refine z_entry (R := rmX1_init) ha (Nat.le_of_ble_eq_true rfl) (fun ls hl => ?_)
  have hl : lv_has ls 1 [(0, .ref h0)] := hl
  refine lv_aload_n hx hb dX1_init_0 rfl (lv_at hl 0 rfl) ?_
  refine W.objInit hx hb hown (hts (.methodLink RX1 3 objectInit) (List.mem_of_getElem? (i := 1) rfl)) (hts (.instanceMethod objectInit) (List.mem_of_getElem? (i := 2) rfl)) (hts (.code objectInit ⟨#[0xb1]⟩ 1 none) (List.mem_of_getElem? (i := 3) rfl)) rfl (by rw [hml]; exact hl.1) rfl dX1_init_1 (Nat.le_of_ble_eq_true rfl) (Nat.le_of_ble_eq_true rfl) ?_
  refine W.eq (g2 := F0 m 4 ls []) rfl ?_
  refine lv_aload_n hx hb dX1_init_4 rfl (lv_at hl 0 rfl) ?_
  refine va_new (ci := 0) (fs := [.int 0, .int 0, .int 0, .null, .null, .null]) (C := RX0) (T := TX0) (N := 6) hx hb hts iX1_init_X0 tyX0 tyX0_ok hown (hts (.classLink RX1 9 RX0) (List.mem_of_getElem? (i := 4) rfl)) (hts (.instantiable RX0 6) (List.mem_of_getElem? (i := 5) rfl)) (hts (.initialized RX0) (List.mem_of_getElem? (i := 6) rfl)) hK hP hD hS hA rfl (fun j hj => by rcases (show j = 0 ∨ j = 1 ∨ j = 2 ∨ j = 3 ∨ j = 4 ∨ j = 5 by omega) with rfl | rfl | rfl | rfl | rfl | rfl <;> rfl) (Nat.le_of_ble_eq_true rfl) (Nat.le_of_ble_eq_true rfl) dX1_init_5 (fun q_5 H hP hD hS => ?_)
  have hP : va_P (dC, dI) vwCl [(h0, .inr (1, [.null, .null, .int 0, .int 0, .int 0])), (q_5, .inr (0, [.int 0, .int 0, .int 0, .null, .null, .null]))] H := hP
  have hD : va_D A [(h0, .inr (1, [.null, .null, .int 0, .int 0, .int 0])), (q_5, .inr (0, [.int 0, .int 0, .int 0, .null, .null, .null]))] := hD
  refine W.widen (k := 1) (n := 6) (Nat.le_of_ble_eq_true rfl) (Nat.le_of_ble_eq_true rfl) ?_
  refine lv_dup hx hb dX1_init_8 rfl ?_
  refine z_callI (As := []) (rest := [.ref q_5, .ref h0]) (wr := [(h0, .inr (1, [.null, .null, .int 0, .int 0, .int 0]))]) F9 (m_X0_init l dC dI cI cZ cJ cD q_5) (cwI 0 hts gX1_init_X0_init rfl rfl rfl (hts (.initialized RX0) (List.mem_of_getElem? (i := 6) rfl)) (hts (.methodLink RX1 11 yX0_init) (List.mem_of_getElem? (i := 12) rfl)) (hts (.instanceMethod yX0_init) (List.mem_of_getElem? (i := 13) rfl)) rfl (by decide +kernel) ⟨Nat.le_of_ble_eq_true rfl, Nat.le_of_ble_eq_true rfl⟩) hK hN hP hD hS hA [1] [0] rfl rfl (by decide) (by decide) (by decide) rfl hl.1 rfl (Nat.le_of_ble_eq_true rfl) dX1_init_9 ⟨Nat.le_of_ble_eq_true rfl, Nat.le_of_ble_eq_true rfl⟩ (fun u H locs hp_9 hP hD hS => ?_)
  obtain ⟨qa_1, qb_2, qc_3⟩ := u
  have hP : va_P (dC, dI) vwCl [(h0, .inr (1, [.null, .null, .int 0, .int 0, .int 0])), (q_5, .inr (0, [.int 0, .int 0, .int 2, .ref qa_1, .ref qb_2, .ref qc_3])), (qa_1, .inl (cI, 5, .inl (fun _ => 0))), (qb_2, .inl (cI, 5, .inl (fun _ => 0))), (qc_3, .inl (cI, 5, .inl (fun _ => 0)))] H := hP
  have hD : va_D A [(h0, .inr (1, [.null, .null, .int 0, .int 0, .int 0])), (q_5, .inr (0, [.int 0, .int 0, .int 2, .ref qa_1, .ref qb_2, .ref qc_3])), (qa_1, .inl (cI, 5, .inl (fun _ => 0))), (qb_2, .inl (cI, 5, .inl (fun _ => 0))), (qc_3, .inl (cI, 5, .inl (fun _ => 0)))] := hD
  refine W.widen (k := 4) (n := 21) (Nat.le_of_ble_eq_true rfl) (Nat.le_of_ble_eq_true rfl) ?_
  refine va_putF (D := (dC, dI)) (ci := 1) (v := .ref q_5) (ty := .object "ColourTide$Tide") (C := RX1) (T := TX1) (N := 5) hx hb hts iX1_init_X1 tyX1 tyX1_ok nmX1 hown hK hP hD hS 0 rfl rfl 0 (by decide) (hts (.fieldLink RX1 12 "ColourTide" "map" "LColourTide$Tide;") (List.mem_of_getElem? (i := 7) rfl)) (fun _ h9 => h9) rfl hin rfl (by decide +kernel) rfl rfl (Nat.le_of_ble_eq_true rfl) dX1_init_12 (fun H locs hP hD hS => ?_)
  have hP : va_P (dC, dI) vwCl [(h0, .inr (1, [.ref q_5, .null, .int 0, .int 0, .int 0])), (q_5, .inr (0, [.int 0, .int 0, .int 2, .ref qa_1, .ref qb_2, .ref qc_3])), (qa_1, .inl (cI, 5, .inl (fun _ => 0))), (qb_2, .inl (cI, 5, .inl (fun _ => 0))), (qc_3, .inl (cI, 5, .inl (fun _ => 0)))] H := hP
  have hD : va_D A [(h0, .inr (1, [.ref q_5, .null, .int 0, .int 0, .int 0])), (q_5, .inr (0, [.int 0, .int 0, .int 2, .ref qa_1, .ref qb_2, .ref qc_3])), (qa_1, .inl (cI, 5, .inl (fun _ => 0))), (qb_2, .inl (cI, 5, .inl (fun _ => 0))), (qc_3, .inl (cI, 5, .inl (fun _ => 0)))] := hD
  refine lv_aload_n hx hb dX1_init_15 rfl (lv_at hl 0 rfl) ?_
  refine va_new (ci := 0) (fs := [.int 0, .int 0, .int 0, .null, .null, .null]) (C := RX0) (T := TX0) (N := 6) hx hb hts iX1_init_X0 tyX0 tyX0_ok hown (hts (.classLink RX1 9 RX0) (List.mem_of_getElem? (i := 4) rfl)) (hts (.instantiable RX0 6) (List.mem_of_getElem? (i := 5) rfl)) (hts (.initialized RX0) (List.mem_of_getElem? (i := 6) rfl)) hK hP hD hS hA rfl (fun j hj => by rcases (show j = 0 ∨ j = 1 ∨ j = 2 ∨ j = 3 ∨ j = 4 ∨ j = 5 by omega) with rfl | rfl | rfl | rfl | rfl | rfl <;> rfl) (Nat.le_of_ble_eq_true rfl) (Nat.le_of_ble_eq_true rfl) dX1_init_16 (fun q_16 H hP hD hS => ?_)
  have hP : va_P (dC, dI) vwCl [(h0, .inr (1, [.ref q_5, .null, .int 0, .int 0, .int 0])), (q_5, .inr (0, [.int 0, .int 0, .int 2, .ref qa_1, .ref qb_2, .ref qc_3])), (qa_1, .inl (cI, 5, .inl (fun _ => 0))), (qb_2, .inl (cI, 5, .inl (fun _ => 0))), (qc_3, .inl (cI, 5, .inl (fun _ => 0))), (q_16, .inr (0, [.int 0, .int 0, .int 0, .null, .null, .null]))] H := hP
  have hD : va_D A [(h0, .inr (1, [.ref q_5, .null, .int 0, .int 0, .int 0])), (q_5, .inr (0, [.int 0, .int 0, .int 2, .ref qa_1, .ref qb_2, .ref qc_3])), (qa_1, .inl (cI, 5, .inl (fun _ => 0))), (qb_2, .inl (cI, 5, .inl (fun _ => 0))), (qc_3, .inl (cI, 5, .inl (fun _ => 0))), (q_16, .inr (0, [.int 0, .int 0, .int 0, .null, .null, .null]))] := hD
  refine W.widen (k := 5) (n := 27) (Nat.le_of_ble_eq_true rfl) (Nat.le_of_ble_eq_true rfl) ?_
  refine lv_dup hx hb dX1_init_19 rfl ?_
  refine z_callI (As := []) (rest := [.ref q_16, .ref h0]) (wr := [(h0, .inr (1, [.ref q_5, .null, .int 0, .int 0, .int 0])), (q_5, .inr (0, [.int 0, .int 0, .int 2, .ref qa_1, .ref qb_2, .ref qc_3])), (qa_1, .inl (cI, 5, .inl (fun _ => 0))), (qb_2, .inl (cI, 5, .inl (fun _ => 0))), (qc_3, .inl (cI, 5, .inl (fun _ => 0)))]) F9 (m_X0_init l dC dI cI cZ cJ cD q_16) (cwI 0 hts gX1_init_X0_init rfl rfl rfl (hts (.initialized RX0) (List.mem_of_getElem? (i := 6) rfl)) (hts (.methodLink RX1 11 yX0_init) (List.mem_of_getElem? (i := 12) rfl)) (hts (.instanceMethod yX0_init) (List.mem_of_getElem? (i := 13) rfl)) rfl (by decide +kernel) ⟨Nat.le_of_ble_eq_true rfl, Nat.le_of_ble_eq_true rfl⟩) hK hN hP hD hS hA [5] [0, 1, 2, 3, 4] rfl rfl (by decide) (by decide) (by decide) rfl hl.1 rfl (Nat.le_of_ble_eq_true rfl) dX1_init_20 ⟨Nat.le_of_ble_eq_true rfl, Nat.le_of_ble_eq_true rfl⟩ (fun u H locs hp_20 hP hD hS => ?_)
  obtain ⟨qa_4, qb_5, qc_6⟩ := u
  have hP : va_P (dC, dI) vwCl [(h0, .inr (1, [.ref q_5, .null, .int 0, .int 0, .int 0])), (q_5, .inr (0, [.int 0, .int 0, .int 2, .ref qa_1, .ref qb_2, .ref qc_3])), (qa_1, .inl (cI, 5, .inl (fun _ => 0))), (qb_2, .inl (cI, 5, .inl (fun _ => 0))), (qc_3, .inl (cI, 5, .inl (fun _ => 0))), (q_16, .inr (0, [.int 0, .int 0, .int 2, .ref qa_4, .ref qb_5, .ref qc_6])), (qa_4, .inl (cI, 5, .inl (fun _ => 0))), (qb_5, .inl (cI, 5, .inl (fun _ => 0))), (qc_6, .inl (cI, 5, .inl (fun _ => 0)))] H := hP
  have hD : va_D A [(h0, .inr (1, [.ref q_5, .null, .int 0, .int 0, .int 0])), (q_5, .inr (0, [.int 0, .int 0, .int 2, .ref qa_1, .ref qb_2, .ref qc_3])), (qa_1, .inl (cI, 5, .inl (fun _ => 0))), (qb_2, .inl (cI, 5, .inl (fun _ => 0))), (qc_3, .inl (cI, 5, .inl (fun _ => 0))), (q_16, .inr (0, [.int 0, .int 0, .int 2, .ref qa_4, .ref qb_5, .ref qc_6])), (qa_4, .inl (cI, 5, .inl (fun _ => 0))), (qb_5, .inl (cI, 5, .inl (fun _ => 0))), (qc_6, .inl (cI, 5, .inl (fun _ => 0)))] := hD
  refine W.widen (k := 8) (n := 42) (Nat.le_of_ble_eq_true rfl) (Nat.le_of_ble_eq_true rfl) ?_
  refine va_putF (D := (dC, dI)) (ci := 1) (v := .ref q_16) (ty := .object "ColourTide$Tide") (C := RX1) (T := TX1) (N := 5) hx hb hts iX1_init_X1 tyX1 tyX1_ok nmX1 hown hK hP hD hS 0 rfl rfl 1 (by decide) (hts (.fieldLink RX1 16 "ColourTide" "trial" "LColourTide$Tide;") (List.mem_of_getElem? (i := 8) rfl)) (fun _ h9 => h9) rfl hin rfl (by decide +kernel) rfl rfl (Nat.le_of_ble_eq_true rfl) dX1_init_23 (fun H locs hP hD hS => ?_)
  have hP : va_P (dC, dI) vwCl [(h0, .inr (1, [.ref q_5, .ref q_16, .int 0, .int 0, .int 0])), (q_5, .inr (0, [.int 0, .int 0, .int 2, .ref qa_1, .ref qb_2, .ref qc_3])), (qa_1, .inl (cI, 5, .inl (fun _ => 0))), (qb_2, .inl (cI, 5, .inl (fun _ => 0))), (qc_3, .inl (cI, 5, .inl (fun _ => 0))), (q_16, .inr (0, [.int 0, .int 0, .int 2, .ref qa_4, .ref qb_5, .ref qc_6])), (qa_4, .inl (cI, 5, .inl (fun _ => 0))), (qb_5, .inl (cI, 5, .inl (fun _ => 0))), (qc_6, .inl (cI, 5, .inl (fun _ => 0)))] H := hP
  have hD : va_D A [(h0, .inr (1, [.ref q_5, .ref q_16, .int 0, .int 0, .int 0])), (q_5, .inr (0, [.int 0, .int 0, .int 2, .ref qa_1, .ref qb_2, .ref qc_3])), (qa_1, .inl (cI, 5, .inl (fun _ => 0))), (qb_2, .inl (cI, 5, .inl (fun _ => 0))), (qc_3, .inl (cI, 5, .inl (fun _ => 0))), (q_16, .inr (0, [.int 0, .int 0, .int 2, .ref qa_4, .ref qb_5, .ref qc_6])), (qa_4, .inl (cI, 5, .inl (fun _ => 0))), (qb_5, .inl (cI, 5, .inl (fun _ => 0))), (qc_6, .inl (cI, 5, .inl (fun _ => 0)))] := hD
  refine lv_aload_n hx hb dX1_init_26 rfl (lv_at hl 0 rfl) ?_
  refine lv_iconst (v := 4) hx hb dX1_init_27 (by decide) ?_
  refine va_put (D := (dC, dI)) (ci := 1) (v := .int 4) (ty := .int) (C := RX1) (T := TX1) (N := 5) hx hb hts iX1_init_X1 tyX1 tyX1_ok nmX1 hown hK hP hD hS 0 rfl rfl 2 (by decide) (hts (.fieldLink RX1 19 "ColourTide" "width" "I") (List.mem_of_getElem? (i := 9) rfl)) (fun _ h9 => h9) rfl (by decide +kernel) rfl rfl (Nat.le_of_ble_eq_true rfl) dX1_init_28 (fun H locs hP hD hS => ?_)
  have hP : va_P (dC, dI) vwCl [(h0, .inr (1, [.ref q_5, .ref q_16, .int 4, .int 0, .int 0])), (q_5, .inr (0, [.int 0, .int 0, .int 2, .ref qa_1, .ref qb_2, .ref qc_3])), (qa_1, .inl (cI, 5, .inl (fun _ => 0))), (qb_2, .inl (cI, 5, .inl (fun _ => 0))), (qc_3, .inl (cI, 5, .inl (fun _ => 0))), (q_16, .inr (0, [.int 0, .int 0, .int 2, .ref qa_4, .ref qb_5, .ref qc_6])), (qa_4, .inl (cI, 5, .inl (fun _ => 0))), (qb_5, .inl (cI, 5, .inl (fun _ => 0))), (qc_6, .inl (cI, 5, .inl (fun _ => 0)))] H := hP
  have hD : va_D A [(h0, .inr (1, [.ref q_5, .ref q_16, .int 4, .int 0, .int 0])), (q_5, .inr (0, [.int 0, .int 0, .int 2, .ref qa_1, .ref qb_2, .ref qc_3])), (qa_1, .inl (cI, 5, .inl (fun _ => 0))), (qb_2, .inl (cI, 5, .inl (fun _ => 0))), (qc_3, .inl (cI, 5, .inl (fun _ => 0))), (q_16, .inr (0, [.int 0, .int 0, .int 2, .ref qa_4, .ref qb_5, .ref qc_6])), (qa_4, .inl (cI, 5, .inl (fun _ => 0))), (qb_5, .inl (cI, 5, .inl (fun _ => 0))), (qc_6, .inl (cI, 5, .inl (fun _ => 0)))] := hD
  refine lv_aload_n hx hb dX1_init_31 rfl (lv_at hl 0 rfl) ?_
  refine lv_iconst (v := 4) hx hb dX1_init_32 (by decide) ?_
  refine va_put (D := (dC, dI)) (ci := 1) (v := .int 4) (ty := .int) (C := RX1) (T := TX1) (N := 5) hx hb hts iX1_init_X1 tyX1 tyX1_ok nmX1 hown hK hP hD hS 0 rfl rfl 3 (by decide) (hts (.fieldLink RX1 23 "ColourTide" "height" "I") (List.mem_of_getElem? (i := 10) rfl)) (fun _ h9 => h9) rfl (by decide +kernel) rfl rfl (Nat.le_of_ble_eq_true rfl) dX1_init_33 (fun H locs hP hD hS => ?_)
  have hP : va_P (dC, dI) vwCl [(h0, .inr (1, [.ref q_5, .ref q_16, .int 4, .int 4, .int 0])), (q_5, .inr (0, [.int 0, .int 0, .int 2, .ref qa_1, .ref qb_2, .ref qc_3])), (qa_1, .inl (cI, 5, .inl (fun _ => 0))), (qb_2, .inl (cI, 5, .inl (fun _ => 0))), (qc_3, .inl (cI, 5, .inl (fun _ => 0))), (q_16, .inr (0, [.int 0, .int 0, .int 2, .ref qa_4, .ref qb_5, .ref qc_6])), (qa_4, .inl (cI, 5, .inl (fun _ => 0))), (qb_5, .inl (cI, 5, .inl (fun _ => 0))), (qc_6, .inl (cI, 5, .inl (fun _ => 0)))] H := hP
  have hD : va_D A [(h0, .inr (1, [.ref q_5, .ref q_16, .int 4, .int 4, .int 0])), (q_5, .inr (0, [.int 0, .int 0, .int 2, .ref qa_1, .ref qb_2, .ref qc_3])), (qa_1, .inl (cI, 5, .inl (fun _ => 0))), (qb_2, .inl (cI, 5, .inl (fun _ => 0))), (qc_3, .inl (cI, 5, .inl (fun _ => 0))), (q_16, .inr (0, [.int 0, .int 0, .int 2, .ref qa_4, .ref qb_5, .ref qc_6])), (qa_4, .inl (cI, 5, .inl (fun _ => 0))), (qb_5, .inl (cI, 5, .inl (fun _ => 0))), (qc_6, .inl (cI, 5, .inl (fun _ => 0)))] := hD
  refine lv_aload_n hx hb dX1_init_36 rfl (lv_at hl 0 rfl) ?_
  refine lv_iconst (v := 0) hx hb dX1_init_37 (by decide) ?_
  refine va_put (D := (dC, dI)) (ci := 1) (v := .int 0) (ty := .int) (C := RX1) (T := TX1) (N := 5) hx hb hts iX1_init_X1 tyX1 tyX1_ok nmX1 hown hK hP hD hS 0 rfl rfl 4 (by decide) (hts (.fieldLink RX1 26 "ColourTide" "waves" "I") (List.mem_of_getElem? (i := 11) rfl)) (fun _ h9 => h9) rfl (by decide +kernel) rfl rfl (Nat.le_of_ble_eq_true rfl) dX1_init_38 (fun H locs hP hD hS => ?_)
  have hP : va_P (dC, dI) vwCl [(h0, .inr (1, [.ref q_5, .ref q_16, .int 4, .int 4, .int 0])), (q_5, .inr (0, [.int 0, .int 0, .int 2, .ref qa_1, .ref qb_2, .ref qc_3])), (qa_1, .inl (cI, 5, .inl (fun _ => 0))), (qb_2, .inl (cI, 5, .inl (fun _ => 0))), (qc_3, .inl (cI, 5, .inl (fun _ => 0))), (q_16, .inr (0, [.int 0, .int 0, .int 2, .ref qa_4, .ref qb_5, .ref qc_6])), (qa_4, .inl (cI, 5, .inl (fun _ => 0))), (qb_5, .inl (cI, 5, .inl (fun _ => 0))), (qc_6, .inl (cI, 5, .inl (fun _ => 0)))] H := hP
  have hD : va_D A [(h0, .inr (1, [.ref q_5, .ref q_16, .int 4, .int 4, .int 0])), (q_5, .inr (0, [.int 0, .int 0, .int 2, .ref qa_1, .ref qb_2, .ref qc_3])), (qa_1, .inl (cI, 5, .inl (fun _ => 0))), (qb_2, .inl (cI, 5, .inl (fun _ => 0))), (qc_3, .inl (cI, 5, .inl (fun _ => 0))), (q_16, .inr (0, [.int 0, .int 0, .int 2, .ref qa_4, .ref qb_5, .ref qc_6])), (qa_4, .inl (cI, 5, .inl (fun _ => 0))), (qb_5, .inl (cI, 5, .inl (fun _ => 0))), (qc_6, .inl (cI, 5, .inl (fun _ => 0)))] := hD
  refine lv_aload_n hx hb dX1_init_41 rfl (lv_at hl 0 rfl) ?_
  refine va_get (D := (dC, dI)) (ci := 1) (v := .ref q_5) (C := RX1) (T := TX1) (N := 5) hx hb hts iX1_init_X1 hown hK hP 0 rfl rfl 0 (by decide) (hts (.fieldLink RX1 12 "ColourTide" "map" "LColourTide$Tide;") (List.mem_of_getElem? (i := 7) rfl)) (fun _ h9 => h9) rfl dX1_init_42 ?_
  refine lv_iconst (v := 4) hx hb dX1_init_45 (by decide) ?_
  refine lv_iconst (v := 4) hx hb dX1_init_46 (by decide) ?_
  refine z_callVv (As := [.int 4, .int 4]) (rest := []) F9 (m_X0_clear l dC dI cI cZ cJ cD q_5 qa_1 qb_2 qc_3 0 0 2 (fun _ => 0) (fun _ => 0) (fun _ => 0) 4 4 (by decide) (by decide)) (cwV 2 hts gX1_init_X0_clear rfl rfl rfl (by decide +kernel) ⟨Nat.le_of_ble_eq_true rfl, Nat.le_of_ble_eq_true rfl⟩) hK hN hP hD hS hA [1, 2, 3, 4] rfl rfl (fun _ => rfl) 1 (ci := 0) rfl rfl rfl rfl hl.1 rfl (Nat.le_of_ble_eq_true rfl) dX1_init_47 ⟨Nat.le_of_ble_eq_true rfl, Nat.le_of_ble_eq_true rfl⟩ (fun u H locs hp_47 hP hD hS => ?_)
  have hP : va_P (dC, dI) vwCl [(h0, .inr (1, [.ref q_5, .ref q_16, .int 4, .int 4, .int 0])), (q_5, .inr (0, [.int (pBrd 4 4), .int 0, .int 2, .ref qa_1, .ref qb_2, .ref qc_3])), (qa_1, .inl (cI, 5, .inl (zfill (pClrF (pBrd 4 4)) (fun _ => 0) 5))), (qb_2, .inl (cI, 5, .inl (fun _ => 0))), (qc_3, .inl (cI, 5, .inl (fun _ => 0))), (q_16, .inr (0, [.int 0, .int 0, .int 2, .ref qa_4, .ref qb_5, .ref qc_6])), (qa_4, .inl (cI, 5, .inl (fun _ => 0))), (qb_5, .inl (cI, 5, .inl (fun _ => 0))), (qc_6, .inl (cI, 5, .inl (fun _ => 0)))] H := hP
  have hD : va_D A [(h0, .inr (1, [.ref q_5, .ref q_16, .int 4, .int 4, .int 0])), (q_5, .inr (0, [.int (pBrd 4 4), .int 0, .int 2, .ref qa_1, .ref qb_2, .ref qc_3])), (qa_1, .inl (cI, 5, .inl (zfill (pClrF (pBrd 4 4)) (fun _ => 0) 5))), (qb_2, .inl (cI, 5, .inl (fun _ => 0))), (qc_3, .inl (cI, 5, .inl (fun _ => 0))), (q_16, .inr (0, [.int 0, .int 0, .int 2, .ref qa_4, .ref qb_5, .ref qc_6])), (qa_4, .inl (cI, 5, .inl (fun _ => 0))), (qb_5, .inl (cI, 5, .inl (fun _ => 0))), (qc_6, .inl (cI, 5, .inl (fun _ => 0)))] := hD
  rw [← hQ]
  exact z_cret (W1 := (fun (u : Nat × Nat × Nat × Nat × Nat × Nat × Nat × Nat) => [(h0, .inr (1, [.ref u.1, .ref u.2.2.2.2.1, .int 4, .int 4, .int 0])), (u.1, .inr (0, [.int (pBrd 4 4), .int 0, .int 2, .ref u.2.1, .ref u.2.2.1, .ref u.2.2.2.1])), (u.2.1, .inl (cI, 5, .inl (zfill (pClrF (pBrd 4 4)) (fun _ => 0) 5))), (u.2.2.1, .inl (cI, 5, .inl (fun _ => 0))), (u.2.2.2.1, .inl (cI, 5, .inl (fun _ => 0))), (u.2.2.2.2.1, .inr (0, [.int 0, .int 0, .int 2, .ref u.2.2.2.2.2.1, .ref u.2.2.2.2.2.2.1, .ref u.2.2.2.2.2.2.2])), (u.2.2.2.2.2.1, .inl (cI, 5, .inl (fun _ => 0))), (u.2.2.2.2.2.2.1, .inl (cI, 5, .inl (fun _ => 0))), (u.2.2.2.2.2.2.2, .inl (cI, 5, .inl (fun _ => 0)))])) hx hb hr hlocks hP hD hS (q_5, qa_1, qb_2, qc_3, q_16, qa_4, qb_5, qc_6) (rfl) (trivial) dX1_init_50
