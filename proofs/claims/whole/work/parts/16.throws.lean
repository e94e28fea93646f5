abbrev rmX1_newMap : Room := { frames := 6, cells := 1, slots := 6, locals := 90 }
set_option maxRecDepth 20000 in
theorem iX1_newMap_X0 : ∀ w ∈ wsX00, w ∈ wsX1_newMap := fun w h => (goodIn_r (big := wsX1_newMap) wsX00 [26, 27, 28, 29, 30, 31] (by decide +kernel) (by decide +kernel) w h).1
set_option maxRecDepth 20000 in
theorem iX1_newMap_X1 : ∀ w ∈ wsX10, w ∈ wsX1_newMap := fun w h => (goodIn_r (big := wsX1_newMap) wsX10 [21, 22, 23, 24, 25] (by decide +kernel) (by decide +kernel) w h).1
set_option maxHeartbeats 4000000 in
set_option maxRecDepth 100000 in
theorem m_X1_newMap (l : Launch) (dC : Nat → ClassId) (dI : Nat → Nat → Nat) (cI cZ cJ cD : ClassId) (hst : l.stackTraces = false) (ad : Nat → Nat) (h0 : Nat) (hM : Nat) (aS : Nat) (aC : Nat) (aG : Nat) (hV : Nat) (bS : Nat) (bC : Nat) (bG : Nat) (wd : Int32) (hg : Int32) (wv : Int32) (bd : Int32) (sb : Int32) (nd : Int32) (S0 : Nat → Int32) (Cr : Nat → Int32) (G0 : Nat → Int32) (bd2 : Int32) (sb2 : Int32) (nd2 : Int32) (S2 : Nat → Int32) (Cr2 : Nat → Int32) (G2 : Nat → Int32) (x0 : Int32) (y0 : Int32)  : zXI l (dC, dI) (wT cI cZ cJ cD) ad yX1_newMap wsX1_newMap rmX1_newMap [(h0, .inr (1, [.ref hM, .ref hV, .int wd, .int hg, .int wv])), (hM, .inr (0, [.int bd, .int sb, .int nd, .ref aS, .ref aC, .ref aG])), (aS, .inl (cI, 5, .inl S0)), (aC, .inl (cI, 5, .inl Cr)), (aG, .inl (cI, 5, .inl G0)), (hV, .inr (0, [.int bd2, .int sb2, .int nd2, .ref bS, .ref bC, .ref bG])), (bS, .inl (cI, 5, .inl S2)), (bC, .inl (cI, 5, .inl Cr2)), (bG, .inl (cI, 5, .inl G2))] [.ref h0, .int x0, .int y0] (fun (u : Nat × Nat) => [(h0, .inr (1, [.ref hM, .ref hV, .int x0, .int y0, .int 0])), (hM, .inr (0, [.int (pBrd u.1 u.2), .int 0, .int nd, .ref aS, .ref aC, .ref aG])), (aS, .inl (cI, 5, .inl (zfill (pClrF (pBrd u.1 u.2)) S0 5))), (aC, .inl (cI, 5, .inl Cr)), (aG, .inl (cI, 5, .inl G0)), (hV, .inr (0, [.int bd2, .int sb2, .int nd2, .ref bS, .ref bC, .ref bG])), (bS, .inl (cI, 5, .inl S2)), (bC, .inl (cI, 5, .inl Cr2)), (bG, .inl (cI, 5, .inl G2))]) (fun (r : Int32) (u : Nat × Nat) => r = x0 * y0 ∧ (x0 = nI u.1 ∧ y0 = nI u.2) ∧ (2 ≤ u.1 ∧ u.1 ≤ 5) ∧ (2 ≤ u.2 ∧ u.2 ≤ 5)) (fun E => E = xIA ∧ ¬ (pSide x0 ∧ pSide y0)) := by
  intro sz
  refine vx_ofW (cc := cX1_newMap) (maxL := 3) (ret := (some .int)) (by decide) rfl ?_
  intro p e s m args below meth c s₁ B hml htab hv
  obtain ⟨ha, hsz, hP, hK, hD0, hE⟩ := hv
  have hx := B.exec
  have hb := B.bytes
  have hr := B.returns
  have hts := atoms_spec (ws := wsX1_newMap) B.pre
  have hown : s.vm.findClass RX1 = some m.cls := findClass_of_methodNamed B.named
  have hlocks := B.notSynchronized
  subst hsz
  have hD := hD0.self (sz := s.heap.size)
  generalize hAe : va_A [(h0, .inr (1, [.ref hM, .ref hV, .int wd, .int hg, .int wv])), (hM, .inr (0, [.int bd, .int sb, .int nd, .ref aS, .ref aC, .ref aG])), (aS, .inl (cI, 5, .inl S0)), (aC, .inl (cI, 5, .inl Cr)), (aG, .inl (cI, 5, .inl G0)), (hV, .inr (0, [.int bd2, .int sb2, .int nd2, .ref bS, .ref bC, .ref bG])), (bS, .inl (cI, 5, .inl S2)), (bC, .inl (cI, 5, .inl Cr2)), (bG, .inl (cI, 5, .inl G2))] s.heap.size = A at hD hE ⊢
  have hN := hE.1
  have hA : ∀ q : Nat, s.heap.size ≤ q → A q := fun q h => by rw [← hAe]; exact Or.inr h
  have hS : va_S A s.heap s.heap [] := va_S.rf
  generalize hQ : vx_MQ below (va_Qi (fun (r : Int32) (u : Nat × Nat) => r = x0 * y0 ∧ (x0 = nI u.1 ∧ y0 = nI u.2) ∧ (2 ≤ u.1 ∧ u.1 ≤ 5) ∧ (2 ≤ u.2 ∧ u.2 ≤ 5)) (fun u t => va_P (dC, dI) vwCl ((fun (u : Nat × Nat) => [(h0, .inr (1, [.ref hM, .ref hV, .int x0, .int y0, .int 0])), (hM, .inr (0, [.int (pBrd u.1 u.2), .int 0, .int nd, .ref aS, .ref aC, .ref aG])), (aS, .inl (cI, 5, .inl (zfill (pClrF (pBrd u.1 u.2)) S0 5))), (aC, .inl (cI, 5, .inl Cr)), (aG, .inl (cI, 5, .inl G0)), (hV, .inr (0, [.int bd2, .int sb2, .int nd2, .ref bS, .ref bC, .ref bG])), (bS, .inl (cI, 5, .inl S2)), (bC, .inl (cI, 5, .inl Cr2)), (bG, .inl (cI, 5, .inl G2))]) u) t.heap) A) (zX (fun E => E = xIA ∧ ¬ (pSide x0 ∧ pSide y0)) (dC, dI) [(h0, .inr (1, [.ref hM, .ref hV, .int wd, .int hg, .int wv])), (hM, .inr (0, [.int bd, .int sb, .int nd, .ref aS, .ref aC, .ref aG])), (aS, .inl (cI, 5, .inl S0)), (aC, .inl (cI, 5, .inl Cr)), (aG, .inl (cI, 5, .inl G0)), (hV, .inr (0, [.int bd2, .int sb2, .int nd2, .ref bS, .ref bC, .ref bG])), (bS, .inl (cI, 5, .inl S2)), (bC, .inl (cI, 5, .inl Cr2)), (bG, .inl (cI, 5, .inl G2))] A) args s 1 6 A = Q
  have F9 : CallFix p m c cX1_newMap 3 s args wsX1_newMap RX1 := ⟨hx, hb, hml, hown, hts⟩
  refine z_entry (R := rmX1_newMap) ha (Nat.le_of_ble_eq_true rfl) (fun ls hl => ?_)
  have hl : lv_has ls 3 [(0, .ref h0), (1, .int x0), (2, .int y0)] := hl
  refine lv_iload_n hx hb dX1_newMap_0 rfl (lv_at hl 1 rfl) ?_
  refine z_callSi (As := [.int x0]) (rest := []) F9 (m_X1_isSide l dC dI cI cZ cJ cD x0 ) (va_cwS 1 hts gX1_newMap_X1_isSide rfl rfl rfl (by decide +kernel) ⟨Nat.le_of_ble_eq_true rfl, Nat.le_of_ble_eq_true rfl⟩) hK hN hP hD hS hA rfl hl.1 rfl (Nat.le_of_ble_eq_true rfl) dX1_newMap_1 ⟨Nat.zero_le _, Nat.zero_le _⟩ (fun r_1 H locs hp_1 hP hS => ?_)
  have hp_1 : r_1 = if pSide x0 then 1 else 0 := hp_1
  refine z_topi (y := if pSide x0 then 1 else 0) hp_1 ?_
  refine lv_if_eq (tgt := 14) hx hb dX1_newMap_4 (by decide) (fun c_4 => ?_) (fun c_4 => ?_)
  · skip
    rw [← hQ]
    exact z_thr (cls := xIA) (text := "a map is 2 to 5 cells wide and high") (ik := 37) (is := 39) (ic := 41) hx hb hst hown (by decide +kernel) (hts (.classLink RX1 37 "java/lang/IllegalArgumentException") (List.mem_of_getElem? (i := 1) rfl)) (hts (.initialized "java/lang/IllegalArgumentException") (List.mem_of_getElem? (i := 2) rfl)) (by decide +kernel) (fun w h => hts w (List.mem_cons_of_mem _ (List.mem_append_right _ h))) z_bad41 z_good41 hE.2.2.2.1.1 hE hP hS (by rw [hml]; exact hl.1) dX1_newMap_14 dX1_newMap_17 dX1_newMap_18 dX1_newMap_20 dX1_newMap_23 htab (Nat.le_of_ble_eq_true rfl) (Nat.le_of_ble_eq_true rfl) (Nat.le_of_ble_eq_true rfl) (Nat.le_of_ble_eq_true rfl) hlocks (⟨rfl, fun q => z_if0 c_4 q.1⟩)
  · skip
    refine lv_iload_n hx hb dX1_newMap_7 rfl (lv_at hl 2 rfl) ?_
    refine z_callSi (As := [.int y0]) (rest := []) F9 (m_X1_isSide l dC dI cI cZ cJ cD y0 ) (va_cwS 1 hts gX1_newMap_X1_isSide rfl rfl rfl (by decide +kernel) ⟨Nat.le_of_ble_eq_true rfl, Nat.le_of_ble_eq_true rfl⟩) hK hN hP hD hS hA rfl hl.1 rfl (Nat.le_of_ble_eq_true rfl) dX1_newMap_8 ⟨Nat.zero_le _, Nat.zero_le _⟩ (fun r_2 H locs hp_8 hP hS => ?_)
    have hp_8 : r_2 = if pSide y0 then 1 else 0 := hp_8
    refine z_topi (y := if pSide y0 then 1 else 0) hp_8 ?_
    refine lv_if_ne (tgt := 24) hx hb dX1_newMap_11 (by decide) (fun c_11 => ?_) (fun c_11 => ?_)
    · skip
      obtain ⟨wn, w1, w2, ew⟩ := z_side (z_if1 c_4)
      obtain ⟨hn, h1, h2, eh⟩ := z_side (z_if1 c_11)
      refine lv_aload_n hx hb dX1_newMap_24 rfl (lv_at hl 0 rfl) ?_
      refine lv_iload_n hx hb dX1_newMap_25 rfl (lv_at hl 1 rfl) ?_
      refine va_put (D := (dC, dI)) (ci := 1) (v := .int x0) (ty := .int) (C := RX1) (T := TX1) (N := 5) hx hb hts iX1_newMap_X1 tyX1 tyX1_ok nmX1 hown hK hP hD hS 0 rfl rfl 2 (by decide) (hts (.fieldLink RX1 19 "ColourTide" "width" "I") (List.mem_of_getElem? (i := 3) rfl)) (fun _ h9 => h9) rfl (by decide +kernel) rfl rfl (Nat.le_of_ble_eq_true rfl) dX1_newMap_26 (fun H locs hP hD hS => ?_)
      have hP : va_P (dC, dI) vwCl [(h0, .inr (1, [.ref hM, .ref hV, .int x0, .int hg, .int wv])), (hM, .inr (0, [.int bd, .int sb, .int nd, .ref aS, .ref aC, .ref aG])), (aS, .inl (cI, 5, .inl S0)), (aC, .inl (cI, 5, .inl Cr)), (aG, .inl (cI, 5, .inl G0)), (hV, .inr (0, [.int bd2, .int sb2, .int nd2, .ref bS, .ref bC, .ref bG])), (bS, .inl (cI, 5, .inl S2)), (bC, .inl (cI, 5, .inl Cr2)), (bG, .inl (cI, 5, .inl G2))] H := hP
      have hD : va_D A [(h0, .inr (1, [.ref hM, .ref hV, .int x0, .int hg, .int wv])), (hM, .inr (0, [.int bd, .int sb, .int nd, .ref aS, .ref aC, .ref aG])), (aS, .inl (cI, 5, .inl S0)), (aC, .inl (cI, 5, .inl Cr)), (aG, .inl (cI, 5, .inl G0)), (hV, .inr (0, [.int bd2, .int sb2, .int nd2, .ref bS, .ref bC, .ref bG])), (bS, .inl (cI, 5, .inl S2)), (bC, .inl (cI, 5, .inl Cr2)), (bG, .inl (cI, 5, .inl G2))] := hD
      refine lv_aload_n hx hb dX1_newMap_29 rfl (lv_at hl 0 rfl) ?_
      refine lv_iload_n hx hb dX1_newMap_30 rfl (lv_at hl 2 rfl) ?_
      refine va_put (D := (dC, dI)) (ci := 1) (v := .int y0) (ty := .int) (C := RX1) (T := TX1) (N := 5) hx hb hts iX1_newMap_X1 tyX1 tyX1_ok nmX1 hown hK hP hD hS 0 rfl rfl 3 (by decide) (hts (.fieldLink RX1 23 "ColourTide" "height" "I") (List.mem_of_getElem? (i := 4) rfl)) (fun _ h9 => h9) rfl (by decide +kernel) rfl rfl (Nat.le_of_ble_eq_true rfl) dX1_newMap_31 (fun H locs hP hD hS => ?_)
      have hP : va_P (dC, dI) vwCl [(h0, .inr (1, [.ref hM, .ref hV, .int x0, .int y0, .int wv])), (hM, .inr (0, [.int bd, .int sb, .int nd, .ref aS, .ref aC, .ref aG])), (aS, .inl (cI, 5, .inl S0)), (aC, .inl (cI, 5, .inl Cr)), (aG, .inl (cI, 5, .inl G0)), (hV, .inr (0, [.int bd2, .int sb2, .int nd2, .ref bS, .ref bC, .ref bG])), (bS, .inl (cI, 5, .inl S2)), (bC, .inl (cI, 5, .inl Cr2)), (bG, .inl (cI, 5, .inl G2))] H := hP
      have hD : va_D A [(h0, .inr (1, [.ref hM, .ref hV, .int x0, .int y0, .int wv])), (hM, .inr (0, [.int bd, .int sb, .int nd, .ref aS, .ref aC, .ref aG])), (aS, .inl (cI, 5, .inl S0)), (aC, .inl (cI, 5, .inl Cr)), (aG, .inl (cI, 5, .inl G0)), (hV, .inr (0, [.int bd2, .int sb2, .int nd2, .ref bS, .ref bC, .ref bG])), (bS, .inl (cI, 5, .inl S2)), (bC, .inl (cI, 5, .inl Cr2)), (bG, .inl (cI, 5, .inl G2))] := hD
      refine lv_aload_n hx hb dX1_newMap_34 rfl (lv_at hl 0 rfl) ?_
      refine lv_iconst (v := 0) hx hb dX1_newMap_35 (by decide) ?_
      refine va_put (D := (dC, dI)) (ci := 1) (v := .int 0) (ty := .int) (C := RX1) (T := TX1) (N := 5) hx hb hts iX1_newMap_X1 tyX1 tyX1_ok nmX1 hown hK hP hD hS 0 rfl rfl 4 (by decide) (hts (.fieldLink RX1 26 "ColourTide" "waves" "I") (List.mem_of_getElem? (i := 5) rfl)) (fun _ h9 => h9) rfl (by decide +kernel) rfl rfl (Nat.le_of_ble_eq_true rfl) dX1_newMap_36 (fun H locs hP hD hS => ?_)
      have hP : va_P (dC, dI) vwCl [(h0, .inr (1, [.ref hM, .ref hV, .int x0, .int y0, .int 0])), (hM, .inr (0, [.int bd, .int sb, .int nd, .ref aS, .ref aC, .ref aG])), (aS, .inl (cI, 5, .inl S0)), (aC, .inl (cI, 5, .inl Cr)), (aG, .inl (cI, 5, .inl G0)), (hV, .inr (0, [.int bd2, .int sb2, .int nd2, .ref bS, .ref bC, .ref bG])), (bS, .inl (cI, 5, .inl S2)), (bC, .inl (cI, 5, .inl Cr2)), (bG, .inl (cI, 5, .inl G2))] H := hP
      have hD : va_D A [(h0, .inr (1, [.ref hM, .ref hV, .int x0, .int y0, .int 0])), (hM, .inr (0, [.int bd, .int sb, .int nd, .ref aS, .ref aC, .ref aG])), (aS, .inl (cI, 5, .inl S0)), (aC, .inl (cI, 5, .inl Cr)), (aG, .inl (cI, 5, .inl G0)), (hV, .inr (0, [.int bd2, .int sb2, .int nd2, .ref bS, .ref bC, .ref bG])), (bS, .inl (cI, 5, .inl S2)), (bC, .inl (cI, 5, .inl Cr2)), (bG, .inl (cI, 5, .inl G2))] := hD
      refine lv_aload_n hx hb dX1_newMap_39 rfl (lv_at hl 0 rfl) ?_
      refine va_get (D := (dC, dI)) (ci := 1) (v := .ref hM) (C := RX1) (T := TX1) (N := 5) hx hb hts iX1_newMap_X1 hown hK hP 0 rfl rfl 0 (by decide) (hts (.fieldLink RX1 12 "ColourTide" "map" "LColourTide$Tide;") (List.mem_of_getElem? (i := 6) rfl)) (fun _ h9 => h9) rfl dX1_newMap_40 ?_
      refine lv_iload_n hx hb dX1_newMap_43 rfl (lv_at hl 1 rfl) ?_
      refine z_topi (y := nI wn) (ew) ?_
      refine lv_iload_n hx hb dX1_newMap_44 rfl (lv_at hl 2 rfl) ?_
      refine z_topi (y := nI hn) (eh) ?_
      refine z_callVv (As := [.int (nI wn), .int (nI hn)]) (rest := []) F9 (m_X0_clear l dC dI cI cZ cJ cD hM aS aC aG bd sb nd S0 Cr G0 wn hn (w2) (h2)) (cwV 2 hts gX1_newMap_X0_clear rfl rfl rfl (by decide +kernel) ⟨Nat.le_of_ble_eq_true rfl, Nat.le_of_ble_eq_true rfl⟩) hK hN hP hD hS hA [1, 2, 3, 4] rfl rfl (fun _ => rfl) 1 (ci := 0) rfl rfl rfl rfl hl.1 rfl (Nat.le_of_ble_eq_true rfl) dX1_newMap_45 ⟨Nat.zero_le _, Nat.zero_le _⟩ (fun u H locs hp_45 hP hD hS => ?_)
      have hP : va_P (dC, dI) vwCl [(h0, .inr (1, [.ref hM, .ref hV, .int x0, .int y0, .int 0])), (hM, .inr (0, [.int (pBrd wn hn), .int 0, .int nd, .ref aS, .ref aC, .ref aG])), (aS, .inl (cI, 5, .inl (zfill (pClrF (pBrd wn hn)) S0 5))), (aC, .inl (cI, 5, .inl Cr)), (aG, .inl (cI, 5, .inl G0)), (hV, .inr (0, [.int bd2, .int sb2, .int nd2, .ref bS, .ref bC, .ref bG])), (bS, .inl (cI, 5, .inl S2)), (bC, .inl (cI, 5, .inl Cr2)), (bG, .inl (cI, 5, .inl G2))] H := hP
      have hD : va_D A [(h0, .inr (1, [.ref hM, .ref hV, .int x0, .int y0, .int 0])), (hM, .inr (0, [.int (pBrd wn hn), .int 0, .int nd, .ref aS, .ref aC, .ref aG])), (aS, .inl (cI, 5, .inl (zfill (pClrF (pBrd wn hn)) S0 5))), (aC, .inl (cI, 5, .inl Cr)), (aG, .inl (cI, 5, .inl G0)), (hV, .inr (0, [.int bd2, .int sb2, .int nd2, .ref bS, .ref bC, .ref bG])), (bS, .inl (cI, 5, .inl S2)), (bC, .inl (cI, 5, .inl Cr2)), (bG, .inl (cI, 5, .inl G2))] := hD
      refine lv_iload_n hx hb dX1_newMap_48 rfl (lv_at hl 1 rfl) ?_
      refine lv_iload_n hx hb dX1_newMap_49 rfl (lv_at hl 2 rfl) ?_
      refine lv_imul hx hb dX1_newMap_50 ?_
      rw [← hQ]
      exact zx_iret (W1 := (fun (u : Nat × Nat) => [(h0, .inr (1, [.ref hM, .ref hV, .int x0, .int y0, .int 0])), (hM, .inr (0, [.int (pBrd u.1 u.2), .int 0, .int nd, .ref aS, .ref aC, .ref aG])), (aS, .inl (cI, 5, .inl (zfill (pClrF (pBrd u.1 u.2)) S0 5))), (aC, .inl (cI, 5, .inl Cr)), (aG, .inl (cI, 5, .inl G0)), (hV, .inr (0, [.int bd2, .int sb2, .int nd2, .ref bS, .ref bC, .ref bG])), (bS, .inl (cI, 5, .inl S2)), (bC, .inl (cI, 5, .inl Cr2)), (bG, .inl (cI, 5, .inl G2))])) hx hb hr hlocks hP hS (wn, hn) (rfl) (⟨rfl, ⟨ew, eh⟩, ⟨w1, w2⟩, ⟨h1, h2⟩⟩) dX1_newMap_51
    · skip
      rw [← hQ]
      exact z_thr (cls := xIA) (text := "a map is 2 to 5 cells wide and high") (ik := 37) (is := 39) (ic := 41) hx hb hst hown (by decide +kernel) (hts (.classLink RX1 37 "java/lang/IllegalArgumentException") (List.mem_of_getElem? (i := 1) rfl)) (hts (.initialized "java/lang/IllegalArgumentException") (List.mem_of_getElem? (i := 2) rfl)) (by decide +kernel) (fun w h => hts w (List.mem_cons_of_mem _ (List.mem_append_right _ h))) z_bad41 z_good41 hE.2.2.2.1.1 hE hP hS (by rw [hml]; exact hl.1) dX1_newMap_14 dX1_newMap_17 dX1_newMap_18 dX1_newMap_20 dX1_newMap_23 htab (Nat.le_of_ble_eq_true rfl) (Nat.le_of_ble_eq_true rfl) (Nat.le_of_ble_eq_true rfl) (Nat.le_of_ble_eq_true rfl) hlocks (⟨rfl, fun q => z_if0 c_11 q.2⟩)
abbrev rmX1_paint : Room := { frames := 6, cells := 1, slots := 6, locals := 90 }
set_option maxRecDepth 20000 in
theorem iX1_paint_X0 : ∀ w ∈ wsX00, w ∈ wsX1_paint := fun w h => (goodIn_r (big := wsX1_paint) wsX00 [38, 39, 40, 41, 42, 43] (by decide +kernel) (by decide +kernel) w h).1
set_option maxRecDepth 20000 in
theorem iX1_paint_X1 : ∀ w ∈ wsX10, w ∈ wsX1_paint := fun w h => (goodIn_r (big := wsX1_paint) wsX10 [33, 34, 35, 36, 37] (by decide +kernel) (by decide +kernel) w h).1
set_option maxHeartbeats 4000000 in
set_option maxRecDepth 100000 in
theorem m_X1_paint (l : Launch) (dC : Nat → ClassId) (dI : Nat → Nat → Nat) (cI cZ cJ cD : ClassId) (hst : l.stackTraces = false) (ad : Nat → Nat) (h0 : Nat) (hM : Nat) (aS : Nat) (aC : Nat) (aG : Nat) (hV : Nat) (bS : Nat) (bC : Nat) (bG : Nat) (wd : Int32) (hg : Int32) (wv : Int32) (bd : Int32) (sb : Int32) (nd : Int32) (S0 : Nat → Int32) (Cr : Nat → Int32) (G0 : Nat → Int32) (bd2 : Int32) (sb2 : Int32) (nd2 : Int32) (S2 : Nat → Int32) (Cr2 : Nat → Int32) (G2 : Nat → Int32) (x0 : Int32) (y0 : Int32) (col : Int32)  : zXI l (dC, dI) (wT cI cZ cJ cD) ad yX1_paint wsX1_paint rmX1_paint [(h0, .inr (1, [.ref hM, .ref hV, .int wd, .int hg, .int wv])), (hM, .inr (0, [.int bd, .int sb, .int nd, .ref aS, .ref aC, .ref aG])), (aS, .inl (cI, 5, .inl S0)), (aC, .inl (cI, 5, .inl Cr)), (aG, .inl (cI, 5, .inl G0)), (hV, .inr (0, [.int bd2, .int sb2, .int nd2, .ref bS, .ref bC, .ref bG])), (bS, .inl (cI, 5, .inl S2)), (bC, .inl (cI, 5, .inl Cr2)), (bG, .inl (cI, 5, .inl G2))] [.ref h0, .int x0, .int y0, .int col] (fun (_ : Unit) => [(h0, .inr (1, [.ref hM, .ref hV, .int wd, .int hg, .int wv])), (hM, .inr (0, [.int bd, .int sb, .int nd, .ref aS, .ref aC, .ref aG])), (aS, .inl (cI, 5, .inl (pDye S0 (pCell x0 y0) col))), (aC, .inl (cI, 5, .inl Cr)), (aG, .inl (cI, 5, .inl G0)), (hV, .inr (0, [.int bd2, .int sb2, .int nd2, .ref bS, .ref bC, .ref bG])), (bS, .inl (cI, 5, .inl S2)), (bC, .inl (cI, 5, .inl Cr2)), (bG, .inl (cI, 5, .inl G2))]) (fun (r : Int32) (_ : Unit) => (pOn x0 y0 wd hg ∧ pAny col) ∧ r = pFirst S0 (pCell x0 y0)) (fun E => E = xIO ∧ ¬ (pOn x0 y0 wd hg ∧ pAny col)) := by
  intro sz
  refine vx_ofW (cc := cX1_paint) (maxL := 5) (ret := (some .int)) (by decide) rfl ?_
  intro p e s m args below meth c s₁ B hml htab hv
  obtain ⟨ha, hsz, hP, hK, hD0, hE⟩ := hv
  have hx := B.exec
  have hb := B.bytes
  have hr := B.returns
  have hts := atoms_spec (ws := wsX1_paint) B.pre
  have hown : s.vm.findClass RX1 = some m.cls := findClass_of_methodNamed B.named
  have hlocks := B.notSynchronized
  subst hsz
  have hD := hD0.self (sz := s.heap.size)
  generalize hAe : va_A [(h0, .inr (1, [.ref hM, .ref hV, .int wd, .int hg, .int wv])), (hM, .inr (0, [.int bd, .int sb, .int nd, .ref aS, .ref aC, .ref aG])), (aS, .inl (cI, 5, .inl S0)), (aC, .inl (cI, 5, .inl Cr)), (aG, .inl (cI, 5, .inl G0)), (hV, .inr (0, [.int bd2, .int sb2, .int nd2, .ref bS, .ref bC, .ref bG])), (bS, .inl (cI, 5, .inl S2)), (bC, .inl (cI, 5, .inl Cr2)), (bG, .inl (cI, 5, .inl G2))] s.heap.size = A at hD hE ⊢
  have hN := hE.1
  have hA : ∀ q : Nat, s.heap.size ≤ q → A q := fun q h => by rw [← hAe]; exact Or.inr h
  have hS : va_S A s.heap s.heap [] := va_S.rf
  generalize hQ : vx_MQ below (va_Qi (fun (r : Int32) (_ : Unit) => (pOn x0 y0 wd hg ∧ pAny col) ∧ r = pFirst S0 (pCell x0 y0)) (fun u t => va_P (dC, dI) vwCl ((fun (_ : Unit) => [(h0, .inr (1, [.ref hM, .ref hV, .int wd, .int hg, .int wv])), (hM, .inr (0, [.int bd, .int sb, .int nd, .ref aS, .ref aC, .ref aG])), (aS, .inl (cI, 5, .inl (pDye S0 (pCell x0 y0) col))), (aC, .inl (cI, 5, .inl Cr)), (aG, .inl (cI, 5, .inl G0)), (hV, .inr (0, [.int bd2, .int sb2, .int nd2, .ref bS, .ref bC, .ref bG])), (bS, .inl (cI, 5, .inl S2)), (bC, .inl (cI, 5, .inl Cr2)), (bG, .inl (cI, 5, .inl G2))]) u) t.heap) A) (zX (fun E => E = xIO ∧ ¬ (pOn x0 y0 wd hg ∧ pAny col)) (dC, dI) [(h0, .inr (1, [.ref hM, .ref hV, .int wd, .int hg, .int wv])), (hM, .inr (0, [.int bd, .int sb, .int nd, .ref aS, .ref aC, .ref aG])), (aS, .inl (cI, 5, .inl S0)), (aC, .inl (cI, 5, .inl Cr)), (aG, .inl (cI, 5, .inl G0)), (hV, .inr (0, [.int bd2, .int sb2, .int nd2, .ref bS, .ref bC, .ref bG])), (bS, .inl (cI, 5, .inl S2)), (bC, .inl (cI, 5, .inl Cr2)), (bG, .inl (cI, 5, .inl G2))] A) args s 1 6 A = Q
  have F9 : CallFix p m c cX1_paint 5 s args wsX1_paint RX1 := ⟨hx, hb, hml, hown, hts⟩
  refine z_entry (R := rmX1_paint) ha (Nat.le_of_ble_eq_true rfl) (fun ls hl => ?_)
  have hl : lv_has ls 5 [(0, .ref h0), (1, .int x0), (2, .int y0), (3, .int col)] := hl
  refine lv_aload_n hx hb dX1_paint_0 rfl (lv_at hl 0 rfl) ?_
  refine lv_iload_n hx hb dX1_paint_1 rfl (lv_at hl 1 rfl) ?_
  refine lv_iload_n hx hb dX1_paint_2 rfl (lv_at hl 2 rfl) ?_
  refine z_callVi (As := [.int x0, .int y0]) (rest := []) F9 (m_X1_isOnMap l dC dI cI cZ cJ cD h0 hM aS aC aG hV bS bC bG wd hg wv bd sb nd S0 Cr G0 bd2 sb2 nd2 S2 Cr2 G2 x0 y0 ) (cwV 2 hts gX1_paint_X1_isOnMap rfl rfl rfl (by decide +kernel) ⟨Nat.le_of_ble_eq_true rfl, Nat.le_of_ble_eq_true rfl⟩) hK hN hP hD hS hA [0, 1, 2, 3, 4, 5, 6, 7, 8] rfl rfl (fun _ => rfl) 0 (ci := 1) rfl rfl rfl rfl hl.1 rfl (Nat.le_of_ble_eq_true rfl) dX1_paint_3 ⟨Nat.zero_le _, Nat.zero_le _⟩ (fun r_1 u H locs hp_3 hP hD hS => ?_)
  have hP : va_P (dC, dI) vwCl [(h0, .inr (1, [.ref hM, .ref hV, .int wd, .int hg, .int wv])), (hM, .inr (0, [.int bd, .int sb, .int nd, .ref aS, .ref aC, .ref aG])), (aS, .inl (cI, 5, .inl S0)), (aC, .inl (cI, 5, .inl Cr)), (aG, .inl (cI, 5, .inl G0)), (hV, .inr (0, [.int bd2, .int sb2, .int nd2, .ref bS, .ref bC, .ref bG])), (bS, .inl (cI, 5, .inl S2)), (bC, .inl (cI, 5, .inl Cr2)), (bG, .inl (cI, 5, .inl G2))] H := hP
  have hD : va_D A [(h0, .inr (1, [.ref hM, .ref hV, .int wd, .int hg, .int wv])), (hM, .inr (0, [.int bd, .int sb, .int nd, .ref aS, .ref aC, .ref aG])), (aS, .inl (cI, 5, .inl S0)), (aC, .inl (cI, 5, .inl Cr)), (aG, .inl (cI, 5, .inl G0)), (hV, .inr (0, [.int bd2, .int sb2, .int nd2, .ref bS, .ref bC, .ref bG])), (bS, .inl (cI, 5, .inl S2)), (bC, .inl (cI, 5, .inl Cr2)), (bG, .inl (cI, 5, .inl G2))] := hD
  have hp_3 : r_1 = if pOn x0 y0 wd hg then 1 else 0 := hp_3
  refine z_topi (y := if pOn x0 y0 wd hg then 1 else 0) hp_3 ?_
  refine lv_if_eq (tgt := 16) hx hb dX1_paint_6 (by decide) (fun c_6 => ?_) (fun c_6 => ?_)
  · skip
    rw [← hQ]
    exact z_thr (cls := xIO) (text := "no such cell or colour") (ik := 51) (is := 53) (ic := 55) hx hb hst hown (by decide +kernel) (hts (.classLink RX1 51 "java/lang/IndexOutOfBoundsException") (List.mem_of_getElem? (i := 1) rfl)) (hts (.initialized "java/lang/IndexOutOfBoundsException") (List.mem_of_getElem? (i := 2) rfl)) (by decide +kernel) (fun w h => hts w (List.mem_cons_of_mem _ (List.mem_append_right _ h))) z_bad55 z_good55 hE.2.2.2.1.2.1 hE hP hS (by rw [hml]; exact hl.1) dX1_paint_16 dX1_paint_19 dX1_paint_20 dX1_paint_22 dX1_paint_25 htab (Nat.le_of_ble_eq_true rfl) (Nat.le_of_ble_eq_true rfl) (Nat.le_of_ble_eq_true rfl) (Nat.le_of_ble_eq_true rfl) hlocks (⟨rfl, fun q => z_if0 c_6 q.1⟩)
  · skip
    refine lv_iload_n hx hb dX1_paint_9 rfl (lv_at hl 3 rfl) ?_
    refine z_callSi (As := [.int col]) (rest := []) F9 (m_X1_isColourOrBare l dC dI cI cZ cJ cD col ) (va_cwS 1 hts gX1_paint_X1_isColourOrBare rfl rfl rfl (by decide +kernel) ⟨Nat.le_of_ble_eq_true rfl, Nat.le_of_ble_eq_true rfl⟩) hK hN hP hD hS hA rfl hl.1 rfl (Nat.le_of_ble_eq_true rfl) dX1_paint_10 ⟨Nat.zero_le _, Nat.zero_le _⟩ (fun r_2 H locs hp_10 hP hS => ?_)
    have hp_10 : r_2 = if pAny col then 1 else 0 := hp_10
    refine z_topi (y := if pAny col then 1 else 0) hp_10 ?_
    refine lv_if_ne (tgt := 26) hx hb dX1_paint_13 (by decide) (fun c_13 => ?_) (fun c_13 => ?_)
    · skip
      refine lv_aload_n hx hb dX1_paint_26 rfl (lv_at hl 0 rfl) ?_
      refine va_get (D := (dC, dI)) (ci := 1) (v := .ref hM) (C := RX1) (T := TX1) (N := 5) hx hb hts iX1_paint_X1 hown hK hP 0 rfl rfl 0 (by decide) (hts (.fieldLink RX1 12 "ColourTide" "map" "LColourTide$Tide;") (List.mem_of_getElem? (i := 3) rfl)) (fun _ h9 => h9) rfl dX1_paint_27 ?_
      refine lv_iload_n hx hb dX1_paint_30 rfl (lv_at hl 1 rfl) ?_
      refine lv_iload_n hx hb dX1_paint_31 rfl (lv_at hl 2 rfl) ?_
      refine z_callSi (As := [.int x0, .int y0]) (rest := [.ref hM]) F9 (m_X1_cell l dC dI cI cZ cJ cD x0 y0 ) (va_cwS 2 hts gX1_paint_X1_cell rfl rfl rfl (by decide +kernel) ⟨Nat.le_of_ble_eq_true rfl, Nat.le_of_ble_eq_true rfl⟩) hK hN hP hD hS hA rfl hl.1 rfl (Nat.le_of_ble_eq_true rfl) dX1_paint_32 ⟨Nat.zero_le _, Nat.zero_le _⟩ (fun r_3 H locs hp_32 hP hS => ?_)
      have hp_32 : r_3 = pCell x0 y0 := hp_32
      refine z_topi (y := pCell x0 y0) hp_32 ?_
      refine z_callVi (As := [.int (pCell x0 y0)]) (rest := []) F9 (m_X0_colourOf l dC dI cI cZ cJ cD hM aS aC aG bd sb nd S0 Cr G0 (pCell x0 y0) ) (cwV 1 hts gX1_paint_X0_colourOf rfl rfl rfl (by decide +kernel) ⟨Nat.le_of_ble_eq_true rfl, Nat.le_of_ble_eq_true rfl⟩) hK hN hP hD hS hA [1, 2, 3, 4] rfl rfl (fun _ => rfl) 1 (ci := 0) rfl rfl rfl rfl hl.1 rfl (Nat.le_of_ble_eq_true rfl) dX1_paint_35 ⟨Nat.zero_le _, Nat.zero_le _⟩ (fun r_4 u H locs hp_35 hP hD hS => ?_)
      have hP : va_P (dC, dI) vwCl [(h0, .inr (1, [.ref hM, .ref hV, .int wd, .int hg, .int wv])), (hM, .inr (0, [.int bd, .int sb, .int nd, .ref aS, .ref aC, .ref aG])), (aS, .inl (cI, 5, .inl S0)), (aC, .inl (cI, 5, .inl Cr)), (aG, .inl (cI, 5, .inl G0)), (hV, .inr (0, [.int bd2, .int sb2, .int nd2, .ref bS, .ref bC, .ref bG])), (bS, .inl (cI, 5, .inl S2)), (bC, .inl (cI, 5, .inl Cr2)), (bG, .inl (cI, 5, .inl G2))] H := hP
      have hD : va_D A [(h0, .inr (1, [.ref hM, .ref hV, .int wd, .int hg, .int wv])), (hM, .inr (0, [.int bd, .int sb, .int nd, .ref aS, .ref aC, .ref aG])), (aS, .inl (cI, 5, .inl S0)), (aC, .inl (cI, 5, .inl Cr)), (aG, .inl (cI, 5, .inl G0)), (hV, .inr (0, [.int bd2, .int sb2, .int nd2, .ref bS, .ref bC, .ref bG])), (bS, .inl (cI, 5, .inl S2)), (bC, .inl (cI, 5, .inl Cr2)), (bG, .inl (cI, 5, .inl G2))] := hD
      have hp_35 : r_4 = pFirst S0 (pCell x0 y0) := hp_35
      refine z_topi (y := pFirst S0 (pCell x0 y0)) hp_35 ?_
      refine lv_istore (lv' := [(4, .int (pFirst S0 (pCell x0 y0))), (0, .ref h0), (1, .int x0), (2, .int y0), (3, .int col)]) hx hb dX1_paint_38 hl (by decide) rfl (fun ls hl => ?_)
      refine lv_aload_n hx hb dX1_paint_40 rfl (lv_at hl 1 rfl) ?_
      refine va_get (D := (dC, dI)) (ci := 1) (v := .ref hM) (C := RX1) (T := TX1) (N := 5) hx hb hts iX1_paint_X1 hown hK hP 0 rfl rfl 0 (by decide) (hts (.fieldLink RX1 12 "ColourTide" "map" "LColourTide$Tide;") (List.mem_of_getElem? (i := 3) rfl)) (fun _ h9 => h9) rfl dX1_paint_41 ?_
      refine lv_iload_n hx hb dX1_paint_44 rfl (lv_at hl 2 rfl) ?_
      refine lv_iload_n hx hb dX1_paint_45 rfl (lv_at hl 3 rfl) ?_
      refine z_callSi (As := [.int x0, .int y0]) (rest := [.ref hM]) F9 (m_X1_cell l dC dI cI cZ cJ cD x0 y0 ) (va_cwS 2 hts gX1_paint_X1_cell rfl rfl rfl (by decide +kernel) ⟨Nat.le_of_ble_eq_true rfl, Nat.le_of_ble_eq_true rfl⟩) hK hN hP hD hS hA rfl hl.1 rfl (Nat.le_of_ble_eq_true rfl) dX1_paint_46 ⟨Nat.zero_le _, Nat.zero_le _⟩ (fun r_5 H locs hp_46 hP hS => ?_)
      have hp_46 : r_5 = pCell x0 y0 := hp_46
      refine z_topi (y := pCell x0 y0) hp_46 ?_
      refine lv_iload_n hx hb dX1_paint_49 rfl (lv_at hl 4 rfl) ?_
      refine z_callVv (As := [.int (pCell x0 y0), .int col]) (rest := []) F9 (m_X0_dye l dC dI cI cZ cJ cD hM aS aC aG bd sb nd S0 Cr G0 (pCell x0 y0) col ) (cwV 2 hts gX1_paint_X0_dye rfl rfl rfl (by decide +kernel) ⟨Nat.le_of_ble_eq_true rfl, Nat.le_of_ble_eq_true rfl⟩) hK hN hP hD hS hA [1, 2, 3, 4] rfl rfl (fun _ => rfl) 1 (ci := 0) rfl rfl rfl rfl hl.1 rfl (Nat.le_of_ble_eq_true rfl) dX1_paint_50 ⟨Nat.zero_le _, Nat.zero_le _⟩ (fun u H locs hp_50 hP hD hS => ?_)
      have hP : va_P (dC, dI) vwCl [(h0, .inr (1, [.ref hM, .ref hV, .int wd, .int hg, .int wv])), (hM, .inr (0, [.int bd, .int sb, .int nd, .ref aS, .ref aC, .ref aG])), (aS, .inl (cI, 5, .inl (pDye S0 (pCell x0 y0) col))), (aC, .inl (cI, 5, .inl Cr)), (aG, .inl (cI, 5, .inl G0)), (hV, .inr (0, [.int bd2, .int sb2, .int nd2, .ref bS, .ref bC, .ref bG])), (bS, .inl (cI, 5, .inl S2)), (bC, .inl (cI, 5, .inl Cr2)), (bG, .inl (cI, 5, .inl G2))] H := hP
      have hD : va_D A [(h0, .inr (1, [.ref hM, .ref hV, .int wd, .int hg, .int wv])), (hM, .inr (0, [.int bd, .int sb, .int nd, .ref aS, .ref aC, .ref aG])), (aS, .inl (cI, 5, .inl (pDye S0 (pCell x0 y0) col))), (aC, .inl (cI, 5, .inl Cr)), (aG, .inl (cI, 5, .inl G0)), (hV, .inr (0, [.int bd2, .int sb2, .int nd2, .ref bS, .ref bC, .ref bG])), (bS, .inl (cI, 5, .inl S2)), (bC, .inl (cI, 5, .inl Cr2)), (bG, .inl (cI, 5, .inl G2))] := hD
      refine lv_iload hx hb dX1_paint_53 (lv_at hl 0 rfl) ?_
      rw [← hQ]
      exact zx_iret (W1 := (fun (_ : Unit) => [(h0, .inr (1, [.ref hM, .ref hV, .int wd, .int hg, .int wv])), (hM, .inr (0, [.int bd, .int sb, .int nd, .ref aS, .ref aC, .ref aG])), (aS, .inl (cI, 5, .inl (pDye S0 (pCell x0 y0) col))), (aC, .inl (cI, 5, .inl Cr)), (aG, .inl (cI, 5, .inl G0)), (hV, .inr (0, [.int bd2, .int sb2, .int nd2, .ref bS, .ref bC, .ref bG])), (bS, .inl (cI, 5, .inl S2)), (bC, .inl (cI, 5, .inl Cr2)), (bG, .inl (cI, 5, .inl G2))])) hx hb hr hlocks hP hS () (rfl) (⟨⟨z_if1 c_6, z_if1 c_13⟩, rfl⟩) dX1_paint_55
    · skip
      rw [← hQ]
      exact z_thr (cls := xIO) (text := "no such cell or colour") (ik := 51) (is := 53) (ic := 55) hx hb hst hown (by decide +kernel) (hts (.classLink RX1 51 "java/lang/IndexOutOfBoundsException") (List.mem_of_getElem? (i := 1) rfl)) (hts (.initialized "java/lang/IndexOutOfBoundsException") (List.mem_of_getElem? (i := 2) rfl)) (by decide +kernel) (fun w h => hts w (List.mem_cons_of_mem _ (List.mem_append_right _ h))) z_bad55 z_good55 hE.2.2.2.1.2.1 hE hP hS (by rw [hml]; exact hl.1) dX1_paint_16 dX1_paint_19 dX1_paint_20 dX1_paint_22 dX1_paint_25 htab (Nat.le_of_ble_eq_true rfl) (Nat.le_of_ble_eq_true rfl) (Nat.le_of_ble_eq_true rfl) (Nat.le_of_ble_eq_true rfl) hlocks (⟨rfl, fun q => z_if0 c_13 q.2⟩)
abbrev rmX1_turnStubborn : Room := { frames := 6, cells := 1, slots := 6, locals := 90 }
set_option maxRecDepth 20000 in
theorem iX1_turnStubborn_X0 : ∀ w ∈ wsX00, w ∈ wsX1_turnStubborn := fun w h => (goodIn_r (big := wsX1_turnStubborn) wsX00 [20, 21, 22, 23, 24, 25] (by decide +kernel) (by decide +kernel) w h).1
set_option maxRecDepth 20000 in
theorem iX1_turnStubborn_X1 : ∀ w ∈ wsX10, w ∈ wsX1_turnStubborn := fun w h => (goodIn_r (big := wsX1_turnStubborn) wsX10 [15, 16, 17, 18, 19] (by decide +kernel) (by decide +kernel) w h).1
set_option maxHeartbeats 4000000 in
set_option maxRecDepth 100000 in
theorem m_X1_turnStubborn (l : Launch) (dC : Nat → ClassId) (dI : Nat → Nat → Nat) (cI cZ cJ cD : ClassId) (hst : l.stackTraces = false) (ad : Nat → Nat) (h0 : Nat) (hM : Nat) (aS : Nat) (aC : Nat) (aG : Nat) (hV : Nat) (bS : Nat) (bC : Nat) (bG : Nat) (wd : Int32) (hg : Int32) (wv : Int32) (bd : Int32) (sb : Int32) (nd : Int32) (S0 : Nat → Int32) (Cr : Nat → Int32) (G0 : Nat → Int32) (bd2 : Int32) (sb2 : Int32) (nd2 : Int32) (S2 : Nat → Int32) (Cr2 : Nat → Int32) (G2 : Nat → Int32) (x0 : Int32) (y0 : Int32)  : zXI l (dC, dI) (wT cI cZ cJ cD) ad yX1_turnStubborn wsX1_turnStubborn rmX1_turnStubborn [(h0, .inr (1, [.ref hM, .ref hV, .int wd, .int hg, .int wv])), (hM, .inr (0, [.int bd, .int sb, .int nd, .ref aS, .ref aC, .ref aG])), (aS, .inl (cI, 5, .inl S0)), (aC, .inl (cI, 5, .inl Cr)), (aG, .inl (cI, 5, .inl G0)), (hV, .inr (0, [.int bd2, .int sb2, .int nd2, .ref bS, .ref bC, .ref bG])), (bS, .inl (cI, 5, .inl S2)), (bC, .inl (cI, 5, .inl Cr2)), (bG, .inl (cI, 5, .inl G2))] [.ref h0, .int x0, .int y0] (fun (_ : Unit) => [(h0, .inr (1, [.ref hM, .ref hV, .int wd, .int hg, .int wv])), (hM, .inr (0, [.int bd, .int (sb ^^^ pCell x0 y0), .int nd, .ref aS, .ref aC, .ref aG])), (aS, .inl (cI, 5, .inl S0)), (aC, .inl (cI, 5, .inl Cr)), (aG, .inl (cI, 5, .inl G0)), (hV, .inr (0, [.int bd2, .int sb2, .int nd2, .ref bS, .ref bC, .ref bG])), (bS, .inl (cI, 5, .inl S2)), (bC, .inl (cI, 5, .inl Cr2)), (bG, .inl (cI, 5, .inl G2))]) (fun (r : Int32) (_ : Unit) => (pOn x0 y0 wd hg) ∧ r = if (sb ^^^ pCell x0 y0) &&& pCell x0 y0 = 0 then 0 else 1) (fun E => E = xIO ∧ ¬ (pOn x0 y0 wd hg)) := by
  intro sz
  refine vx_ofW (cc := cX1_turnStubborn) (maxL := 3) (ret := (some .boolean)) (by decide) rfl ?_
  intro p e s m args below meth c s₁ B hml htab hv
  obtain ⟨ha, hsz, hP, hK, hD0, hE⟩ := hv
  have hx := B.exec
  have hb := B.bytes
  have hr := B.returns
  have hts := atoms_spec (ws := wsX1_turnStubborn) B.pre
  have hown : s.vm.findClass RX1 = some m.cls := findClass_of_methodNamed B.named
  have hlocks := B.notSynchronized
  subst hsz
  have hD := hD0.self (sz := s.heap.size)
  generalize hAe : va_A [(h0, .inr (1, [.ref hM, .ref hV, .int wd, .int hg, .int wv])), (hM, .inr (0, [.int bd, .int sb, .int nd, .ref aS, .ref aC, .ref aG])), (aS, .inl (cI, 5, .inl S0)), (aC, .inl (cI, 5, .inl Cr)), (aG, .inl (cI, 5, .inl G0)), (hV, .inr (0, [.int bd2, .int sb2, .int nd2, .ref bS, .ref bC, .ref bG])), (bS, .inl (cI, 5, .inl S2)), (bC, .inl (cI, 5, .inl Cr2)), (bG, .inl (cI, 5, .inl G2))] s.heap.size = A at hD hE ⊢
  have hN := hE.1
  have hA : ∀ q : Nat, s.heap.size ≤ q → A q := fun q h => by rw [← hAe]; exact Or.inr h
  have hS : va_S A s.heap s.heap [] := va_S.rf
  generalize hQ : vx_MQ below (va_Qi (fun (r : Int32) (_ : Unit) => (pOn x0 y0 wd hg) ∧ r = if (sb ^^^ pCell x0 y0) &&& pCell x0 y0 = 0 then 0 else 1) (fun u t => va_P (dC, dI) vwCl ((fun (_ : Unit) => [(h0, .inr (1, [.ref hM, .ref hV, .int wd, .int hg, .int wv])), (hM, .inr (0, [.int bd, .int (sb ^^^ pCell x0 y0), .int nd, .ref aS, .ref aC, .ref aG])), (aS, .inl (cI, 5, .inl S0)), (aC, .inl (cI, 5, .inl Cr)), (aG, .inl (cI, 5, .inl G0)), (hV, .inr (0, [.int bd2, .int sb2, .int nd2, .ref bS, .ref bC, .ref bG])), (bS, .inl (cI, 5, .inl S2)), (bC, .inl (cI, 5, .inl Cr2)), (bG, .inl (cI, 5, .inl G2))]) u) t.heap) A) (zX (fun E => E = xIO ∧ ¬ (pOn x0 y0 wd hg)) (dC, dI) [(h0, .inr (1, [.ref hM, .ref hV, .int wd, .int hg, .int wv])), (hM, .inr (0, [.int bd, .int sb, .int nd, .ref aS, .ref aC, .ref aG])), (aS, .inl (cI, 5, .inl S0)), (aC, .inl (cI, 5, .inl Cr)), (aG, .inl (cI, 5, .inl G0)), (hV, .inr (0, [.int bd2, .int sb2, .int nd2, .ref bS, .ref bC, .ref bG])), (bS, .inl (cI, 5, .inl S2)), (bC, .inl (cI, 5, .inl Cr2)), (bG, .inl (cI, 5, .inl G2))] A) args s 1 6 A = Q
  have F9 : CallFix p m c cX1_turnStubborn 3 s args wsX1_turnStubborn RX1 := ⟨hx, hb, hml, hown, hts⟩
  refine z_entry (R := rmX1_turnStubborn) ha (Nat.le_of_ble_eq_true rfl) (fun ls hl => ?_)
  have hl : lv_has ls 3 [(0, .ref h0), (1, .int x0), (2, .int y0)] := hl
  refine lv_aload_n hx hb dX1_turnStubborn_0 rfl (lv_at hl 0 rfl) ?_
  refine lv_iload_n hx hb dX1_turnStubborn_1 rfl (lv_at hl 1 rfl) ?_
  refine lv_iload_n hx hb dX1_turnStubborn_2 rfl (lv_at hl 2 rfl) ?_
  refine z_callVi (As := [.int x0, .int y0]) (rest := []) F9 (m_X1_isOnMap l dC dI cI cZ cJ cD h0 hM aS aC aG hV bS bC bG wd hg wv bd sb nd S0 Cr G0 bd2 sb2 nd2 S2 Cr2 G2 x0 y0 ) (cwV 2 hts gX1_turnStubborn_X1_isOnMap rfl rfl rfl (by decide +kernel) ⟨Nat.le_of_ble_eq_true rfl, Nat.le_of_ble_eq_true rfl⟩) hK hN hP hD hS hA [0, 1, 2, 3, 4, 5, 6, 7, 8] rfl rfl (fun _ => rfl) 0 (ci := 1) rfl rfl rfl rfl hl.1 rfl (Nat.le_of_ble_eq_true rfl) dX1_turnStubborn_3 ⟨Nat.zero_le _, Nat.zero_le _⟩ (fun r_1 u H locs hp_3 hP hD hS => ?_)
  have hP : va_P (dC, dI) vwCl [(h0, .inr (1, [.ref hM, .ref hV, .int wd, .int hg, .int wv])), (hM, .inr (0, [.int bd, .int sb, .int nd, .ref aS, .ref aC, .ref aG])), (aS, .inl (cI, 5, .inl S0)), (aC, .inl (cI, 5, .inl Cr)), (aG, .inl (cI, 5, .inl G0)), (hV, .inr (0, [.int bd2, .int sb2, .int nd2, .ref bS, .ref bC, .ref bG])), (bS, .inl (cI, 5, .inl S2)), (bC, .inl (cI, 5, .inl Cr2)), (bG, .inl (cI, 5, .inl G2))] H := hP
  have hD : va_D A [(h0, .inr (1, [.ref hM, .ref hV, .int wd, .int hg, .int wv])), (hM, .inr (0, [.int bd, .int sb, .int nd, .ref aS, .ref aC, .ref aG])), (aS, .inl (cI, 5, .inl S0)), (aC, .inl (cI, 5, .inl Cr)), (aG, .inl (cI, 5, .inl G0)), (hV, .inr (0, [.int bd2, .int sb2, .int nd2, .ref bS, .ref bC, .ref bG])), (bS, .inl (cI, 5, .inl S2)), (bC, .inl (cI, 5, .inl Cr2)), (bG, .inl (cI, 5, .inl G2))] := hD
  have hp_3 : r_1 = if pOn x0 y0 wd hg then 1 else 0 := hp_3
  refine z_topi (y := if pOn x0 y0 wd hg then 1 else 0) hp_3 ?_
  refine lv_if_ne (tgt := 19) hx hb dX1_turnStubborn_6 (by decide) (fun c_6 => ?_) (fun c_6 => ?_)
  · skip
    refine lv_aload_n hx hb dX1_turnStubborn_19 rfl (lv_at hl 0 rfl) ?_
    refine va_get (D := (dC, dI)) (ci := 1) (v := .ref hM) (C := RX1) (T := TX1) (N := 5) hx hb hts iX1_turnStubborn_X1 hown hK hP 0 rfl rfl 0 (by decide) (hts (.fieldLink RX1 12 "ColourTide" "map" "LColourTide$Tide;") (List.mem_of_getElem? (i := 3) rfl)) (fun _ h9 => h9) rfl dX1_turnStubborn_20 ?_
    refine lv_dup hx hb dX1_turnStubborn_23 rfl ?_
    refine va_get (D := (dC, dI)) (ci := 0) (v := .int sb) (C := RX0) (T := TX0) (N := 6) hx hb hts iX1_turnStubborn_X0 hown hK hP 1 rfl rfl 1 (by decide) (hts (.fieldLink RX1 69 "ColourTide$Tide" "stubborn" "I") (List.mem_of_getElem? (i := 4) rfl)) (fun _ h9 => h9) rfl dX1_turnStubborn_24 ?_
    refine lv_iload_n hx hb dX1_turnStubborn_27 rfl (lv_at hl 1 rfl) ?_
    refine lv_iload_n hx hb dX1_turnStubborn_28 rfl (lv_at hl 2 rfl) ?_
    refine z_callSi (As := [.int x0, .int y0]) (rest := [.int sb, .ref hM]) F9 (m_X1_cell l dC dI cI cZ cJ cD x0 y0 ) (va_cwS 2 hts gX1_turnStubborn_X1_cell rfl rfl rfl (by decide +kernel) ⟨Nat.le_of_ble_eq_true rfl, Nat.le_of_ble_eq_true rfl⟩) hK hN hP hD hS hA rfl hl.1 rfl (Nat.le_of_ble_eq_true rfl) dX1_turnStubborn_29 ⟨Nat.zero_le _, Nat.zero_le _⟩ (fun r_2 H locs hp_29 hP hS => ?_)
    have hp_29 : r_2 = pCell x0 y0 := hp_29
    refine z_topi (y := pCell x0 y0) hp_29 ?_
    refine lv_ixor hx hb dX1_turnStubborn_32 ?_
    refine va_put (D := (dC, dI)) (ci := 0) (v := .int (sb ^^^ (pCell x0 y0))) (ty := .int) (C := RX0) (T := TX0) (N := 6) hx hb hts iX1_turnStubborn_X0 tyX0 tyX0_ok nmX0 hown hK hP hD hS 1 rfl rfl 1 (by decide) (hts (.fieldLink RX1 69 "ColourTide$Tide" "stubborn" "I") (List.mem_of_getElem? (i := 4) rfl)) (fun _ h9 => h9) rfl (by decide +kernel) rfl rfl (Nat.le_of_ble_eq_true rfl) dX1_turnStubborn_33 (fun H locs hP hD hS => ?_)
    have hP : va_P (dC, dI) vwCl [(h0, .inr (1, [.ref hM, .ref hV, .int wd, .int hg, .int wv])), (hM, .inr (0, [.int bd, .int (sb ^^^ (pCell x0 y0)), .int nd, .ref aS, .ref aC, .ref aG])), (aS, .inl (cI, 5, .inl S0)), (aC, .inl (cI, 5, .inl Cr)), (aG, .inl (cI, 5, .inl G0)), (hV, .inr (0, [.int bd2, .int sb2, .int nd2, .ref bS, .ref bC, .ref bG])), (bS, .inl (cI, 5, .inl S2)), (bC, .inl (cI, 5, .inl Cr2)), (bG, .inl (cI, 5, .inl G2))] H := hP
    have hD : va_D A [(h0, .inr (1, [.ref hM, .ref hV, .int wd, .int hg, .int wv])), (hM, .inr (0, [.int bd, .int (sb ^^^ (pCell x0 y0)), .int nd, .ref aS, .ref aC, .ref aG])), (aS, .inl (cI, 5, .inl S0)), (aC, .inl (cI, 5, .inl Cr)), (aG, .inl (cI, 5, .inl G0)), (hV, .inr (0, [.int bd2, .int sb2, .int nd2, .ref bS, .ref bC, .ref bG])), (bS, .inl (cI, 5, .inl S2)), (bC, .inl (cI, 5, .inl Cr2)), (bG, .inl (cI, 5, .inl G2))] := hD
    refine lv_aload_n hx hb dX1_turnStubborn_36 rfl (lv_at hl 0 rfl) ?_
    refine va_get (D := (dC, dI)) (ci := 1) (v := .ref hM) (C := RX1) (T := TX1) (N := 5) hx hb hts iX1_turnStubborn_X1 hown hK hP 0 rfl rfl 0 (by decide) (hts (.fieldLink RX1 12 "ColourTide" "map" "LColourTide$Tide;") (List.mem_of_getElem? (i := 3) rfl)) (fun _ h9 => h9) rfl dX1_turnStubborn_37 ?_
    refine va_get (D := (dC, dI)) (ci := 0) (v := .int (sb ^^^ (pCell x0 y0))) (C := RX0) (T := TX0) (N := 6) hx hb hts iX1_turnStubborn_X0 hown hK hP 1 rfl rfl 1 (by decide) (hts (.fieldLink RX1 69 "ColourTide$Tide" "stubborn" "I") (List.mem_of_getElem? (i := 4) rfl)) (fun _ h9 => h9) rfl dX1_turnStubborn_40 ?_
    refine lv_iload_n hx hb dX1_turnStubborn_43 rfl (lv_at hl 1 rfl) ?_
    refine lv_iload_n hx hb dX1_turnStubborn_44 rfl (lv_at hl 2 rfl) ?_
    refine z_callSi (As := [.int x0, .int y0]) (rest := [.int (sb ^^^ (pCell x0 y0))]) F9 (m_X1_cell l dC dI cI cZ cJ cD x0 y0 ) (va_cwS 2 hts gX1_turnStubborn_X1_cell rfl rfl rfl (by decide +kernel) ⟨Nat.le_of_ble_eq_true rfl, Nat.le_of_ble_eq_true rfl⟩) hK hN hP hD hS hA rfl hl.1 rfl (Nat.le_of_ble_eq_true rfl) dX1_turnStubborn_45 ⟨Nat.zero_le _, Nat.zero_le _⟩ (fun r_3 H locs hp_45 hP hS => ?_)
    have hp_45 : r_3 = pCell x0 y0 := hp_45
    refine z_topi (y := pCell x0 y0) hp_45 ?_
    refine lv_iand hx hb dX1_turnStubborn_48 ?_
    refine lv_if_eq (tgt := 56) hx hb dX1_turnStubborn_49 (by decide) (fun c_49 => ?_) (fun c_49 => ?_)
    · skip
      refine lv_iconst (v := 0) hx hb dX1_turnStubborn_56 (by decide) ?_
      rw [← hQ]
      exact zx_zret (W1 := (fun (_ : Unit) => [(h0, .inr (1, [.ref hM, .ref hV, .int wd, .int hg, .int wv])), (hM, .inr (0, [.int bd, .int (sb ^^^ pCell x0 y0), .int nd, .ref aS, .ref aC, .ref aG])), (aS, .inl (cI, 5, .inl S0)), (aC, .inl (cI, 5, .inl Cr)), (aG, .inl (cI, 5, .inl G0)), (hV, .inr (0, [.int bd2, .int sb2, .int nd2, .ref bS, .ref bC, .ref bG])), (bS, .inl (cI, 5, .inl S2)), (bC, .inl (cI, 5, .inl Cr2)), (bG, .inl (cI, 5, .inl G2))])) hx hb hr hlocks (by decide +kernel) hP hS () (rfl) (⟨z_if1 c_6, by rw [if_pos c_49]⟩) dX1_turnStubborn_57
    · skip
      refine lv_iconst (v := 1) hx hb dX1_turnStubborn_52 (by decide) ?_
      refine lv_goto (tgt := 57) hx hb dX1_turnStubborn_53 (by decide) ?_
      rw [← hQ]
      exact zx_zret (W1 := (fun (_ : Unit) => [(h0, .inr (1, [.ref hM, .ref hV, .int wd, .int hg, .int wv])), (hM, .inr (0, [.int bd, .int (sb ^^^ pCell x0 y0), .int nd, .ref aS, .ref aC, .ref aG])), (aS, .inl (cI, 5, .inl S0)), (aC, .inl (cI, 5, .inl Cr)), (aG, .inl (cI, 5, .inl G0)), (hV, .inr (0, [.int bd2, .int sb2, .int nd2, .ref bS, .ref bC, .ref bG])), (bS, .inl (cI, 5, .inl S2)), (bC, .inl (cI, 5, .inl Cr2)), (bG, .inl (cI, 5, .inl G2))])) hx hb hr hlocks (by decide +kernel) hP hS () (rfl) (⟨z_if1 c_6, by rw [if_neg c_49]⟩) dX1_turnStubborn_57
  · skip
    rw [← hQ]
    exact z_thr (cls := xIO) (text := "no such cell") (ik := 51) (is := 67) (ic := 55) hx hb hst hown (by decide +kernel) (hts (.classLink RX1 51 "java/lang/IndexOutOfBoundsException") (List.mem_of_getElem? (i := 1) rfl)) (hts (.initialized "java/lang/IndexOutOfBoundsException") (List.mem_of_getElem? (i := 2) rfl)) (by decide +kernel) (fun w h => hts w (List.mem_cons_of_mem _ (List.mem_append_right _ h))) z_bad55 z_good55 hE.2.2.2.1.2.1 hE hP hS (by rw [hml]; exact hl.1) dX1_turnStubborn_9 dX1_turnStubborn_12 dX1_turnStubborn_13 dX1_turnStubborn_15 dX1_turnStubborn_18 htab (Nat.le_of_ble_eq_true rfl) (Nat.le_of_ble_eq_true rfl) (Nat.le_of_ble_eq_true rfl) (Nat.le_of_ble_eq_true rfl) hlocks (⟨rfl, fun q => z_if0 c_6 q⟩)
abbrev rmX1_setNeed : Room := { frames := 6, cells := 1, slots := 6, locals := 90 }
set_option maxRecDepth 20000 in
theorem iX1_setNeed_X0 : ∀ w ∈ wsX00, w ∈ wsX1_setNeed := fun w h => (goodIn_r (big := wsX1_setNeed) wsX00 [10, 11, 12, 13, 14, 15] (by decide +kernel) (by decide +kernel) w h).1
set_option maxRecDepth 20000 in
theorem iX1_setNeed_X1 : ∀ w ∈ wsX10, w ∈ wsX1_setNeed := fun w h => (goodIn_r (big := wsX1_setNeed) wsX10 [5, 6, 7, 8, 9] (by decide +kernel) (by decide +kernel) w h).1
set_option maxHeartbeats 4000000 in
set_option maxRecDepth 100000 in
theorem m_X1_setNeed (l : Launch) (dC : Nat → ClassId) (dI : Nat → Nat → Nat) (cI cZ cJ cD : ClassId) (hst : l.stackTraces = false) (ad : Nat → Nat) (h0 : Nat) (hM : Nat) (aS : Nat) (aC : Nat) (aG : Nat) (hV : Nat) (bS : Nat) (bC : Nat) (bG : Nat) (wd : Int32) (hg : Int32) (wv : Int32) (bd : Int32) (sb : Int32) (nd : Int32) (S0 : Nat → Int32) (Cr : Nat → Int32) (G0 : Nat → Int32) (bd2 : Int32) (sb2 : Int32) (nd2 : Int32) (S2 : Nat → Int32) (Cr2 : Nat → Int32) (G2 : Nat → Int32) (x0 : Int32)  : zXI l (dC, dI) (wT cI cZ cJ cD) ad yX1_setNeed wsX1_setNeed rmX1_setNeed [(h0, .inr (1, [.ref hM, .ref hV, .int wd, .int hg, .int wv])), (hM, .inr (0, [.int bd, .int sb, .int nd, .ref aS, .ref aC, .ref aG])), (aS, .inl (cI, 5, .inl S0)), (aC, .inl (cI, 5, .inl Cr)), (aG, .inl (cI, 5, .inl G0)), (hV, .inr (0, [.int bd2, .int sb2, .int nd2, .ref bS, .ref bC, .ref bG])), (bS, .inl (cI, 5, .inl S2)), (bC, .inl (cI, 5, .inl Cr2)), (bG, .inl (cI, 5, .inl G2))] [.ref h0, .int x0] (fun (_ : Unit) => [(h0, .inr (1, [.ref hM, .ref hV, .int wd, .int hg, .int wv])), (hM, .inr (0, [.int bd, .int sb, .int x0, .ref aS, .ref aC, .ref aG])), (aS, .inl (cI, 5, .inl S0)), (aC, .inl (cI, 5, .inl Cr)), (aG, .inl (cI, 5, .inl G0)), (hV, .inr (0, [.int bd2, .int sb2, .int nd2, .ref bS, .ref bC, .ref bG])), (bS, .inl (cI, 5, .inl S2)), (bC, .inl (cI, 5, .inl Cr2)), (bG, .inl (cI, 5, .inl G2))]) (fun (r : Int32) (_ : Unit) => (¬ x0 < 1 ∧ x0 ≤ 4) ∧ r = nd) (fun E => E = xIA ∧ ¬ (¬ x0 < 1 ∧ x0 ≤ 4)) := by
  intro sz
  refine vx_ofW (cc := cX1_setNeed) (maxL := 3) (ret := (some .int)) (by decide) rfl ?_
  intro p e s m args below meth c s₁ B hml htab hv
  obtain ⟨ha, hsz, hP, hK, hD0, hE⟩ := hv
  have hx := B.exec
  have hb := B.bytes
  have hr := B.returns
  have hts := atoms_spec (ws := wsX1_setNeed) B.pre
  have hown : s.vm.findClass RX1 = some m.cls := findClass_of_methodNamed B.named
  have hlocks := B.notSynchronized
  subst hsz
  have hD := hD0.self (sz := s.heap.size)
  generalize hAe : va_A [(h0, .inr (1, [.ref hM, .ref hV, .int wd, .int hg, .int wv])), (hM, .inr (0, [.int bd, .int sb, .int nd, .ref aS, .ref aC, .ref aG])), (aS, .inl (cI, 5, .inl S0)), (aC, .inl (cI, 5, .inl Cr)), (aG, .inl (cI, 5, .inl G0)), (hV, .inr (0, [.int bd2, .int sb2, .int nd2, .ref bS, .ref bC, .ref bG])), (bS, .inl (cI, 5, .inl S2)), (bC, .inl (cI, 5, .inl Cr2)), (bG, .inl (cI, 5, .inl G2))] s.heap.size = A at hD hE ⊢
  have hN := hE.1
  have hA : ∀ q : Nat, s.heap.size ≤ q → A q := fun q h => by rw [← hAe]; exact Or.inr h
  have hS : va_S A s.heap s.heap [] := va_S.rf
  generalize hQ : vx_MQ below (va_Qi (fun (r : Int32) (_ : Unit) => (¬ x0 < 1 ∧ x0 ≤ 4) ∧ r = nd) (fun u t => va_P (dC, dI) vwCl ((fun (_ : Unit) => [(h0, .inr (1, [.ref hM, .ref hV, .int wd, .int hg, .int wv])), (hM, .inr (0, [.int bd, .int sb, .int x0, .ref aS, .ref aC, .ref aG])), (aS, .inl (cI, 5, .inl S0)), (aC, .inl (cI, 5, .inl Cr)), (aG, .inl (cI, 5, .inl G0)), (hV, .inr (0, [.int bd2, .int sb2, .int nd2, .ref bS, .ref bC, .ref bG])), (bS, .inl (cI, 5, .inl S2)), (bC, .inl (cI, 5, .inl Cr2)), (bG, .inl (cI, 5, .inl G2))]) u) t.heap) A) (zX (fun E => E = xIA ∧ ¬ (¬ x0 < 1 ∧ x0 ≤ 4)) (dC, dI) [(h0, .inr (1, [.ref hM, .ref hV, .int wd, .int hg, .int wv])), (hM, .inr (0, [.int bd, .int sb, .int nd, .ref aS, .ref aC, .ref aG])), (aS, .inl (cI, 5, .inl S0)), (aC, .inl (cI, 5, .inl Cr)), (aG, .inl (cI, 5, .inl G0)), (hV, .inr (0, [.int bd2, .int sb2, .int nd2, .ref bS, .ref bC, .ref bG])), (bS, .inl (cI, 5, .inl S2)), (bC, .inl (cI, 5, .inl Cr2)), (bG, .inl (cI, 5, .inl G2))] A) args s 1 6 A = Q
  have F9 : CallFix p m c cX1_setNeed 3 s args wsX1_setNeed RX1 := ⟨hx, hb, hml, hown, hts⟩
  refine z_entry (R := rmX1_setNeed) ha (Nat.le_of_ble_eq_true rfl) (fun ls hl => ?_)
  have hl : lv_has ls 3 [(0, .ref h0), (1, .int x0)] := hl
  refine lv_iload_n hx hb dX1_setNeed_0 rfl (lv_at hl 1 rfl) ?_
  refine lv_iconst (v := 1) hx hb dX1_setNeed_1 (by decide) ?_
  refine lv_icmp_lt (tgt := 10) hx hb dX1_setNeed_2 (by decide) (fun c_2 => ?_) (fun c_2 => ?_)
  · skip
    rw [← hQ]
    exact z_thr (cls := xIA) (text := "the need is 1 to 4") (ik := 37) (is := 72) (ic := 41) hx hb hst hown (by decide +kernel) (hts (.classLink RX1 37 "java/lang/IllegalArgumentException") (List.mem_of_getElem? (i := 1) rfl)) (hts (.initialized "java/lang/IllegalArgumentException") (List.mem_of_getElem? (i := 2) rfl)) (by decide +kernel) (fun w h => hts w (List.mem_cons_of_mem _ (List.mem_append_right _ h))) z_bad41 z_good41 hE.2.2.2.1.1 hE hP hS (by rw [hml]; exact hl.1) dX1_setNeed_10 dX1_setNeed_13 dX1_setNeed_14 dX1_setNeed_16 dX1_setNeed_19 htab (Nat.le_of_ble_eq_true rfl) (Nat.le_of_ble_eq_true rfl) (Nat.le_of_ble_eq_true rfl) (Nat.le_of_ble_eq_true rfl) hlocks (⟨rfl, fun q => q.1 c_2⟩)
  · skip
    refine lv_iload_n hx hb dX1_setNeed_5 rfl (lv_at hl 1 rfl) ?_
    refine lv_iconst (v := 4) hx hb dX1_setNeed_6 (by decide) ?_
    refine lv_icmp_le (tgt := 20) hx hb dX1_setNeed_7 (by decide) (fun c_7 => ?_) (fun c_7 => ?_)
    · skip
      refine lv_aload_n hx hb dX1_setNeed_20 rfl (lv_at hl 0 rfl) ?_
      refine va_get (D := (dC, dI)) (ci := 1) (v := .ref hM) (C := RX1) (T := TX1) (N := 5) hx hb hts iX1_setNeed_X1 hown hK hP 0 rfl rfl 0 (by decide) (hts (.fieldLink RX1 12 "ColourTide" "map" "LColourTide$Tide;") (List.mem_of_getElem? (i := 3) rfl)) (fun _ h9 => h9) rfl dX1_setNeed_21 ?_
      refine va_get (D := (dC, dI)) (ci := 0) (v := .int nd) (C := RX0) (T := TX0) (N := 6) hx hb hts iX1_setNeed_X0 hown hK hP 1 rfl rfl 2 (by decide) (hts (.fieldLink RX1 74 "ColourTide$Tide" "need" "I") (List.mem_of_getElem? (i := 4) rfl)) (fun _ h9 => h9) rfl dX1_setNeed_24 ?_
      refine lv_istore_n (lv' := [(2, .int nd), (0, .ref h0), (1, .int x0)]) hx hb dX1_setNeed_27 rfl hl (by decide) rfl (fun ls hl => ?_)
      refine lv_aload_n hx hb dX1_setNeed_28 rfl (lv_at hl 1 rfl) ?_
      refine va_get (D := (dC, dI)) (ci := 1) (v := .ref hM) (C := RX1) (T := TX1) (N := 5) hx hb hts iX1_setNeed_X1 hown hK hP 0 rfl rfl 0 (by decide) (hts (.fieldLink RX1 12 "ColourTide" "map" "LColourTide$Tide;") (List.mem_of_getElem? (i := 3) rfl)) (fun _ h9 => h9) rfl dX1_setNeed_29 ?_
      refine lv_iload_n hx hb dX1_setNeed_32 rfl (lv_at hl 2 rfl) ?_
      refine va_put (D := (dC, dI)) (ci := 0) (v := .int x0) (ty := .int) (C := RX0) (T := TX0) (N := 6) hx hb hts iX1_setNeed_X0 tyX0 tyX0_ok nmX0 hown hK hP hD hS 1 rfl rfl 2 (by decide) (hts (.fieldLink RX1 74 "ColourTide$Tide" "need" "I") (List.mem_of_getElem? (i := 4) rfl)) (fun _ h9 => h9) rfl (by decide +kernel) rfl rfl (Nat.le_of_ble_eq_true rfl) dX1_setNeed_33 (fun H locs hP hD hS => ?_)
      have hP : va_P (dC, dI) vwCl [(h0, .inr (1, [.ref hM, .ref hV, .int wd, .int hg, .int wv])), (hM, .inr (0, [.int bd, .int sb, .int x0, .ref aS, .ref aC, .ref aG])), (aS, .inl (cI, 5, .inl S0)), (aC, .inl (cI, 5, .inl Cr)), (aG, .inl (cI, 5, .inl G0)), (hV, .inr (0, [.int bd2, .int sb2, .int nd2, .ref bS, .ref bC, .ref bG])), (bS, .inl (cI, 5, .inl S2)), (bC, .inl (cI, 5, .inl Cr2)), (bG, .inl (cI, 5, .inl G2))] H := hP
      have hD : va_D A [(h0, .inr (1, [.ref hM, .ref hV, .int wd, .int hg, .int wv])), (hM, .inr (0, [.int bd, .int sb, .int x0, .ref aS, .ref aC, .ref aG])), (aS, .inl (cI, 5, .inl S0)), (aC, .inl (cI, 5, .inl Cr)), (aG, .inl (cI, 5, .inl G0)), (hV, .inr (0, [.int bd2, .int sb2, .int nd2, .ref bS, .ref bC, .ref bG])), (bS, .inl (cI, 5, .inl S2)), (bC, .inl (cI, 5, .inl Cr2)), (bG, .inl (cI, 5, .inl G2))] := hD
      refine lv_iload_n hx hb dX1_setNeed_36 rfl (lv_at hl 0 rfl) ?_
      rw [← hQ]
      exact zx_iret (W1 := (fun (_ : Unit) => [(h0, .inr (1, [.ref hM, .ref hV, .int wd, .int hg, .int wv])), (hM, .inr (0, [.int bd, .int sb, .int x0, .ref aS, .ref aC, .ref aG])), (aS, .inl (cI, 5, .inl S0)), (aC, .inl (cI, 5, .inl Cr)), (aG, .inl (cI, 5, .inl G0)), (hV, .inr (0, [.int bd2, .int sb2, .int nd2, .ref bS, .ref bC, .ref bG])), (bS, .inl (cI, 5, .inl S2)), (bC, .inl (cI, 5, .inl Cr2)), (bG, .inl (cI, 5, .inl G2))])) hx hb hr hlocks hP hS () (rfl) (⟨⟨c_2, c_7⟩, rfl⟩) dX1_setNeed_37
    · skip
      rw [← hQ]
      exact z_thr (cls := xIA) (text := "the need is 1 to 4") (ik := 37) (is := 72) (ic := 41) hx hb hst hown (by decide +kernel) (hts (.classLink RX1 37 "java/lang/IllegalArgumentException") (List.mem_of_getElem? (i := 1) rfl)) (hts (.initialized "java/lang/IllegalArgumentException") (List.mem_of_getElem? (i := 2) rfl)) (by decide +kernel) (fun w h => hts w (List.mem_cons_of_mem _ (List.mem_append_right _ h))) z_bad41 z_good41 hE.2.2.2.1.1 hE hP hS (by rw [hml]; exact hl.1) dX1_setNeed_10 dX1_setNeed_13 dX1_setNeed_14 dX1_setNeed_16 dX1_setNeed_19 htab (Nat.le_of_ble_eq_true rfl) (Nat.le_of_ble_eq_true rfl) (Nat.le_of_ble_eq_true rfl) (Nat.le_of_ble_eq_true rfl) hlocks (⟨rfl, fun q => c_7 q.2⟩)
abbrev rmX1_pass : Room := { frames := 6, cells := 1, slots := 6, locals := 94 }
set_option maxRecDepth 20000 in
theorem iX1_pass_X0 : ∀ w ∈ wsX00, w ∈ wsX1_pass := fun w h => (goodIn_r (big := wsX1_pass) wsX00 [43, 44, 45, 46, 47, 48] (by decide +kernel) (by decide +kernel) w h).1
set_option maxRecDepth 20000 in
theorem iX1_pass_X1 : ∀ w ∈ wsX10, w ∈ wsX1_pass := fun w h => (goodIn_r (big := wsX1_pass) wsX10 [38, 39, 40, 41, 42] (by decide +kernel) (by decide +kernel) w h).1
set_option maxHeartbeats 4000000 in
set_option maxRecDepth 100000 in
theorem m_X1_pass (l : Launch) (dC : Nat → ClassId) (dI : Nat → Nat → Nat) (cI cZ cJ cD : ClassId) (hst : l.stackTraces = false) (ad : Nat → Nat) (h0 : Nat) (hM : Nat) (aS : Nat) (aC : Nat) (aG : Nat) (hV : Nat) (bS : Nat) (bC : Nat) (bG : Nat) (wd : Int32) (hg : Int32) (wv : Int32) (bd : Int32) (sb : Int32) (nd : Int32) (S0 : Nat → Int32) (Cr : Nat → Int32) (G0 : Nat → Int32) (bd2 : Int32) (sb2 : Int32) (nd2 : Int32) (S2 : Nat → Int32) (Cr2 : Nat → Int32) (G2 : Nat → Int32) (q0 : Nat) (x0 : Int32) (hq : 1 ≤ q0 ∧ q0 ≤ 4) (hnd : nd = nI q0) : zXI l (dC, dI) (wT cI cZ cJ cD) ad yX1_pass wsX1_pass rmX1_pass [(h0, .inr (1, [.ref hM, .ref hV, .int wd, .int hg, .int wv])), (hM, .inr (0, [.int bd, .int sb, .int nd, .ref aS, .ref aC, .ref aG])), (aS, .inl (cI, 5, .inl S0)), (aC, .inl (cI, 5, .inl Cr)), (aG, .inl (cI, 5, .inl G0)), (hV, .inr (0, [.int bd2, .int sb2, .int nd2, .ref bS, .ref bC, .ref bG])), (bS, .inl (cI, 5, .inl S2)), (bC, .inl (cI, 5, .inl Cr2)), (bG, .inl (cI, 5, .inl G2))] [.ref h0, .int x0] (fun (u : Nat × (Nat → Int32) × (Nat → Int32)) => [(h0, .inr (1, [.ref hM, .ref hV, .int wd, .int hg, .int (wv + x0)])), (hM, .inr (0, [.int bd, .int sb, .int nd, .ref aS, .ref aC, .ref aG])), (aS, .inl (cI, 5, .inl (pIt bd sb q0 S0 u.1))), (aC, .inl (cI, 5, .inl u.2.1)), (aG, .inl (cI, 5, .inl u.2.2)), (hV, .inr (0, [.int bd2, .int sb2, .int nd2, .ref bS, .ref bC, .ref bG])), (bS, .inl (cI, 5, .inl S2)), (bC, .inl (cI, 5, .inl Cr2)), (bG, .inl (cI, 5, .inl G2))]) (fun (r : Int32) (u : Nat × (Nat → Int32) × (Nat → Int32)) => (x0 = nI u.1 ∧ 1 ≤ u.1 ∧ u.1 ≤ 40) ∧ r = pBC (pLast bd sb q0 S0 u.1)) (fun E => E = xIA ∧ ¬ (¬ x0 < 1 ∧ x0 ≤ 40)) := by
  intro sz
  refine vx_ofW (cc := cX1_pass) (maxL := 2) (ret := (some .int)) (by decide) rfl ?_
  intro p e s m args below meth c s₁ B hml htab hv
  obtain ⟨ha, hsz, hP, hK, hD0, hE⟩ := hv
  have hx := B.exec
  have hb := B.bytes
  have hr := B.returns
  have hts := atoms_spec (ws := wsX1_pass) B.pre
  have hown : s.vm.findClass RX1 = some m.cls := findClass_of_methodNamed B.named
  have hlocks := B.notSynchronized
  subst hsz
  have hD := hD0.self (sz := s.heap.size)
  generalize hAe : va_A [(h0, .inr (1, [.ref hM, .ref hV, .int wd, .int hg, .int wv])), (hM, .inr (0, [.int bd, .int sb, .int nd, .ref aS, .ref aC, .ref aG])), (aS, .inl (cI, 5, .inl S0)), (aC, .inl (cI, 5, .inl Cr)), (aG, .inl (cI, 5, .inl G0)), (hV, .inr (0, [.int bd2, .int sb2, .int nd2, .ref bS, .ref bC, .ref bG])), (bS, .inl (cI, 5, .inl S2)), (bC, .inl (cI, 5, .inl Cr2)), (bG, .inl (cI, 5, .inl G2))] s.heap.size = A at hD hE ⊢
  have hN := hE.1
  have hA : ∀ q : Nat, s.heap.size ≤ q → A q := fun q h => by rw [← hAe]; exact Or.inr h
  have hS : va_S A s.heap s.heap [] := va_S.rf
  generalize hQ : vx_MQ below (va_Qi (fun (r : Int32) (u : Nat × (Nat → Int32) × (Nat → Int32)) => (x0 = nI u.1 ∧ 1 ≤ u.1 ∧ u.1 ≤ 40) ∧ r = pBC (pLast bd sb q0 S0 u.1)) (fun u t => va_P (dC, dI) vwCl ((fun (u : Nat × (Nat → Int32) × (Nat → Int32)) => [(h0, .inr (1, [.ref hM, .ref hV, .int wd, .int hg, .int (wv + x0)])), (hM, .inr (0, [.int bd, .int sb, .int nd, .ref aS, .ref aC, .ref aG])), (aS, .inl (cI, 5, .inl (pIt bd sb q0 S0 u.1))), (aC, .inl (cI, 5, .inl u.2.1)), (aG, .inl (cI, 5, .inl u.2.2)), (hV, .inr (0, [.int bd2, .int sb2, .int nd2, .ref bS, .ref bC, .ref bG])), (bS, .inl (cI, 5, .inl S2)), (bC, .inl (cI, 5, .inl Cr2)), (bG, .inl (cI, 5, .inl G2))]) u) t.heap) A) (zX (fun E => E = xIA ∧ ¬ (¬ x0 < 1 ∧ x0 ≤ 40)) (dC, dI) [(h0, .inr (1, [.ref hM, .ref hV, .int wd, .int hg, .int wv])), (hM, .inr (0, [.int bd, .int sb, .int nd, .ref aS, .ref aC, .ref aG])), (aS, .inl (cI, 5, .inl S0)), (aC, .inl (cI, 5, .inl Cr)), (aG, .inl (cI, 5, .inl G0)), (hV, .inr (0, [.int bd2, .int sb2, .int nd2, .ref bS, .ref bC, .ref bG])), (bS, .inl (cI, 5, .inl S2)), (bC, .inl (cI, 5, .inl Cr2)), (bG, .inl (cI, 5, .inl G2))] A) args s 1 6 A = Q
  have F9 : CallFix p m c cX1_pass 2 s args wsX1_pass RX1 := ⟨hx, hb, hml, hown, hts⟩
  refine z_entry (R := rmX1_pass) ha (Nat.le_of_ble_eq_true rfl) (fun ls hl => ?_)
  have hl : lv_has ls 2 [(0, .ref h0), (1, .int x0)] := hl
  refine lv_iload_n hx hb dX1_pass_0 rfl (lv_at hl 1 rfl) ?_
  refine lv_iconst (v := 1) hx hb dX1_pass_1 (by decide) ?_
  refine lv_icmp_lt (tgt := 11) hx hb dX1_pass_2 (by decide) (fun c_2 => ?_) (fun c_2 => ?_)
  · skip
    rw [← hQ]
    exact z_thr (cls := xIA) (text := "1 to 40 waves") (ik := 37) (is := 77) (ic := 41) hx hb hst hown (by decide +kernel) (hts (.classLink RX1 37 "java/lang/IllegalArgumentException") (List.mem_of_getElem? (i := 1) rfl)) (hts (.initialized "java/lang/IllegalArgumentException") (List.mem_of_getElem? (i := 2) rfl)) (by decide +kernel) (fun w h => hts w (List.mem_cons_of_mem _ (List.mem_append_right _ h))) z_bad41 z_good41 hE.2.2.2.1.1 hE hP hS (by rw [hml]; exact hl.1) dX1_pass_11 dX1_pass_14 dX1_pass_15 dX1_pass_17 dX1_pass_20 htab (Nat.le_of_ble_eq_true rfl) (Nat.le_of_ble_eq_true rfl) (Nat.le_of_ble_eq_true rfl) (Nat.le_of_ble_eq_true rfl) hlocks (⟨rfl, fun q => q.1 c_2⟩)
  · skip
    refine lv_iload_n hx hb dX1_pass_5 rfl (lv_at hl 1 rfl) ?_
    refine lv_bipush (v := 40) hx hb dX1_pass_6 (by decide +kernel) ?_
    refine lv_icmp_le (tgt := 21) hx hb dX1_pass_8 (by decide) (fun c_8 => ?_) (fun c_8 => ?_)
    · skip
      obtain ⟨nw, n1, n2, en⟩ := z_rng (N := 40) rfl (by decide) c_2 c_8
      refine lv_aload_n hx hb dX1_pass_21 rfl (lv_at hl 0 rfl) ?_
      refine lv_dup hx hb dX1_pass_22 rfl ?_
      refine va_get (D := (dC, dI)) (ci := 1) (v := .int wv) (C := RX1) (T := TX1) (N := 5) hx hb hts iX1_pass_X1 hown hK hP 0 rfl rfl 4 (by decide) (hts (.fieldLink RX1 26 "ColourTide" "waves" "I") (List.mem_of_getElem? (i := 3) rfl)) (fun _ h9 => h9) rfl dX1_pass_23 ?_
      refine lv_iload_n hx hb dX1_pass_26 rfl (lv_at hl 1 rfl) ?_
      refine lv_iadd hx hb dX1_pass_27 ?_
      refine va_put (D := (dC, dI)) (ci := 1) (v := .int (wv + x0)) (ty := .int) (C := RX1) (T := TX1) (N := 5) hx hb hts iX1_pass_X1 tyX1 tyX1_ok nmX1 hown hK hP hD hS 0 rfl rfl 4 (by decide) (hts (.fieldLink RX1 26 "ColourTide" "waves" "I") (List.mem_of_getElem? (i := 3) rfl)) (fun _ h9 => h9) rfl (by decide +kernel) rfl rfl (Nat.le_of_ble_eq_true rfl) dX1_pass_28 (fun H locs hP hD hS => ?_)
      have hP : va_P (dC, dI) vwCl [(h0, .inr (1, [.ref hM, .ref hV, .int wd, .int hg, .int (wv + x0)])), (hM, .inr (0, [.int bd, .int sb, .int nd, .ref aS, .ref aC, .ref aG])), (aS, .inl (cI, 5, .inl S0)), (aC, .inl (cI, 5, .inl Cr)), (aG, .inl (cI, 5, .inl G0)), (hV, .inr (0, [.int bd2, .int sb2, .int nd2, .ref bS, .ref bC, .ref bG])), (bS, .inl (cI, 5, .inl S2)), (bC, .inl (cI, 5, .inl Cr2)), (bG, .inl (cI, 5, .inl G2))] H := hP
      have hD : va_D A [(h0, .inr (1, [.ref hM, .ref hV, .int wd, .int hg, .int (wv + x0)])), (hM, .inr (0, [.int bd, .int sb, .int nd, .ref aS, .ref aC, .ref aG])), (aS, .inl (cI, 5, .inl S0)), (aC, .inl (cI, 5, .inl Cr)), (aG, .inl (cI, 5, .inl G0)), (hV, .inr (0, [.int bd2, .int sb2, .int nd2, .ref bS, .ref bC, .ref bG])), (bS, .inl (cI, 5, .inl S2)), (bC, .inl (cI, 5, .inl Cr2)), (bG, .inl (cI, 5, .inl G2))] := hD
      refine lv_aload_n hx hb dX1_pass_31 rfl (lv_at hl 0 rfl) ?_
      refine va_get (D := (dC, dI)) (ci := 1) (v := .ref hM) (C := RX1) (T := TX1) (N := 5) hx hb hts iX1_pass_X1 hown hK hP 0 rfl rfl 0 (by decide) (hts (.fieldLink RX1 12 "ColourTide" "map" "LColourTide$Tide;") (List.mem_of_getElem? (i := 4) rfl)) (fun _ h9 => h9) rfl dX1_pass_32 ?_
      refine lv_iload_n hx hb dX1_pass_35 rfl (lv_at hl 1 rfl) ?_
      refine z_topi (y := nI nw) (en) ?_
      refine z_callVi (As := [.int (nI nw)]) (rest := []) F9 (m_X0_surge l dC dI cI cZ cJ cD hM aS aC aG bd sb nd S0 Cr G0 q0 nw (hq) (hnd) (by omega)) (cwV 1 hts gX1_pass_X0_surge rfl rfl rfl (by decide +kernel) ⟨Nat.le_of_ble_eq_true rfl, Nat.le_of_ble_eq_true rfl⟩) hK hN hP hD hS hA [1, 2, 3, 4] rfl rfl (fun _ => rfl) 1 (ci := 0) rfl rfl rfl rfl hl.1 rfl (Nat.le_of_ble_eq_true rfl) dX1_pass_36 ⟨Nat.zero_le _, Nat.zero_le _⟩ (fun r_1 u H locs hp_36 hP hD hS => ?_)
      obtain ⟨Cr1_2, G1_3⟩ := u
      have hP : va_P (dC, dI) vwCl [(h0, .inr (1, [.ref hM, .ref hV, .int wd, .int hg, .int (wv + x0)])), (hM, .inr (0, [.int bd, .int sb, .int nd, .ref aS, .ref aC, .ref aG])), (aS, .inl (cI, 5, .inl (pIt bd sb q0 S0 nw))), (aC, .inl (cI, 5, .inl Cr1_2)), (aG, .inl (cI, 5, .inl G1_3)), (hV, .inr (0, [.int bd2, .int sb2, .int nd2, .ref bS, .ref bC, .ref bG])), (bS, .inl (cI, 5, .inl S2)), (bC, .inl (cI, 5, .inl Cr2)), (bG, .inl (cI, 5, .inl G2))] H := hP
      have hD : va_D A [(h0, .inr (1, [.ref hM, .ref hV, .int wd, .int hg, .int (wv + x0)])), (hM, .inr (0, [.int bd, .int sb, .int nd, .ref aS, .ref aC, .ref aG])), (aS, .inl (cI, 5, .inl (pIt bd sb q0 S0 nw))), (aC, .inl (cI, 5, .inl Cr1_2)), (aG, .inl (cI, 5, .inl G1_3)), (hV, .inr (0, [.int bd2, .int sb2, .int nd2, .ref bS, .ref bC, .ref bG])), (bS, .inl (cI, 5, .inl S2)), (bC, .inl (cI, 5, .inl Cr2)), (bG, .inl (cI, 5, .inl G2))] := hD
      have hp_36 : r_1 = pLast bd sb q0 S0 nw := hp_36
      refine z_topi (y := pLast bd sb q0 S0 nw) hp_36 ?_
      refine z_callSi (As := [.int (pLast bd sb q0 S0 nw)]) (rest := []) F9 (m_J6_bitCount_0f7a4 l dC dI cI cZ cJ cD (pLast bd sb q0 S0 nw) ) (va_cwS 1 hts gX1_pass_J6_bitCount_0f7a4 rfl rfl rfl (by decide +kernel) ⟨Nat.le_of_ble_eq_true rfl, Nat.le_of_ble_eq_true rfl⟩) hK hN hP hD hS hA rfl hl.1 rfl (Nat.le_of_ble_eq_true rfl) dX1_pass_39 ⟨Nat.zero_le _, Nat.zero_le _⟩ (fun r_4 H locs hp_39 hP hS => ?_)
      have hp_39 : r_4 = pBC (pLast bd sb q0 S0 nw) := hp_39
      refine z_topi (y := pBC (pLast bd sb q0 S0 nw)) hp_39 ?_
      rw [← hQ]
      exact zx_iret (W1 := (fun (u : Nat × (Nat → Int32) × (Nat → Int32)) => [(h0, .inr (1, [.ref hM, .ref hV, .int wd, .int hg, .int (wv + x0)])), (hM, .inr (0, [.int bd, .int sb, .int nd, .ref aS, .ref aC, .ref aG])), (aS, .inl (cI, 5, .inl (pIt bd sb q0 S0 u.1))), (aC, .inl (cI, 5, .inl u.2.1)), (aG, .inl (cI, 5, .inl u.2.2)), (hV, .inr (0, [.int bd2, .int sb2, .int nd2, .ref bS, .ref bC, .ref bG])), (bS, .inl (cI, 5, .inl S2)), (bC, .inl (cI, 5, .inl Cr2)), (bG, .inl (cI, 5, .inl G2))])) hx hb hr hlocks hP hS (nw, Cr1_2, G1_3) (rfl) (⟨⟨en, n1, n2⟩, rfl⟩) dX1_pass_42
    · skip
      rw [← hQ]
      exact z_thr (cls := xIA) (text := "1 to 40 waves") (ik := 37) (is := 77) (ic := 41) hx hb hst hown (by decide +kernel) (hts (.classLink RX1 37 "java/lang/IllegalArgumentException") (List.mem_of_getElem? (i := 1) rfl)) (hts (.initialized "java/lang/IllegalArgumentException") (List.mem_of_getElem? (i := 2) rfl)) (by decide +kernel) (fun w h => hts w (List.mem_cons_of_mem _ (List.mem_append_right _ h))) z_bad41 z_good41 hE.2.2.2.1.1 hE hP hS (by rw [hml]; exact hl.1) dX1_pass_11 dX1_pass_14 dX1_pass_15 dX1_pass_17 dX1_pass_20 htab (Nat.le_of_ble_eq_true rfl) (Nat.le_of_ble_eq_true rfl) (Nat.le_of_ble_eq_true rfl) (Nat.le_of_ble_eq_true rfl) hlocks (⟨rfl, fun q => c_8 q.2⟩)
abbrev rmX1_colourAt : Room := { frames := 6, cells := 1, slots := 6, locals := 90 }
set_option maxRecDepth 20000 in
theorem iX1_colourAt_X0 : ∀ w ∈ wsX00, w ∈ wsX1_colourAt := fun w h => (goodIn_r (big := wsX1_colourAt) wsX00 [28, 29, 30, 31, 32, 33] (by decide +kernel) (by decide +kernel) w h).1
set_option maxRecDepth 20000 in
theorem iX1_colourAt_X1 : ∀ w ∈ wsX10, w ∈ wsX1_colourAt := fun w h => (goodIn_r (big := wsX1_colourAt) wsX10 [23, 24, 25, 26, 27] (by decide +kernel) (by decide +kernel) w h).1
set_option maxHeartbeats 4000000 in
set_option maxRecDepth 100000 in
theorem m_X1_colourAt (l : Launch) (dC : Nat → ClassId) (dI : Nat → Nat → Nat) (cI cZ cJ cD : ClassId) (hst : l.stackTraces = false) (ad : Nat → Nat) (h0 : Nat) (hM : Nat) (aS : Nat) (aC : Nat) (aG : Nat) (hV : Nat) (bS : Nat) (bC : Nat) (bG : Nat) (wd : Int32) (hg : Int32) (wv : Int32) (bd : Int32) (sb : Int32) (nd : Int32) (S0 : Nat → Int32) (Cr : Nat → Int32) (G0 : Nat → Int32) (bd2 : Int32) (sb2 : Int32) (nd2 : Int32) (S2 : Nat → Int32) (Cr2 : Nat → Int32) (G2 : Nat → Int32) (x0 : Int32) (y0 : Int32)  : zXI l (dC, dI) (wT cI cZ cJ cD) ad yX1_colourAt wsX1_colourAt rmX1_colourAt [(h0, .inr (1, [.ref hM, .ref hV, .int wd, .int hg, .int wv])), (hM, .inr (0, [.int bd, .int sb, .int nd, .ref aS, .ref aC, .ref aG])), (aS, .inl (cI, 5, .inl S0)), (aC, .inl (cI, 5, .inl Cr)), (aG, .inl (cI, 5, .inl G0)), (hV, .inr (0, [.int bd2, .int sb2, .int nd2, .ref bS, .ref bC, .ref bG])), (bS, .inl (cI, 5, .inl S2)), (bC, .inl (cI, 5, .inl Cr2)), (bG, .inl (cI, 5, .inl G2))] [.ref h0, .int x0, .int y0] (fun (_ : Unit) => [(h0, .inr (1, [.ref hM, .ref hV, .int wd, .int hg, .int wv])), (hM, .inr (0, [.int bd, .int sb, .int nd, .ref aS, .ref aC, .ref aG])), (aS, .inl (cI, 5, .inl S0)), (aC, .inl (cI, 5, .inl Cr)), (aG, .inl (cI, 5, .inl G0)), (hV, .inr (0, [.int bd2, .int sb2, .int nd2, .ref bS, .ref bC, .ref bG])), (bS, .inl (cI, 5, .inl S2)), (bC, .inl (cI, 5, .inl Cr2)), (bG, .inl (cI, 5, .inl G2))]) (fun (r : Int32) (_ : Unit) => (pOn x0 y0 wd hg) ∧ r = pFirst S0 (pCell x0 y0)) (fun E => E = xIO ∧ ¬ (pOn x0 y0 wd hg)) := by
  intro sz
  refine vx_ofW (cc := cX1_colourAt) (maxL := 3) (ret := (some .int)) (by decide) rfl ?_
  intro p e s m args below meth c s₁ B hml htab hv
  obtain ⟨ha, hsz, hP, hK, hD0, hE⟩ := hv
  have hx := B.exec
  have hb := B.bytes
  have hr := B.returns
  have hts := atoms_spec (ws := wsX1_colourAt) B.pre
  have hown : s.vm.findClass RX1 = some m.cls := findClass_of_methodNamed B.named
  have hlocks := B.notSynchronized
  subst hsz
  have hD := hD0.self (sz := s.heap.size)
  generalize hAe : va_A [(h0, .inr (1, [.ref hM, .ref hV, .int wd, .int hg, .int wv])), (hM, .inr (0, [.int bd, .int sb, .int nd, .ref aS, .ref aC, .ref aG])), (aS, .inl (cI, 5, .inl S0)), (aC, .inl (cI, 5, .inl Cr)), (aG, .inl (cI, 5, .inl G0)), (hV, .inr (0, [.int bd2, .int sb2, .int nd2, .ref bS, .ref bC, .ref bG])), (bS, .inl (cI, 5, .inl S2)), (bC, .inl (cI, 5, .inl Cr2)), (bG, .inl (cI, 5, .inl G2))] s.heap.size = A at hD hE ⊢
  have hN := hE.1
  have hA : ∀ q : Nat, s.heap.size ≤ q → A q := fun q h => by rw [← hAe]; exact Or.inr h
  have hS : va_S A s.heap s.heap [] := va_S.rf
  generalize hQ : vx_MQ below (va_Qi (fun (r : Int32) (_ : Unit) => (pOn x0 y0 wd hg) ∧ r = pFirst S0 (pCell x0 y0)) (fun u t => va_P (dC, dI) vwCl ((fun (_ : Unit) => [(h0, .inr (1, [.ref hM, .ref hV, .int wd, .int hg, .int wv])), (hM, .inr (0, [.int bd, .int sb, .int nd, .ref aS, .ref aC, .ref aG])), (aS, .inl (cI, 5, .inl S0)), (aC, .inl (cI, 5, .inl Cr)), (aG, .inl (cI, 5, .inl G0)), (hV, .inr (0, [.int bd2, .int sb2, .int nd2, .ref bS, .ref bC, .ref bG])), (bS, .inl (cI, 5, .inl S2)), (bC, .inl (cI, 5, .inl Cr2)), (bG, .inl (cI, 5, .inl G2))]) u) t.heap) A) (zX (fun E => E = xIO ∧ ¬ (pOn x0 y0 wd hg)) (dC, dI) [(h0, .inr (1, [.ref hM, .ref hV, .int wd, .int hg, .int wv])), (hM, .inr (0, [.int bd, .int sb, .int nd, .ref aS, .ref aC, .ref aG])), (aS, .inl (cI, 5, .inl S0)), (aC, .inl (cI, 5, .inl Cr)), (aG, .inl (cI, 5, .inl G0)), (hV, .inr (0, [.int bd2, .int sb2, .int nd2, .ref bS, .ref bC, .ref bG])), (bS, .inl (cI, 5, .inl S2)), (bC, .inl (cI, 5, .inl Cr2)), (bG, .inl (cI, 5, .inl G2))] A) args s 1 6 A = Q
  have F9 : CallFix p m c cX1_colourAt 3 s args wsX1_colourAt RX1 := ⟨hx, hb, hml, hown, hts⟩
  refine z_entry (R := rmX1_colourAt) ha (Nat.le_of_ble_eq_true rfl) (fun ls hl => ?_)
  have hl : lv_has ls 3 [(0, .ref h0), (1, .int x0), (2, .int y0)] := hl
  refine lv_aload_n hx hb dX1_colourAt_0 rfl (lv_at hl 0 rfl) ?_
  refine lv_iload_n hx hb dX1_colourAt_1 rfl (lv_at hl 1 rfl) ?_
  refine lv_iload_n hx hb dX1_colourAt_2 rfl (lv_at hl 2 rfl) ?_
  refine z_callVi (As := [.int x0, .int y0]) (rest := []) F9 (m_X1_isOnMap l dC dI cI cZ cJ cD h0 hM aS aC aG hV bS bC bG wd hg wv bd sb nd S0 Cr G0 bd2 sb2 nd2 S2 Cr2 G2 x0 y0 ) (cwV 2 hts gX1_colourAt_X1_isOnMap rfl rfl rfl (by decide +kernel) ⟨Nat.le_of_ble_eq_true rfl, Nat.le_of_ble_eq_true rfl⟩) hK hN hP hD hS hA [0, 1, 2, 3, 4, 5, 6, 7, 8] rfl rfl (fun _ => rfl) 0 (ci := 1) rfl rfl rfl rfl hl.1 rfl (Nat.le_of_ble_eq_true rfl) dX1_colourAt_3 ⟨Nat.zero_le _, Nat.zero_le _⟩ (fun r_1 u H locs hp_3 hP hD hS => ?_)
  have hP : va_P (dC, dI) vwCl [(h0, .inr (1, [.ref hM, .ref hV, .int wd, .int hg, .int wv])), (hM, .inr (0, [.int bd, .int sb, .int nd, .ref aS, .ref aC, .ref aG])), (aS, .inl (cI, 5, .inl S0)), (aC, .inl (cI, 5, .inl Cr)), (aG, .inl (cI, 5, .inl G0)), (hV, .inr (0, [.int bd2, .int sb2, .int nd2, .ref bS, .ref bC, .ref bG])), (bS, .inl (cI, 5, .inl S2)), (bC, .inl (cI, 5, .inl Cr2)), (bG, .inl (cI, 5, .inl G2))] H := hP
  have hD : va_D A [(h0, .inr (1, [.ref hM, .ref hV, .int wd, .int hg, .int wv])), (hM, .inr (0, [.int bd, .int sb, .int nd, .ref aS, .ref aC, .ref aG])), (aS, .inl (cI, 5, .inl S0)), (aC, .inl (cI, 5, .inl Cr)), (aG, .inl (cI, 5, .inl G0)), (hV, .inr (0, [.int bd2, .int sb2, .int nd2, .ref bS, .ref bC, .ref bG])), (bS, .inl (cI, 5, .inl S2)), (bC, .inl (cI, 5, .inl Cr2)), (bG, .inl (cI, 5, .inl G2))] := hD
  have hp_3 : r_1 = if pOn x0 y0 wd hg then 1 else 0 := hp_3
  refine z_topi (y := if pOn x0 y0 wd hg then 1 else 0) hp_3 ?_
  refine lv_if_ne (tgt := 19) hx hb dX1_colourAt_6 (by decide) (fun c_6 => ?_) (fun c_6 => ?_)
  · skip
    refine lv_aload_n hx hb dX1_colourAt_19 rfl (lv_at hl 0 rfl) ?_
    refine va_get (D := (dC, dI)) (ci := 1) (v := .ref hM) (C := RX1) (T := TX1) (N := 5) hx hb hts iX1_colourAt_X1 hown hK hP 0 rfl rfl 0 (by decide) (hts (.fieldLink RX1 12 "ColourTide" "map" "LColourTide$Tide;") (List.mem_of_getElem? (i := 3) rfl)) (fun _ h9 => h9) rfl dX1_colourAt_20 ?_
    refine lv_iload_n hx hb dX1_colourAt_23 rfl (lv_at hl 1 rfl) ?_
    refine lv_iload_n hx hb dX1_colourAt_24 rfl (lv_at hl 2 rfl) ?_
    refine z_callSi (As := [.int x0, .int y0]) (rest := [.ref hM]) F9 (m_X1_cell l dC dI cI cZ cJ cD x0 y0 ) (va_cwS 2 hts gX1_colourAt_X1_cell rfl rfl rfl (by decide +kernel) ⟨Nat.le_of_ble_eq_true rfl, Nat.le_of_ble_eq_true rfl⟩) hK hN hP hD hS hA rfl hl.1 rfl (Nat.le_of_ble_eq_true rfl) dX1_colourAt_25 ⟨Nat.zero_le _, Nat.zero_le _⟩ (fun r_2 H locs hp_25 hP hS => ?_)
    have hp_25 : r_2 = pCell x0 y0 := hp_25
    refine z_topi (y := pCell x0 y0) hp_25 ?_
    refine z_callVi (As := [.int (pCell x0 y0)]) (rest := []) F9 (m_X0_colourOf l dC dI cI cZ cJ cD hM aS aC aG bd sb nd S0 Cr G0 (pCell x0 y0) ) (cwV 1 hts gX1_colourAt_X0_colourOf rfl rfl rfl (by decide +kernel) ⟨Nat.le_of_ble_eq_true rfl, Nat.le_of_ble_eq_true rfl⟩) hK hN hP hD hS hA [1, 2, 3, 4] rfl rfl (fun _ => rfl) 1 (ci := 0) rfl rfl rfl rfl hl.1 rfl (Nat.le_of_ble_eq_true rfl) dX1_colourAt_28 ⟨Nat.zero_le _, Nat.zero_le _⟩ (fun r_3 u H locs hp_28 hP hD hS => ?_)
    have hP : va_P (dC, dI) vwCl [(h0, .inr (1, [.ref hM, .ref hV, .int wd, .int hg, .int wv])), (hM, .inr (0, [.int bd, .int sb, .int nd, .ref aS, .ref aC, .ref aG])), (aS, .inl (cI, 5, .inl S0)), (aC, .inl (cI, 5, .inl Cr)), (aG, .inl (cI, 5, .inl G0)), (hV, .inr (0, [.int bd2, .int sb2, .int nd2, .ref bS, .ref bC, .ref bG])), (bS, .inl (cI, 5, .inl S2)), (bC, .inl (cI, 5, .inl Cr2)), (bG, .inl (cI, 5, .inl G2))] H := hP
    have hD : va_D A [(h0, .inr (1, [.ref hM, .ref hV, .int wd, .int hg, .int wv])), (hM, .inr (0, [.int bd, .int sb, .int nd, .ref aS, .ref aC, .ref aG])), (aS, .inl (cI, 5, .inl S0)), (aC, .inl (cI, 5, .inl Cr)), (aG, .inl (cI, 5, .inl G0)), (hV, .inr (0, [.int bd2, .int sb2, .int nd2, .ref bS, .ref bC, .ref bG])), (bS, .inl (cI, 5, .inl S2)), (bC, .inl (cI, 5, .inl Cr2)), (bG, .inl (cI, 5, .inl G2))] := hD
    have hp_28 : r_3 = pFirst S0 (pCell x0 y0) := hp_28
    refine z_topi (y := pFirst S0 (pCell x0 y0)) hp_28 ?_
    rw [← hQ]
    exact zx_iret (W1 := (fun (_ : Unit) => [(h0, .inr (1, [.ref hM, .ref hV, .int wd, .int hg, .int wv])), (hM, .inr (0, [.int bd, .int sb, .int nd, .ref aS, .ref aC, .ref aG])), (aS, .inl (cI, 5, .inl S0)), (aC, .inl (cI, 5, .inl Cr)), (aG, .inl (cI, 5, .inl G0)), (hV, .inr (0, [.int bd2, .int sb2, .int nd2, .ref bS, .ref bC, .ref bG])), (bS, .inl (cI, 5, .inl S2)), (bC, .inl (cI, 5, .inl Cr2)), (bG, .inl (cI, 5, .inl G2))])) hx hb hr hlocks hP hS () (rfl) (⟨z_if1 c_6, rfl⟩) dX1_colourAt_31
  · skip
    rw [← hQ]
    exact z_thr (cls := xIO) (text := "no such cell") (ik := 51) (is := 67) (ic := 55) hx hb hst hown (by decide +kernel) (hts (.classLink RX1 51 "java/lang/IndexOutOfBoundsException") (List.mem_of_getElem? (i := 1) rfl)) (hts (.initialized "java/lang/IndexOutOfBoundsException") (List.mem_of_getElem? (i := 2) rfl)) (by decide +kernel) (fun w h => hts w (List.mem_cons_of_mem _ (List.mem_append_right _ h))) z_bad55 z_good55 hE.2.2.2.1.2.1 hE hP hS (by rw [hml]; exact hl.1) dX1_colourAt_9 dX1_colourAt_12 dX1_colourAt_13 dX1_colourAt_15 dX1_colourAt_18 htab (Nat.le_of_ble_eq_true rfl) (Nat.le_of_ble_eq_true rfl) (Nat.le_of_ble_eq_true rfl) (Nat.le_of_ble_eq_true rfl) hlocks (⟨rfl, fun q => z_if0 c_6 q⟩)
abbrev rmX1_isStubborn : Room := { frames := 6, cells := 1, slots := 6, locals := 90 }
set_option maxRecDepth 20000 in
theorem iX1_isStubborn_X0 : ∀ w ∈ wsX00, w ∈ wsX1_isStubborn := fun w h => (goodIn_r (big := wsX1_isStubborn) wsX00 [20, 21, 22, 23, 24, 25] (by decide +kernel) (by decide +kernel) w h).1
set_option maxRecDepth 20000 in
theorem iX1_isStubborn_X1 : ∀ w ∈ wsX10, w ∈ wsX1_isStubborn := fun w h => (goodIn_r (big := wsX1_isStubborn) wsX10 [15, 16, 17, 18, 19] (by decide +kernel) (by decide +kernel) w h).1
set_option maxHeartbeats 4000000 in
set_option maxRecDepth 100000 in
theorem m_X1_isStubborn (l : Launch) (dC : Nat → ClassId) (dI : Nat → Nat → Nat) (cI cZ cJ cD : ClassId) (hst : l.stackTraces = false) (ad : Nat → Nat) (h0 : Nat) (hM : Nat) (aS : Nat) (aC : Nat) (aG : Nat) (hV : Nat) (bS : Nat) (bC : Nat) (bG : Nat) (wd : Int32) (hg : Int32) (wv : Int32) (bd : Int32) (sb : Int32) (nd : Int32) (S0 : Nat → Int32) (Cr : Nat → Int32) (G0 : Nat → Int32) (bd2 : Int32) (sb2 : Int32) (nd2 : Int32) (S2 : Nat → Int32) (Cr2 : Nat → Int32) (G2 : Nat → Int32) (x0 : Int32) (y0 : Int32)  : zXI l (dC, dI) (wT cI cZ cJ cD) ad yX1_isStubborn wsX1_isStubborn rmX1_isStubborn [(h0, .inr (1, [.ref hM, .ref hV, .int wd, .int hg, .int wv])), (hM, .inr (0, [.int bd, .int sb, .int nd, .ref aS, .ref aC, .ref aG])), (aS, .inl (cI, 5, .inl S0)), (aC, .inl (cI, 5, .inl Cr)), (aG, .inl (cI, 5, .inl G0)), (hV, .inr (0, [.int bd2, .int sb2, .int nd2, .ref bS, .ref bC, .ref bG])), (bS, .inl (cI, 5, .inl S2)), (bC, .inl (cI, 5, .inl Cr2)), (bG, .inl (cI, 5, .inl G2))] [.ref h0, .int x0, .int y0] (fun (_ : Unit) => [(h0, .inr (1, [.ref hM, .ref hV, .int wd, .int hg, .int wv])), (hM, .inr (0, [.int bd, .int sb, .int nd, .ref aS, .ref aC, .ref aG])), (aS, .inl (cI, 5, .inl S0)), (aC, .inl (cI, 5, .inl Cr)), (aG, .inl (cI, 5, .inl G0)), (hV, .inr (0, [.int bd2, .int sb2, .int nd2, .ref bS, .ref bC, .ref bG])), (bS, .inl (cI, 5, .inl S2)), (bC, .inl (cI, 5, .inl Cr2)), (bG, .inl (cI, 5, .inl G2))]) (fun (r : Int32) (_ : Unit) => (pOn x0 y0 wd hg) ∧ r = if sb &&& pCell x0 y0 = 0 then 0 else 1) (fun E => E = xIO ∧ ¬ (pOn x0 y0 wd hg)) := by
  intro sz
  refine vx_ofW (cc := cX1_isStubborn) (maxL := 3) (ret := (some .boolean)) (by decide) rfl ?_
  intro p e s m args below meth c s₁ B hml htab hv
  obtain ⟨ha, hsz, hP, hK, hD0, hE⟩ := hv
  have hx := B.exec
  have hb := B.bytes
  have hr := B.returns
  have hts := atoms_spec (ws := wsX1_isStubborn) B.pre
  have hown : s.vm.findClass RX1 = some m.cls := findClass_of_methodNamed B.named
  have hlocks := B.notSynchronized
  subst hsz
  have hD := hD0.self (sz := s.heap.size)
  generalize hAe : va_A [(h0, .inr (1, [.ref hM, .ref hV, .int wd, .int hg, .int wv])), (hM, .inr (0, [.int bd, .int sb, .int nd, .ref aS, .ref aC, .ref aG])), (aS, .inl (cI, 5, .inl S0)), (aC, .inl (cI, 5, .inl Cr)), (aG, .inl (cI, 5, .inl G0)), (hV, .inr (0, [.int bd2, .int sb2, .int nd2, .ref bS, .ref bC, .ref bG])), (bS, .inl (cI, 5, .inl S2)), (bC, .inl (cI, 5, .inl Cr2)), (bG, .inl (cI, 5, .inl G2))] s.heap.size = A at hD hE ⊢
  have hN := hE.1
  have hA : ∀ q : Nat, s.heap.size ≤ q → A q := fun q h => by rw [← hAe]; exact Or.inr h
  have hS : va_S A s.heap s.heap [] := va_S.rf
  generalize hQ : vx_MQ below (va_Qi (fun (r : Int32) (_ : Unit) => (pOn x0 y0 wd hg) ∧ r = if sb &&& pCell x0 y0 = 0 then 0 else 1) (fun u t => va_P (dC, dI) vwCl ((fun (_ : Unit) => [(h0, .inr (1, [.ref hM, .ref hV, .int wd, .int hg, .int wv])), (hM, .inr (0, [.int bd, .int sb, .int nd, .ref aS, .ref aC, .ref aG])), (aS, .inl (cI, 5, .inl S0)), (aC, .inl (cI, 5, .inl Cr)), (aG, .inl (cI, 5, .inl G0)), (hV, .inr (0, [.int bd2, .int sb2, .int nd2, .ref bS, .ref bC, .ref bG])), (bS, .inl (cI, 5, .inl S2)), (bC, .inl (cI, 5, .inl Cr2)), (bG, .inl (cI, 5, .inl G2))]) u) t.heap) A) (zX (fun E => E = xIO ∧ ¬ (pOn x0 y0 wd hg)) (dC, dI) [(h0, .inr (1, [.ref hM, .ref hV, .int wd, .int hg, .int wv])), (hM, .inr (0, [.int bd, .int sb, .int nd, .ref aS, .ref aC, .ref aG])), (aS, .inl (cI, 5, .inl S0)), (aC, .inl (cI, 5, .inl Cr)), (aG, .inl (cI, 5, .inl G0)), (hV, .inr (0, [.int bd2, .int sb2, .int nd2, .ref bS, .ref bC, .ref bG])), (bS, .inl (cI, 5, .inl S2)), (bC, .inl (cI, 5, .inl Cr2)), (bG, .inl (cI, 5, .inl G2))] A) args s 1 6 A = Q
  have F9 : CallFix p m c cX1_isStubborn 3 s args wsX1_isStubborn RX1 := ⟨hx, hb, hml, hown, hts⟩
  refine z_entry (R := rmX1_isStubborn) ha (Nat.le_of_ble_eq_true rfl) (fun ls hl => ?_)
  have hl : lv_has ls 3 [(0, .ref h0), (1, .int x0), (2, .int y0)] := hl
  refine lv_aload_n hx hb dX1_isStubborn_0 rfl (lv_at hl 0 rfl) ?_
  refine lv_iload_n hx hb dX1_isStubborn_1 rfl (lv_at hl 1 rfl) ?_
  refine lv_iload_n hx hb dX1_isStubborn_2 rfl (lv_at hl 2 rfl) ?_
  refine z_callVi (As := [.int x0, .int y0]) (rest := []) F9 (m_X1_isOnMap l dC dI cI cZ cJ cD h0 hM aS aC aG hV bS bC bG wd hg wv bd sb nd S0 Cr G0 bd2 sb2 nd2 S2 Cr2 G2 x0 y0 ) (cwV 2 hts gX1_isStubborn_X1_isOnMap rfl rfl rfl (by decide +kernel) ⟨Nat.le_of_ble_eq_true rfl, Nat.le_of_ble_eq_true rfl⟩) hK hN hP hD hS hA [0, 1, 2, 3, 4, 5, 6, 7, 8] rfl rfl (fun _ => rfl) 0 (ci := 1) rfl rfl rfl rfl hl.1 rfl (Nat.le_of_ble_eq_true rfl) dX1_isStubborn_3 ⟨Nat.zero_le _, Nat.zero_le _⟩ (fun r_1 u H locs hp_3 hP hD hS => ?_)
  have hP : va_P (dC, dI) vwCl [(h0, .inr (1, [.ref hM, .ref hV, .int wd, .int hg, .int wv])), (hM, .inr (0, [.int bd, .int sb, .int nd, .ref aS, .ref aC, .ref aG])), (aS, .inl (cI, 5, .inl S0)), (aC, .inl (cI, 5, .inl Cr)), (aG, .inl (cI, 5, .inl G0)), (hV, .inr (0, [.int bd2, .int sb2, .int nd2, .ref bS, .ref bC, .ref bG])), (bS, .inl (cI, 5, .inl S2)), (bC, .inl (cI, 5, .inl Cr2)), (bG, .inl (cI, 5, .inl G2))] H := hP
  have hD : va_D A [(h0, .inr (1, [.ref hM, .ref hV, .int wd, .int hg, .int wv])), (hM, .inr (0, [.int bd, .int sb, .int nd, .ref aS, .ref aC, .ref aG])), (aS, .inl (cI, 5, .inl S0)), (aC, .inl (cI, 5, .inl Cr)), (aG, .inl (cI, 5, .inl G0)), (hV, .inr (0, [.int bd2, .int sb2, .int nd2, .ref bS, .ref bC, .ref bG])), (bS, .inl (cI, 5, .inl S2)), (bC, .inl (cI, 5, .inl Cr2)), (bG, .inl (cI, 5, .inl G2))] := hD
  have hp_3 : r_1 = if pOn x0 y0 wd hg then 1 else 0 := hp_3
  refine z_topi (y := if pOn x0 y0 wd hg then 1 else 0) hp_3 ?_
  refine lv_if_ne (tgt := 19) hx hb dX1_isStubborn_6 (by decide) (fun c_6 => ?_) (fun c_6 => ?_)
  · skip
    refine lv_aload_n hx hb dX1_isStubborn_19 rfl (lv_at hl 0 rfl) ?_
    refine va_get (D := (dC, dI)) (ci := 1) (v := .ref hM) (C := RX1) (T := TX1) (N := 5) hx hb hts iX1_isStubborn_X1 hown hK hP 0 rfl rfl 0 (by decide) (hts (.fieldLink RX1 12 "ColourTide" "map" "LColourTide$Tide;") (List.mem_of_getElem? (i := 3) rfl)) (fun _ h9 => h9) rfl dX1_isStubborn_20 ?_
    refine va_get (D := (dC, dI)) (ci := 0) (v := .int sb) (C := RX0) (T := TX0) (N := 6) hx hb hts iX1_isStubborn_X0 hown hK hP 1 rfl rfl 1 (by decide) (hts (.fieldLink RX1 69 "ColourTide$Tide" "stubborn" "I") (List.mem_of_getElem? (i := 4) rfl)) (fun _ h9 => h9) rfl dX1_isStubborn_23 ?_
    refine lv_iload_n hx hb dX1_isStubborn_26 rfl (lv_at hl 1 rfl) ?_
    refine lv_iload_n hx hb dX1_isStubborn_27 rfl (lv_at hl 2 rfl) ?_
    refine z_callSi (As := [.int x0, .int y0]) (rest := [.int sb]) F9 (m_X1_cell l dC dI cI cZ cJ cD x0 y0 ) (va_cwS 2 hts gX1_isStubborn_X1_cell rfl rfl rfl (by decide +kernel) ⟨Nat.le_of_ble_eq_true rfl, Nat.le_of_ble_eq_true rfl⟩) hK hN hP hD hS hA rfl hl.1 rfl (Nat.le_of_ble_eq_true rfl) dX1_isStubborn_28 ⟨Nat.zero_le _, Nat.zero_le _⟩ (fun r_2 H locs hp_28 hP hS => ?_)
    have hp_28 : r_2 = pCell x0 y0 := hp_28
    refine z_topi (y := pCell x0 y0) hp_28 ?_
    refine lv_iand hx hb dX1_isStubborn_31 ?_
    refine lv_if_eq (tgt := 39) hx hb dX1_isStubborn_32 (by decide) (fun c_32 => ?_) (fun c_32 => ?_)
    · skip
      refine lv_iconst (v := 0) hx hb dX1_isStubborn_39 (by decide) ?_
      rw [← hQ]
      exact zx_zret (W1 := (fun (_ : Unit) => [(h0, .inr (1, [.ref hM, .ref hV, .int wd, .int hg, .int wv])), (hM, .inr (0, [.int bd, .int sb, .int nd, .ref aS, .ref aC, .ref aG])), (aS, .inl (cI, 5, .inl S0)), (aC, .inl (cI, 5, .inl Cr)), (aG, .inl (cI, 5, .inl G0)), (hV, .inr (0, [.int bd2, .int sb2, .int nd2, .ref bS, .ref bC, .ref bG])), (bS, .inl (cI, 5, .inl S2)), (bC, .inl (cI, 5, .inl Cr2)), (bG, .inl (cI, 5, .inl G2))])) hx hb hr hlocks (by decide +kernel) hP hS () (rfl) (⟨z_if1 c_6, by rw [if_pos c_32]⟩) dX1_isStubborn_40
    · skip
      refine lv_iconst (v := 1) hx hb dX1_isStubborn_35 (by decide) ?_
      refine lv_goto (tgt := 40) hx hb dX1_isStubborn_36 (by decide) ?_
      rw [← hQ]
      exact zx_zret (W1 := (fun (_ : Unit) => [(h0, .inr (1, [.ref hM, .ref hV, .int wd, .int hg, .int wv])), (hM, .inr (0, [.int bd, .int sb, .int nd, .ref aS, .ref aC, .ref aG])), (aS, .inl (cI, 5, .inl S0)), (aC, .inl (cI, 5, .inl Cr)), (aG, .inl (cI, 5, .inl G0)), (hV, .inr (0, [.int bd2, .int sb2, .int nd2, .ref bS, .ref bC, .ref bG])), (bS, .inl (cI, 5, .inl S2)), (bC, .inl (cI, 5, .inl Cr2)), (bG, .inl (cI, 5, .inl G2))])) hx hb hr hlocks (by decide +kernel) hP hS () (rfl) (⟨z_if1 c_6, by rw [if_neg c_32]⟩) dX1_isStubborn_40
  · skip
    rw [← hQ]
    exact z_thr (cls := xIO) (text := "no such cell") (ik := 51) (is := 67) (ic := 55) hx hb hst hown (by decide +kernel) (hts (.classLink RX1 51 "java/lang/IndexOutOfBoundsException") (List.mem_of_getElem? (i := 1) rfl)) (hts (.initialized "java/lang/IndexOutOfBoundsException") (List.mem_of_getElem? (i := 2) rfl)) (by decide +kernel) (fun w h => hts w (List.mem_cons_of_mem _ (List.mem_append_right _ h))) z_bad55 z_good55 hE.2.2.2.1.2.1 hE hP hS (by rw [hml]; exact hl.1) dX1_isStubborn_9 dX1_isStubborn_12 dX1_isStubborn_13 dX1_isStubborn_15 dX1_isStubborn_18 htab (Nat.le_of_ble_eq_true rfl) (Nat.le_of_ble_eq_true rfl) (Nat.le_of_ble_eq_true rfl) (Nat.le_of_ble_eq_true rfl) hlocks (⟨rfl, fun q => z_if0 c_6 q⟩)
abbrev rmX1_neighboursWith : Room := { frames := 6, cells := 1, slots := 6, locals := 90 }
set_option maxRecDepth 20000 in
theorem iX1_neighboursWith_X0 : ∀ w ∈ wsX00, w ∈ wsX1_neighboursWith := fun w h => (goodIn_r (big := wsX1_neighboursWith) wsX00 [41, 42, 43, 44, 45, 46] (by decide +kernel) (by decide +kernel) w h).1
set_option maxRecDepth 20000 in
theorem iX1_neighboursWith_X1 : ∀ w ∈ wsX10, w ∈ wsX1_neighboursWith := fun w h => (goodIn_r (big := wsX1_neighboursWith) wsX10 [36, 37, 38, 39, 40] (by decide +kernel) (by decide +kernel) w h).1
set_option maxHeartbeats 4000000 in
set_option maxRecDepth 100000 in
theorem m_X1_neighboursWith (l : Launch) (dC : Nat → ClassId) (dI : Nat → Nat → Nat) (cI cZ cJ cD : ClassId) (hst : l.stackTraces = false) (ad : Nat → Nat) (h0 : Nat) (hM : Nat) (aS : Nat) (aC : Nat) (aG : Nat) (hV : Nat) (bS : Nat) (bC : Nat) (bG : Nat) (wd : Int32) (hg : Int32) (wv : Int32) (bd : Int32) (sb : Int32) (nd : Int32) (S0 : Nat → Int32) (Cr : Nat → Int32) (G0 : Nat → Int32) (bd2 : Int32) (sb2 : Int32) (nd2 : Int32) (S2 : Nat → Int32) (Cr2 : Nat → Int32) (G2 : Nat → Int32) (x0 : Int32) (y0 : Int32) (col : Int32)  : zXI l (dC, dI) (wT cI cZ cJ cD) ad yX1_neighboursWith wsX1_neighboursWith rmX1_neighboursWith [(h0, .inr (1, [.ref hM, .ref hV, .int wd, .int hg, .int wv])), (hM, .inr (0, [.int bd, .int sb, .int nd, .ref aS, .ref aC, .ref aG])), (aS, .inl (cI, 5, .inl S0)), (aC, .inl (cI, 5, .inl Cr)), (aG, .inl (cI, 5, .inl G0)), (hV, .inr (0, [.int bd2, .int sb2, .int nd2, .ref bS, .ref bC, .ref bG])), (bS, .inl (cI, 5, .inl S2)), (bC, .inl (cI, 5, .inl Cr2)), (bG, .inl (cI, 5, .inl G2))] [.ref h0, .int x0, .int y0, .int col] (fun (_ : Unit) => [(h0, .inr (1, [.ref hM, .ref hV, .int wd, .int hg, .int wv])), (hM, .inr (0, [.int bd, .int sb, .int nd, .ref aS, .ref aC, .ref aG])), (aS, .inl (cI, 5, .inl S0)), (aC, .inl (cI, 5, .inl Cr)), (aG, .inl (cI, 5, .inl G0)), (hV, .inr (0, [.int bd2, .int sb2, .int nd2, .ref bS, .ref bC, .ref bG])), (bS, .inl (cI, 5, .inl S2)), (bC, .inl (cI, 5, .inl Cr2)), (bG, .inl (cI, 5, .inl G2))]) (fun (r : Int32) (_ : Unit) => (pOn x0 y0 wd hg ∧ pAny col) ∧ r = pBC (pNext (pCell x0 y0) &&& pCW S0 col)) (fun E => E = xIO ∧ ¬ (pOn x0 y0 wd hg ∧ pAny col)) := by
  intro sz
  refine vx_ofW (cc := cX1_neighboursWith) (maxL := 4) (ret := (some .int)) (by decide) rfl ?_
  intro p e s m args below meth c s₁ B hml htab hv
  obtain ⟨ha, hsz, hP, hK, hD0, hE⟩ := hv
  have hx := B.exec
  have hb := B.bytes
  have hr := B.returns
  have hts := atoms_spec (ws := wsX1_neighboursWith) B.pre
  have hown : s.vm.findClass RX1 = some m.cls := findClass_of_methodNamed B.named
  have hlocks := B.notSynchronized
  subst hsz
  have hD := hD0.self (sz := s.heap.size)
  generalize hAe : va_A [(h0, .inr (1, [.ref hM, .ref hV, .int wd, .int hg, .int wv])), (hM, .inr (0, [.int bd, .int sb, .int nd, .ref aS, .ref aC, .ref aG])), (aS, .inl (cI, 5, .inl S0)), (aC, .inl (cI, 5, .inl Cr)), (aG, .inl (cI, 5, .inl G0)), (hV, .inr (0, [.int bd2, .int sb2, .int nd2, .ref bS, .ref bC, .ref bG])), (bS, .inl (cI, 5, .inl S2)), (bC, .inl (cI, 5, .inl Cr2)), (bG, .inl (cI, 5, .inl G2))] s.heap.size = A at hD hE ⊢
  have hN := hE.1
  have hA : ∀ q : Nat, s.heap.size ≤ q → A q := fun q h => by rw [← hAe]; exact Or.inr h
  have hS : va_S A s.heap s.heap [] := va_S.rf
  generalize hQ : vx_MQ below (va_Qi (fun (r : Int32) (_ : Unit) => (pOn x0 y0 wd hg ∧ pAny col) ∧ r = pBC (pNext (pCell x0 y0) &&& pCW S0 col)) (fun u t => va_P (dC, dI) vwCl ((fun (_ : Unit) => [(h0, .inr (1, [.ref hM, .ref hV, .int wd, .int hg, .int wv])), (hM, .inr (0, [.int bd, .int sb, .int nd, .ref aS, .ref aC, .ref aG])), (aS, .inl (cI, 5, .inl S0)), (aC, .inl (cI, 5, .inl Cr)), (aG, .inl (cI, 5, .inl G0)), (hV, .inr (0, [.int bd2, .int sb2, .int nd2, .ref bS, .ref bC, .ref bG])), (bS, .inl (cI, 5, .inl S2)), (bC, .inl (cI, 5, .inl Cr2)), (bG, .inl (cI, 5, .inl G2))]) u) t.heap) A) (zX (fun E => E = xIO ∧ ¬ (pOn x0 y0 wd hg ∧ pAny col)) (dC, dI) [(h0, .inr (1, [.ref hM, .ref hV, .int wd, .int hg, .int wv])), (hM, .inr (0, [.int bd, .int sb, .int nd, .ref aS, .ref aC, .ref aG])), (aS, .inl (cI, 5, .inl S0)), (aC, .inl (cI, 5, .inl Cr)), (aG, .inl (cI, 5, .inl G0)), (hV, .inr (0, [.int bd2, .int sb2, .int nd2, .ref bS, .ref bC, .ref bG])), (bS, .inl (cI, 5, .inl S2)), (bC, .inl (cI, 5, .inl Cr2)), (bG, .inl (cI, 5, .inl G2))] A) args s 1 6 A = Q
  have F9 : CallFix p m c cX1_neighboursWith 4 s args wsX1_neighboursWith RX1 := ⟨hx, hb, hml, hown, hts⟩
  refine z_entry (R := rmX1_neighboursWith) ha (Nat.le_of_ble_eq_true rfl) (fun ls hl => ?_)
  have hl : lv_has ls 4 [(0, .ref h0), (1, .int x0), (2, .int y0), (3, .int col)] := hl
  refine lv_aload_n hx hb dX1_neighboursWith_0 rfl (lv_at hl 0 rfl) ?_
  refine lv_iload_n hx hb dX1_neighboursWith_1 rfl (lv_at hl 1 rfl) ?_
  refine lv_iload_n hx hb dX1_neighboursWith_2 rfl (lv_at hl 2 rfl) ?_
  refine z_callVi (As := [.int x0, .int y0]) (rest := []) F9 (m_X1_isOnMap l dC dI cI cZ cJ cD h0 hM aS aC aG hV bS bC bG wd hg wv bd sb nd S0 Cr G0 bd2 sb2 nd2 S2 Cr2 G2 x0 y0 ) (cwV 2 hts gX1_neighboursWith_X1_isOnMap rfl rfl rfl (by decide +kernel) ⟨Nat.le_of_ble_eq_true rfl, Nat.le_of_ble_eq_true rfl⟩) hK hN hP hD hS hA [0, 1, 2, 3, 4, 5, 6, 7, 8] rfl rfl (fun _ => rfl) 0 (ci := 1) rfl rfl rfl rfl hl.1 rfl (Nat.le_of_ble_eq_true rfl) dX1_neighboursWith_3 ⟨Nat.zero_le _, Nat.zero_le _⟩ (fun r_1 u H locs hp_3 hP hD hS => ?_)
  have hP : va_P (dC, dI) vwCl [(h0, .inr (1, [.ref hM, .ref hV, .int wd, .int hg, .int wv])), (hM, .inr (0, [.int bd, .int sb, .int nd, .ref aS, .ref aC, .ref aG])), (aS, .inl (cI, 5, .inl S0)), (aC, .inl (cI, 5, .inl Cr)), (aG, .inl (cI, 5, .inl G0)), (hV, .inr (0, [.int bd2, .int sb2, .int nd2, .ref bS, .ref bC, .ref bG])), (bS, .inl (cI, 5, .inl S2)), (bC, .inl (cI, 5, .inl Cr2)), (bG, .inl (cI, 5, .inl G2))] H := hP
  have hD : va_D A [(h0, .inr (1, [.ref hM, .ref hV, .int wd, .int hg, .int wv])), (hM, .inr (0, [.int bd, .int sb, .int nd, .ref aS, .ref aC, .ref aG])), (aS, .inl (cI, 5, .inl S0)), (aC, .inl (cI, 5, .inl Cr)), (aG, .inl (cI, 5, .inl G0)), (hV, .inr (0, [.int bd2, .int sb2, .int nd2, .ref bS, .ref bC, .ref bG])), (bS, .inl (cI, 5, .inl S2)), (bC, .inl (cI, 5, .inl Cr2)), (bG, .inl (cI, 5, .inl G2))] := hD
  have hp_3 : r_1 = if pOn x0 y0 wd hg then 1 else 0 := hp_3
  refine z_topi (y := if pOn x0 y0 wd hg then 1 else 0) hp_3 ?_
  refine lv_if_eq (tgt := 16) hx hb dX1_neighboursWith_6 (by decide) (fun c_6 => ?_) (fun c_6 => ?_)
  · skip
    rw [← hQ]
    exact z_thr (cls := xIO) (text := "no such cell or colour") (ik := 51) (is := 53) (ic := 55) hx hb hst hown (by decide +kernel) (hts (.classLink RX1 51 "java/lang/IndexOutOfBoundsException") (List.mem_of_getElem? (i := 1) rfl)) (hts (.initialized "java/lang/IndexOutOfBoundsException") (List.mem_of_getElem? (i := 2) rfl)) (by decide +kernel) (fun w h => hts w (List.mem_cons_of_mem _ (List.mem_append_right _ h))) z_bad55 z_good55 hE.2.2.2.1.2.1 hE hP hS (by rw [hml]; exact hl.1) dX1_neighboursWith_16 dX1_neighboursWith_19 dX1_neighboursWith_20 dX1_neighboursWith_22 dX1_neighboursWith_25 htab (Nat.le_of_ble_eq_true rfl) (Nat.le_of_ble_eq_true rfl) (Nat.le_of_ble_eq_true rfl) (Nat.le_of_ble_eq_true rfl) hlocks (⟨rfl, fun q => z_if0 c_6 q.1⟩)
  · skip
    refine lv_iload_n hx hb dX1_neighboursWith_9 rfl (lv_at hl 3 rfl) ?_
    refine z_callSi (As := [.int col]) (rest := []) F9 (m_X1_isColourOrBare l dC dI cI cZ cJ cD col ) (va_cwS 1 hts gX1_neighboursWith_X1_isColourOrBare rfl rfl rfl (by decide +kernel) ⟨Nat.le_of_ble_eq_true rfl, Nat.le_of_ble_eq_true rfl⟩) hK hN hP hD hS hA rfl hl.1 rfl (Nat.le_of_ble_eq_true rfl) dX1_neighboursWith_10 ⟨Nat.zero_le _, Nat.zero_le _⟩ (fun r_2 H locs hp_10 hP hS => ?_)
    have hp_10 : r_2 = if pAny col then 1 else 0 := hp_10
    refine z_topi (y := if pAny col then 1 else 0) hp_10 ?_
    refine lv_if_ne (tgt := 26) hx hb dX1_neighboursWith_13 (by decide) (fun c_13 => ?_) (fun c_13 => ?_)
    · skip
      refine lv_iload_n hx hb dX1_neighboursWith_26 rfl (lv_at hl 1 rfl) ?_
      refine lv_iload_n hx hb dX1_neighboursWith_27 rfl (lv_at hl 2 rfl) ?_
      refine z_callSi (As := [.int x0, .int y0]) (rest := []) F9 (m_X1_cell l dC dI cI cZ cJ cD x0 y0 ) (va_cwS 2 hts gX1_neighboursWith_X1_cell rfl rfl rfl (by decide +kernel) ⟨Nat.le_of_ble_eq_true rfl, Nat.le_of_ble_eq_true rfl⟩) hK hN hP hD hS hA rfl hl.1 rfl (Nat.le_of_ble_eq_true rfl) dX1_neighboursWith_28 ⟨Nat.zero_le _, Nat.zero_le _⟩ (fun r_3 H locs hp_28 hP hS => ?_)
      have hp_28 : r_3 = pCell x0 y0 := hp_28
      refine z_topi (y := pCell x0 y0) hp_28 ?_
      refine z_callSi (As := [.int (pCell x0 y0)]) (rest := []) F9 (m_X1_nextTo l dC dI cI cZ cJ cD (pCell x0 y0) ) (va_cwS 1 hts gX1_neighboursWith_X1_nextTo rfl rfl rfl (by decide +kernel) ⟨Nat.le_of_ble_eq_true rfl, Nat.le_of_ble_eq_true rfl⟩) hK hN hP hD hS hA rfl hl.1 rfl (Nat.le_of_ble_eq_true rfl) dX1_neighboursWith_31 ⟨Nat.zero_le _, Nat.zero_le _⟩ (fun r_4 H locs hp_31 hP hS => ?_)
      have hp_31 : r_4 = pNext (pCell x0 y0) := hp_31
      refine z_topi (y := pNext (pCell x0 y0)) hp_31 ?_
      refine lv_aload_n hx hb dX1_neighboursWith_34 rfl (lv_at hl 0 rfl) ?_
      refine va_get (D := (dC, dI)) (ci := 1) (v := .ref hM) (C := RX1) (T := TX1) (N := 5) hx hb hts iX1_neighboursWith_X1 hown hK hP 0 rfl rfl 0 (by decide) (hts (.fieldLink RX1 12 "ColourTide" "map" "LColourTide$Tide;") (List.mem_of_getElem? (i := 3) rfl)) (fun _ h9 => h9) rfl dX1_neighboursWith_35 ?_
      refine lv_iload_n hx hb dX1_neighboursWith_38 rfl (lv_at hl 3 rfl) ?_
      refine z_callVi (As := [.int col]) (rest := [.int (pNext (pCell x0 y0))]) F9 (m_X0_cellsWith l dC dI cI cZ cJ cD hM aS aC aG bd sb nd S0 Cr G0 col ) (cwV 1 hts gX1_neighboursWith_X0_cellsWith rfl rfl rfl (by decide +kernel) ⟨Nat.le_of_ble_eq_true rfl, Nat.le_of_ble_eq_true rfl⟩) hK hN hP hD hS hA [1, 2, 3, 4] rfl rfl (fun _ => rfl) 1 (ci := 0) rfl rfl rfl rfl hl.1 rfl (Nat.le_of_ble_eq_true rfl) dX1_neighboursWith_39 ⟨Nat.zero_le _, Nat.zero_le _⟩ (fun r_5 u H locs hp_39 hP hD hS => ?_)
      have hP : va_P (dC, dI) vwCl [(h0, .inr (1, [.ref hM, .ref hV, .int wd, .int hg, .int wv])), (hM, .inr (0, [.int bd, .int sb, .int nd, .ref aS, .ref aC, .ref aG])), (aS, .inl (cI, 5, .inl S0)), (aC, .inl (cI, 5, .inl Cr)), (aG, .inl (cI, 5, .inl G0)), (hV, .inr (0, [.int bd2, .int sb2, .int nd2, .ref bS, .ref bC, .ref bG])), (bS, .inl (cI, 5, .inl S2)), (bC, .inl (cI, 5, .inl Cr2)), (bG, .inl (cI, 5, .inl G2))] H := hP
      have hD : va_D A [(h0, .inr (1, [.ref hM, .ref hV, .int wd, .int hg, .int wv])), (hM, .inr (0, [.int bd, .int sb, .int nd, .ref aS, .ref aC, .ref aG])), (aS, .inl (cI, 5, .inl S0)), (aC, .inl (cI, 5, .inl Cr)), (aG, .inl (cI, 5, .inl G0)), (hV, .inr (0, [.int bd2, .int sb2, .int nd2, .ref bS, .ref bC, .ref bG])), (bS, .inl (cI, 5, .inl S2)), (bC, .inl (cI, 5, .inl Cr2)), (bG, .inl (cI, 5, .inl G2))] := hD
      have hp_39 : r_5 = pCW S0 col := hp_39
      refine z_topi (y := pCW S0 col) hp_39 ?_
      refine lv_iand hx hb dX1_neighboursWith_42 ?_
      refine z_callSi (As := [.int ((pNext (pCell x0 y0)) &&& (pCW S0 col))]) (rest := []) F9 (m_J6_bitCount_0f7a4 l dC dI cI cZ cJ cD ((pNext (pCell x0 y0)) &&& (pCW S0 col)) ) (va_cwS 1 hts gX1_neighboursWith_J6_bitCount_0f7a4 rfl rfl rfl (by decide +kernel) ⟨Nat.le_of_ble_eq_true rfl, Nat.le_of_ble_eq_true rfl⟩) hK hN hP hD hS hA rfl hl.1 rfl (Nat.le_of_ble_eq_true rfl) dX1_neighboursWith_43 ⟨Nat.zero_le _, Nat.zero_le _⟩ (fun r_6 H locs hp_43 hP hS => ?_)
      have hp_43 : r_6 = pBC ((pNext (pCell x0 y0)) &&& (pCW S0 col)) := hp_43
      refine z_topi (y := pBC ((pNext (pCell x0 y0)) &&& (pCW S0 col))) hp_43 ?_
      rw [← hQ]
      exact zx_iret (W1 := (fun (_ : Unit) => [(h0, .inr (1, [.ref hM, .ref hV, .int wd, .int hg, .int wv])), (hM, .inr (0, [.int bd, .int sb, .int nd, .ref aS, .ref aC, .ref aG])), (aS, .inl (cI, 5, .inl S0)), (aC, .inl (cI, 5, .inl Cr)), (aG, .inl (cI, 5, .inl G0)), (hV, .inr (0, [.int bd2, .int sb2, .int nd2, .ref bS, .ref bC, .ref bG])), (bS, .inl (cI, 5, .inl S2)), (bC, .inl (cI, 5, .inl Cr2)), (bG, .inl (cI, 5, .inl G2))])) hx hb hr hlocks hP hS () (rfl) (⟨⟨z_if1 c_6, z_if1 c_13⟩, rfl⟩) dX1_neighboursWith_46
    · skip
      rw [← hQ]
      exact z_thr (cls := xIO) (text := "no such cell or colour") (ik := 51) (is := 53) (ic := 55) hx hb hst hown (by decide +kernel) (hts (.classLink RX1 51 "java/lang/IndexOutOfBoundsException") (List.mem_of_getElem? (i := 1) rfl)) (hts (.initialized "java/lang/IndexOutOfBoundsException") (List.mem_of_getElem? (i := 2) rfl)) (by decide +kernel) (fun w h => hts w (List.mem_cons_of_mem _ (List.mem_append_right _ h))) z_bad55 z_good55 hE.2.2.2.1.2.1 hE hP hS (by rw [hml]; exact hl.1) dX1_neighboursWith_16 dX1_neighboursWith_19 dX1_neighboursWith_20 dX1_neighboursWith_22 dX1_neighboursWith_25 htab (Nat.le_of_ble_eq_true rfl) (Nat.le_of_ble_eq_true rfl) (Nat.le_of_ble_eq_true rfl) (Nat.le_of_ble_eq_true rfl) hlocks (⟨rfl, fun q => z_if0 c_13 q.2⟩)
abbrev rmX1_nextColour : Room := { frames := 6, cells := 1, slots := 6, locals := 90 }
set_option maxRecDepth 20000 in
theorem iX1_nextColour_X0 : ∀ w ∈ wsX00, w ∈ wsX1_nextColour := fun w h => (goodIn_r (big := wsX1_nextColour) wsX00 [48, 49, 50, 51, 52, 53] (by decide +kernel) (by decide +kernel) w h).1
set_option maxRecDepth 20000 in
theorem iX1_nextColour_X1 : ∀ w ∈ wsX10, w ∈ wsX1_nextColour := fun w h => (goodIn_r (big := wsX1_nextColour) wsX10 [43, 44, 45, 46, 47] (by decide +kernel) (by decide +kernel) w h).1
set_option maxHeartbeats 4000000 in
set_option maxRecDepth 100000 in
theorem m_X1_nextColour (l : Launch) (dC : Nat → ClassId) (dI : Nat → Nat → Nat) (cI cZ cJ cD : ClassId) (hst : l.stackTraces = false) (ad : Nat → Nat) (h0 : Nat) (hM : Nat) (aS : Nat) (aC : Nat) (aG : Nat) (hV : Nat) (bS : Nat) (bC : Nat) (bG : Nat) (wd : Int32) (hg : Int32) (wv : Int32) (bd : Int32) (sb : Int32) (nd : Int32) (S0 : Nat → Int32) (Cr : Nat → Int32) (G0 : Nat → Int32) (bd2 : Int32) (sb2 : Int32) (nd2 : Int32) (S2 : Nat → Int32) (Cr2 : Nat → Int32) (G2 : Nat → Int32) (q0 : Nat) (x0 : Int32) (y0 : Int32) (hq : 1 ≤ q0 ∧ q0 ≤ 4) (hnd : nd = nI q0) : zXI l (dC, dI) (wT cI cZ cJ cD) ad yX1_nextColour wsX1_nextColour rmX1_nextColour [(h0, .inr (1, [.ref hM, .ref hV, .int wd, .int hg, .int wv])), (hM, .inr (0, [.int bd, .int sb, .int nd, .ref aS, .ref aC, .ref aG])), (aS, .inl (cI, 5, .inl S0)), (aC, .inl (cI, 5, .inl Cr)), (aG, .inl (cI, 5, .inl G0)), (hV, .inr (0, [.int bd2, .int sb2, .int nd2, .ref bS, .ref bC, .ref bG])), (bS, .inl (cI, 5, .inl S2)), (bC, .inl (cI, 5, .inl Cr2)), (bG, .inl (cI, 5, .inl G2))] [.ref h0, .int x0, .int y0] (fun (u : (Nat → Int32) × (Nat → Int32)) => [(h0, .inr (1, [.ref hM, .ref hV, .int wd, .int hg, .int wv])), (hM, .inr (0, [.int bd, .int sb, .int nd, .ref aS, .ref aC, .ref aG])), (aS, .inl (cI, 5, .inl S0)), (aC, .inl (cI, 5, .inl u.1)), (aG, .inl (cI, 5, .inl u.2)), (hV, .inr (0, [.int bd2, .int sb2, .int nd2, .ref bS, .ref bC, .ref bG])), (bS, .inl (cI, 5, .inl S2)), (bC, .inl (cI, 5, .inl Cr2)), (bG, .inl (cI, 5, .inl G2))]) (fun (r : Int32) (u : (Nat → Int32) × (Nat → Int32)) => (pOn x0 y0 wd hg) ∧ r = pFore S0 (pG0 S0 bd sb q0) (pCell x0 y0)) (fun E => E = xIO ∧ ¬ (pOn x0 y0 wd hg)) := by
  intro sz
  refine vx_ofW (cc := cX1_nextColour) (maxL := 3) (ret := (some .int)) (by decide) rfl ?_
  intro p e s m args below meth c s₁ B hml htab hv
  obtain ⟨ha, hsz, hP, hK, hD0, hE⟩ := hv
  have hx := B.exec
  have hb := B.bytes
  have hr := B.returns
  have hts := atoms_spec (ws := wsX1_nextColour) B.pre
  have hown : s.vm.findClass RX1 = some m.cls := findClass_of_methodNamed B.named
  have hlocks := B.notSynchronized
  subst hsz
  have hD := hD0.self (sz := s.heap.size)
  generalize hAe : va_A [(h0, .inr (1, [.ref hM, .ref hV, .int wd, .int hg, .int wv])), (hM, .inr (0, [.int bd, .int sb, .int nd, .ref aS, .ref aC, .ref aG])), (aS, .inl (cI, 5, .inl S0)), (aC, .inl (cI, 5, .inl Cr)), (aG, .inl (cI, 5, .inl G0)), (hV, .inr (0, [.int bd2, .int sb2, .int nd2, .ref bS, .ref bC, .ref bG])), (bS, .inl (cI, 5, .inl S2)), (bC, .inl (cI, 5, .inl Cr2)), (bG, .inl (cI, 5, .inl G2))] s.heap.size = A at hD hE ⊢
  have hN := hE.1
  have hA : ∀ q : Nat, s.heap.size ≤ q → A q := fun q h => by rw [← hAe]; exact Or.inr h
  have hS : va_S A s.heap s.heap [] := va_S.rf
  generalize hQ : vx_MQ below (va_Qi (fun (r : Int32) (u : (Nat → Int32) × (Nat → Int32)) => (pOn x0 y0 wd hg) ∧ r = pFore S0 (pG0 S0 bd sb q0) (pCell x0 y0)) (fun u t => va_P (dC, dI) vwCl ((fun (u : (Nat → Int32) × (Nat → Int32)) => [(h0, .inr (1, [.ref hM, .ref hV, .int wd, .int hg, .int wv])), (hM, .inr (0, [.int bd, .int sb, .int nd, .ref aS, .ref aC, .ref aG])), (aS, .inl (cI, 5, .inl S0)), (aC, .inl (cI, 5, .inl u.1)), (aG, .inl (cI, 5, .inl u.2)), (hV, .inr (0, [.int bd2, .int sb2, .int nd2, .ref bS, .ref bC, .ref bG])), (bS, .inl (cI, 5, .inl S2)), (bC, .inl (cI, 5, .inl Cr2)), (bG, .inl (cI, 5, .inl G2))]) u) t.heap) A) (zX (fun E => E = xIO ∧ ¬ (pOn x0 y0 wd hg)) (dC, dI) [(h0, .inr (1, [.ref hM, .ref hV, .int wd, .int hg, .int wv])), (hM, .inr (0, [.int bd, .int sb, .int nd, .ref aS, .ref aC, .ref aG])), (aS, .inl (cI, 5, .inl S0)), (aC, .inl (cI, 5, .inl Cr)), (aG, .inl (cI, 5, .inl G0)), (hV, .inr (0, [.int bd2, .int sb2, .int nd2, .ref bS, .ref bC, .ref bG])), (bS, .inl (cI, 5, .inl S2)), (bC, .inl (cI, 5, .inl Cr2)), (bG, .inl (cI, 5, .inl G2))] A) args s 1 6 A = Q
  have F9 : CallFix p m c cX1_nextColour 3 s args wsX1_nextColour RX1 := ⟨hx, hb, hml, hown, hts⟩
  refine z_entry (R := rmX1_nextColour) ha (Nat.le_of_ble_eq_true rfl) (fun ls hl => ?_)
  have hl : lv_has ls 3 [(0, .ref h0), (1, .int x0), (2, .int y0)] := hl
  refine lv_aload_n hx hb dX1_nextColour_0 rfl (lv_at hl 0 rfl) ?_
  refine lv_iload_n hx hb dX1_nextColour_1 rfl (lv_at hl 1 rfl) ?_
  refine lv_iload_n hx hb dX1_nextColour_2 rfl (lv_at hl 2 rfl) ?_
  refine z_callVi (As := [.int x0, .int y0]) (rest := []) F9 (m_X1_isOnMap l dC dI cI cZ cJ cD h0 hM aS aC aG hV bS bC bG wd hg wv bd sb nd S0 Cr G0 bd2 sb2 nd2 S2 Cr2 G2 x0 y0 ) (cwV 2 hts gX1_nextColour_X1_isOnMap rfl rfl rfl (by decide +kernel) ⟨Nat.le_of_ble_eq_true rfl, Nat.le_of_ble_eq_true rfl⟩) hK hN hP hD hS hA [0, 1, 2, 3, 4, 5, 6, 7, 8] rfl rfl (fun _ => rfl) 0 (ci := 1) rfl rfl rfl rfl hl.1 rfl (Nat.le_of_ble_eq_true rfl) dX1_nextColour_3 ⟨Nat.zero_le _, Nat.zero_le _⟩ (fun r_1 u H locs hp_3 hP hD hS => ?_)
  have hP : va_P (dC, dI) vwCl [(h0, .inr (1, [.ref hM, .ref hV, .int wd, .int hg, .int wv])), (hM, .inr (0, [.int bd, .int sb, .int nd, .ref aS, .ref aC, .ref aG])), (aS, .inl (cI, 5, .inl S0)), (aC, .inl (cI, 5, .inl Cr)), (aG, .inl (cI, 5, .inl G0)), (hV, .inr (0, [.int bd2, .int sb2, .int nd2, .ref bS, .ref bC, .ref bG])), (bS, .inl (cI, 5, .inl S2)), (bC, .inl (cI, 5, .inl Cr2)), (bG, .inl (cI, 5, .inl G2))] H := hP
  have hD : va_D A [(h0, .inr (1, [.ref hM, .ref hV, .int wd, .int hg, .int wv])), (hM, .inr (0, [.int bd, .int sb, .int nd, .ref aS, .ref aC, .ref aG])), (aS, .inl (cI, 5, .inl S0)), (aC, .inl (cI, 5, .inl Cr)), (aG, .inl (cI, 5, .inl G0)), (hV, .inr (0, [.int bd2, .int sb2, .int nd2, .ref bS, .ref bC, .ref bG])), (bS, .inl (cI, 5, .inl S2)), (bC, .inl (cI, 5, .inl Cr2)), (bG, .inl (cI, 5, .inl G2))] := hD
  have hp_3 : r_1 = if pOn x0 y0 wd hg then 1 else 0 := hp_3
  refine z_topi (y := if pOn x0 y0 wd hg then 1 else 0) hp_3 ?_
  refine lv_if_ne (tgt := 19) hx hb dX1_nextColour_6 (by decide) (fun c_6 => ?_) (fun c_6 => ?_)
  · skip
    refine lv_aload_n hx hb dX1_nextColour_19 rfl (lv_at hl 0 rfl) ?_
    refine va_get (D := (dC, dI)) (ci := 1) (v := .ref hM) (C := RX1) (T := TX1) (N := 5) hx hb hts iX1_nextColour_X1 hown hK hP 0 rfl rfl 0 (by decide) (hts (.fieldLink RX1 12 "ColourTide" "map" "LColourTide$Tide;") (List.mem_of_getElem? (i := 3) rfl)) (fun _ h9 => h9) rfl dX1_nextColour_20 ?_
    refine z_callVi (As := []) (rest := []) F9 (m_X0_foresee l dC dI cI cZ cJ cD hM aS aC aG bd sb nd S0 Cr G0 q0 (hq) (hnd)) (cwV 0 hts gX1_nextColour_X0_foresee rfl rfl rfl (by decide +kernel) ⟨Nat.le_of_ble_eq_true rfl, Nat.le_of_ble_eq_true rfl⟩) hK hN hP hD hS hA [1, 2, 3, 4] rfl rfl (fun _ => rfl) 1 (ci := 0) rfl rfl rfl rfl hl.1 rfl (Nat.le_of_ble_eq_true rfl) dX1_nextColour_23 ⟨Nat.zero_le _, Nat.zero_le _⟩ (fun r_2 u H locs hp_23 hP hD hS => ?_)
    have hP : va_P (dC, dI) vwCl [(h0, .inr (1, [.ref hM, .ref hV, .int wd, .int hg, .int wv])), (hM, .inr (0, [.int bd, .int sb, .int nd, .ref aS, .ref aC, .ref aG])), (aS, .inl (cI, 5, .inl S0)), (aC, .inl (cI, 5, .inl (pCs S0 q0 Cr (5 - q0)))), (aG, .inl (cI, 5, .inl (pGf S0 bd sb q0 G0))), (hV, .inr (0, [.int bd2, .int sb2, .int nd2, .ref bS, .ref bC, .ref bG])), (bS, .inl (cI, 5, .inl S2)), (bC, .inl (cI, 5, .inl Cr2)), (bG, .inl (cI, 5, .inl G2))] H := hP
    have hD : va_D A [(h0, .inr (1, [.ref hM, .ref hV, .int wd, .int hg, .int wv])), (hM, .inr (0, [.int bd, .int sb, .int nd, .ref aS, .ref aC, .ref aG])), (aS, .inl (cI, 5, .inl S0)), (aC, .inl (cI, 5, .inl (pCs S0 q0 Cr (5 - q0)))), (aG, .inl (cI, 5, .inl (pGf S0 bd sb q0 G0))), (hV, .inr (0, [.int bd2, .int sb2, .int nd2, .ref bS, .ref bC, .ref bG])), (bS, .inl (cI, 5, .inl S2)), (bC, .inl (cI, 5, .inl Cr2)), (bG, .inl (cI, 5, .inl G2))] := hD
    have hp_23 : r_2 = pC0 S0 bd sb q0 := hp_23
    refine z_topi (y := pC0 S0 bd sb q0) hp_23 ?_
    refine lv_pop hx hb dX1_nextColour_26 rfl ?_
    refine lv_aload_n hx hb dX1_nextColour_27 rfl (lv_at hl 0 rfl) ?_
    refine va_get (D := (dC, dI)) (ci := 1) (v := .ref hM) (C := RX1) (T := TX1) (N := 5) hx hb hts iX1_nextColour_X1 hown hK hP 0 rfl rfl 0 (by decide) (hts (.fieldLink RX1 12 "ColourTide" "map" "LColourTide$Tide;") (List.mem_of_getElem? (i := 3) rfl)) (fun _ h9 => h9) rfl dX1_nextColour_28 ?_
    refine lv_iload_n hx hb dX1_nextColour_31 rfl (lv_at hl 1 rfl) ?_
    refine lv_iload_n hx hb dX1_nextColour_32 rfl (lv_at hl 2 rfl) ?_
    refine z_callSi (As := [.int x0, .int y0]) (rest := [.ref hM]) F9 (m_X1_cell l dC dI cI cZ cJ cD x0 y0 ) (va_cwS 2 hts gX1_nextColour_X1_cell rfl rfl rfl (by decide +kernel) ⟨Nat.le_of_ble_eq_true rfl, Nat.le_of_ble_eq_true rfl⟩) hK hN hP hD hS hA rfl hl.1 rfl (Nat.le_of_ble_eq_true rfl) dX1_nextColour_33 ⟨Nat.zero_le _, Nat.zero_le _⟩ (fun r_3 H locs hp_33 hP hS => ?_)
    have hp_33 : r_3 = pCell x0 y0 := hp_33
    refine z_topi (y := pCell x0 y0) hp_33 ?_
    refine z_callVi (As := [.int (pCell x0 y0)]) (rest := []) F9 (m_X0_foreseenColourOf l dC dI cI cZ cJ cD hM aS aC aG bd sb nd S0 (pCs S0 q0 Cr (5 - q0)) (pGf S0 bd sb q0 G0) (pCell x0 y0) ) (cwV 1 hts gX1_nextColour_X0_foreseenColourOf rfl rfl rfl (by decide +kernel) ⟨Nat.le_of_ble_eq_true rfl, Nat.le_of_ble_eq_true rfl⟩) hK hN hP hD hS hA [1, 2, 3, 4] rfl rfl (fun _ => rfl) 1 (ci := 0) rfl rfl rfl rfl hl.1 rfl (Nat.le_of_ble_eq_true rfl) dX1_nextColour_36 ⟨Nat.zero_le _, Nat.zero_le _⟩ (fun r_4 u H locs hp_36 hP hD hS => ?_)
    have hP : va_P (dC, dI) vwCl [(h0, .inr (1, [.ref hM, .ref hV, .int wd, .int hg, .int wv])), (hM, .inr (0, [.int bd, .int sb, .int nd, .ref aS, .ref aC, .ref aG])), (aS, .inl (cI, 5, .inl S0)), (aC, .inl (cI, 5, .inl (pCs S0 q0 Cr (5 - q0)))), (aG, .inl (cI, 5, .inl (pGf S0 bd sb q0 G0))), (hV, .inr (0, [.int bd2, .int sb2, .int nd2, .ref bS, .ref bC, .ref bG])), (bS, .inl (cI, 5, .inl S2)), (bC, .inl (cI, 5, .inl Cr2)), (bG, .inl (cI, 5, .inl G2))] H := hP
    have hD : va_D A [(h0, .inr (1, [.ref hM, .ref hV, .int wd, .int hg, .int wv])), (hM, .inr (0, [.int bd, .int sb, .int nd, .ref aS, .ref aC, .ref aG])), (aS, .inl (cI, 5, .inl S0)), (aC, .inl (cI, 5, .inl (pCs S0 q0 Cr (5 - q0)))), (aG, .inl (cI, 5, .inl (pGf S0 bd sb q0 G0))), (hV, .inr (0, [.int bd2, .int sb2, .int nd2, .ref bS, .ref bC, .ref bG])), (bS, .inl (cI, 5, .inl S2)), (bC, .inl (cI, 5, .inl Cr2)), (bG, .inl (cI, 5, .inl G2))] := hD
    have hp_36 : r_4 = pFore S0 (pGf S0 bd sb q0 G0) (pCell x0 y0) := hp_36
    refine z_topi (y := pFore S0 (pGf S0 bd sb q0 G0) (pCell x0 y0)) hp_36 ?_
    rw [← hQ]
    exact zx_iret (W1 := (fun (u : (Nat → Int32) × (Nat → Int32)) => [(h0, .inr (1, [.ref hM, .ref hV, .int wd, .int hg, .int wv])), (hM, .inr (0, [.int bd, .int sb, .int nd, .ref aS, .ref aC, .ref aG])), (aS, .inl (cI, 5, .inl S0)), (aC, .inl (cI, 5, .inl u.1)), (aG, .inl (cI, 5, .inl u.2)), (hV, .inr (0, [.int bd2, .int sb2, .int nd2, .ref bS, .ref bC, .ref bG])), (bS, .inl (cI, 5, .inl S2)), (bC, .inl (cI, 5, .inl Cr2)), (bG, .inl (cI, 5, .inl G2))])) hx hb hr hlocks hP hS ((pCs S0 q0 Cr (5 - q0)), (pGf S0 bd sb q0 G0)) (rfl) (⟨z_if1 c_6, pFore_in _ _ _ _ _ _⟩) dX1_nextColour_39
  · skip
    rw [← hQ]
    exact z_thr (cls := xIO) (text := "no such cell") (ik := 51) (is := 67) (ic := 55) hx hb hst hown (by decide +kernel) (hts (.classLink RX1 51 "java/lang/IndexOutOfBoundsException") (List.mem_of_getElem? (i := 1) rfl)) (hts (.initialized "java/lang/IndexOutOfBoundsException") (List.mem_of_getElem? (i := 2) rfl)) (by decide +kernel) (fun w h => hts w (List.mem_cons_of_mem _ (List.mem_append_right _ h))) z_bad55 z_good55 hE.2.2.2.1.2.1 hE hP hS (by rw [hml]; exact hl.1) dX1_nextColour_9 dX1_nextColour_12 dX1_nextColour_13 dX1_nextColour_15 dX1_nextColour_18 htab (Nat.le_of_ble_eq_true rfl) (Nat.le_of_ble_eq_true rfl) (Nat.le_of_ble_eq_true rfl) (Nat.le_of_ble_eq_true rfl) hlocks (⟨rfl, fun q => z_if0 c_6 q⟩)
abbrev rmX1_regionSize : Room := { frames := 6, cells := 1, slots := 6, locals := 90 }
set_option maxRecDepth 20000 in
theorem iX1_regionSize_X0 : ∀ w ∈ wsX00, w ∈ wsX1_regionSize := fun w h => (goodIn_r (big := wsX1_regionSize) wsX00 [48, 49, 50, 51, 52, 53] (by decide +kernel) (by decide +kernel) w h).1
set_option maxRecDepth 20000 in
theorem iX1_regionSize_X1 : ∀ w ∈ wsX10, w ∈ wsX1_regionSize := fun w h => (goodIn_r (big := wsX1_regionSize) wsX10 [43, 44, 45, 46, 47] (by decide +kernel) (by decide +kernel) w h).1
set_option maxHeartbeats 4000000 in
set_option maxRecDepth 100000 in
theorem m_X1_regionSize (l : Launch) (dC : Nat → ClassId) (dI : Nat → Nat → Nat) (cI cZ cJ cD : ClassId) (hst : l.stackTraces = false) (ad : Nat → Nat) (h0 : Nat) (hM : Nat) (aS : Nat) (aC : Nat) (aG : Nat) (hV : Nat) (bS : Nat) (bC : Nat) (bG : Nat) (wd : Int32) (hg : Int32) (wv : Int32) (bd : Int32) (sb : Int32) (nd : Int32) (S0 : Nat → Int32) (Cr : Nat → Int32) (G0 : Nat → Int32) (bd2 : Int32) (sb2 : Int32) (nd2 : Int32) (S2 : Nat → Int32) (Cr2 : Nat → Int32) (G2 : Nat → Int32) (x0 : Int32) (y0 : Int32)  : zXI l (dC, dI) (wT cI cZ cJ cD) ad yX1_regionSize wsX1_regionSize rmX1_regionSize [(h0, .inr (1, [.ref hM, .ref hV, .int wd, .int hg, .int wv])), (hM, .inr (0, [.int bd, .int sb, .int nd, .ref aS, .ref aC, .ref aG])), (aS, .inl (cI, 5, .inl S0)), (aC, .inl (cI, 5, .inl Cr)), (aG, .inl (cI, 5, .inl G0)), (hV, .inr (0, [.int bd2, .int sb2, .int nd2, .ref bS, .ref bC, .ref bG])), (bS, .inl (cI, 5, .inl S2)), (bC, .inl (cI, 5, .inl Cr2)), (bG, .inl (cI, 5, .inl G2))] [.ref h0, .int x0, .int y0] (fun (_ : Unit) => [(h0, .inr (1, [.ref hM, .ref hV, .int wd, .int hg, .int wv])), (hM, .inr (0, [.int bd, .int sb, .int nd, .ref aS, .ref aC, .ref aG])), (aS, .inl (cI, 5, .inl S0)), (aC, .inl (cI, 5, .inl Cr)), (aG, .inl (cI, 5, .inl G0)), (hV, .inr (0, [.int bd2, .int sb2, .int nd2, .ref bS, .ref bC, .ref bG])), (bS, .inl (cI, 5, .inl S2)), (bC, .inl (cI, 5, .inl Cr2)), (bG, .inl (cI, 5, .inl G2))]) (fun (r : Int32) (_ : Unit) => (pOn x0 y0 wd hg) ∧ r = pSoR S0 (pCell x0 y0)) (fun E => E = xIO ∧ ¬ (pOn x0 y0 wd hg)) := by
  intro sz
  refine vx_ofW (cc := cX1_regionSize) (maxL := 3) (ret := (some .int)) (by decide) rfl ?_
  intro p e s m args below meth c s₁ B hml htab hv
  obtain ⟨ha, hsz, hP, hK, hD0, hE⟩ := hv
  have hx := B.exec
  have hb := B.bytes
  have hr := B.returns
  have hts := atoms_spec (ws := wsX1_regionSize) B.pre
  have hown : s.vm.findClass RX1 = some m.cls := findClass_of_methodNamed B.named
  have hlocks := B.notSynchronized
  subst hsz
  have hD := hD0.self (sz := s.heap.size)
  generalize hAe : va_A [(h0, .inr (1, [.ref hM, .ref hV, .int wd, .int hg, .int wv])), (hM, .inr (0, [.int bd, .int sb, .int nd, .ref aS, .ref aC, .ref aG])), (aS, .inl (cI, 5, .inl S0)), (aC, .inl (cI, 5, .inl Cr)), (aG, .inl (cI, 5, .inl G0)), (hV, .inr (0, [.int bd2, .int sb2, .int nd2, .ref bS, .ref bC, .ref bG])), (bS, .inl (cI, 5, .inl S2)), (bC, .inl (cI, 5, .inl Cr2)), (bG, .inl (cI, 5, .inl G2))] s.heap.size = A at hD hE ⊢
  have hN := hE.1
  have hA : ∀ q : Nat, s.heap.size ≤ q → A q := fun q h => by rw [← hAe]; exact Or.inr h
  have hS : va_S A s.heap s.heap [] := va_S.rf
  generalize hQ : vx_MQ below (va_Qi (fun (r : Int32) (_ : Unit) => (pOn x0 y0 wd hg) ∧ r = pSoR S0 (pCell x0 y0)) (fun u t => va_P (dC, dI) vwCl ((fun (_ : Unit) => [(h0, .inr (1, [.ref hM, .ref hV, .int wd, .int hg, .int wv])), (hM, .inr (0, [.int bd, .int sb, .int nd, .ref aS, .ref aC, .ref aG])), (aS, .inl (cI, 5, .inl S0)), (aC, .inl (cI, 5, .inl Cr)), (aG, .inl (cI, 5, .inl G0)), (hV, .inr (0, [.int bd2, .int sb2, .int nd2, .ref bS, .ref bC, .ref bG])), (bS, .inl (cI, 5, .inl S2)), (bC, .inl (cI, 5, .inl Cr2)), (bG, .inl (cI, 5, .inl G2))]) u) t.heap) A) (zX (fun E => E = xIO ∧ ¬ (pOn x0 y0 wd hg)) (dC, dI) [(h0, .inr (1, [.ref hM, .ref hV, .int wd, .int hg, .int wv])), (hM, .inr (0, [.int bd, .int sb, .int nd, .ref aS, .ref aC, .ref aG])), (aS, .inl (cI, 5, .inl S0)), (aC, .inl (cI, 5, .inl Cr)), (aG, .inl (cI, 5, .inl G0)), (hV, .inr (0, [.int bd2, .int sb2, .int nd2, .ref bS, .ref bC, .ref bG])), (bS, .inl (cI, 5, .inl S2)), (bC, .inl (cI, 5, .inl Cr2)), (bG, .inl (cI, 5, .inl G2))] A) args s 1 6 A = Q
  have F9 : CallFix p m c cX1_regionSize 3 s args wsX1_regionSize RX1 := ⟨hx, hb, hml, hown, hts⟩
  refine z_entry (R := rmX1_regionSize) ha (Nat.le_of_ble_eq_true rfl) (fun ls hl => ?_)
  have hl : lv_has ls 3 [(0, .ref h0), (1, .int x0), (2, .int y0)] := hl
  refine lv_aload_n hx hb dX1_regionSize_0 rfl (lv_at hl 0 rfl) ?_
  refine lv_iload_n hx hb dX1_regionSize_1 rfl (lv_at hl 1 rfl) ?_
  refine lv_iload_n hx hb dX1_regionSize_2 rfl (lv_at hl 2 rfl) ?_
  refine z_callVi (As := [.int x0, .int y0]) (rest := []) F9 (m_X1_isOnMap l dC dI cI cZ cJ cD h0 hM aS aC aG hV bS bC bG wd hg wv bd sb nd S0 Cr G0 bd2 sb2 nd2 S2 Cr2 G2 x0 y0 ) (cwV 2 hts gX1_regionSize_X1_isOnMap rfl rfl rfl (by decide +kernel) ⟨Nat.le_of_ble_eq_true rfl, Nat.le_of_ble_eq_true rfl⟩) hK hN hP hD hS hA [0, 1, 2, 3, 4, 5, 6, 7, 8] rfl rfl (fun _ => rfl) 0 (ci := 1) rfl rfl rfl rfl hl.1 rfl (Nat.le_of_ble_eq_true rfl) dX1_regionSize_3 ⟨Nat.zero_le _, Nat.zero_le _⟩ (fun r_1 u H locs hp_3 hP hD hS => ?_)
  have hP : va_P (dC, dI) vwCl [(h0, .inr (1, [.ref hM, .ref hV, .int wd, .int hg, .int wv])), (hM, .inr (0, [.int bd, .int sb, .int nd, .ref aS, .ref aC, .ref aG])), (aS, .inl (cI, 5, .inl S0)), (aC, .inl (cI, 5, .inl Cr)), (aG, .inl (cI, 5, .inl G0)), (hV, .inr (0, [.int bd2, .int sb2, .int nd2, .ref bS, .ref bC, .ref bG])), (bS, .inl (cI, 5, .inl S2)), (bC, .inl (cI, 5, .inl Cr2)), (bG, .inl (cI, 5, .inl G2))] H := hP
  have hD : va_D A [(h0, .inr (1, [.ref hM, .ref hV, .int wd, .int hg, .int wv])), (hM, .inr (0, [.int bd, .int sb, .int nd, .ref aS, .ref aC, .ref aG])), (aS, .inl (cI, 5, .inl S0)), (aC, .inl (cI, 5, .inl Cr)), (aG, .inl (cI, 5, .inl G0)), (hV, .inr (0, [.int bd2, .int sb2, .int nd2, .ref bS, .ref bC, .ref bG])), (bS, .inl (cI, 5, .inl S2)), (bC, .inl (cI, 5, .inl Cr2)), (bG, .inl (cI, 5, .inl G2))] := hD
  have hp_3 : r_1 = if pOn x0 y0 wd hg then 1 else 0 := hp_3
  refine z_topi (y := if pOn x0 y0 wd hg then 1 else 0) hp_3 ?_
  refine lv_if_ne (tgt := 19) hx hb dX1_regionSize_6 (by decide) (fun c_6 => ?_) (fun c_6 => ?_)
  · skip
    refine lv_aload_n hx hb dX1_regionSize_19 rfl (lv_at hl 0 rfl) ?_
    refine va_get (D := (dC, dI)) (ci := 1) (v := .ref hM) (C := RX1) (T := TX1) (N := 5) hx hb hts iX1_regionSize_X1 hown hK hP 0 rfl rfl 0 (by decide) (hts (.fieldLink RX1 12 "ColourTide" "map" "LColourTide$Tide;") (List.mem_of_getElem? (i := 3) rfl)) (fun _ h9 => h9) rfl dX1_regionSize_20 ?_
    refine lv_iload_n hx hb dX1_regionSize_23 rfl (lv_at hl 1 rfl) ?_
    refine lv_iload_n hx hb dX1_regionSize_24 rfl (lv_at hl 2 rfl) ?_
    refine z_callSi (As := [.int x0, .int y0]) (rest := [.ref hM]) F9 (m_X1_cell l dC dI cI cZ cJ cD x0 y0 ) (va_cwS 2 hts gX1_regionSize_X1_cell rfl rfl rfl (by decide +kernel) ⟨Nat.le_of_ble_eq_true rfl, Nat.le_of_ble_eq_true rfl⟩) hK hN hP hD hS hA rfl hl.1 rfl (Nat.le_of_ble_eq_true rfl) dX1_regionSize_25 ⟨Nat.zero_le _, Nat.zero_le _⟩ (fun r_2 H locs hp_25 hP hS => ?_)
    have hp_25 : r_2 = pCell x0 y0 := hp_25
    refine z_topi (y := pCell x0 y0) hp_25 ?_
    refine z_callVi (As := [.int (pCell x0 y0)]) (rest := []) F9 (m_X0_sizeOfRegion l dC dI cI cZ cJ cD hM aS aC aG bd sb nd S0 Cr G0 (pCell x0 y0) ) (cwV 1 hts gX1_regionSize_X0_sizeOfRegion rfl rfl rfl (by decide +kernel) ⟨Nat.le_of_ble_eq_true rfl, Nat.le_of_ble_eq_true rfl⟩) hK hN hP hD hS hA [1, 2, 3, 4] rfl rfl (fun _ => rfl) 1 (ci := 0) rfl rfl rfl rfl hl.1 rfl (Nat.le_of_ble_eq_true rfl) dX1_regionSize_28 ⟨Nat.zero_le _, Nat.zero_le _⟩ (fun r_3 u H locs hp_28 hP hD hS => ?_)
    have hP : va_P (dC, dI) vwCl [(h0, .inr (1, [.ref hM, .ref hV, .int wd, .int hg, .int wv])), (hM, .inr (0, [.int bd, .int sb, .int nd, .ref aS, .ref aC, .ref aG])), (aS, .inl (cI, 5, .inl S0)), (aC, .inl (cI, 5, .inl Cr)), (aG, .inl (cI, 5, .inl G0)), (hV, .inr (0, [.int bd2, .int sb2, .int nd2, .ref bS, .ref bC, .ref bG])), (bS, .inl (cI, 5, .inl S2)), (bC, .inl (cI, 5, .inl Cr2)), (bG, .inl (cI, 5, .inl G2))] H := hP
    have hD : va_D A [(h0, .inr (1, [.ref hM, .ref hV, .int wd, .int hg, .int wv])), (hM, .inr (0, [.int bd, .int sb, .int nd, .ref aS, .ref aC, .ref aG])), (aS, .inl (cI, 5, .inl S0)), (aC, .inl (cI, 5, .inl Cr)), (aG, .inl (cI, 5, .inl G0)), (hV, .inr (0, [.int bd2, .int sb2, .int nd2, .ref bS, .ref bC, .ref bG])), (bS, .inl (cI, 5, .inl S2)), (bC, .inl (cI, 5, .inl Cr2)), (bG, .inl (cI, 5, .inl G2))] := hD
    have hp_28 : r_3 = pSoR S0 (pCell x0 y0) := hp_28
    refine z_topi (y := pSoR S0 (pCell x0 y0)) hp_28 ?_
    rw [← hQ]
    exact zx_iret (W1 := (fun (_ : Unit) => [(h0, .inr (1, [.ref hM, .ref hV, .int wd, .int hg, .int wv])), (hM, .inr (0, [.int bd, .int sb, .int nd, .ref aS, .ref aC, .ref aG])), (aS, .inl (cI, 5, .inl S0)), (aC, .inl (cI, 5, .inl Cr)), (aG, .inl (cI, 5, .inl G0)), (hV, .inr (0, [.int bd2, .int sb2, .int nd2, .ref bS, .ref bC, .ref bG])), (bS, .inl (cI, 5, .inl S2)), (bC, .inl (cI, 5, .inl Cr2)), (bG, .inl (cI, 5, .inl G2))])) hx hb hr hlocks hP hS () (rfl) (⟨z_if1 c_6, rfl⟩) dX1_regionSize_31
  · skip
    rw [← hQ]
    exact z_thr (cls := xIO) (text := "no such cell") (ik := 51) (is := 67) (ic := 55) hx hb hst hown (by decide +kernel) (hts (.classLink RX1 51 "java/lang/IndexOutOfBoundsException") (List.mem_of_getElem? (i := 1) rfl)) (hts (.initialized "java/lang/IndexOutOfBoundsException") (List.mem_of_getElem? (i := 2) rfl)) (by decide +kernel) (fun w h => hts w (List.mem_cons_of_mem _ (List.mem_append_right _ h))) z_bad55 z_good55 hE.2.2.2.1.2.1 hE hP hS (by rw [hml]; exact hl.1) dX1_regionSize_9 dX1_regionSize_12 dX1_regionSize_13 dX1_regionSize_15 dX1_regionSize_18 htab (Nat.le_of_ble_eq_true rfl) (Nat.le_of_ble_eq_true rfl) (Nat.le_of_ble_eq_true rfl) (Nat.le_of_ble_eq_true rfl) hlocks (⟨rfl, fun q => z_if0 c_6 q⟩)
abbrev rmX1_cellsOf : Room := { frames := 6, cells := 1, slots := 6, locals := 90 }
set_option maxRecDepth 20000 in
theorem iX1_cellsOf_X0 : ∀ w ∈ wsX00, w ∈ wsX1_cellsOf := fun w h => (goodIn_r (big := wsX1_cellsOf) wsX00 [33, 34, 35, 36, 37, 38] (by decide +kernel) (by decide +kernel) w h).1
set_option maxRecDepth 20000 in
theorem iX1_cellsOf_X1 : ∀ w ∈ wsX10, w ∈ wsX1_cellsOf := fun w h => (goodIn_r (big := wsX1_cellsOf) wsX10 [28, 29, 30, 31, 32] (by decide +kernel) (by decide +kernel) w h).1
set_option maxHeartbeats 4000000 in
set_option maxRecDepth 100000 in
theorem m_X1_cellsOf (l : Launch) (dC : Nat → ClassId) (dI : Nat → Nat → Nat) (cI cZ cJ cD : ClassId) (hst : l.stackTraces = false) (ad : Nat → Nat) (h0 : Nat) (hM : Nat) (aS : Nat) (aC : Nat) (aG : Nat) (hV : Nat) (bS : Nat) (bC : Nat) (bG : Nat) (wd : Int32) (hg : Int32) (wv : Int32) (bd : Int32) (sb : Int32) (nd : Int32) (S0 : Nat → Int32) (Cr : Nat → Int32) (G0 : Nat → Int32) (bd2 : Int32) (sb2 : Int32) (nd2 : Int32) (S2 : Nat → Int32) (Cr2 : Nat → Int32) (G2 : Nat → Int32) (col : Int32)  : zXI l (dC, dI) (wT cI cZ cJ cD) ad yX1_cellsOf wsX1_cellsOf rmX1_cellsOf [(h0, .inr (1, [.ref hM, .ref hV, .int wd, .int hg, .int wv])), (hM, .inr (0, [.int bd, .int sb, .int nd, .ref aS, .ref aC, .ref aG])), (aS, .inl (cI, 5, .inl S0)), (aC, .inl (cI, 5, .inl Cr)), (aG, .inl (cI, 5, .inl G0)), (hV, .inr (0, [.int bd2, .int sb2, .int nd2, .ref bS, .ref bC, .ref bG])), (bS, .inl (cI, 5, .inl S2)), (bC, .inl (cI, 5, .inl Cr2)), (bG, .inl (cI, 5, .inl G2))] [.ref h0, .int col] (fun (_ : Unit) => [(h0, .inr (1, [.ref hM, .ref hV, .int wd, .int hg, .int wv])), (hM, .inr (0, [.int bd, .int sb, .int nd, .ref aS, .ref aC, .ref aG])), (aS, .inl (cI, 5, .inl S0)), (aC, .inl (cI, 5, .inl Cr)), (aG, .inl (cI, 5, .inl G0)), (hV, .inr (0, [.int bd2, .int sb2, .int nd2, .ref bS, .ref bC, .ref bG])), (bS, .inl (cI, 5, .inl S2)), (bC, .inl (cI, 5, .inl Cr2)), (bG, .inl (cI, 5, .inl G2))]) (fun (r : Int32) (_ : Unit) => (pAny col) ∧ r = pBC (pCW S0 col)) (fun E => E = xIO ∧ ¬ (pAny col)) := by
  intro sz
  refine vx_ofW (cc := cX1_cellsOf) (maxL := 2) (ret := (some .int)) (by decide) rfl ?_
  intro p e s m args below meth c s₁ B hml htab hv
  obtain ⟨ha, hsz, hP, hK, hD0, hE⟩ := hv
  have hx := B.exec
  have hb := B.bytes
  have hr := B.returns
  have hts := atoms_spec (ws := wsX1_cellsOf) B.pre
  have hown : s.vm.findClass RX1 = some m.cls := findClass_of_methodNamed B.named
  have hlocks := B.notSynchronized
  subst hsz
  have hD := hD0.self (sz := s.heap.size)
  generalize hAe : va_A [(h0, .inr (1, [.ref hM, .ref hV, .int wd, .int hg, .int wv])), (hM, .inr (0, [.int bd, .int sb, .int nd, .ref aS, .ref aC, .ref aG])), (aS, .inl (cI, 5, .inl S0)), (aC, .inl (cI, 5, .inl Cr)), (aG, .inl (cI, 5, .inl G0)), (hV, .inr (0, [.int bd2, .int sb2, .int nd2, .ref bS, .ref bC, .ref bG])), (bS, .inl (cI, 5, .inl S2)), (bC, .inl (cI, 5, .inl Cr2)), (bG, .inl (cI, 5, .inl G2))] s.heap.size = A at hD hE ⊢
  have hN := hE.1
  have hA : ∀ q : Nat, s.heap.size ≤ q → A q := fun q h => by rw [← hAe]; exact Or.inr h
  have hS : va_S A s.heap s.heap [] := va_S.rf
  generalize hQ : vx_MQ below (va_Qi (fun (r : Int32) (_ : Unit) => (pAny col) ∧ r = pBC (pCW S0 col)) (fun u t => va_P (dC, dI) vwCl ((fun (_ : Unit) => [(h0, .inr (1, [.ref hM, .ref hV, .int wd, .int hg, .int wv])), (hM, .inr (0, [.int bd, .int sb, .int nd, .ref aS, .ref aC, .ref aG])), (aS, .inl (cI, 5, .inl S0)), (aC, .inl (cI, 5, .inl Cr)), (aG, .inl (cI, 5, .inl G0)), (hV, .inr (0, [.int bd2, .int sb2, .int nd2, .ref bS, .ref bC, .ref bG])), (bS, .inl (cI, 5, .inl S2)), (bC, .inl (cI, 5, .inl Cr2)), (bG, .inl (cI, 5, .inl G2))]) u) t.heap) A) (zX (fun E => E = xIO ∧ ¬ (pAny col)) (dC, dI) [(h0, .inr (1, [.ref hM, .ref hV, .int wd, .int hg, .int wv])), (hM, .inr (0, [.int bd, .int sb, .int nd, .ref aS, .ref aC, .ref aG])), (aS, .inl (cI, 5, .inl S0)), (aC, .inl (cI, 5, .inl Cr)), (aG, .inl (cI, 5, .inl G0)), (hV, .inr (0, [.int bd2, .int sb2, .int nd2, .ref bS, .ref bC, .ref bG])), (bS, .inl (cI, 5, .inl S2)), (bC, .inl (cI, 5, .inl Cr2)), (bG, .inl (cI, 5, .inl G2))] A) args s 1 6 A = Q
  have F9 : CallFix p m c cX1_cellsOf 2 s args wsX1_cellsOf RX1 := ⟨hx, hb, hml, hown, hts⟩
  refine z_entry (R := rmX1_cellsOf) ha (Nat.le_of_ble_eq_true rfl) (fun ls hl => ?_)
  have hl : lv_has ls 2 [(0, .ref h0), (1, .int col)] := hl
  refine lv_iload_n hx hb dX1_cellsOf_0 rfl (lv_at hl 1 rfl) ?_
  refine z_callSi (As := [.int col]) (rest := []) F9 (m_X1_isColourOrBare l dC dI cI cZ cJ cD col ) (va_cwS 1 hts gX1_cellsOf_X1_isColourOrBare rfl rfl rfl (by decide +kernel) ⟨Nat.le_of_ble_eq_true rfl, Nat.le_of_ble_eq_true rfl⟩) hK hN hP hD hS hA rfl hl.1 rfl (Nat.le_of_ble_eq_true rfl) dX1_cellsOf_1 ⟨Nat.zero_le _, Nat.zero_le _⟩ (fun r_1 H locs hp_1 hP hS => ?_)
  have hp_1 : r_1 = if pAny col then 1 else 0 := hp_1
  refine z_topi (y := if pAny col then 1 else 0) hp_1 ?_
  refine lv_if_ne (tgt := 17) hx hb dX1_cellsOf_4 (by decide) (fun c_4 => ?_) (fun c_4 => ?_)
  · skip
    refine lv_aload_n hx hb dX1_cellsOf_17 rfl (lv_at hl 0 rfl) ?_
    refine va_get (D := (dC, dI)) (ci := 1) (v := .ref hM) (C := RX1) (T := TX1) (N := 5) hx hb hts iX1_cellsOf_X1 hown hK hP 0 rfl rfl 0 (by decide) (hts (.fieldLink RX1 12 "ColourTide" "map" "LColourTide$Tide;") (List.mem_of_getElem? (i := 3) rfl)) (fun _ h9 => h9) rfl dX1_cellsOf_18 ?_
    refine lv_iload_n hx hb dX1_cellsOf_21 rfl (lv_at hl 1 rfl) ?_
    refine z_callVi (As := [.int col]) (rest := []) F9 (m_X0_count l dC dI cI cZ cJ cD hM aS aC aG bd sb nd S0 Cr G0 col ) (cwV 1 hts gX1_cellsOf_X0_count rfl rfl rfl (by decide +kernel) ⟨Nat.le_of_ble_eq_true rfl, Nat.le_of_ble_eq_true rfl⟩) hK hN hP hD hS hA [1, 2, 3, 4] rfl rfl (fun _ => rfl) 1 (ci := 0) rfl rfl rfl rfl hl.1 rfl (Nat.le_of_ble_eq_true rfl) dX1_cellsOf_22 ⟨Nat.zero_le _, Nat.zero_le _⟩ (fun r_2 u H locs hp_22 hP hD hS => ?_)
    have hP : va_P (dC, dI) vwCl [(h0, .inr (1, [.ref hM, .ref hV, .int wd, .int hg, .int wv])), (hM, .inr (0, [.int bd, .int sb, .int nd, .ref aS, .ref aC, .ref aG])), (aS, .inl (cI, 5, .inl S0)), (aC, .inl (cI, 5, .inl Cr)), (aG, .inl (cI, 5, .inl G0)), (hV, .inr (0, [.int bd2, .int sb2, .int nd2, .ref bS, .ref bC, .ref bG])), (bS, .inl (cI, 5, .inl S2)), (bC, .inl (cI, 5, .inl Cr2)), (bG, .inl (cI, 5, .inl G2))] H := hP
    have hD : va_D A [(h0, .inr (1, [.ref hM, .ref hV, .int wd, .int hg, .int wv])), (hM, .inr (0, [.int bd, .int sb, .int nd, .ref aS, .ref aC, .ref aG])), (aS, .inl (cI, 5, .inl S0)), (aC, .inl (cI, 5, .inl Cr)), (aG, .inl (cI, 5, .inl G0)), (hV, .inr (0, [.int bd2, .int sb2, .int nd2, .ref bS, .ref bC, .ref bG])), (bS, .inl (cI, 5, .inl S2)), (bC, .inl (cI, 5, .inl Cr2)), (bG, .inl (cI, 5, .inl G2))] := hD
    have hp_22 : r_2 = pBC (pCW S0 col) := hp_22
    refine z_topi (y := pBC (pCW S0 col)) hp_22 ?_
    rw [← hQ]
    exact zx_iret (W1 := (fun (_ : Unit) => [(h0, .inr (1, [.ref hM, .ref hV, .int wd, .int hg, .int wv])), (hM, .inr (0, [.int bd, .int sb, .int nd, .ref aS, .ref aC, .ref aG])), (aS, .inl (cI, 5, .inl S0)), (aC, .inl (cI, 5, .inl Cr)), (aG, .inl (cI, 5, .inl G0)), (hV, .inr (0, [.int bd2, .int sb2, .int nd2, .ref bS, .ref bC, .ref bG])), (bS, .inl (cI, 5, .inl S2)), (bC, .inl (cI, 5, .inl Cr2)), (bG, .inl (cI, 5, .inl G2))])) hx hb hr hlocks hP hS () (rfl) (⟨z_if1 c_4, rfl⟩) dX1_cellsOf_25
  · skip
    rw [← hQ]
    exact z_thr (cls := xIO) (text := "no such colour") (ik := 51) (is := 103) (ic := 55) hx hb hst hown (by decide +kernel) (hts (.classLink RX1 51 "java/lang/IndexOutOfBoundsException") (List.mem_of_getElem? (i := 1) rfl)) (hts (.initialized "java/lang/IndexOutOfBoundsException") (List.mem_of_getElem? (i := 2) rfl)) (by decide +kernel) (fun w h => hts w (List.mem_cons_of_mem _ (List.mem_append_right _ h))) z_bad55 z_good55 hE.2.2.2.1.2.1 hE hP hS (by rw [hml]; exact hl.1) dX1_cellsOf_7 dX1_cellsOf_10 dX1_cellsOf_11 dX1_cellsOf_13 dX1_cellsOf_16 htab (Nat.le_of_ble_eq_true rfl) (Nat.le_of_ble_eq_true rfl) (Nat.le_of_ble_eq_true rfl) (Nat.le_of_ble_eq_true rfl) hlocks (⟨rfl, fun q => z_if0 c_4 q⟩)
abbrev rmX1_regionsOf : Room := { frames := 6, cells := 1, slots := 6, locals := 90 }
set_option maxRecDepth 20000 in
theorem iX1_regionsOf_X0 : ∀ w ∈ wsX00, w ∈ wsX1_regionsOf := fun w h => (goodIn_r (big := wsX1_regionsOf) wsX00 [28, 29, 30, 31, 32, 33] (by decide +kernel) (by decide +kernel) w h).1
set_option maxRecDepth 20000 in
theorem iX1_regionsOf_X1 : ∀ w ∈ wsX10, w ∈ wsX1_regionsOf := fun w h => (goodIn_r (big := wsX1_regionsOf) wsX10 [23, 24, 25, 26, 27] (by decide +kernel) (by decide +kernel) w h).1
set_option maxHeartbeats 4000000 in
set_option maxRecDepth 100000 in
theorem m_X1_regionsOf (l : Launch) (dC : Nat → ClassId) (dI : Nat → Nat → Nat) (cI cZ cJ cD : ClassId) (hst : l.stackTraces = false) (ad : Nat → Nat) (h0 : Nat) (hM : Nat) (aS : Nat) (aC : Nat) (aG : Nat) (hV : Nat) (bS : Nat) (bC : Nat) (bG : Nat) (wd : Int32) (hg : Int32) (wv : Int32) (bd : Int32) (sb : Int32) (nd : Int32) (S0 : Nat → Int32) (Cr : Nat → Int32) (G0 : Nat → Int32) (bd2 : Int32) (sb2 : Int32) (nd2 : Int32) (S2 : Nat → Int32) (Cr2 : Nat → Int32) (G2 : Nat → Int32) (col : Int32)  : zXI l (dC, dI) (wT cI cZ cJ cD) ad yX1_regionsOf wsX1_regionsOf rmX1_regionsOf [(h0, .inr (1, [.ref hM, .ref hV, .int wd, .int hg, .int wv])), (hM, .inr (0, [.int bd, .int sb, .int nd, .ref aS, .ref aC, .ref aG])), (aS, .inl (cI, 5, .inl S0)), (aC, .inl (cI, 5, .inl Cr)), (aG, .inl (cI, 5, .inl G0)), (hV, .inr (0, [.int bd2, .int sb2, .int nd2, .ref bS, .ref bC, .ref bG])), (bS, .inl (cI, 5, .inl S2)), (bC, .inl (cI, 5, .inl Cr2)), (bG, .inl (cI, 5, .inl G2))] [.ref h0, .int col] (fun (_ : Unit) => [(h0, .inr (1, [.ref hM, .ref hV, .int wd, .int hg, .int wv])), (hM, .inr (0, [.int bd, .int sb, .int nd, .ref aS, .ref aC, .ref aG])), (aS, .inl (cI, 5, .inl S0)), (aC, .inl (cI, 5, .inl Cr)), (aG, .inl (cI, 5, .inl G0)), (hV, .inr (0, [.int bd2, .int sb2, .int nd2, .ref bS, .ref bC, .ref bG])), (bS, .inl (cI, 5, .inl S2)), (bC, .inl (cI, 5, .inl Cr2)), (bG, .inl (cI, 5, .inl G2))]) (fun (r : Int32) (_ : Unit) => (pCol col) ∧ r = nI (pCR 25 (pCW S0 col) 0)) (fun E => E = xIO ∧ ¬ (pCol col)) := by
  intro sz
  refine vx_ofW (cc := cX1_regionsOf) (maxL := 2) (ret := (some .int)) (by decide) rfl ?_
  intro p e s m args below meth c s₁ B hml htab hv
  obtain ⟨ha, hsz, hP, hK, hD0, hE⟩ := hv
  have hx := B.exec
  have hb := B.bytes
  have hr := B.returns
  have hts := atoms_spec (ws := wsX1_regionsOf) B.pre
  have hown : s.vm.findClass RX1 = some m.cls := findClass_of_methodNamed B.named
  have hlocks := B.notSynchronized
  subst hsz
  have hD := hD0.self (sz := s.heap.size)
  generalize hAe : va_A [(h0, .inr (1, [.ref hM, .ref hV, .int wd, .int hg, .int wv])), (hM, .inr (0, [.int bd, .int sb, .int nd, .ref aS, .ref aC, .ref aG])), (aS, .inl (cI, 5, .inl S0)), (aC, .inl (cI, 5, .inl Cr)), (aG, .inl (cI, 5, .inl G0)), (hV, .inr (0, [.int bd2, .int sb2, .int nd2, .ref bS, .ref bC, .ref bG])), (bS, .inl (cI, 5, .inl S2)), (bC, .inl (cI, 5, .inl Cr2)), (bG, .inl (cI, 5, .inl G2))] s.heap.size = A at hD hE ⊢
  have hN := hE.1
  have hA : ∀ q : Nat, s.heap.size ≤ q → A q := fun q h => by rw [← hAe]; exact Or.inr h
  have hS : va_S A s.heap s.heap [] := va_S.rf
  generalize hQ : vx_MQ below (va_Qi (fun (r : Int32) (_ : Unit) => (pCol col) ∧ r = nI (pCR 25 (pCW S0 col) 0)) (fun u t => va_P (dC, dI) vwCl ((fun (_ : Unit) => [(h0, .inr (1, [.ref hM, .ref hV, .int wd, .int hg, .int wv])), (hM, .inr (0, [.int bd, .int sb, .int nd, .ref aS, .ref aC, .ref aG])), (aS, .inl (cI, 5, .inl S0)), (aC, .inl (cI, 5, .inl Cr)), (aG, .inl (cI, 5, .inl G0)), (hV, .inr (0, [.int bd2, .int sb2, .int nd2, .ref bS, .ref bC, .ref bG])), (bS, .inl (cI, 5, .inl S2)), (bC, .inl (cI, 5, .inl Cr2)), (bG, .inl (cI, 5, .inl G2))]) u) t.heap) A) (zX (fun E => E = xIO ∧ ¬ (pCol col)) (dC, dI) [(h0, .inr (1, [.ref hM, .ref hV, .int wd, .int hg, .int wv])), (hM, .inr (0, [.int bd, .int sb, .int nd, .ref aS, .ref aC, .ref aG])), (aS, .inl (cI, 5, .inl S0)), (aC, .inl (cI, 5, .inl Cr)), (aG, .inl (cI, 5, .inl G0)), (hV, .inr (0, [.int bd2, .int sb2, .int nd2, .ref bS, .ref bC, .ref bG])), (bS, .inl (cI, 5, .inl S2)), (bC, .inl (cI, 5, .inl Cr2)), (bG, .inl (cI, 5, .inl G2))] A) args s 1 6 A = Q
  have F9 : CallFix p m c cX1_regionsOf 2 s args wsX1_regionsOf RX1 := ⟨hx, hb, hml, hown, hts⟩
  refine z_entry (R := rmX1_regionsOf) ha (Nat.le_of_ble_eq_true rfl) (fun ls hl => ?_)
  have hl : lv_has ls 2 [(0, .ref h0), (1, .int col)] := hl
  refine lv_iload_n hx hb dX1_regionsOf_0 rfl (lv_at hl 1 rfl) ?_
  refine z_callSi (As := [.int col]) (rest := []) F9 (m_X1_isColour l dC dI cI cZ cJ cD col ) (va_cwS 1 hts gX1_regionsOf_X1_isColour rfl rfl rfl (by decide +kernel) ⟨Nat.le_of_ble_eq_true rfl, Nat.le_of_ble_eq_true rfl⟩) hK hN hP hD hS hA rfl hl.1 rfl (Nat.le_of_ble_eq_true rfl) dX1_regionsOf_1 ⟨Nat.zero_le _, Nat.zero_le _⟩ (fun r_1 H locs hp_1 hP hS => ?_)
  have hp_1 : r_1 = if pCol col then 1 else 0 := hp_1
  refine z_topi (y := if pCol col then 1 else 0) hp_1 ?_
  refine lv_if_ne (tgt := 17) hx hb dX1_regionsOf_4 (by decide) (fun c_4 => ?_) (fun c_4 => ?_)
  · skip
    refine lv_aload_n hx hb dX1_regionsOf_17 rfl (lv_at hl 0 rfl) ?_
    refine va_get (D := (dC, dI)) (ci := 1) (v := .ref hM) (C := RX1) (T := TX1) (N := 5) hx hb hts iX1_regionsOf_X1 hown hK hP 0 rfl rfl 0 (by decide) (hts (.fieldLink RX1 12 "ColourTide" "map" "LColourTide$Tide;") (List.mem_of_getElem? (i := 3) rfl)) (fun _ h9 => h9) rfl dX1_regionsOf_18 ?_
    refine lv_iload_n hx hb dX1_regionsOf_21 rfl (lv_at hl 1 rfl) ?_
    refine z_callVi (As := [.int col]) (rest := []) F9 (m_X0_countRegions l dC dI cI cZ cJ cD hM aS aC aG bd sb nd S0 Cr G0 col ) (cwV 1 hts gX1_regionsOf_X0_countRegions rfl rfl rfl (by decide +kernel) ⟨Nat.le_of_ble_eq_true rfl, Nat.le_of_ble_eq_true rfl⟩) hK hN hP hD hS hA [1, 2, 3, 4] rfl rfl (fun _ => rfl) 1 (ci := 0) rfl rfl rfl rfl hl.1 rfl (Nat.le_of_ble_eq_true rfl) dX1_regionsOf_22 ⟨Nat.zero_le _, Nat.zero_le _⟩ (fun r_2 u H locs hp_22 hP hD hS => ?_)
    have hP : va_P (dC, dI) vwCl [(h0, .inr (1, [.ref hM, .ref hV, .int wd, .int hg, .int wv])), (hM, .inr (0, [.int bd, .int sb, .int nd, .ref aS, .ref aC, .ref aG])), (aS, .inl (cI, 5, .inl S0)), (aC, .inl (cI, 5, .inl Cr)), (aG, .inl (cI, 5, .inl G0)), (hV, .inr (0, [.int bd2, .int sb2, .int nd2, .ref bS, .ref bC, .ref bG])), (bS, .inl (cI, 5, .inl S2)), (bC, .inl (cI, 5, .inl Cr2)), (bG, .inl (cI, 5, .inl G2))] H := hP
    have hD : va_D A [(h0, .inr (1, [.ref hM, .ref hV, .int wd, .int hg, .int wv])), (hM, .inr (0, [.int bd, .int sb, .int nd, .ref aS, .ref aC, .ref aG])), (aS, .inl (cI, 5, .inl S0)), (aC, .inl (cI, 5, .inl Cr)), (aG, .inl (cI, 5, .inl G0)), (hV, .inr (0, [.int bd2, .int sb2, .int nd2, .ref bS, .ref bC, .ref bG])), (bS, .inl (cI, 5, .inl S2)), (bC, .inl (cI, 5, .inl Cr2)), (bG, .inl (cI, 5, .inl G2))] := hD
    have hp_22 : r_2 = nI (pCR 25 (pCW S0 col) 0) := hp_22
    refine z_topi (y := nI (pCR 25 (pCW S0 col) 0)) hp_22 ?_
    rw [← hQ]
    exact zx_iret (W1 := (fun (_ : Unit) => [(h0, .inr (1, [.ref hM, .ref hV, .int wd, .int hg, .int wv])), (hM, .inr (0, [.int bd, .int sb, .int nd, .ref aS, .ref aC, .ref aG])), (aS, .inl (cI, 5, .inl S0)), (aC, .inl (cI, 5, .inl Cr)), (aG, .inl (cI, 5, .inl G0)), (hV, .inr (0, [.int bd2, .int sb2, .int nd2, .ref bS, .ref bC, .ref bG])), (bS, .inl (cI, 5, .inl S2)), (bC, .inl (cI, 5, .inl Cr2)), (bG, .inl (cI, 5, .inl G2))])) hx hb hr hlocks hP hS () (rfl) (⟨z_if1 c_4, rfl⟩) dX1_regionsOf_25
  · skip
    rw [← hQ]
    exact z_thr (cls := xIO) (text := "no such colour") (ik := 51) (is := 103) (ic := 55) hx hb hst hown (by decide +kernel) (hts (.classLink RX1 51 "java/lang/IndexOutOfBoundsException") (List.mem_of_getElem? (i := 1) rfl)) (hts (.initialized "java/lang/IndexOutOfBoundsException") (List.mem_of_getElem? (i := 2) rfl)) (by decide +kernel) (fun w h => hts w (List.mem_cons_of_mem _ (List.mem_append_right _ h))) z_bad55 z_good55 hE.2.2.2.1.2.1 hE hP hS (by rw [hml]; exact hl.1) dX1_regionsOf_7 dX1_regionsOf_10 dX1_regionsOf_11 dX1_regionsOf_13 dX1_regionsOf_16 htab (Nat.le_of_ble_eq_true rfl) (Nat.le_of_ble_eq_true rfl) (Nat.le_of_ble_eq_true rfl) (Nat.le_of_ble_eq_true rfl) hlocks (⟨rfl, fun q => z_if0 c_4 q⟩)
abbrev rmX1_greatestRegion : Room := { frames := 6, cells := 1, slots := 6, locals := 90 }
set_option maxRecDepth 20000 in
theorem iX1_greatestRegion_X0 : ∀ w ∈ wsX00, w ∈ wsX1_greatestRegion := fun w h => (goodIn_r (big := wsX1_greatestRegion) wsX00 [39, 40, 41, 42, 43, 44] (by decide +kernel) (by decide +kernel) w h).1
set_option maxRecDepth 20000 in
theorem iX1_greatestRegion_X1 : ∀ w ∈ wsX10, w ∈ wsX1_greatestRegion := fun w h => (goodIn_r (big := wsX1_greatestRegion) wsX10 [34, 35, 36, 37, 38] (by decide +kernel) (by decide +kernel) w h).1
set_option maxHeartbeats 4000000 in
set_option maxRecDepth 100000 in
theorem m_X1_greatestRegion (l : Launch) (dC : Nat → ClassId) (dI : Nat → Nat → Nat) (cI cZ cJ cD : ClassId) (hst : l.stackTraces = false) (ad : Nat → Nat) (h0 : Nat) (hM : Nat) (aS : Nat) (aC : Nat) (aG : Nat) (hV : Nat) (bS : Nat) (bC : Nat) (bG : Nat) (wd : Int32) (hg : Int32) (wv : Int32) (bd : Int32) (sb : Int32) (nd : Int32) (S0 : Nat → Int32) (Cr : Nat → Int32) (G0 : Nat → Int32) (bd2 : Int32) (sb2 : Int32) (nd2 : Int32) (S2 : Nat → Int32) (Cr2 : Nat → Int32) (G2 : Nat → Int32) (col : Int32)  : zXI l (dC, dI) (wT cI cZ cJ cD) ad yX1_greatestRegion wsX1_greatestRegion rmX1_greatestRegion [(h0, .inr (1, [.ref hM, .ref hV, .int wd, .int hg, .int wv])), (hM, .inr (0, [.int bd, .int sb, .int nd, .ref aS, .ref aC, .ref aG])), (aS, .inl (cI, 5, .inl S0)), (aC, .inl (cI, 5, .inl Cr)), (aG, .inl (cI, 5, .inl G0)), (hV, .inr (0, [.int bd2, .int sb2, .int nd2, .ref bS, .ref bC, .ref bG])), (bS, .inl (cI, 5, .inl S2)), (bC, .inl (cI, 5, .inl Cr2)), (bG, .inl (cI, 5, .inl G2))] [.ref h0, .int col] (fun (_ : Unit) => [(h0, .inr (1, [.ref hM, .ref hV, .int wd, .int hg, .int wv])), (hM, .inr (0, [.int bd, .int sb, .int nd, .ref aS, .ref aC, .ref aG])), (aS, .inl (cI, 5, .inl S0)), (aC, .inl (cI, 5, .inl Cr)), (aG, .inl (cI, 5, .inl G0)), (hV, .inr (0, [.int bd2, .int sb2, .int nd2, .ref bS, .ref bC, .ref bG])), (bS, .inl (cI, 5, .inl S2)), (bC, .inl (cI, 5, .inl Cr2)), (bG, .inl (cI, 5, .inl G2))]) (fun (r : Int32) (_ : Unit) => (pCol col) ∧ r = pGR 25 (pCW S0 col) 0) (fun E => E = xIO ∧ ¬ (pCol col)) := by
  intro sz
  refine vx_ofW (cc := cX1_greatestRegion) (maxL := 2) (ret := (some .int)) (by decide) rfl ?_
  intro p e s m args below meth c s₁ B hml htab hv
  obtain ⟨ha, hsz, hP, hK, hD0, hE⟩ := hv
  have hx := B.exec
  have hb := B.bytes
  have hr := B.returns
  have hts := atoms_spec (ws := wsX1_greatestRegion) B.pre
  have hown : s.vm.findClass RX1 = some m.cls := findClass_of_methodNamed B.named
  have hlocks := B.notSynchronized
  subst hsz
  have hD := hD0.self (sz := s.heap.size)
  generalize hAe : va_A [(h0, .inr (1, [.ref hM, .ref hV, .int wd, .int hg, .int wv])), (hM, .inr (0, [.int bd, .int sb, .int nd, .ref aS, .ref aC, .ref aG])), (aS, .inl (cI, 5, .inl S0)), (aC, .inl (cI, 5, .inl Cr)), (aG, .inl (cI, 5, .inl G0)), (hV, .inr (0, [.int bd2, .int sb2, .int nd2, .ref bS, .ref bC, .ref bG])), (bS, .inl (cI, 5, .inl S2)), (bC, .inl (cI, 5, .inl Cr2)), (bG, .inl (cI, 5, .inl G2))] s.heap.size = A at hD hE ⊢
  have hN := hE.1
  have hA : ∀ q : Nat, s.heap.size ≤ q → A q := fun q h => by rw [← hAe]; exact Or.inr h
  have hS : va_S A s.heap s.heap [] := va_S.rf
  generalize hQ : vx_MQ below (va_Qi (fun (r : Int32) (_ : Unit) => (pCol col) ∧ r = pGR 25 (pCW S0 col) 0) (fun u t => va_P (dC, dI) vwCl ((fun (_ : Unit) => [(h0, .inr (1, [.ref hM, .ref hV, .int wd, .int hg, .int wv])), (hM, .inr (0, [.int bd, .int sb, .int nd, .ref aS, .ref aC, .ref aG])), (aS, .inl (cI, 5, .inl S0)), (aC, .inl (cI, 5, .inl Cr)), (aG, .inl (cI, 5, .inl G0)), (hV, .inr (0, [.int bd2, .int sb2, .int nd2, .ref bS, .ref bC, .ref bG])), (bS, .inl (cI, 5, .inl S2)), (bC, .inl (cI, 5, .inl Cr2)), (bG, .inl (cI, 5, .inl G2))]) u) t.heap) A) (zX (fun E => E = xIO ∧ ¬ (pCol col)) (dC, dI) [(h0, .inr (1, [.ref hM, .ref hV, .int wd, .int hg, .int wv])), (hM, .inr (0, [.int bd, .int sb, .int nd, .ref aS, .ref aC, .ref aG])), (aS, .inl (cI, 5, .inl S0)), (aC, .inl (cI, 5, .inl Cr)), (aG, .inl (cI, 5, .inl G0)), (hV, .inr (0, [.int bd2, .int sb2, .int nd2, .ref bS, .ref bC, .ref bG])), (bS, .inl (cI, 5, .inl S2)), (bC, .inl (cI, 5, .inl Cr2)), (bG, .inl (cI, 5, .inl G2))] A) args s 1 6 A = Q
  have F9 : CallFix p m c cX1_greatestRegion 2 s args wsX1_greatestRegion RX1 := ⟨hx, hb, hml, hown, hts⟩
  refine z_entry (R := rmX1_greatestRegion) ha (Nat.le_of_ble_eq_true rfl) (fun ls hl => ?_)
  have hl : lv_has ls 2 [(0, .ref h0), (1, .int col)] := hl
  refine lv_iload_n hx hb dX1_greatestRegion_0 rfl (lv_at hl 1 rfl) ?_
  refine z_callSi (As := [.int col]) (rest := []) F9 (m_X1_isColour l dC dI cI cZ cJ cD col ) (va_cwS 1 hts gX1_greatestRegion_X1_isColour rfl rfl rfl (by decide +kernel) ⟨Nat.le_of_ble_eq_true rfl, Nat.le_of_ble_eq_true rfl⟩) hK hN hP hD hS hA rfl hl.1 rfl (Nat.le_of_ble_eq_true rfl) dX1_greatestRegion_1 ⟨Nat.zero_le _, Nat.zero_le _⟩ (fun r_1 H locs hp_1 hP hS => ?_)
  have hp_1 : r_1 = if pCol col then 1 else 0 := hp_1
  refine z_topi (y := if pCol col then 1 else 0) hp_1 ?_
  refine lv_if_ne (tgt := 17) hx hb dX1_greatestRegion_4 (by decide) (fun c_4 => ?_) (fun c_4 => ?_)
  · skip
    refine lv_aload_n hx hb dX1_greatestRegion_17 rfl (lv_at hl 0 rfl) ?_
    refine va_get (D := (dC, dI)) (ci := 1) (v := .ref hM) (C := RX1) (T := TX1) (N := 5) hx hb hts iX1_greatestRegion_X1 hown hK hP 0 rfl rfl 0 (by decide) (hts (.fieldLink RX1 12 "ColourTide" "map" "LColourTide$Tide;") (List.mem_of_getElem? (i := 3) rfl)) (fun _ h9 => h9) rfl dX1_greatestRegion_18 ?_
    refine lv_iload_n hx hb dX1_greatestRegion_21 rfl (lv_at hl 1 rfl) ?_
    refine z_callVi (As := [.int col]) (rest := []) F9 (m_X0_sizeOfGreatestRegion l dC dI cI cZ cJ cD hM aS aC aG bd sb nd S0 Cr G0 col ) (cwV 1 hts gX1_greatestRegion_X0_sizeOfGreatestRegion rfl rfl rfl (by decide +kernel) ⟨Nat.le_of_ble_eq_true rfl, Nat.le_of_ble_eq_true rfl⟩) hK hN hP hD hS hA [1, 2, 3, 4] rfl rfl (fun _ => rfl) 1 (ci := 0) rfl rfl rfl rfl hl.1 rfl (Nat.le_of_ble_eq_true rfl) dX1_greatestRegion_22 ⟨Nat.zero_le _, Nat.zero_le _⟩ (fun r_2 u H locs hp_22 hP hD hS => ?_)
    have hP : va_P (dC, dI) vwCl [(h0, .inr (1, [.ref hM, .ref hV, .int wd, .int hg, .int wv])), (hM, .inr (0, [.int bd, .int sb, .int nd, .ref aS, .ref aC, .ref aG])), (aS, .inl (cI, 5, .inl S0)), (aC, .inl (cI, 5, .inl Cr)), (aG, .inl (cI, 5, .inl G0)), (hV, .inr (0, [.int bd2, .int sb2, .int nd2, .ref bS, .ref bC, .ref bG])), (bS, .inl (cI, 5, .inl S2)), (bC, .inl (cI, 5, .inl Cr2)), (bG, .inl (cI, 5, .inl G2))] H := hP
    have hD : va_D A [(h0, .inr (1, [.ref hM, .ref hV, .int wd, .int hg, .int wv])), (hM, .inr (0, [.int bd, .int sb, .int nd, .ref aS, .ref aC, .ref aG])), (aS, .inl (cI, 5, .inl S0)), (aC, .inl (cI, 5, .inl Cr)), (aG, .inl (cI, 5, .inl G0)), (hV, .inr (0, [.int bd2, .int sb2, .int nd2, .ref bS, .ref bC, .ref bG])), (bS, .inl (cI, 5, .inl S2)), (bC, .inl (cI, 5, .inl Cr2)), (bG, .inl (cI, 5, .inl G2))] := hD
    have hp_22 : r_2 = pGR 25 (pCW S0 col) 0 := hp_22
    refine z_topi (y := pGR 25 (pCW S0 col) 0) hp_22 ?_
    rw [← hQ]
    exact zx_iret (W1 := (fun (_ : Unit) => [(h0, .inr (1, [.ref hM, .ref hV, .int wd, .int hg, .int wv])), (hM, .inr (0, [.int bd, .int sb, .int nd, .ref aS, .ref aC, .ref aG])), (aS, .inl (cI, 5, .inl S0)), (aC, .inl (cI, 5, .inl Cr)), (aG, .inl (cI, 5, .inl G0)), (hV, .inr (0, [.int bd2, .int sb2, .int nd2, .ref bS, .ref bC, .ref bG])), (bS, .inl (cI, 5, .inl S2)), (bC, .inl (cI, 5, .inl Cr2)), (bG, .inl (cI, 5, .inl G2))])) hx hb hr hlocks hP hS () (rfl) (⟨z_if1 c_4, rfl⟩) dX1_greatestRegion_25
  · skip
    rw [← hQ]
    exact z_thr (cls := xIO) (text := "no such colour") (ik := 51) (is := 103) (ic := 55) hx hb hst hown (by decide +kernel) (hts (.classLink RX1 51 "java/lang/IndexOutOfBoundsException") (List.mem_of_getElem? (i := 1) rfl)) (hts (.initialized "java/lang/IndexOutOfBoundsException") (List.mem_of_getElem? (i := 2) rfl)) (by decide +kernel) (fun w h => hts w (List.mem_cons_of_mem _ (List.mem_append_right _ h))) z_bad55 z_good55 hE.2.2.2.1.2.1 hE hP hS (by rw [hml]; exact hl.1) dX1_greatestRegion_7 dX1_greatestRegion_10 dX1_greatestRegion_11 dX1_greatestRegion_13 dX1_greatestRegion_16 htab (Nat.le_of_ble_eq_true rfl) (Nat.le_of_ble_eq_true rfl) (Nat.le_of_ble_eq_true rfl) (Nat.le_of_ble_eq_true rfl) hlocks (⟨rfl, fun q => z_if0 c_4 q⟩)
abbrev rmX1_cellsAfter : Room := { frames := 6, cells := 1, slots := 6, locals := 117 }
set_option maxRecDepth 20000 in
theorem iX1_cellsAfter_X0 : ∀ w ∈ wsX00, w ∈ wsX1_cellsAfter := fun w h => (goodIn_r (big := wsX1_cellsAfter) wsX00 [72, 73, 74, 75, 76, 77] (by decide +kernel) (by decide +kernel) w h).1
set_option maxRecDepth 20000 in
theorem iX1_cellsAfter_X1 : ∀ w ∈ wsX10, w ∈ wsX1_cellsAfter := fun w h => (goodIn_r (big := wsX1_cellsAfter) wsX10 [67, 68, 69, 70, 71] (by decide +kernel) (by decide +kernel) w h).1
set_option maxHeartbeats 4000000 in
set_option maxRecDepth 100000 in
theorem m_X1_cellsAfter (l : Launch) (dC : Nat → ClassId) (dI : Nat → Nat → Nat) (cI cZ cJ cD : ClassId) (hst : l.stackTraces = false) (ad : Nat → Nat) (h0 : Nat) (hM : Nat) (aS : Nat) (aC : Nat) (aG : Nat) (hV : Nat) (bS : Nat) (bC : Nat) (bG : Nat) (wd : Int32) (hg : Int32) (wv : Int32) (bd : Int32) (sb : Int32) (nd : Int32) (S0 : Nat → Int32) (Cr : Nat → Int32) (G0 : Nat → Int32) (bd2 : Int32) (sb2 : Int32) (nd2 : Int32) (S2 : Nat → Int32) (Cr2 : Nat → Int32) (G2 : Nat → Int32) (q0 : Nat) (x0 : Int32) (col : Int32) (hq : 1 ≤ q0 ∧ q0 ≤ 4) (hnd : nd = nI q0) : zXI l (dC, dI) (wT cI cZ cJ cD) ad yX1_cellsAfter wsX1_cellsAfter rmX1_cellsAfter [(h0, .inr (1, [.ref hM, .ref hV, .int wd, .int hg, .int wv])), (hM, .inr (0, [.int bd, .int sb, .int nd, .ref aS, .ref aC, .ref aG])), (aS, .inl (cI, 5, .inl S0)), (aC, .inl (cI, 5, .inl Cr)), (aG, .inl (cI, 5, .inl G0)), (hV, .inr (0, [.int bd2, .int sb2, .int nd2, .ref bS, .ref bC, .ref bG])), (bS, .inl (cI, 5, .inl S2)), (bC, .inl (cI, 5, .inl Cr2)), (bG, .inl (cI, 5, .inl G2))] [.ref h0, .int x0, .int col] (fun (u : Nat × Int32 × Int32 × Int32 × (Nat → Int32) × (Nat → Int32) × (Nat → Int32)) => [(h0, .inr (1, [.ref hM, .ref hV, .int wd, .int hg, .int wv])), (hM, .inr (0, [.int bd, .int sb, .int nd, .ref aS, .ref aC, .ref aG])), (aS, .inl (cI, 5, .inl S0)), (aC, .inl (cI, 5, .inl Cr)), (aG, .inl (cI, 5, .inl G0)), (hV, .inr (0, [.int u.2.1, .int u.2.2.1, .int u.2.2.2.1, .ref bS, .ref bC, .ref bG])), (bS, .inl (cI, 5, .inl u.2.2.2.2.1)), (bC, .inl (cI, 5, .inl u.2.2.2.2.2.1)), (bG, .inl (cI, 5, .inl u.2.2.2.2.2.2))]) (fun (r : Int32) (u : Nat × Int32 × Int32 × Int32 × (Nat → Int32) × (Nat → Int32) × (Nat → Int32)) => ((x0 = nI u.1 ∧ 1 ≤ u.1 ∧ u.1 ≤ 40) ∧ pAny col) ∧ r = pAft S0 bd sb q0 0 col u.1) (fun E => (E = xIA ∧ ¬ (¬ x0 < 1 ∧ x0 ≤ 40)) ∨ (E = xIO ∧ (¬ x0 < 1 ∧ x0 ≤ 40) ∧ ¬ pAny col)) := by
  intro sz
  refine vx_ofW (cc := cX1_cellsAfter) (maxL := 3) (ret := (some .int)) (by decide) rfl ?_
  intro p e s m args below meth c s₁ B hml htab hv
  obtain ⟨ha, hsz, hP, hK, hD0, hE⟩ := hv
  have hx := B.exec
  have hb := B.bytes
  have hr := B.returns
  have hts := atoms_spec (ws := wsX1_cellsAfter) B.pre
  have hown : s.vm.findClass RX1 = some m.cls := findClass_of_methodNamed B.named
  have hlocks := B.notSynchronized
  subst hsz
  have hD := hD0.self (sz := s.heap.size)
  generalize hAe : va_A [(h0, .inr (1, [.ref hM, .ref hV, .int wd, .int hg, .int wv])), (hM, .inr (0, [.int bd, .int sb, .int nd, .ref aS, .ref aC, .ref aG])), (aS, .inl (cI, 5, .inl S0)), (aC, .inl (cI, 5, .inl Cr)), (aG, .inl (cI, 5, .inl G0)), (hV, .inr (0, [.int bd2, .int sb2, .int nd2, .ref bS, .ref bC, .ref bG])), (bS, .inl (cI, 5, .inl S2)), (bC, .inl (cI, 5, .inl Cr2)), (bG, .inl (cI, 5, .inl G2))] s.heap.size = A at hD hE ⊢
  have hN := hE.1
  have hA : ∀ q : Nat, s.heap.size ≤ q → A q := fun q h => by rw [← hAe]; exact Or.inr h
  have hS : va_S A s.heap s.heap [] := va_S.rf
  generalize hQ : vx_MQ below (va_Qi (fun (r : Int32) (u : Nat × Int32 × Int32 × Int32 × (Nat → Int32) × (Nat → Int32) × (Nat → Int32)) => ((x0 = nI u.1 ∧ 1 ≤ u.1 ∧ u.1 ≤ 40) ∧ pAny col) ∧ r = pAft S0 bd sb q0 0 col u.1) (fun u t => va_P (dC, dI) vwCl ((fun (u : Nat × Int32 × Int32 × Int32 × (Nat → Int32) × (Nat → Int32) × (Nat → Int32)) => [(h0, .inr (1, [.ref hM, .ref hV, .int wd, .int hg, .int wv])), (hM, .inr (0, [.int bd, .int sb, .int nd, .ref aS, .ref aC, .ref aG])), (aS, .inl (cI, 5, .inl S0)), (aC, .inl (cI, 5, .inl Cr)), (aG, .inl (cI, 5, .inl G0)), (hV, .inr (0, [.int u.2.1, .int u.2.2.1, .int u.2.2.2.1, .ref bS, .ref bC, .ref bG])), (bS, .inl (cI, 5, .inl u.2.2.2.2.1)), (bC, .inl (cI, 5, .inl u.2.2.2.2.2.1)), (bG, .inl (cI, 5, .inl u.2.2.2.2.2.2))]) u) t.heap) A) (zX (fun E => (E = xIA ∧ ¬ (¬ x0 < 1 ∧ x0 ≤ 40)) ∨ (E = xIO ∧ (¬ x0 < 1 ∧ x0 ≤ 40) ∧ ¬ pAny col)) (dC, dI) [(h0, .inr (1, [.ref hM, .ref hV, .int wd, .int hg, .int wv])), (hM, .inr (0, [.int bd, .int sb, .int nd, .ref aS, .ref aC, .ref aG])), (aS, .inl (cI, 5, .inl S0)), (aC, .inl (cI, 5, .inl Cr)), (aG, .inl (cI, 5, .inl G0)), (hV, .inr (0, [.int bd2, .int sb2, .int nd2, .ref bS, .ref bC, .ref bG])), (bS, .inl (cI, 5, .inl S2)), (bC, .inl (cI, 5, .inl Cr2)), (bG, .inl (cI, 5, .inl G2))] A) args s 1 6 A = Q
  have F9 : CallFix p m c cX1_cellsAfter 3 s args wsX1_cellsAfter RX1 := ⟨hx, hb, hml, hown, hts⟩
  refine z_entry (R := rmX1_cellsAfter) ha (Nat.le_of_ble_eq_true rfl) (fun ls hl => ?_)
  have hl : lv_has ls 3 [(0, .ref h0), (1, .int x0), (2, .int col)] := hl
  refine lv_iload_n hx hb dX1_cellsAfter_0 rfl (lv_at hl 1 rfl) ?_
  refine lv_iconst (v := 1) hx hb dX1_cellsAfter_1 (by decide) ?_
  refine lv_icmp_lt (tgt := 11) hx hb dX1_cellsAfter_2 (by decide) (fun c_2 => ?_) (fun c_2 => ?_)
  · skip
    rw [← hQ]
    exact z_thr (cls := xIA) (text := "1 to 40 waves") (ik := 37) (is := 77) (ic := 41) hx hb hst hown (by decide +kernel) (hts (.classLink RX1 37 "java/lang/IllegalArgumentException") (List.mem_of_getElem? (i := 1) rfl)) (hts (.initialized "java/lang/IllegalArgumentException") (List.mem_of_getElem? (i := 2) rfl)) (by decide +kernel) (fun w h => hts w (List.mem_cons_of_mem _ (List.mem_append_left _ (List.mem_append_right _ h)))) z_bad41 z_good41 hE.2.2.2.1.1 hE hP hS (by rw [hml]; exact hl.1) dX1_cellsAfter_11 dX1_cellsAfter_14 dX1_cellsAfter_15 dX1_cellsAfter_17 dX1_cellsAfter_20 htab (Nat.le_of_ble_eq_true rfl) (Nat.le_of_ble_eq_true rfl) (Nat.le_of_ble_eq_true rfl) (Nat.le_of_ble_eq_true rfl) hlocks (Or.inl ⟨rfl, fun q => q.1 c_2⟩)
  · skip
    refine lv_iload_n hx hb dX1_cellsAfter_5 rfl (lv_at hl 1 rfl) ?_
    refine lv_bipush (v := 40) hx hb dX1_cellsAfter_6 (by decide +kernel) ?_
    refine lv_icmp_le (tgt := 21) hx hb dX1_cellsAfter_8 (by decide) (fun c_8 => ?_) (fun c_8 => ?_)
    · skip
      refine lv_iload_n hx hb dX1_cellsAfter_21 rfl (lv_at hl 2 rfl) ?_
      refine z_callSi (As := [.int col]) (rest := []) F9 (m_X1_isColourOrBare l dC dI cI cZ cJ cD col ) (va_cwS 1 hts gX1_cellsAfter_X1_isColourOrBare rfl rfl rfl (by decide +kernel) ⟨Nat.le_of_ble_eq_true rfl, Nat.le_of_ble_eq_true rfl⟩) hK hN hP hD hS hA rfl hl.1 rfl (Nat.le_of_ble_eq_true rfl) dX1_cellsAfter_22 ⟨Nat.zero_le _, Nat.zero_le _⟩ (fun r_1 H locs hp_22 hP hS => ?_)
      have hp_22 : r_1 = if pAny col then 1 else 0 := hp_22
      refine z_topi (y := if pAny col then 1 else 0) hp_22 ?_
      refine lv_if_ne (tgt := 38) hx hb dX1_cellsAfter_25 (by decide) (fun c_25 => ?_) (fun c_25 => ?_)
      · skip
        obtain ⟨nw, n1, n2, en⟩ := z_rng (N := 40) rfl (by decide) c_2 c_8
        refine lv_aload_n hx hb dX1_cellsAfter_38 rfl (lv_at hl 0 rfl) ?_
        refine lv_iconst (v := 0) hx hb dX1_cellsAfter_39 (by decide) ?_
        refine lv_iload_n hx hb dX1_cellsAfter_40 rfl (lv_at hl 2 rfl) ?_
        refine lv_iload_n hx hb dX1_cellsAfter_41 rfl (lv_at hl 1 rfl) ?_
        refine z_topi (y := nI nw) (en) ?_
        refine z_callVi (As := [.int 0, .int col, .int (nI nw)]) (rest := []) F9 (m_X1_countAfter l dC dI cI cZ cJ cD h0 hM aS aC aG hV bS bC bG wd hg wv bd sb nd S0 Cr G0 bd2 sb2 nd2 S2 Cr2 G2 q0 0 col nw (hq) (hnd) (by omega)) (cwV 3 hts gX1_cellsAfter_X1_countAfter rfl rfl rfl (by decide +kernel) ⟨Nat.le_of_ble_eq_true rfl, Nat.le_of_ble_eq_true rfl⟩) hK hN hP hD hS hA [0, 1, 2, 3, 4, 5, 6, 7, 8] rfl rfl (fun _ => rfl) 0 (ci := 1) rfl rfl rfl rfl hl.1 rfl (Nat.le_of_ble_eq_true rfl) dX1_cellsAfter_42 ⟨Nat.zero_le _, Nat.zero_le _⟩ (fun r_2 u H locs hp_42 hP hD hS => ?_)
        obtain ⟨bdq_3, sbq_4, ndq_5, Sq_6, Crq_7, Gq_8⟩ := u
        have hP : va_P (dC, dI) vwCl [(h0, .inr (1, [.ref hM, .ref hV, .int wd, .int hg, .int wv])), (hM, .inr (0, [.int bd, .int sb, .int nd, .ref aS, .ref aC, .ref aG])), (aS, .inl (cI, 5, .inl S0)), (aC, .inl (cI, 5, .inl Cr)), (aG, .inl (cI, 5, .inl G0)), (hV, .inr (0, [.int bdq_3, .int sbq_4, .int ndq_5, .ref bS, .ref bC, .ref bG])), (bS, .inl (cI, 5, .inl Sq_6)), (bC, .inl (cI, 5, .inl Crq_7)), (bG, .inl (cI, 5, .inl Gq_8))] H := hP
        have hD : va_D A [(h0, .inr (1, [.ref hM, .ref hV, .int wd, .int hg, .int wv])), (hM, .inr (0, [.int bd, .int sb, .int nd, .ref aS, .ref aC, .ref aG])), (aS, .inl (cI, 5, .inl S0)), (aC, .inl (cI, 5, .inl Cr)), (aG, .inl (cI, 5, .inl G0)), (hV, .inr (0, [.int bdq_3, .int sbq_4, .int ndq_5, .ref bS, .ref bC, .ref bG])), (bS, .inl (cI, 5, .inl Sq_6)), (bC, .inl (cI, 5, .inl Crq_7)), (bG, .inl (cI, 5, .inl Gq_8))] := hD
        have hp_42 : r_2 = pAft S0 bd sb q0 0 col nw := hp_42
        refine z_topi (y := pAft S0 bd sb q0 0 col nw) hp_42 ?_
        rw [← hQ]
        exact zx_iret (W1 := (fun (u : Nat × Int32 × Int32 × Int32 × (Nat → Int32) × (Nat → Int32) × (Nat → Int32)) => [(h0, .inr (1, [.ref hM, .ref hV, .int wd, .int hg, .int wv])), (hM, .inr (0, [.int bd, .int sb, .int nd, .ref aS, .ref aC, .ref aG])), (aS, .inl (cI, 5, .inl S0)), (aC, .inl (cI, 5, .inl Cr)), (aG, .inl (cI, 5, .inl G0)), (hV, .inr (0, [.int u.2.1, .int u.2.2.1, .int u.2.2.2.1, .ref bS, .ref bC, .ref bG])), (bS, .inl (cI, 5, .inl u.2.2.2.2.1)), (bC, .inl (cI, 5, .inl u.2.2.2.2.2.1)), (bG, .inl (cI, 5, .inl u.2.2.2.2.2.2))])) hx hb hr hlocks hP hS (nw, bdq_3, sbq_4, ndq_5, Sq_6, Crq_7, Gq_8) (rfl) (⟨⟨⟨en, n1, n2⟩, z_if1 c_25⟩, rfl⟩) dX1_cellsAfter_45
      · skip
        rw [← hQ]
        exact z_thr (cls := xIO) (text := "no such colour") (ik := 51) (is := 103) (ic := 55) hx hb hst hown (by decide +kernel) (hts (.classLink RX1 51 "java/lang/IndexOutOfBoundsException") (List.mem_of_getElem? (i := 3) rfl)) (hts (.initialized "java/lang/IndexOutOfBoundsException") (List.mem_of_getElem? (i := 4) rfl)) (by decide +kernel) (fun w h => hts w (List.mem_cons_of_mem _ (List.mem_append_right _ h))) z_bad55 z_good55 hE.2.2.2.1.2.1 hE hP hS (by rw [hml]; exact hl.1) dX1_cellsAfter_28 dX1_cellsAfter_31 dX1_cellsAfter_32 dX1_cellsAfter_34 dX1_cellsAfter_37 htab (Nat.le_of_ble_eq_true rfl) (Nat.le_of_ble_eq_true rfl) (Nat.le_of_ble_eq_true rfl) (Nat.le_of_ble_eq_true rfl) hlocks (Or.inr ⟨rfl, ⟨c_2, c_8⟩, z_if0 c_25⟩)
    · skip
      rw [← hQ]
      exact z_thr (cls := xIA) (text := "1 to 40 waves") (ik := 37) (is := 77) (ic := 41) hx hb hst hown (by decide +kernel) (hts (.classLink RX1 37 "java/lang/IllegalArgumentException") (List.mem_of_getElem? (i := 1) rfl)) (hts (.initialized "java/lang/IllegalArgumentException") (List.mem_of_getElem? (i := 2) rfl)) (by decide +kernel) (fun w h => hts w (List.mem_cons_of_mem _ (List.mem_append_left _ (List.mem_append_right _ h)))) z_bad41 z_good41 hE.2.2.2.1.1 hE hP hS (by rw [hml]; exact hl.1) dX1_cellsAfter_11 dX1_cellsAfter_14 dX1_cellsAfter_15 dX1_cellsAfter_17 dX1_cellsAfter_20 htab (Nat.le_of_ble_eq_true rfl) (Nat.le_of_ble_eq_true rfl) (Nat.le_of_ble_eq_true rfl) (Nat.le_of_ble_eq_true rfl) hlocks (Or.inl ⟨rfl, fun q => c_8 q.2⟩)
abbrev rmX1_wins : Room := { frames := 6, cells := 1, slots := 6, locals := 116 }
set_option maxRecDepth 20000 in
theorem iX1_wins_X0 : ∀ w ∈ wsX00, w ∈ wsX1_wins := fun w h => (goodIn_r (big := wsX1_wins) wsX00 [60, 61, 62, 63, 64, 65] (by decide +kernel) (by decide +kernel) w h).1
set_option maxRecDepth 20000 in
theorem iX1_wins_X1 : ∀ w ∈ wsX10, w ∈ wsX1_wins := fun w h => (goodIn_r (big := wsX1_wins) wsX10 [55, 56, 57, 58, 59] (by decide +kernel) (by decide +kernel) w h).1
set_option maxHeartbeats 4000000 in
set_option maxRecDepth 100000 in
theorem m_X1_wins (l : Launch) (dC : Nat → ClassId) (dI : Nat → Nat → Nat) (cI cZ cJ cD : ClassId) (hst : l.stackTraces = false) (ad : Nat → Nat) (h0 : Nat) (hM : Nat) (aS : Nat) (aC : Nat) (aG : Nat) (hV : Nat) (bS : Nat) (bC : Nat) (bG : Nat) (wd : Int32) (hg : Int32) (wv : Int32) (bd : Int32) (sb : Int32) (nd : Int32) (S0 : Nat → Int32) (Cr : Nat → Int32) (G0 : Nat → Int32) (bd2 : Int32) (sb2 : Int32) (nd2 : Int32) (S2 : Nat → Int32) (Cr2 : Nat → Int32) (G2 : Nat → Int32) (q0 : Nat) (col : Int32) (hq : 1 ≤ q0 ∧ q0 ≤ 4) (hnd : nd = nI q0) : zXI l (dC, dI) (wT cI cZ cJ cD) ad yX1_wins wsX1_wins rmX1_wins [(h0, .inr (1, [.ref hM, .ref hV, .int wd, .int hg, .int wv])), (hM, .inr (0, [.int bd, .int sb, .int nd, .ref aS, .ref aC, .ref aG])), (aS, .inl (cI, 5, .inl S0)), (aC, .inl (cI, 5, .inl Cr)), (aG, .inl (cI, 5, .inl G0)), (hV, .inr (0, [.int bd2, .int sb2, .int nd2, .ref bS, .ref bC, .ref bG])), (bS, .inl (cI, 5, .inl S2)), (bC, .inl (cI, 5, .inl Cr2)), (bG, .inl (cI, 5, .inl G2))] [.ref h0, .int col] (fun (u : Int32 × Int32 × Int32 × (Nat → Int32) × (Nat → Int32) × (Nat → Int32)) => [(h0, .inr (1, [.ref hM, .ref hV, .int wd, .int hg, .int wv])), (hM, .inr (0, [.int bd, .int sb, .int nd, .ref aS, .ref aC, .ref aG])), (aS, .inl (cI, 5, .inl S0)), (aC, .inl (cI, 5, .inl Cr)), (aG, .inl (cI, 5, .inl G0)), (hV, .inr (0, [.int u.1, .int u.2.1, .int u.2.2.1, .ref bS, .ref bC, .ref bG])), (bS, .inl (cI, 5, .inl u.2.2.2.1)), (bC, .inl (cI, 5, .inl u.2.2.2.2.1)), (bG, .inl (cI, 5, .inl u.2.2.2.2.2))]) (fun (r : Int32) (u : Int32 × Int32 × Int32 × (Nat → Int32) × (Nat → Int32) × (Nat → Int32)) => pCol col ∧ r = if pWin S0 bd sb q0 0 col then 1 else 0) (fun E => E = xIO ∧ ¬ (pCol col)) := by
  intro sz
  refine vx_ofW (cc := cX1_wins) (maxL := 2) (ret := (some .boolean)) (by decide) rfl ?_
  intro p e s m args below meth c s₁ B hml htab hv
  obtain ⟨ha, hsz, hP, hK, hD0, hE⟩ := hv
  have hx := B.exec
  have hb := B.bytes
  have hr := B.returns
  have hts := atoms_spec (ws := wsX1_wins) B.pre
  have hown : s.vm.findClass RX1 = some m.cls := findClass_of_methodNamed B.named
  have hlocks := B.notSynchronized
  subst hsz
  have hD := hD0.self (sz := s.heap.size)
  generalize hAe : va_A [(h0, .inr (1, [.ref hM, .ref hV, .int wd, .int hg, .int wv])), (hM, .inr (0, [.int bd, .int sb, .int nd, .ref aS, .ref aC, .ref aG])), (aS, .inl (cI, 5, .inl S0)), (aC, .inl (cI, 5, .inl Cr)), (aG, .inl (cI, 5, .inl G0)), (hV, .inr (0, [.int bd2, .int sb2, .int nd2, .ref bS, .ref bC, .ref bG])), (bS, .inl (cI, 5, .inl S2)), (bC, .inl (cI, 5, .inl Cr2)), (bG, .inl (cI, 5, .inl G2))] s.heap.size = A at hD hE ⊢
  have hN := hE.1
  have hA : ∀ q : Nat, s.heap.size ≤ q → A q := fun q h => by rw [← hAe]; exact Or.inr h
  have hS : va_S A s.heap s.heap [] := va_S.rf
  generalize hQ : vx_MQ below (va_Qi (fun (r : Int32) (u : Int32 × Int32 × Int32 × (Nat → Int32) × (Nat → Int32) × (Nat → Int32)) => pCol col ∧ r = if pWin S0 bd sb q0 0 col then 1 else 0) (fun u t => va_P (dC, dI) vwCl ((fun (u : Int32 × Int32 × Int32 × (Nat → Int32) × (Nat → Int32) × (Nat → Int32)) => [(h0, .inr (1, [.ref hM, .ref hV, .int wd, .int hg, .int wv])), (hM, .inr (0, [.int bd, .int sb, .int nd, .ref aS, .ref aC, .ref aG])), (aS, .inl (cI, 5, .inl S0)), (aC, .inl (cI, 5, .inl Cr)), (aG, .inl (cI, 5, .inl G0)), (hV, .inr (0, [.int u.1, .int u.2.1, .int u.2.2.1, .ref bS, .ref bC, .ref bG])), (bS, .inl (cI, 5, .inl u.2.2.2.1)), (bC, .inl (cI, 5, .inl u.2.2.2.2.1)), (bG, .inl (cI, 5, .inl u.2.2.2.2.2))]) u) t.heap) A) (zX (fun E => E = xIO ∧ ¬ (pCol col)) (dC, dI) [(h0, .inr (1, [.ref hM, .ref hV, .int wd, .int hg, .int wv])), (hM, .inr (0, [.int bd, .int sb, .int nd, .ref aS, .ref aC, .ref aG])), (aS, .inl (cI, 5, .inl S0)), (aC, .inl (cI, 5, .inl Cr)), (aG, .inl (cI, 5, .inl G0)), (hV, .inr (0, [.int bd2, .int sb2, .int nd2, .ref bS, .ref bC, .ref bG])), (bS, .inl (cI, 5, .inl S2)), (bC, .inl (cI, 5, .inl Cr2)), (bG, .inl (cI, 5, .inl G2))] A) args s 1 6 A = Q
  have F9 : CallFix p m c cX1_wins 2 s args wsX1_wins RX1 := ⟨hx, hb, hml, hown, hts⟩
  refine z_entry (R := rmX1_wins) ha (Nat.le_of_ble_eq_true rfl) (fun ls hl => ?_)
  have hl : lv_has ls 2 [(0, .ref h0), (1, .int col)] := hl
  refine lv_iload_n hx hb dX1_wins_0 rfl (lv_at hl 1 rfl) ?_
  refine z_callSi (As := [.int col]) (rest := []) F9 (m_X1_isColour l dC dI cI cZ cJ cD col ) (va_cwS 1 hts gX1_wins_X1_isColour rfl rfl rfl (by decide +kernel) ⟨Nat.le_of_ble_eq_true rfl, Nat.le_of_ble_eq_true rfl⟩) hK hN hP hD hS hA rfl hl.1 rfl (Nat.le_of_ble_eq_true rfl) dX1_wins_1 ⟨Nat.zero_le _, Nat.zero_le _⟩ (fun r_1 H locs hp_1 hP hS => ?_)
  have hp_1 : r_1 = if pCol col then 1 else 0 := hp_1
  refine z_topi (y := if pCol col then 1 else 0) hp_1 ?_
  refine lv_if_ne (tgt := 17) hx hb dX1_wins_4 (by decide) (fun c_4 => ?_) (fun c_4 => ?_)
  · skip
    refine lv_aload_n hx hb dX1_wins_17 rfl (lv_at hl 0 rfl) ?_
    refine lv_iconst (v := 0) hx hb dX1_wins_18 (by decide) ?_
    refine lv_iload_n hx hb dX1_wins_19 rfl (lv_at hl 1 rfl) ?_
    refine z_callVi (As := [.int 0, .int col]) (rest := []) F9 (m_X1_winsWith l dC dI cI cZ cJ cD h0 hM aS aC aG hV bS bC bG wd hg wv bd sb nd S0 Cr G0 bd2 sb2 nd2 S2 Cr2 G2 q0 0 col (hq) (hnd)) (cwV 2 hts gX1_wins_X1_winsWith rfl rfl rfl (by decide +kernel) ⟨Nat.le_of_ble_eq_true rfl, Nat.le_of_ble_eq_true rfl⟩) hK hN hP hD hS hA [0, 1, 2, 3, 4, 5, 6, 7, 8] rfl rfl (fun _ => rfl) 0 (ci := 1) rfl rfl rfl rfl hl.1 rfl (Nat.le_of_ble_eq_true rfl) dX1_wins_20 ⟨Nat.zero_le _, Nat.zero_le _⟩ (fun r_2 u H locs hp_20 hP hD hS => ?_)
    obtain ⟨bdq_3, sbq_4, ndq_5, Sq_6, Crq_7, Gq_8⟩ := u
    have hP : va_P (dC, dI) vwCl [(h0, .inr (1, [.ref hM, .ref hV, .int wd, .int hg, .int wv])), (hM, .inr (0, [.int bd, .int sb, .int nd, .ref aS, .ref aC, .ref aG])), (aS, .inl (cI, 5, .inl S0)), (aC, .inl (cI, 5, .inl Cr)), (aG, .inl (cI, 5, .inl G0)), (hV, .inr (0, [.int bdq_3, .int sbq_4, .int ndq_5, .ref bS, .ref bC, .ref bG])), (bS, .inl (cI, 5, .inl Sq_6)), (bC, .inl (cI, 5, .inl Crq_7)), (bG, .inl (cI, 5, .inl Gq_8))] H := hP
    have hD : va_D A [(h0, .inr (1, [.ref hM, .ref hV, .int wd, .int hg, .int wv])), (hM, .inr (0, [.int bd, .int sb, .int nd, .ref aS, .ref aC, .ref aG])), (aS, .inl (cI, 5, .inl S0)), (aC, .inl (cI, 5, .inl Cr)), (aG, .inl (cI, 5, .inl G0)), (hV, .inr (0, [.int bdq_3, .int sbq_4, .int ndq_5, .ref bS, .ref bC, .ref bG])), (bS, .inl (cI, 5, .inl Sq_6)), (bC, .inl (cI, 5, .inl Crq_7)), (bG, .inl (cI, 5, .inl Gq_8))] := hD
    have hp_20 : r_2 = if pWin S0 bd sb q0 0 col then 1 else 0 := hp_20
    refine z_topi (y := if pWin S0 bd sb q0 0 col then 1 else 0) hp_20 ?_
    rw [← hQ]
    exact zx_zret (W1 := (fun (u : Int32 × Int32 × Int32 × (Nat → Int32) × (Nat → Int32) × (Nat → Int32)) => [(h0, .inr (1, [.ref hM, .ref hV, .int wd, .int hg, .int wv])), (hM, .inr (0, [.int bd, .int sb, .int nd, .ref aS, .ref aC, .ref aG])), (aS, .inl (cI, 5, .inl S0)), (aC, .inl (cI, 5, .inl Cr)), (aG, .inl (cI, 5, .inl G0)), (hV, .inr (0, [.int u.1, .int u.2.1, .int u.2.2.1, .ref bS, .ref bC, .ref bG])), (bS, .inl (cI, 5, .inl u.2.2.2.1)), (bC, .inl (cI, 5, .inl u.2.2.2.2.1)), (bG, .inl (cI, 5, .inl u.2.2.2.2.2))])) hx hb hr hlocks (z_narif) hP hS (bdq_3, sbq_4, ndq_5, Sq_6, Crq_7, Gq_8) (rfl) (⟨z_if1 c_4, rfl⟩) dX1_wins_23
  · skip
    rw [← hQ]
    exact z_thr (cls := xIO) (text := "no such colour") (ik := 51) (is := 103) (ic := 55) hx hb hst hown (by decide +kernel) (hts (.classLink RX1 51 "java/lang/IndexOutOfBoundsException") (List.mem_of_getElem? (i := 1) rfl)) (hts (.initialized "java/lang/IndexOutOfBoundsException") (List.mem_of_getElem? (i := 2) rfl)) (by decide +kernel) (fun w h => hts w (List.mem_cons_of_mem _ (List.mem_append_right _ h))) z_bad55 z_good55 hE.2.2.2.1.2.1 hE hP hS (by rw [hml]; exact hl.1) dX1_wins_7 dX1_wins_10 dX1_wins_11 dX1_wins_13 dX1_wins_16 htab (Nat.le_of_ble_eq_true rfl) (Nat.le_of_ble_eq_true rfl) (Nat.le_of_ble_eq_true rfl) (Nat.le_of_ble_eq_true rfl) hlocks (⟨rfl, fun q => z_if0 c_4 q⟩)
abbrev rmX1_fewestSeeds : Room := { frames := 6, cells := 1, slots := 6, locals := 140 }
set_option maxRecDepth 20000 in
theorem iX1_fewestSeeds_X0 : ∀ w ∈ wsX00, w ∈ wsX1_fewestSeeds := fun w h => (goodIn_r (big := wsX1_fewestSeeds) wsX00 [69, 70, 71, 72, 73, 74] (by decide +kernel) (by decide +kernel) w h).1
set_option maxRecDepth 20000 in
theorem iX1_fewestSeeds_X1 : ∀ w ∈ wsX10, w ∈ wsX1_fewestSeeds := fun w h => (goodIn_r (big := wsX1_fewestSeeds) wsX10 [64, 65, 66, 67, 68] (by decide +kernel) (by decide +kernel) w h).1
set_option maxHeartbeats 4000000 in
set_option maxRecDepth 100000 in
theorem m_X1_fewestSeeds (l : Launch) (dC : Nat → ClassId) (dI : Nat → Nat → Nat) (cI cZ cJ cD : ClassId) (hst : l.stackTraces = false) (ad : Nat → Nat) (h0 : Nat) (hM : Nat) (aS : Nat) (aC : Nat) (aG : Nat) (hV : Nat) (bS : Nat) (bC : Nat) (bG : Nat) (wd : Int32) (hg : Int32) (wv : Int32) (bd : Int32) (sb : Int32) (nd : Int32) (S0 : Nat → Int32) (Cr : Nat → Int32) (G0 : Nat → Int32) (bd2 : Int32) (sb2 : Int32) (nd2 : Int32) (S2 : Nat → Int32) (Cr2 : Nat → Int32) (G2 : Nat → Int32) (q0 : Nat) (col : Int32) (hq : 1 ≤ q0 ∧ q0 ≤ 4) (hnd : nd = nI q0) : zXI l (dC, dI) (wT cI cZ cJ cD) ad yX1_fewestSeeds wsX1_fewestSeeds rmX1_fewestSeeds [(h0, .inr (1, [.ref hM, .ref hV, .int wd, .int hg, .int wv])), (hM, .inr (0, [.int bd, .int sb, .int nd, .ref aS, .ref aC, .ref aG])), (aS, .inl (cI, 5, .inl S0)), (aC, .inl (cI, 5, .inl Cr)), (aG, .inl (cI, 5, .inl G0)), (hV, .inr (0, [.int bd2, .int sb2, .int nd2, .ref bS, .ref bC, .ref bG])), (bS, .inl (cI, 5, .inl S2)), (bC, .inl (cI, 5, .inl Cr2)), (bG, .inl (cI, 5, .inl G2))] [.ref h0, .int col] (fun (u : Int32 × Int32 × Int32 × (Nat → Int32) × (Nat → Int32) × (Nat → Int32)) => [(h0, .inr (1, [.ref hM, .ref hV, .int wd, .int hg, .int wv])), (hM, .inr (0, [.int bd, .int sb, .int nd, .ref aS, .ref aC, .ref aG])), (aS, .inl (cI, 5, .inl S0)), (aC, .inl (cI, 5, .inl Cr)), (aG, .inl (cI, 5, .inl G0)), (hV, .inr (0, [.int u.1, .int u.2.1, .int u.2.2.1, .ref bS, .ref bC, .ref bG])), (bS, .inl (cI, 5, .inl u.2.2.2.1)), (bC, .inl (cI, 5, .inl u.2.2.2.2.1)), (bG, .inl (cI, 5, .inl u.2.2.2.2.2))]) (fun (r : Int32) (u : Int32 × Int32 × Int32 × (Nat → Int32) × (Nat → Int32) × (Nat → Int32)) => pCol col ∧ ((r = 0 ∧ pWin S0 bd sb q0 0 col) ∨ (r = 1 ∧ ¬ pWin S0 bd sb q0 0 col ∧ (∃ j, j < 30 ∧ ¬ bd &&& pSd j = 0 ∧ pWin S0 bd sb q0 (bd &&& pSd j) col)) ∨ (r = 2 ∧ ¬ pWin S0 bd sb q0 0 col ∧ (∀ j, j < 30 → ¬ (¬ bd &&& pSd j = 0 ∧ pWin S0 bd sb q0 (bd &&& pSd j) col)) ∧ (∃ i j, i < j ∧ j < 30 ∧ (pSd i ||| pSd j) &&& (bd ^^^ (-1)) = 0 ∧ pWin S0 bd sb q0 (pSd i ||| pSd j) col)) ∨ (r = -1 ∧ ¬ pWin S0 bd sb q0 0 col ∧ (∀ j, j < 30 → ¬ (¬ bd &&& pSd j = 0 ∧ pWin S0 bd sb q0 (bd &&& pSd j) col)) ∧ (∀ i j, i < j → j < 30 → ¬ ((pSd i ||| pSd j) &&& (bd ^^^ (-1)) = 0 ∧ pWin S0 bd sb q0 (pSd i ||| pSd j) col))))) (fun E => E = xIO ∧ ¬ (pCol col)) := by
  intro sz
  refine vx_ofW (cc := cX1_fewestSeeds) (maxL := 2) (ret := (some .int)) (by decide) rfl ?_
  intro p e s m args below meth c s₁ B hml htab hv
  obtain ⟨ha, hsz, hP, hK, hD0, hE⟩ := hv
  have hx := B.exec
  have hb := B.bytes
  have hr := B.returns
  have hts := atoms_spec (ws := wsX1_fewestSeeds) B.pre
  have hown : s.vm.findClass RX1 = some m.cls := findClass_of_methodNamed B.named
  have hlocks := B.notSynchronized
  subst hsz
  have hD := hD0.self (sz := s.heap.size)
  generalize hAe : va_A [(h0, .inr (1, [.ref hM, .ref hV, .int wd, .int hg, .int wv])), (hM, .inr (0, [.int bd, .int sb, .int nd, .ref aS, .ref aC, .ref aG])), (aS, .inl (cI, 5, .inl S0)), (aC, .inl (cI, 5, .inl Cr)), (aG, .inl (cI, 5, .inl G0)), (hV, .inr (0, [.int bd2, .int sb2, .int nd2, .ref bS, .ref bC, .ref bG])), (bS, .inl (cI, 5, .inl S2)), (bC, .inl (cI, 5, .inl Cr2)), (bG, .inl (cI, 5, .inl G2))] s.heap.size = A at hD hE ⊢
  have hN := hE.1
  have hA : ∀ q : Nat, s.heap.size ≤ q → A q := fun q h => by rw [← hAe]; exact Or.inr h
  have hS : va_S A s.heap s.heap [] := va_S.rf
  generalize hQ : vx_MQ below (va_Qi (fun (r : Int32) (u : Int32 × Int32 × Int32 × (Nat → Int32) × (Nat → Int32) × (Nat → Int32)) => pCol col ∧ ((r = 0 ∧ pWin S0 bd sb q0 0 col) ∨ (r = 1 ∧ ¬ pWin S0 bd sb q0 0 col ∧ (∃ j, j < 30 ∧ ¬ bd &&& pSd j = 0 ∧ pWin S0 bd sb q0 (bd &&& pSd j) col)) ∨ (r = 2 ∧ ¬ pWin S0 bd sb q0 0 col ∧ (∀ j, j < 30 → ¬ (¬ bd &&& pSd j = 0 ∧ pWin S0 bd sb q0 (bd &&& pSd j) col)) ∧ (∃ i j, i < j ∧ j < 30 ∧ (pSd i ||| pSd j) &&& (bd ^^^ (-1)) = 0 ∧ pWin S0 bd sb q0 (pSd i ||| pSd j) col)) ∨ (r = -1 ∧ ¬ pWin S0 bd sb q0 0 col ∧ (∀ j, j < 30 → ¬ (¬ bd &&& pSd j = 0 ∧ pWin S0 bd sb q0 (bd &&& pSd j) col)) ∧ (∀ i j, i < j → j < 30 → ¬ ((pSd i ||| pSd j) &&& (bd ^^^ (-1)) = 0 ∧ pWin S0 bd sb q0 (pSd i ||| pSd j) col))))) (fun u t => va_P (dC, dI) vwCl ((fun (u : Int32 × Int32 × Int32 × (Nat → Int32) × (Nat → Int32) × (Nat → Int32)) => [(h0, .inr (1, [.ref hM, .ref hV, .int wd, .int hg, .int wv])), (hM, .inr (0, [.int bd, .int sb, .int nd, .ref aS, .ref aC, .ref aG])), (aS, .inl (cI, 5, .inl S0)), (aC, .inl (cI, 5, .inl Cr)), (aG, .inl (cI, 5, .inl G0)), (hV, .inr (0, [.int u.1, .int u.2.1, .int u.2.2.1, .ref bS, .ref bC, .ref bG])), (bS, .inl (cI, 5, .inl u.2.2.2.1)), (bC, .inl (cI, 5, .inl u.2.2.2.2.1)), (bG, .inl (cI, 5, .inl u.2.2.2.2.2))]) u) t.heap) A) (zX (fun E => E = xIO ∧ ¬ (pCol col)) (dC, dI) [(h0, .inr (1, [.ref hM, .ref hV, .int wd, .int hg, .int wv])), (hM, .inr (0, [.int bd, .int sb, .int nd, .ref aS, .ref aC, .ref aG])), (aS, .inl (cI, 5, .inl S0)), (aC, .inl (cI, 5, .inl Cr)), (aG, .inl (cI, 5, .inl G0)), (hV, .inr (0, [.int bd2, .int sb2, .int nd2, .ref bS, .ref bC, .ref bG])), (bS, .inl (cI, 5, .inl S2)), (bC, .inl (cI, 5, .inl Cr2)), (bG, .inl (cI, 5, .inl G2))] A) args s 1 6 A = Q
  have F9 : CallFix p m c cX1_fewestSeeds 2 s args wsX1_fewestSeeds RX1 := ⟨hx, hb, hml, hown, hts⟩
  refine z_entry (R := rmX1_fewestSeeds) ha (Nat.le_of_ble_eq_true rfl) (fun ls hl => ?_)
  have hl : lv_has ls 2 [(0, .ref h0), (1, .int col)] := hl
  refine lv_iload_n hx hb dX1_fewestSeeds_0 rfl (lv_at hl 1 rfl) ?_
  refine z_callSi (As := [.int col]) (rest := []) F9 (m_X1_isColour l dC dI cI cZ cJ cD col ) (va_cwS 1 hts gX1_fewestSeeds_X1_isColour rfl rfl rfl (by decide +kernel) ⟨Nat.le_of_ble_eq_true rfl, Nat.le_of_ble_eq_true rfl⟩) hK hN hP hD hS hA rfl hl.1 rfl (Nat.le_of_ble_eq_true rfl) dX1_fewestSeeds_1 ⟨Nat.zero_le _, Nat.zero_le _⟩ (fun r_1 H locs hp_1 hP hS => ?_)
  have hp_1 : r_1 = if pCol col then 1 else 0 := hp_1
  refine z_topi (y := if pCol col then 1 else 0) hp_1 ?_
  refine lv_if_ne (tgt := 17) hx hb dX1_fewestSeeds_4 (by decide) (fun c_4 => ?_) (fun c_4 => ?_)
  · skip
    refine lv_aload_n hx hb dX1_fewestSeeds_17 rfl (lv_at hl 0 rfl) ?_
    refine lv_iconst (v := 0) hx hb dX1_fewestSeeds_18 (by decide) ?_
    refine lv_iload_n hx hb dX1_fewestSeeds_19 rfl (lv_at hl 1 rfl) ?_
    refine z_callVi (As := [.int 0, .int col]) (rest := []) F9 (m_X1_winsWith l dC dI cI cZ cJ cD h0 hM aS aC aG hV bS bC bG wd hg wv bd sb nd S0 Cr G0 bd2 sb2 nd2 S2 Cr2 G2 q0 0 col (hq) (hnd)) (cwV 2 hts gX1_fewestSeeds_X1_winsWith rfl rfl rfl (by decide +kernel) ⟨Nat.le_of_ble_eq_true rfl, Nat.le_of_ble_eq_true rfl⟩) hK hN hP hD hS hA [0, 1, 2, 3, 4, 5, 6, 7, 8] rfl rfl (fun _ => rfl) 0 (ci := 1) rfl rfl rfl rfl hl.1 rfl (Nat.le_of_ble_eq_true rfl) dX1_fewestSeeds_20 ⟨Nat.zero_le _, Nat.zero_le _⟩ (fun r_2 u H locs hp_20 hP hD hS => ?_)
    obtain ⟨bdq_3, sbq_4, ndq_5, Sq_6, Crq_7, Gq_8⟩ := u
    have hP : va_P (dC, dI) vwCl [(h0, .inr (1, [.ref hM, .ref hV, .int wd, .int hg, .int wv])), (hM, .inr (0, [.int bd, .int sb, .int nd, .ref aS, .ref aC, .ref aG])), (aS, .inl (cI, 5, .inl S0)), (aC, .inl (cI, 5, .inl Cr)), (aG, .inl (cI, 5, .inl G0)), (hV, .inr (0, [.int bdq_3, .int sbq_4, .int ndq_5, .ref bS, .ref bC, .ref bG])), (bS, .inl (cI, 5, .inl Sq_6)), (bC, .inl (cI, 5, .inl Crq_7)), (bG, .inl (cI, 5, .inl Gq_8))] H := hP
    have hD : va_D A [(h0, .inr (1, [.ref hM, .ref hV, .int wd, .int hg, .int wv])), (hM, .inr (0, [.int bd, .int sb, .int nd, .ref aS, .ref aC, .ref aG])), (aS, .inl (cI, 5, .inl S0)), (aC, .inl (cI, 5, .inl Cr)), (aG, .inl (cI, 5, .inl G0)), (hV, .inr (0, [.int bdq_3, .int sbq_4, .int ndq_5, .ref bS, .ref bC, .ref bG])), (bS, .inl (cI, 5, .inl Sq_6)), (bC, .inl (cI, 5, .inl Crq_7)), (bG, .inl (cI, 5, .inl Gq_8))] := hD
    have hp_20 : r_2 = if pWin S0 bd sb q0 0 col then 1 else 0 := hp_20
    refine z_topi (y := if pWin S0 bd sb q0 0 col then 1 else 0) hp_20 ?_
    refine lv_if_eq (tgt := 28) hx hb dX1_fewestSeeds_23 (by decide) (fun c_23 => ?_) (fun c_23 => ?_)
    · skip
      refine lv_aload_n hx hb dX1_fewestSeeds_28 rfl (lv_at hl 0 rfl) ?_
      refine lv_iload_n hx hb dX1_fewestSeeds_29 rfl (lv_at hl 1 rfl) ?_
      refine z_callVi (As := [.int col]) (rest := []) F9 (m_X1_winsWithOneSeed l dC dI cI cZ cJ cD h0 hM aS aC aG hV bS bC bG wd hg wv bd sb nd S0 Cr G0 bdq_3 sbq_4 ndq_5 Sq_6 Crq_7 Gq_8 q0 col (hq) (hnd)) (cwV 1 hts gX1_fewestSeeds_X1_winsWithOneSeed rfl rfl rfl (by decide +kernel) ⟨Nat.le_of_ble_eq_true rfl, Nat.le_of_ble_eq_true rfl⟩) hK hN hP hD hS hA [0, 1, 2, 3, 4, 5, 6, 7, 8] rfl rfl (fun _ => rfl) 0 (ci := 1) rfl rfl rfl rfl hl.1 rfl (Nat.le_of_ble_eq_true rfl) dX1_fewestSeeds_30 ⟨Nat.zero_le _, Nat.zero_le _⟩ (fun r_9 u H locs hp_30 hP hD hS => ?_)
      obtain ⟨bdq_10, sbq_11, ndq_12, Sq_13, Crq_14, Gq_15⟩ := u
      have hP : va_P (dC, dI) vwCl [(h0, .inr (1, [.ref hM, .ref hV, .int wd, .int hg, .int wv])), (hM, .inr (0, [.int bd, .int sb, .int nd, .ref aS, .ref aC, .ref aG])), (aS, .inl (cI, 5, .inl S0)), (aC, .inl (cI, 5, .inl Cr)), (aG, .inl (cI, 5, .inl G0)), (hV, .inr (0, [.int bdq_10, .int sbq_11, .int ndq_12, .ref bS, .ref bC, .ref bG])), (bS, .inl (cI, 5, .inl Sq_13)), (bC, .inl (cI, 5, .inl Crq_14)), (bG, .inl (cI, 5, .inl Gq_15))] H := hP
      have hD : va_D A [(h0, .inr (1, [.ref hM, .ref hV, .int wd, .int hg, .int wv])), (hM, .inr (0, [.int bd, .int sb, .int nd, .ref aS, .ref aC, .ref aG])), (aS, .inl (cI, 5, .inl S0)), (aC, .inl (cI, 5, .inl Cr)), (aG, .inl (cI, 5, .inl G0)), (hV, .inr (0, [.int bdq_10, .int sbq_11, .int ndq_12, .ref bS, .ref bC, .ref bG])), (bS, .inl (cI, 5, .inl Sq_13)), (bC, .inl (cI, 5, .inl Crq_14)), (bG, .inl (cI, 5, .inl Gq_15))] := hD
      have hp_30 : (r_9 = 1 ∧ ∃ j, j < 30 ∧ ¬ bd &&& pSd j = 0 ∧ pWin S0 bd sb q0 (bd &&& pSd j) col) ∨ (r_9 = 0 ∧ ∀ j, j < 30 → ¬ (¬ bd &&& pSd j = 0 ∧ pWin S0 bd sb q0 (bd &&& pSd j) col)) := hp_30
      refine lv_if_eq (tgt := 38) hx hb dX1_fewestSeeds_33 (by decide) (fun c_33 => ?_) (fun c_33 => ?_)
      · skip
        have k1 := (hp_30.resolve_left (fun q => by rw [q.1] at c_33; exact absurd c_33 (by decide))).2
        refine lv_aload_n hx hb dX1_fewestSeeds_38 rfl (lv_at hl 0 rfl) ?_
        refine lv_iload_n hx hb dX1_fewestSeeds_39 rfl (lv_at hl 1 rfl) ?_
        refine z_callVi (As := [.int col]) (rest := []) F9 (m_X1_winsWithTwoSeeds l dC dI cI cZ cJ cD h0 hM aS aC aG hV bS bC bG wd hg wv bd sb nd S0 Cr G0 bdq_10 sbq_11 ndq_12 Sq_13 Crq_14 Gq_15 q0 col (hq) (hnd)) (cwV 1 hts gX1_fewestSeeds_X1_winsWithTwoSeeds rfl rfl rfl (by decide +kernel) ⟨Nat.le_of_ble_eq_true rfl, Nat.le_of_ble_eq_true rfl⟩) hK hN hP hD hS hA [0, 1, 2, 3, 4, 5, 6, 7, 8] rfl rfl (fun _ => rfl) 0 (ci := 1) rfl rfl rfl rfl hl.1 rfl (Nat.le_of_ble_eq_true rfl) dX1_fewestSeeds_40 ⟨Nat.zero_le _, Nat.zero_le _⟩ (fun r_16 u H locs hp_40 hP hD hS => ?_)
        obtain ⟨bdq_17, sbq_18, ndq_19, Sq_20, Crq_21, Gq_22⟩ := u
        have hP : va_P (dC, dI) vwCl [(h0, .inr (1, [.ref hM, .ref hV, .int wd, .int hg, .int wv])), (hM, .inr (0, [.int bd, .int sb, .int nd, .ref aS, .ref aC, .ref aG])), (aS, .inl (cI, 5, .inl S0)), (aC, .inl (cI, 5, .inl Cr)), (aG, .inl (cI, 5, .inl G0)), (hV, .inr (0, [.int bdq_17, .int sbq_18, .int ndq_19, .ref bS, .ref bC, .ref bG])), (bS, .inl (cI, 5, .inl Sq_20)), (bC, .inl (cI, 5, .inl Crq_21)), (bG, .inl (cI, 5, .inl Gq_22))] H := hP
        have hD : va_D A [(h0, .inr (1, [.ref hM, .ref hV, .int wd, .int hg, .int wv])), (hM, .inr (0, [.int bd, .int sb, .int nd, .ref aS, .ref aC, .ref aG])), (aS, .inl (cI, 5, .inl S0)), (aC, .inl (cI, 5, .inl Cr)), (aG, .inl (cI, 5, .inl G0)), (hV, .inr (0, [.int bdq_17, .int sbq_18, .int ndq_19, .ref bS, .ref bC, .ref bG])), (bS, .inl (cI, 5, .inl Sq_20)), (bC, .inl (cI, 5, .inl Crq_21)), (bG, .inl (cI, 5, .inl Gq_22))] := hD
        have hp_40 : (r_16 = 1 ∧ ∃ i j, i < j ∧ j < 30 ∧ (pSd i ||| pSd j) &&& (bd ^^^ (-1)) = 0 ∧ pWin S0 bd sb q0 (pSd i ||| pSd j) col) ∨ (r_16 = 0 ∧ ∀ i j, i < j → j < 30 → ¬ ((pSd i ||| pSd j) &&& (bd ^^^ (-1)) = 0 ∧ pWin S0 bd sb q0 (pSd i ||| pSd j) col)) := hp_40
        refine lv_if_eq (tgt := 50) hx hb dX1_fewestSeeds_43 (by decide) (fun c_43 => ?_) (fun c_43 => ?_)
        · skip
          have k2 := (hp_40.resolve_left (fun q => by rw [q.1] at c_43; exact absurd c_43 (by decide))).2
          refine lv_iconst (v := (-1)) hx hb dX1_fewestSeeds_50 (by decide) ?_
          rw [← hQ]
          exact zx_iret (W1 := (fun (u : Int32 × Int32 × Int32 × (Nat → Int32) × (Nat → Int32) × (Nat → Int32)) => [(h0, .inr (1, [.ref hM, .ref hV, .int wd, .int hg, .int wv])), (hM, .inr (0, [.int bd, .int sb, .int nd, .ref aS, .ref aC, .ref aG])), (aS, .inl (cI, 5, .inl S0)), (aC, .inl (cI, 5, .inl Cr)), (aG, .inl (cI, 5, .inl G0)), (hV, .inr (0, [.int u.1, .int u.2.1, .int u.2.2.1, .ref bS, .ref bC, .ref bG])), (bS, .inl (cI, 5, .inl u.2.2.2.1)), (bC, .inl (cI, 5, .inl u.2.2.2.2.1)), (bG, .inl (cI, 5, .inl u.2.2.2.2.2))])) hx hb hr hlocks hP hS (bdq_17, sbq_18, ndq_19, Sq_20, Crq_21, Gq_22) (rfl) (⟨z_if1 c_4, Or.inr (Or.inr (Or.inr ⟨rfl, z_if0 c_23, k1, k2⟩))⟩) dX1_fewestSeeds_51
        · skip
          have k2 := (hp_40.resolve_right (fun q => c_43 q.1)).2
          refine lv_iconst (v := 2) hx hb dX1_fewestSeeds_46 (by decide) ?_
          refine lv_goto (tgt := 51) hx hb dX1_fewestSeeds_47 (by decide) ?_
          rw [← hQ]
          exact zx_iret (W1 := (fun (u : Int32 × Int32 × Int32 × (Nat → Int32) × (Nat → Int32) × (Nat → Int32)) => [(h0, .inr (1, [.ref hM, .ref hV, .int wd, .int hg, .int wv])), (hM, .inr (0, [.int bd, .int sb, .int nd, .ref aS, .ref aC, .ref aG])), (aS, .inl (cI, 5, .inl S0)), (aC, .inl (cI, 5, .inl Cr)), (aG, .inl (cI, 5, .inl G0)), (hV, .inr (0, [.int u.1, .int u.2.1, .int u.2.2.1, .ref bS, .ref bC, .ref bG])), (bS, .inl (cI, 5, .inl u.2.2.2.1)), (bC, .inl (cI, 5, .inl u.2.2.2.2.1)), (bG, .inl (cI, 5, .inl u.2.2.2.2.2))])) hx hb hr hlocks hP hS (bdq_17, sbq_18, ndq_19, Sq_20, Crq_21, Gq_22) (rfl) (⟨z_if1 c_4, Or.inr (Or.inr (Or.inl ⟨rfl, z_if0 c_23, k1, k2⟩))⟩) dX1_fewestSeeds_51
      · skip
        have k1 := (hp_30.resolve_right (fun q => c_33 q.1)).2
        refine lv_iconst (v := 1) hx hb dX1_fewestSeeds_36 (by decide) ?_
        rw [← hQ]
        exact zx_iret (W1 := (fun (u : Int32 × Int32 × Int32 × (Nat → Int32) × (Nat → Int32) × (Nat → Int32)) => [(h0, .inr (1, [.ref hM, .ref hV, .int wd, .int hg, .int wv])), (hM, .inr (0, [.int bd, .int sb, .int nd, .ref aS, .ref aC, .ref aG])), (aS, .inl (cI, 5, .inl S0)), (aC, .inl (cI, 5, .inl Cr)), (aG, .inl (cI, 5, .inl G0)), (hV, .inr (0, [.int u.1, .int u.2.1, .int u.2.2.1, .ref bS, .ref bC, .ref bG])), (bS, .inl (cI, 5, .inl u.2.2.2.1)), (bC, .inl (cI, 5, .inl u.2.2.2.2.1)), (bG, .inl (cI, 5, .inl u.2.2.2.2.2))])) hx hb hr hlocks hP hS (bdq_10, sbq_11, ndq_12, Sq_13, Crq_14, Gq_15) (rfl) (⟨z_if1 c_4, Or.inr (Or.inl ⟨rfl, z_if0 c_23, k1⟩)⟩) dX1_fewestSeeds_37
    · skip
      refine lv_iconst (v := 0) hx hb dX1_fewestSeeds_26 (by decide) ?_
      rw [← hQ]
      exact zx_iret (W1 := (fun (u : Int32 × Int32 × Int32 × (Nat → Int32) × (Nat → Int32) × (Nat → Int32)) => [(h0, .inr (1, [.ref hM, .ref hV, .int wd, .int hg, .int wv])), (hM, .inr (0, [.int bd, .int sb, .int nd, .ref aS, .ref aC, .ref aG])), (aS, .inl (cI, 5, .inl S0)), (aC, .inl (cI, 5, .inl Cr)), (aG, .inl (cI, 5, .inl G0)), (hV, .inr (0, [.int u.1, .int u.2.1, .int u.2.2.1, .ref bS, .ref bC, .ref bG])), (bS, .inl (cI, 5, .inl u.2.2.2.1)), (bC, .inl (cI, 5, .inl u.2.2.2.2.1)), (bG, .inl (cI, 5, .inl u.2.2.2.2.2))])) hx hb hr hlocks hP hS (bdq_3, sbq_4, ndq_5, Sq_6, Crq_7, Gq_8) (rfl) (⟨z_if1 c_4, Or.inl ⟨rfl, z_if1 c_23⟩⟩) dX1_fewestSeeds_27
  · skip
    rw [← hQ]
    exact z_thr (cls := xIO) (text := "no such colour") (ik := 51) (is := 103) (ic := 55) hx hb hst hown (by decide +kernel) (hts (.classLink RX1 51 "java/lang/IndexOutOfBoundsException") (List.mem_of_getElem? (i := 1) rfl)) (hts (.initialized "java/lang/IndexOutOfBoundsException") (List.mem_of_getElem? (i := 2) rfl)) (by decide +kernel) (fun w h => hts w (List.mem_cons_of_mem _ (List.mem_append_right _ h))) z_bad55 z_good55 hE.2.2.2.1.2.1 hE hP hS (by rw [hml]; exact hl.1) dX1_fewestSeeds_7 dX1_fewestSeeds_10 dX1_fewestSeeds_11 dX1_fewestSeeds_13 dX1_fewestSeeds_16 htab (Nat.le_of_ble_eq_true rfl) (Nat.le_of_ble_eq_true rfl) (Nat.le_of_ble_eq_true rfl) (Nat.le_of_ble_eq_true rfl) hlocks (⟨rfl, fun q => z_if0 c_4 q⟩)
abbrev rmX1_bestCell : Room := { frames := 6, cells := 1, slots := 6, locals := 117 }
set_option maxRecDepth 20000 in
theorem iX1_bestCell_X0 : ∀ w ∈ wsX00, w ∈ wsX1_bestCell := fun w h => (goodIn_r (big := wsX1_bestCell) wsX00 [74, 75, 76, 77, 78, 79] (by decide +kernel) (by decide +kernel) w h).1
set_option maxRecDepth 20000 in
theorem iX1_bestCell_X1 : ∀ w ∈ wsX10, w ∈ wsX1_bestCell := fun w h => (goodIn_r (big := wsX1_bestCell) wsX10 [69, 70, 71, 72, 73] (by decide +kernel) (by decide +kernel) w h).1
set_option maxHeartbeats 4000000 in
set_option maxRecDepth 100000 in
theorem m_X1_bestCell (l : Launch) (dC : Nat → ClassId) (dI : Nat → Nat → Nat) (cI cZ cJ cD : ClassId) (hst : l.stackTraces = false) (ad : Nat → Nat) (h0 : Nat) (hM : Nat) (aS : Nat) (aC : Nat) (aG : Nat) (hV : Nat) (bS : Nat) (bC : Nat) (bG : Nat) (wn : Nat) (hn : Nat) (wv : Int32) (bd : Int32) (sb : Int32) (nd : Int32) (S0 : Nat → Int32) (Cr : Nat → Int32) (G0 : Nat → Int32) (bd2 : Int32) (sb2 : Int32) (nd2 : Int32) (S2 : Nat → Int32) (Cr2 : Nat → Int32) (G2 : Nat → Int32) (q0 : Nat) (col : Int32) (x0 : Int32) (hq : 1 ≤ q0 ∧ q0 ≤ 4) (hnd : nd = nI q0) (hw : 2 ≤ wn ∧ wn ≤ 5) (hh : 2 ≤ hn ∧ hn ≤ 5) : zXI l (dC, dI) (wT cI cZ cJ cD) ad yX1_bestCell wsX1_bestCell rmX1_bestCell [(h0, .inr (1, [.ref hM, .ref hV, .int (nI wn), .int (nI hn), .int wv])), (hM, .inr (0, [.int bd, .int sb, .int nd, .ref aS, .ref aC, .ref aG])), (aS, .inl (cI, 5, .inl S0)), (aC, .inl (cI, 5, .inl Cr)), (aG, .inl (cI, 5, .inl G0)), (hV, .inr (0, [.int bd2, .int sb2, .int nd2, .ref bS, .ref bC, .ref bG])), (bS, .inl (cI, 5, .inl S2)), (bC, .inl (cI, 5, .inl Cr2)), (bG, .inl (cI, 5, .inl G2))] [.ref h0, .int col, .int x0] (fun (u : Nat × Int32 × Int32 × Int32 × (Nat → Int32) × (Nat → Int32) × (Nat → Int32)) => [(h0, .inr (1, [.ref hM, .ref hV, .int (nI wn), .int (nI hn), .int wv])), (hM, .inr (0, [.int bd, .int sb, .int nd, .ref aS, .ref aC, .ref aG])), (aS, .inl (cI, 5, .inl S0)), (aC, .inl (cI, 5, .inl Cr)), (aG, .inl (cI, 5, .inl G0)), (hV, .inr (0, [.int u.2.1, .int u.2.2.1, .int u.2.2.2.1, .ref bS, .ref bC, .ref bG])), (bS, .inl (cI, 5, .inl u.2.2.2.2.1)), (bC, .inl (cI, 5, .inl u.2.2.2.2.2.1)), (bG, .inl (cI, 5, .inl u.2.2.2.2.2.2))]) (fun (r : Int32) (u : Nat × Int32 × Int32 × Int32 × (Nat → Int32) × (Nat → Int32) × (Nat → Int32)) => ((x0 = nI u.1 ∧ 1 ≤ u.1 ∧ u.1 ≤ 24) ∧ pCol col) ∧ r = nI (pBi (pBF S0 bd sb q0 wn col u.1) (wn * hn))) (fun E => (E = xIO ∧ ¬ pCol col) ∨ (E = xIA ∧ pCol col ∧ ¬ (¬ x0 < 1 ∧ x0 ≤ 24))) := by
  intro sz
  refine vx_ofW (cc := cX1_bestCell) (maxL := 8) (ret := (some .int)) (by decide) rfl ?_
  intro p e s m args below meth c s₁ B hml htab hv
  obtain ⟨ha, hsz, hP, hK, hD0, hE⟩ := hv
  have hx := B.exec
  have hb := B.bytes
  have hr := B.returns
  have hts := atoms_spec (ws := wsX1_bestCell) B.pre
  have hown : s.vm.findClass RX1 = some m.cls := findClass_of_methodNamed B.named
  have hlocks := B.notSynchronized
  subst hsz
  have hD := hD0.self (sz := s.heap.size)
  generalize hAe : va_A [(h0, .inr (1, [.ref hM, .ref hV, .int (nI wn), .int (nI hn), .int wv])), (hM, .inr (0, [.int bd, .int sb, .int nd, .ref aS, .ref aC, .ref aG])), (aS, .inl (cI, 5, .inl S0)), (aC, .inl (cI, 5, .inl Cr)), (aG, .inl (cI, 5, .inl G0)), (hV, .inr (0, [.int bd2, .int sb2, .int nd2, .ref bS, .ref bC, .ref bG])), (bS, .inl (cI, 5, .inl S2)), (bC, .inl (cI, 5, .inl Cr2)), (bG, .inl (cI, 5, .inl G2))] s.heap.size = A at hD hE ⊢
  have hN := hE.1
  have hA : ∀ q : Nat, s.heap.size ≤ q → A q := fun q h => by rw [← hAe]; exact Or.inr h
  have hS : va_S A s.heap s.heap [] := va_S.rf
  generalize hQ : vx_MQ below (va_Qi (fun (r : Int32) (u : Nat × Int32 × Int32 × Int32 × (Nat → Int32) × (Nat → Int32) × (Nat → Int32)) => ((x0 = nI u.1 ∧ 1 ≤ u.1 ∧ u.1 ≤ 24) ∧ pCol col) ∧ r = nI (pBi (pBF S0 bd sb q0 wn col u.1) (wn * hn))) (fun u t => va_P (dC, dI) vwCl ((fun (u : Nat × Int32 × Int32 × Int32 × (Nat → Int32) × (Nat → Int32) × (Nat → Int32)) => [(h0, .inr (1, [.ref hM, .ref hV, .int (nI wn), .int (nI hn), .int wv])), (hM, .inr (0, [.int bd, .int sb, .int nd, .ref aS, .ref aC, .ref aG])), (aS, .inl (cI, 5, .inl S0)), (aC, .inl (cI, 5, .inl Cr)), (aG, .inl (cI, 5, .inl G0)), (hV, .inr (0, [.int u.2.1, .int u.2.2.1, .int u.2.2.2.1, .ref bS, .ref bC, .ref bG])), (bS, .inl (cI, 5, .inl u.2.2.2.2.1)), (bC, .inl (cI, 5, .inl u.2.2.2.2.2.1)), (bG, .inl (cI, 5, .inl u.2.2.2.2.2.2))]) u) t.heap) A) (zX (fun E => (E = xIO ∧ ¬ pCol col) ∨ (E = xIA ∧ pCol col ∧ ¬ (¬ x0 < 1 ∧ x0 ≤ 24))) (dC, dI) [(h0, .inr (1, [.ref hM, .ref hV, .int (nI wn), .int (nI hn), .int wv])), (hM, .inr (0, [.int bd, .int sb, .int nd, .ref aS, .ref aC, .ref aG])), (aS, .inl (cI, 5, .inl S0)), (aC, .inl (cI, 5, .inl Cr)), (aG, .inl (cI, 5, .inl G0)), (hV, .inr (0, [.int bd2, .int sb2, .int nd2, .ref bS, .ref bC, .ref bG])), (bS, .inl (cI, 5, .inl S2)), (bC, .inl (cI, 5, .inl Cr2)), (bG, .inl (cI, 5, .inl G2))] A) args s 1 6 A = Q
  have F9 : CallFix p m c cX1_bestCell 8 s args wsX1_bestCell RX1 := ⟨hx, hb, hml, hown, hts⟩
  refine z_entry (R := rmX1_bestCell) ha (Nat.le_of_ble_eq_true rfl) (fun ls hl => ?_)
  have hl : lv_has ls 8 [(0, .ref h0), (1, .int col), (2, .int x0)] := hl
  refine lv_iload_n hx hb dX1_bestCell_0 rfl (lv_at hl 1 rfl) ?_
  refine z_callSi (As := [.int col]) (rest := []) F9 (m_X1_isColour l dC dI cI cZ cJ cD col ) (va_cwS 1 hts gX1_bestCell_X1_isColour rfl rfl rfl (by decide +kernel) ⟨Nat.le_of_ble_eq_true rfl, Nat.le_of_ble_eq_true rfl⟩) hK hN hP hD hS hA rfl hl.1 rfl (Nat.le_of_ble_eq_true rfl) dX1_bestCell_1 ⟨Nat.zero_le _, Nat.zero_le _⟩ (fun r_1 H locs hp_1 hP hS => ?_)
  have hp_1 : r_1 = if pCol col then 1 else 0 := hp_1
  refine z_topi (y := if pCol col then 1 else 0) hp_1 ?_
  refine lv_if_ne (tgt := 17) hx hb dX1_bestCell_4 (by decide) (fun c_4 => ?_) (fun c_4 => ?_)
  · skip
    refine lv_iload_n hx hb dX1_bestCell_17 rfl (lv_at hl 2 rfl) ?_
    refine lv_iconst (v := 1) hx hb dX1_bestCell_18 (by decide) ?_
    refine lv_icmp_lt (tgt := 28) hx hb dX1_bestCell_19 (by decide) (fun c_19 => ?_) (fun c_19 => ?_)
    · skip
      rw [← hQ]
      exact z_thr (cls := xIA) (text := "1 to 24 waves") (ik := 37) (is := 140) (ic := 41) hx hb hst hown (by decide +kernel) (hts (.classLink RX1 37 "java/lang/IllegalArgumentException") (List.mem_of_getElem? (i := 3) rfl)) (hts (.initialized "java/lang/IllegalArgumentException") (List.mem_of_getElem? (i := 4) rfl)) (by decide +kernel) (fun w h => hts w (List.mem_cons_of_mem _ (List.mem_append_right _ h))) z_bad41 z_good41 hE.2.2.2.1.1 hE hP hS (by rw [hml]; exact hl.1) dX1_bestCell_28 dX1_bestCell_31 dX1_bestCell_32 dX1_bestCell_34 dX1_bestCell_37 htab (Nat.le_of_ble_eq_true rfl) (Nat.le_of_ble_eq_true rfl) (Nat.le_of_ble_eq_true rfl) (Nat.le_of_ble_eq_true rfl) hlocks (Or.inr ⟨rfl, z_if1 c_4, fun q => q.1 c_19⟩)
    · skip
      refine lv_iload_n hx hb dX1_bestCell_22 rfl (lv_at hl 2 rfl) ?_
      refine lv_bipush (v := 24) hx hb dX1_bestCell_23 (by decide +kernel) ?_
      refine lv_icmp_le (tgt := 38) hx hb dX1_bestCell_25 (by decide) (fun c_25 => ?_) (fun c_25 => ?_)
      · skip
        obtain ⟨nw, n1, n2, en⟩ := z_rng (N := 24) rfl (by decide) c_19 c_25
        refine lv_iconst (v := 0) hx hb dX1_bestCell_38 (by decide) ?_
        refine lv_istore_n (lv' := [(3, .int 0), (0, .ref h0), (1, .int col), (2, .int x0)]) hx hb dX1_bestCell_39 rfl hl (by decide) rfl (fun ls hl => ?_)
        refine lv_iconst (v := (-1)) hx hb dX1_bestCell_40 (by decide) ?_
        refine lv_istore (lv' := [(4, .int (-1)), (3, .int 0), (0, .ref h0), (1, .int col), (2, .int x0)]) hx hb dX1_bestCell_41 hl (by decide) rfl (fun ls hl => ?_)
        refine lv_iconst (v := 0) hx hb dX1_bestCell_43 (by decide) ?_
        refine lv_istore (lv' := [(5, .int 0), (4, .int (-1)), (3, .int 0), (0, .ref h0), (1, .int col), (2, .int x0)]) hx hb dX1_bestCell_44 hl (by decide) rfl (fun ls hl => ?_)
        have loop_46 : ∀ (n : Nat) (y : Nat) (bi : Nat) (bb : Int32) (bdq : Int32) (sbq : Int32) (ndq : Int32) (Sq : Nat → Int32) (Crq : Nat → Int32) (Gq : Nat → Int32) (hkn : y + n = hn) (e1 : bi = pBi (pBF S0 bd sb q0 wn col nw) (wn * y)) (e2 : bb = pBb (pBF S0 bd sb q0 wn col nw) (wn * y)) (H : Heap) (locs : List Loc) (ls : Array Slot) (hP : va_P (dC, dI) vwCl [(h0, .inr (1, [.ref hM, .ref hV, .int (nI wn), .int (nI hn), .int wv])), (hM, .inr (0, [.int bd, .int sb, .int nd, .ref aS, .ref aC, .ref aG])), (aS, .inl (cI, 5, .inl S0)), (aC, .inl (cI, 5, .inl Cr)), (aG, .inl (cI, 5, .inl G0)), (hV, .inr (0, [.int bdq, .int sbq, .int ndq, .ref bS, .ref bC, .ref bG])), (bS, .inl (cI, 5, .inl Sq)), (bC, .inl (cI, 5, .inl Crq)), (bG, .inl (cI, 5, .inl Gq))] H) (hD : va_D A [(h0, .inr (1, [.ref hM, .ref hV, .int (nI wn), .int (nI hn), .int wv])), (hM, .inr (0, [.int bd, .int sb, .int nd, .ref aS, .ref aC, .ref aG])), (aS, .inl (cI, 5, .inl S0)), (aC, .inl (cI, 5, .inl Cr)), (aG, .inl (cI, 5, .inl G0)), (hV, .inr (0, [.int bdq, .int sbq, .int ndq, .ref bS, .ref bC, .ref bG])), (bS, .inl (cI, 5, .inl Sq)), (bC, .inl (cI, 5, .inl Crq)), (bG, .inl (cI, 5, .inl Gq))]) (hS : va_S A s.heap H locs) (hl : lv_has ls 8 [(0, .ref h0), (1, .int col), (2, .int x0), (3, .int (nI bi)), (4, .int bb), (5, .int (nI y))]), W p l e rmX1_bestCell s m args below meth c H locs 0 0 Q (F0 m 46 ls []) := by
          intro n
          induction n with
          | zero =>
            intro y bi bb bdq sbq ndq Sq Crq Gq hkn e1 e2 H locs ls hP hD hS hl
            refine lv_iload hx hb dX1_bestCell_46 (lv_at hl 5 rfl) ?_
            refine lv_aload_n hx hb dX1_bestCell_48 rfl (lv_at hl 0 rfl) ?_
            refine va_get (D := (dC, dI)) (ci := 1) (v := .int (nI hn)) (C := RX1) (T := TX1) (N := 5) hx hb hts iX1_bestCell_X1 hown hK hP 0 rfl rfl 3 (by decide) (hts (.fieldLink RX1 23 "ColourTide" "height" "I") (List.mem_of_getElem? (i := 5) rfl)) (fun _ h9 => h9) rfl dX1_bestCell_49 ?_
            refine lv_icmp_ge (tgt := 116) hx hb dX1_bestCell_52 (by decide) (fun c_52 => ?_) (fun c_52 => ?_)
            · skip
              have n_52 := zc_le_t (a := hn) (b := y) (by omega) (by omega) c_52
              refine lv_iload_n hx hb dX1_bestCell_116 rfl (lv_at hl 3 rfl) ?_
              have hl9 := hl
              have hP9 := hP
              have hD9 := hD
              have hS9 := hS
              obtain rfl : hn = y := by omega
              have hl := hl9
              have hP := hP9
              have hD := hD9
              have hS := hS9
              rw [← hQ]
              exact zx_iret (W1 := (fun (u : Nat × Int32 × Int32 × Int32 × (Nat → Int32) × (Nat → Int32) × (Nat → Int32)) => [(h0, .inr (1, [.ref hM, .ref hV, .int (nI wn), .int (nI hn), .int wv])), (hM, .inr (0, [.int bd, .int sb, .int nd, .ref aS, .ref aC, .ref aG])), (aS, .inl (cI, 5, .inl S0)), (aC, .inl (cI, 5, .inl Cr)), (aG, .inl (cI, 5, .inl G0)), (hV, .inr (0, [.int u.2.1, .int u.2.2.1, .int u.2.2.2.1, .ref bS, .ref bC, .ref bG])), (bS, .inl (cI, 5, .inl u.2.2.2.2.1)), (bC, .inl (cI, 5, .inl u.2.2.2.2.2.1)), (bG, .inl (cI, 5, .inl u.2.2.2.2.2.2))])) hx hb hr hlocks hP hS (nw, bdq, sbq, ndq, Sq, Crq, Gq) (rfl) (⟨⟨⟨en, n1, n2⟩, z_if1 c_4⟩, by rw [e1]⟩) dX1_bestCell_117
            · skip
              have n_52 := zc_le_f (a := hn) (b := y) (by omega) (by omega) c_52
              exact absurd n_52 (by omega)
          | succ n ih_46 =>
            intro y bi bb bdq sbq ndq Sq Crq Gq hkn e1 e2 H locs ls hP hD hS hl
            refine lv_iload hx hb dX1_bestCell_46 (lv_at hl 5 rfl) ?_
            refine lv_aload_n hx hb dX1_bestCell_48 rfl (lv_at hl 0 rfl) ?_
            refine va_get (D := (dC, dI)) (ci := 1) (v := .int (nI hn)) (C := RX1) (T := TX1) (N := 5) hx hb hts iX1_bestCell_X1 hown hK hP 0 rfl rfl 3 (by decide) (hts (.fieldLink RX1 23 "ColourTide" "height" "I") (List.mem_of_getElem? (i := 5) rfl)) (fun _ h9 => h9) rfl dX1_bestCell_49 ?_
            refine lv_icmp_ge (tgt := 116) hx hb dX1_bestCell_52 (by decide) (fun c_52 => ?_) (fun c_52 => ?_)
            · skip
              have n_52 := zc_le_t (a := hn) (b := y) (by omega) (by omega) c_52
              exact absurd n_52 (by omega)
            · skip
              have n_52 := zc_le_f (a := hn) (b := y) (by omega) (by omega) c_52
              refine lv_iconst (v := 0) hx hb dX1_bestCell_55 (by decide) ?_
              refine lv_istore (lv' := [(6, .int 0), (0, .ref h0), (1, .int col), (2, .int x0), (3, .int (nI bi)), (4, .int bb), (5, .int (nI y))]) hx hb dX1_bestCell_56 hl (by decide) rfl (fun ls hl => ?_)
              have loop_58 : ∀ (n : Nat) (x : Nat) (bi : Nat) (bb : Int32) (bdq : Int32) (sbq : Int32) (ndq : Int32) (Sq : Nat → Int32) (Crq : Nat → Int32) (Gq : Nat → Int32) (hkn : x + n = wn) (e1 : bi = pBi (pBF S0 bd sb q0 wn col nw) (wn * y + x)) (e2 : bb = pBb (pBF S0 bd sb q0 wn col nw) (wn * y + x)) (H : Heap) (locs : List Loc) (ls : Array Slot) (hP : va_P (dC, dI) vwCl [(h0, .inr (1, [.ref hM, .ref hV, .int (nI wn), .int (nI hn), .int wv])), (hM, .inr (0, [.int bd, .int sb, .int nd, .ref aS, .ref aC, .ref aG])), (aS, .inl (cI, 5, .inl S0)), (aC, .inl (cI, 5, .inl Cr)), (aG, .inl (cI, 5, .inl G0)), (hV, .inr (0, [.int bdq, .int sbq, .int ndq, .ref bS, .ref bC, .ref bG])), (bS, .inl (cI, 5, .inl Sq)), (bC, .inl (cI, 5, .inl Crq)), (bG, .inl (cI, 5, .inl Gq))] H) (hD : va_D A [(h0, .inr (1, [.ref hM, .ref hV, .int (nI wn), .int (nI hn), .int wv])), (hM, .inr (0, [.int bd, .int sb, .int nd, .ref aS, .ref aC, .ref aG])), (aS, .inl (cI, 5, .inl S0)), (aC, .inl (cI, 5, .inl Cr)), (aG, .inl (cI, 5, .inl G0)), (hV, .inr (0, [.int bdq, .int sbq, .int ndq, .ref bS, .ref bC, .ref bG])), (bS, .inl (cI, 5, .inl Sq)), (bC, .inl (cI, 5, .inl Crq)), (bG, .inl (cI, 5, .inl Gq))]) (hS : va_S A s.heap H locs) (hl : lv_has ls 8 [(0, .ref h0), (1, .int col), (2, .int x0), (3, .int (nI bi)), (4, .int bb), (5, .int (nI y)), (6, .int (nI x))]), W p l e rmX1_bestCell s m args below meth c H locs 0 0 Q (F0 m 58 ls []) := by
                intro n
                induction n with
                | zero =>
                  intro x bi bb bdq sbq ndq Sq Crq Gq hkn e1 e2 H locs ls hP hD hS hl
                  refine lv_iload hx hb dX1_bestCell_58 (lv_at hl 6 rfl) ?_
                  refine lv_aload_n hx hb dX1_bestCell_60 rfl (lv_at hl 0 rfl) ?_
                  refine va_get (D := (dC, dI)) (ci := 1) (v := .int (nI wn)) (C := RX1) (T := TX1) (N := 5) hx hb hts iX1_bestCell_X1 hown hK hP 0 rfl rfl 2 (by decide) (hts (.fieldLink RX1 19 "ColourTide" "width" "I") (List.mem_of_getElem? (i := 6) rfl)) (fun _ h9 => h9) rfl dX1_bestCell_61 ?_
                  refine lv_icmp_ge (tgt := 110) hx hb dX1_bestCell_64 (by decide) (fun c_64 => ?_) (fun c_64 => ?_)
                  · skip
                    have n_64 := zc_le_t (a := wn) (b := x) (by omega) (by omega) c_64
                    refine lv_iinc (v := nI (y + 1)) (lv' := [(5, .int (nI (y + 1))), (0, .ref h0), (1, .int col), (2, .int x0), (3, .int (nI bi)), (4, .int bb), (6, .int (nI x))]) hx hb dX1_bestCell_110 hl (k := 5) rfl (nI_1 y) (by decide) rfl (fun ls hl => ?_)
                    refine lv_goto (tgt := 46) hx hb dX1_bestCell_113 (by decide) ?_
                    have hl9 := hl
                    have hP9 := hP
                    have hD9 := hD
                    have hS9 := hS
                    obtain rfl : wn = x := by omega
                    have hl := hl9
                    have hP := hP9
                    have hD := hD9
                    have hS := hS9
                    exact ih_46 (y + 1) bi bb bdq sbq ndq Sq Crq Gq (by omega) (e1) (e2) _ _ _ hP hD hS (lv_sub hl [1, 2, 3, 4, 5, 0] rfl)
                  · skip
                    have n_64 := zc_le_f (a := wn) (b := x) (by omega) (by omega) c_64
                    exact absurd n_64 (by omega)
                | succ n ih_58 =>
                  intro x bi bb bdq sbq ndq Sq Crq Gq hkn e1 e2 H locs ls hP hD hS hl
                  refine lv_iload hx hb dX1_bestCell_58 (lv_at hl 6 rfl) ?_
                  refine lv_aload_n hx hb dX1_bestCell_60 rfl (lv_at hl 0 rfl) ?_
                  refine va_get (D := (dC, dI)) (ci := 1) (v := .int (nI wn)) (C := RX1) (T := TX1) (N := 5) hx hb hts iX1_bestCell_X1 hown hK hP 0 rfl rfl 2 (by decide) (hts (.fieldLink RX1 19 "ColourTide" "width" "I") (List.mem_of_getElem? (i := 6) rfl)) (fun _ h9 => h9) rfl dX1_bestCell_61 ?_
                  refine lv_icmp_ge (tgt := 110) hx hb dX1_bestCell_64 (by decide) (fun c_64 => ?_) (fun c_64 => ?_)
                  · skip
                    have n_64 := zc_le_t (a := wn) (b := x) (by omega) (by omega) c_64
                    exact absurd n_64 (by omega)
                  · skip
                    have n_64 := zc_le_f (a := wn) (b := x) (by omega) (by omega) c_64
                    refine lv_aload_n hx hb dX1_bestCell_67 rfl (lv_at hl 0 rfl) ?_
                    refine lv_iload hx hb dX1_bestCell_68 (lv_at hl 6 rfl) ?_
                    refine lv_iload hx hb dX1_bestCell_70 (lv_at hl 5 rfl) ?_
                    refine z_callSi (As := [.int (nI x), .int (nI y)]) (rest := [.ref h0]) F9 (m_X1_cell l dC dI cI cZ cJ cD (nI x) (nI y) ) (va_cwS 2 hts gX1_bestCell_X1_cell rfl rfl rfl (by decide +kernel) ⟨Nat.le_of_ble_eq_true rfl, Nat.le_of_ble_eq_true rfl⟩) hK hN hP hD hS hA rfl hl.1 rfl (Nat.le_of_ble_eq_true rfl) dX1_bestCell_72 ⟨Nat.zero_le _, Nat.zero_le _⟩ (fun r_2 H locs hp_72 hP hS => ?_)
                    have hp_72 : r_2 = pCell (nI x) (nI y) := hp_72
                    refine z_topi (y := pCell (nI x) (nI y)) hp_72 ?_
                    refine lv_iload_n hx hb dX1_bestCell_75 rfl (lv_at hl 1 rfl) ?_
                    refine lv_iload_n hx hb dX1_bestCell_76 rfl (lv_at hl 2 rfl) ?_
                    refine z_topi (y := nI nw) (en) ?_
                    refine z_callVi (As := [.int (pCell (nI x) (nI y)), .int col, .int (nI nw)]) (rest := []) F9 (m_X1_countAfter l dC dI cI cZ cJ cD h0 hM aS aC aG hV bS bC bG (nI wn) (nI hn) wv bd sb nd S0 Cr G0 bdq sbq ndq Sq Crq Gq q0 (pCell (nI x) (nI y)) col nw (hq) (hnd) (by omega)) (cwV 3 hts gX1_bestCell_X1_countAfter rfl rfl rfl (by decide +kernel) ⟨Nat.le_of_ble_eq_true rfl, Nat.le_of_ble_eq_true rfl⟩) hK hN hP hD hS hA [0, 1, 2, 3, 4, 5, 6, 7, 8] rfl rfl (fun _ => rfl) 0 (ci := 1) rfl rfl rfl rfl hl.1 rfl (Nat.le_of_ble_eq_true rfl) dX1_bestCell_77 ⟨Nat.zero_le _, Nat.zero_le _⟩ (fun r_3 u H locs hp_77 hP hD hS => ?_)
                    obtain ⟨bdq_4, sbq_5, ndq_6, Sq_7, Crq_8, Gq_9⟩ := u
                    have hP : va_P (dC, dI) vwCl [(h0, .inr (1, [.ref hM, .ref hV, .int (nI wn), .int (nI hn), .int wv])), (hM, .inr (0, [.int bd, .int sb, .int nd, .ref aS, .ref aC, .ref aG])), (aS, .inl (cI, 5, .inl S0)), (aC, .inl (cI, 5, .inl Cr)), (aG, .inl (cI, 5, .inl G0)), (hV, .inr (0, [.int bdq_4, .int sbq_5, .int ndq_6, .ref bS, .ref bC, .ref bG])), (bS, .inl (cI, 5, .inl Sq_7)), (bC, .inl (cI, 5, .inl Crq_8)), (bG, .inl (cI, 5, .inl Gq_9))] H := hP
                    have hD : va_D A [(h0, .inr (1, [.ref hM, .ref hV, .int (nI wn), .int (nI hn), .int wv])), (hM, .inr (0, [.int bd, .int sb, .int nd, .ref aS, .ref aC, .ref aG])), (aS, .inl (cI, 5, .inl S0)), (aC, .inl (cI, 5, .inl Cr)), (aG, .inl (cI, 5, .inl G0)), (hV, .inr (0, [.int bdq_4, .int sbq_5, .int ndq_6, .ref bS, .ref bC, .ref bG])), (bS, .inl (cI, 5, .inl Sq_7)), (bC, .inl (cI, 5, .inl Crq_8)), (bG, .inl (cI, 5, .inl Gq_9))] := hD
                    have hp_77 : r_3 = pAft S0 bd sb q0 (pCell (nI x) (nI y)) col nw := hp_77
                    refine z_topi (y := pAft S0 bd sb q0 (pCell (nI x) (nI y)) col nw) hp_77 ?_
                    refine lv_istore (lv' := [(7, .int (pAft S0 bd sb q0 (pCell (nI x) (nI y)) col nw)), (0, .ref h0), (1, .int col), (2, .int x0), (3, .int (nI bi)), (4, .int bb), (5, .int (nI y)), (6, .int (nI x))]) hx hb dX1_bestCell_80 hl (by decide) rfl (fun ls hl => ?_)
                    refine lv_iload hx hb dX1_bestCell_82 (lv_at hl 0 rfl) ?_
                    refine lv_iload hx hb dX1_bestCell_84 (lv_at hl 5 rfl) ?_
                    refine lv_icmp_le (tgt := 104) hx hb dX1_bestCell_86 (by decide) (fun c_86 => ?_) (fun c_86 => ?_)
                    · skip
                      refine lv_iinc (v := nI (x + 1)) (lv' := [(6, .int (nI (x + 1))), (7, .int (pAft S0 bd sb q0 (pCell (nI x) (nI y)) col nw)), (0, .ref h0), (1, .int col), (2, .int x0), (3, .int (nI bi)), (4, .int bb), (5, .int (nI y))]) hx hb dX1_bestCell_104 hl (k := 7) rfl (nI_1 x) (by decide) rfl (fun ls hl => ?_)
                      refine lv_goto (tgt := 58) hx hb dX1_bestCell_107 (by decide) ?_
                      exact ih_58 (x + 1) bi bb bdq_4 sbq_5 ndq_6 Sq_7 Crq_8 Gq_9 (by omega) (by rw [← Nat.add_assoc, (pB_step (F := (pBF S0 bd sb q0 wn col nw)) (c := wn * y + x) (by rw [pBF_at y (by omega), ← e2]; exact c_86)).2]; exact e1) (by rw [← Nat.add_assoc, (pB_step (F := (pBF S0 bd sb q0 wn col nw)) (c := wn * y + x) (by rw [pBF_at y (by omega), ← e2]; exact c_86)).1]; exact e2) _ _ _ hP hD hS (lv_sub hl [2, 3, 4, 5, 6, 7, 0] rfl)
                    · skip
                      refine lv_iload hx hb dX1_bestCell_89 (lv_at hl 0 rfl) ?_
                      refine lv_istore (lv' := [(4, .int (pAft S0 bd sb q0 (pCell (nI x) (nI y)) col nw)), (7, .int (pAft S0 bd sb q0 (pCell (nI x) (nI y)) col nw)), (0, .ref h0), (1, .int col), (2, .int x0), (3, .int (nI bi)), (5, .int (nI y)), (6, .int (nI x))]) hx hb dX1_bestCell_91 hl (by decide) rfl (fun ls hl => ?_)
                      refine lv_aload_n hx hb dX1_bestCell_93 rfl (lv_at hl 2 rfl) ?_
                      refine va_get (D := (dC, dI)) (ci := 1) (v := .int (nI wn)) (C := RX1) (T := TX1) (N := 5) hx hb hts iX1_bestCell_X1 hown hK hP 0 rfl rfl 2 (by decide) (hts (.fieldLink RX1 19 "ColourTide" "width" "I") (List.mem_of_getElem? (i := 6) rfl)) (fun _ h9 => h9) rfl dX1_bestCell_94 ?_
                      refine lv_iload hx hb dX1_bestCell_97 (lv_at hl 6 rfl) ?_
                      refine lv_imul hx hb dX1_bestCell_99 ?_
                      refine z_topi (y := nI (wn * y)) (pk_mul wn y) ?_
                      refine lv_iload hx hb dX1_bestCell_100 (lv_at hl 7 rfl) ?_
                      refine lv_iadd hx hb dX1_bestCell_102 ?_
                      refine z_topi (y := nI ((wn * y) + x)) (nI_add (wn * y) x) ?_
                      refine lv_istore_n (lv' := [(3, .int (nI ((wn * y) + x))), (4, .int (pAft S0 bd sb q0 (pCell (nI x) (nI y)) col nw)), (7, .int (pAft S0 bd sb q0 (pCell (nI x) (nI y)) col nw)), (0, .ref h0), (1, .int col), (2, .int x0), (5, .int (nI y)), (6, .int (nI x))]) hx hb dX1_bestCell_103 rfl hl (by decide) rfl (fun ls hl => ?_)
                      refine lv_iinc (v := nI (x + 1)) (lv' := [(6, .int (nI (x + 1))), (3, .int (nI ((wn * y) + x))), (4, .int (pAft S0 bd sb q0 (pCell (nI x) (nI y)) col nw)), (7, .int (pAft S0 bd sb q0 (pCell (nI x) (nI y)) col nw)), (0, .ref h0), (1, .int col), (2, .int x0), (5, .int (nI y))]) hx hb dX1_bestCell_104 hl (k := 7) rfl (nI_1 x) (by decide) rfl (fun ls hl => ?_)
                      refine lv_goto (tgt := 58) hx hb dX1_bestCell_107 (by decide) ?_
                      exact ih_58 (x + 1) (wn * y + x) (pAft S0 bd sb q0 (pCell (nI x) (nI y)) col nw) bdq_4 sbq_5 ndq_6 Sq_7 Crq_8 Gq_9 (by omega) (by rw [← Nat.add_assoc, (pB_take (F := (pBF S0 bd sb q0 wn col nw)) (c := wn * y + x) (by rw [pBF_at y (by omega), ← e2]; exact c_86)).2]) (by rw [← Nat.add_assoc, (pB_take (F := (pBF S0 bd sb q0 wn col nw)) (c := wn * y + x) (by rw [pBF_at y (by omega), ← e2]; exact c_86)).1, pBF_at y (by omega)]) _ _ _ hP hD hS (lv_sub hl [4, 5, 6, 1, 2, 7, 0] rfl)
              exact loop_58 wn 0 bi bb bdq sbq ndq Sq Crq Gq (by omega) (e1) (e2) _ _ _ hP hD hS (lv_sub hl [1, 2, 3, 4, 5, 6, 0] rfl)
        exact loop_46 hn 0 0 (-1) bd2 sb2 nd2 S2 Cr2 G2 (by omega) (rfl) (rfl) _ _ _ hP hD hS (lv_sub hl [3, 4, 5, 2, 1, 0] rfl)
      · skip
        rw [← hQ]
        exact z_thr (cls := xIA) (text := "1 to 24 waves") (ik := 37) (is := 140) (ic := 41) hx hb hst hown (by decide +kernel) (hts (.classLink RX1 37 "java/lang/IllegalArgumentException") (List.mem_of_getElem? (i := 3) rfl)) (hts (.initialized "java/lang/IllegalArgumentException") (List.mem_of_getElem? (i := 4) rfl)) (by decide +kernel) (fun w h => hts w (List.mem_cons_of_mem _ (List.mem_append_right _ h))) z_bad41 z_good41 hE.2.2.2.1.1 hE hP hS (by rw [hml]; exact hl.1) dX1_bestCell_28 dX1_bestCell_31 dX1_bestCell_32 dX1_bestCell_34 dX1_bestCell_37 htab (Nat.le_of_ble_eq_true rfl) (Nat.le_of_ble_eq_true rfl) (Nat.le_of_ble_eq_true rfl) (Nat.le_of_ble_eq_true rfl) hlocks (Or.inr ⟨rfl, z_if1 c_4, fun q => c_25 q.2⟩)
  · skip
    rw [← hQ]
    exact z_thr (cls := xIO) (text := "no such colour") (ik := 51) (is := 103) (ic := 55) hx hb hst hown (by decide +kernel) (hts (.classLink RX1 51 "java/lang/IndexOutOfBoundsException") (List.mem_of_getElem? (i := 1) rfl)) (hts (.initialized "java/lang/IndexOutOfBoundsException") (List.mem_of_getElem? (i := 2) rfl)) (by decide +kernel) (fun w h => hts w (List.mem_cons_of_mem _ (List.mem_append_left _ (List.mem_append_right _ h)))) z_bad55 z_good55 hE.2.2.2.1.2.1 hE hP hS (by rw [hml]; exact hl.1) dX1_bestCell_7 dX1_bestCell_10 dX1_bestCell_11 dX1_bestCell_13 dX1_bestCell_16 htab (Nat.le_of_ble_eq_true rfl) (Nat.le_of_ble_eq_true rfl) (Nat.le_of_ble_eq_true rfl) (Nat.le_of_ble_eq_true rfl) hlocks (Or.inl ⟨rfl, z_if0 c_4⟩)
abbrev rmX1_share : Room := { frames := 6, cells := 1, slots := 6, locals := 90 }
set_option maxRecDepth 20000 in
theorem iX1_share_X0 : ∀ w ∈ wsX00, w ∈ wsX1_share := fun w h => (goodIn_r (big := wsX1_share) wsX00 [35, 36, 37, 38, 39, 40] (by decide +kernel) (by decide +kernel) w h).1
set_option maxRecDepth 20000 in
theorem iX1_share_X1 : ∀ w ∈ wsX10, w ∈ wsX1_share := fun w h => (goodIn_r (big := wsX1_share) wsX10 [30, 31, 32, 33, 34] (by decide +kernel) (by decide +kernel) w h).1
set_option maxHeartbeats 4000000 in
set_option maxRecDepth 100000 in
theorem m_X1_share (l : Launch) (dC : Nat → ClassId) (dI : Nat → Nat → Nat) (cI cZ cJ cD : ClassId) (hst : l.stackTraces = false) (ad : Nat → Nat) (h0 : Nat) (hM : Nat) (aS : Nat) (aC : Nat) (aG : Nat) (hV : Nat) (bS : Nat) (bC : Nat) (bG : Nat) (wn : Nat) (hn : Nat) (wv : Int32) (bd : Int32) (sb : Int32) (nd : Int32) (S0 : Nat → Int32) (Cr : Nat → Int32) (G0 : Nat → Int32) (bd2 : Int32) (sb2 : Int32) (nd2 : Int32) (S2 : Nat → Int32) (Cr2 : Nat → Int32) (G2 : Nat → Int32) (col : Int32) (cn : Nat) (hw : 2 ≤ wn ∧ wn ≤ 5) (hh : 2 ≤ hn ∧ hn ≤ 5) (hcn : pBC (pCW S0 col) = nI cn) (hcb : cn ≤ 32) : zXD l (dC, dI) (wT cI cZ cJ cD) ad yX1_share wsX1_share rmX1_share [(h0, .inr (1, [.ref hM, .ref hV, .int (nI wn), .int (nI hn), .int wv])), (hM, .inr (0, [.int bd, .int sb, .int nd, .ref aS, .ref aC, .ref aG])), (aS, .inl (cI, 5, .inl S0)), (aC, .inl (cI, 5, .inl Cr)), (aG, .inl (cI, 5, .inl G0)), (hV, .inr (0, [.int bd2, .int sb2, .int nd2, .ref bS, .ref bC, .ref bG])), (bS, .inl (cI, 5, .inl S2)), (bC, .inl (cI, 5, .inl Cr2)), (bG, .inl (cI, 5, .inl G2))] [.ref h0, .int col] (fun (_ : Unit) => [(h0, .inr (1, [.ref hM, .ref hV, .int (nI wn), .int (nI hn), .int wv])), (hM, .inr (0, [.int bd, .int sb, .int nd, .ref aS, .ref aC, .ref aG])), (aS, .inl (cI, 5, .inl S0)), (aC, .inl (cI, 5, .inl Cr)), (aG, .inl (cI, 5, .inl G0)), (hV, .inr (0, [.int bd2, .int sb2, .int nd2, .ref bS, .ref bC, .ref bG])), (bS, .inl (cI, 5, .inl S2)), (bC, .inl (cI, 5, .inl Cr2)), (bG, .inl (cI, 5, .inl G2))]) (fun (r : UInt64) (_ : Unit) => pAny col ∧ r = FP.ddiv (FP.i2d (nI cn)) (FP.i2d (nI (wn * hn)))) (fun E => E = xIO ∧ ¬ (pAny col)) := by
  intro sz
  refine vx_ofW (cc := cX1_share) (maxL := 3) (ret := (some .double)) (by decide) rfl ?_
  intro p e s m args below meth c s₁ B hml htab hv
  obtain ⟨ha, hsz, hP, hK, hD0, hE⟩ := hv
  have hx := B.exec
  have hb := B.bytes
  have hr := B.returns
  have hts := atoms_spec (ws := wsX1_share) B.pre
  have hown : s.vm.findClass RX1 = some m.cls := findClass_of_methodNamed B.named
  have hlocks := B.notSynchronized
  subst hsz
  have hD := hD0.self (sz := s.heap.size)
  generalize hAe : va_A [(h0, .inr (1, [.ref hM, .ref hV, .int (nI wn), .int (nI hn), .int wv])), (hM, .inr (0, [.int bd, .int sb, .int nd, .ref aS, .ref aC, .ref aG])), (aS, .inl (cI, 5, .inl S0)), (aC, .inl (cI, 5, .inl Cr)), (aG, .inl (cI, 5, .inl G0)), (hV, .inr (0, [.int bd2, .int sb2, .int nd2, .ref bS, .ref bC, .ref bG])), (bS, .inl (cI, 5, .inl S2)), (bC, .inl (cI, 5, .inl Cr2)), (bG, .inl (cI, 5, .inl G2))] s.heap.size = A at hD hE ⊢
  have hN := hE.1
  have hA : ∀ q : Nat, s.heap.size ≤ q → A q := fun q h => by rw [← hAe]; exact Or.inr h
  have hS : va_S A s.heap s.heap [] := va_S.rf
  generalize hQ : vx_MQ below (va_Qd (fun (r : UInt64) (_ : Unit) => pAny col ∧ r = FP.ddiv (FP.i2d (nI cn)) (FP.i2d (nI (wn * hn)))) (fun u t => va_P (dC, dI) vwCl ((fun (_ : Unit) => [(h0, .inr (1, [.ref hM, .ref hV, .int (nI wn), .int (nI hn), .int wv])), (hM, .inr (0, [.int bd, .int sb, .int nd, .ref aS, .ref aC, .ref aG])), (aS, .inl (cI, 5, .inl S0)), (aC, .inl (cI, 5, .inl Cr)), (aG, .inl (cI, 5, .inl G0)), (hV, .inr (0, [.int bd2, .int sb2, .int nd2, .ref bS, .ref bC, .ref bG])), (bS, .inl (cI, 5, .inl S2)), (bC, .inl (cI, 5, .inl Cr2)), (bG, .inl (cI, 5, .inl G2))]) u) t.heap) A) (zX (fun E => E = xIO ∧ ¬ (pAny col)) (dC, dI) [(h0, .inr (1, [.ref hM, .ref hV, .int (nI wn), .int (nI hn), .int wv])), (hM, .inr (0, [.int bd, .int sb, .int nd, .ref aS, .ref aC, .ref aG])), (aS, .inl (cI, 5, .inl S0)), (aC, .inl (cI, 5, .inl Cr)), (aG, .inl (cI, 5, .inl G0)), (hV, .inr (0, [.int bd2, .int sb2, .int nd2, .ref bS, .ref bC, .ref bG])), (bS, .inl (cI, 5, .inl S2)), (bC, .inl (cI, 5, .inl Cr2)), (bG, .inl (cI, 5, .inl G2))] A) args s 1 6 A = Q
  have F9 : CallFix p m c cX1_share 3 s args wsX1_share RX1 := ⟨hx, hb, hml, hown, hts⟩
  refine z_entry (R := rmX1_share) ha (Nat.le_of_ble_eq_true rfl) (fun ls hl => ?_)
  have hl : lv_has ls 3 [(0, .ref h0), (1, .int col)] := hl
  refine lv_iload_n hx hb dX1_share_0 rfl (lv_at hl 1 rfl) ?_
  refine z_callSi (As := [.int col]) (rest := []) F9 (m_X1_isColourOrBare l dC dI cI cZ cJ cD col ) (va_cwS 1 hts gX1_share_X1_isColourOrBare rfl rfl rfl (by decide +kernel) ⟨Nat.le_of_ble_eq_true rfl, Nat.le_of_ble_eq_true rfl⟩) hK hN hP hD hS hA rfl hl.1 rfl (Nat.le_of_ble_eq_true rfl) dX1_share_1 ⟨Nat.zero_le _, Nat.zero_le _⟩ (fun r_1 H locs hp_1 hP hS => ?_)
  have hp_1 : r_1 = if pAny col then 1 else 0 := hp_1
  refine z_topi (y := if pAny col then 1 else 0) hp_1 ?_
  refine lv_if_ne (tgt := 17) hx hb dX1_share_4 (by decide) (fun c_4 => ?_) (fun c_4 => ?_)
  · skip
    refine lv_aload_n hx hb dX1_share_17 rfl (lv_at hl 0 rfl) ?_
    refine va_get (D := (dC, dI)) (ci := 1) (v := .int (nI wn)) (C := RX1) (T := TX1) (N := 5) hx hb hts iX1_share_X1 hown hK hP 0 rfl rfl 2 (by decide) (hts (.fieldLink RX1 19 "ColourTide" "width" "I") (List.mem_of_getElem? (i := 3) rfl)) (fun _ h9 => h9) rfl dX1_share_18 ?_
    refine lv_aload_n hx hb dX1_share_21 rfl (lv_at hl 0 rfl) ?_
    refine va_get (D := (dC, dI)) (ci := 1) (v := .int (nI hn)) (C := RX1) (T := TX1) (N := 5) hx hb hts iX1_share_X1 hown hK hP 0 rfl rfl 3 (by decide) (hts (.fieldLink RX1 23 "ColourTide" "height" "I") (List.mem_of_getElem? (i := 4) rfl)) (fun _ h9 => h9) rfl dX1_share_22 ?_
    refine lv_imul hx hb dX1_share_25 ?_
    refine z_topi (y := nI (wn * hn)) (pk_mul wn hn) ?_
    refine lv_istore_n (lv' := [(2, .int (nI (wn * hn))), (0, .ref h0), (1, .int col)]) hx hb dX1_share_26 rfl hl (by decide) rfl (fun ls hl => ?_)
    refine lv_iload_n hx hb dX1_share_27 rfl (lv_at hl 0 rfl) ?_
    refine lv_if_ne (tgt := 35) hx hb dX1_share_28 (by decide) (fun c_28 => ?_) (fun c_28 => ?_)
    · skip
      refine lv_aload_n hx hb dX1_share_35 rfl (lv_at hl 1 rfl) ?_
      refine va_get (D := (dC, dI)) (ci := 1) (v := .ref hM) (C := RX1) (T := TX1) (N := 5) hx hb hts iX1_share_X1 hown hK hP 0 rfl rfl 0 (by decide) (hts (.fieldLink RX1 12 "ColourTide" "map" "LColourTide$Tide;") (List.mem_of_getElem? (i := 5) rfl)) (fun _ h9 => h9) rfl dX1_share_36 ?_
      refine lv_iload_n hx hb dX1_share_39 rfl (lv_at hl 2 rfl) ?_
      refine z_callVi (As := [.int col]) (rest := []) F9 (m_X0_count l dC dI cI cZ cJ cD hM aS aC aG bd sb nd S0 Cr G0 col ) (cwV 1 hts gX1_share_X0_count rfl rfl rfl (by decide +kernel) ⟨Nat.le_of_ble_eq_true rfl, Nat.le_of_ble_eq_true rfl⟩) hK hN hP hD hS hA [1, 2, 3, 4] rfl rfl (fun _ => rfl) 1 (ci := 0) rfl rfl rfl rfl hl.1 rfl (Nat.le_of_ble_eq_true rfl) dX1_share_40 ⟨Nat.zero_le _, Nat.zero_le _⟩ (fun r_2 u H locs hp_40 hP hD hS => ?_)
      have hP : va_P (dC, dI) vwCl [(h0, .inr (1, [.ref hM, .ref hV, .int (nI wn), .int (nI hn), .int wv])), (hM, .inr (0, [.int bd, .int sb, .int nd, .ref aS, .ref aC, .ref aG])), (aS, .inl (cI, 5, .inl S0)), (aC, .inl (cI, 5, .inl Cr)), (aG, .inl (cI, 5, .inl G0)), (hV, .inr (0, [.int bd2, .int sb2, .int nd2, .ref bS, .ref bC, .ref bG])), (bS, .inl (cI, 5, .inl S2)), (bC, .inl (cI, 5, .inl Cr2)), (bG, .inl (cI, 5, .inl G2))] H := hP
      have hD : va_D A [(h0, .inr (1, [.ref hM, .ref hV, .int (nI wn), .int (nI hn), .int wv])), (hM, .inr (0, [.int bd, .int sb, .int nd, .ref aS, .ref aC, .ref aG])), (aS, .inl (cI, 5, .inl S0)), (aC, .inl (cI, 5, .inl Cr)), (aG, .inl (cI, 5, .inl G0)), (hV, .inr (0, [.int bd2, .int sb2, .int nd2, .ref bS, .ref bC, .ref bG])), (bS, .inl (cI, 5, .inl S2)), (bC, .inl (cI, 5, .inl Cr2)), (bG, .inl (cI, 5, .inl G2))] := hD
      have hp_40 : r_2 = pBC (pCW S0 col) := hp_40
      refine z_topi (y := pBC (pCW S0 col)) hp_40 ?_
      refine z_topi (y := nI cn) (hcn) ?_
      refine lv_i2d hx hb dX1_share_43 ?_
      refine lv_iload_n hx hb dX1_share_44 rfl (lv_at hl 0 rfl) ?_
      refine lv_i2d hx hb dX1_share_45 ?_
      refine lv_ddiv hx hb dX1_share_46 (z_quot cn (by omega) (wn * hn) (by have := mul_pos4 hw.1 hh.1 hw.2 hh.2; omega) (mul_pos4 hw.1 hh.1 hw.2 hh.2).1) ?_
      rw [← hQ]
      exact zx_dret (W1 := (fun (_ : Unit) => [(h0, .inr (1, [.ref hM, .ref hV, .int (nI wn), .int (nI hn), .int wv])), (hM, .inr (0, [.int bd, .int sb, .int nd, .ref aS, .ref aC, .ref aG])), (aS, .inl (cI, 5, .inl S0)), (aC, .inl (cI, 5, .inl Cr)), (aG, .inl (cI, 5, .inl G0)), (hV, .inr (0, [.int bd2, .int sb2, .int nd2, .ref bS, .ref bC, .ref bG])), (bS, .inl (cI, 5, .inl S2)), (bC, .inl (cI, 5, .inl Cr2)), (bG, .inl (cI, 5, .inl G2))])) hx hb hr hlocks hP hS () (rfl) (⟨z_if1 c_4, rfl⟩) dX1_share_47
    · skip
      exact absurd c_28 (z_ne0 (by have := mul_pos4 hw.1 hh.1 hw.2 hh.2; omega) (by have := mul_pos4 hw.1 hh.1 hw.2 hh.2; omega))
  · skip
    rw [← hQ]
    exact z_thr (cls := xIO) (text := "no such colour") (ik := 51) (is := 103) (ic := 55) hx hb hst hown (by decide +kernel) (hts (.classLink RX1 51 "java/lang/IndexOutOfBoundsException") (List.mem_of_getElem? (i := 1) rfl)) (hts (.initialized "java/lang/IndexOutOfBoundsException") (List.mem_of_getElem? (i := 2) rfl)) (by decide +kernel) (fun w h => hts w (List.mem_cons_of_mem _ (List.mem_append_right _ h))) z_bad55 z_good55 hE.2.2.2.1.2.1 hE hP hS (by rw [hml]; exact hl.1) dX1_share_7 dX1_share_10 dX1_share_11 dX1_share_13 dX1_share_16 htab (Nat.le_of_ble_eq_true rfl) (Nat.le_of_ble_eq_true rfl) (Nat.le_of_ble_eq_true rfl) (Nat.le_of_ble_eq_true rfl) hlocks (⟨rfl, fun q => z_if0 c_4 q⟩)
