abbrev rmX2_newMap : Room := { frames := 1, cells := 0, slots := 0, locals := 25 }
set_option maxRecDepth 20000 in
theorem iX2_newMap_X2 : ∀ w ∈ wsX20, w ∈ wsX2_newMap := fun w h => (goodIn_r (big := wsX2_newMap) wsX20 [24, 25, 26, 27, 28, 29, 30, 31, 32, 33, 34, 35, 36, 37] (by decide +kernel) (by decide +kernel) w h).1
set_option maxHeartbeats 4000000 in
set_option maxRecDepth 100000 in
theorem m_X2_newMap_ok (l : Launch) (dC : Nat → ClassId) (dI : Nat → Nat → Nat) (cI cZ cJ cD : ClassId) (m0 : Nat) (a1 : Nat) (a2 : Nat) (a3 : Nat) (a4 : Nat) (a5 : Nat) (a6 : Nat) (a7 : Nat) (a8 : Nat) (th : Int32) (wo : Int32) (ho : Int32) (q0 : Nat) (wvo : Int32) (C0 : Nat → Int32) (NX : Nat → Int32) (TT : Nat → Int32) (BB : Nat → Int32) (KP : Nat → Int32) (RG : Nat → Int32) (SZ : Nat → Int32) (LN : Nat → Int32) (mn : Int32) (wn : Nat) (hn : Nat) (g : gok wn hn) : zI l (dC, dI) (wT cI cZ cJ cD) yX2_newMap wsX2_newMap rmX2_newMap [(m0, .inr (2, [.int th, .int wo, .int ho, .int (nI q0), .int wvo, .ref a1, .ref a2, .ref a3, .ref a4, .ref a5, .ref a6, .ref a7, .ref a8, .int mn])), (a1, .inl (cI, 25, .inl C0)), (a2, .inl (cI, 25, .inl NX)), (a3, .inl (cZ, 25, .inl TT)), (a4, .inl (cI, 100, .inl BB)), (a5, .inl (cI, 25, .inl KP)), (a6, .inl (cI, 25, .inl RG)), (a7, .inl (cI, 26, .inl SZ)), (a8, .inl (cI, 25, .inl LN))] [.ref m0, .int (nI wn), .int (nI hn)] (fun (_ : Unit) => [(m0, .inr (2, [.int 0, .int (nI wn), .int (nI hn), .int (nI q0), .int 0, .ref a1, .ref a2, .ref a3, .ref a4, .ref a5, .ref a6, .ref a7, .ref a8, .int mn])), (a1, .inl (cI, 25, .inl (kI (fun _ => 0)))), (a2, .inl (cI, 25, .inl NX)), (a3, .inl (cZ, 25, .inl (zB (fun _ => false)))), (a4, .inl (cI, 100, .inl (bI wn hn))), (a5, .inl (cI, 25, .inl KP)), (a6, .inl (cI, 25, .inl RG)), (a7, .inl (cI, 26, .inl SZ)), (a8, .inl (cI, 25, .inl LN))]) (fun (r : Int32) (_ : Unit) => r = nI (wn * hn)) := by
  intro sz
  refine Met.ofW (cc := cX2_newMap) (maxL := 3) (ret := (some .int)) (by decide) rfl ?_
  intro p e s m args below meth c s₁ B hml hv
  obtain ⟨ha, hsz, hP, hK, hD0, hN⟩ := hv
  have hx := B.exec
  have hb := B.bytes
  have hr := B.returns
  have hts := atoms_spec (ws := wsX2_newMap) B.pre
  have hown : s.vm.findClass RX2 = some m.cls := findClass_of_methodNamed B.named
  have hlocks := B.notSynchronized
  subst hsz
  have hD := hD0.self (sz := s.heap.size)
  generalize hAe : va_A [(m0, .inr (2, [.int th, .int wo, .int ho, .int (nI q0), .int wvo, .ref a1, .ref a2, .ref a3, .ref a4, .ref a5, .ref a6, .ref a7, .ref a8, .int mn])), (a1, .inl (cI, 25, .inl C0)), (a2, .inl (cI, 25, .inl NX)), (a3, .inl (cZ, 25, .inl TT)), (a4, .inl (cI, 100, .inl BB)), (a5, .inl (cI, 25, .inl KP)), (a6, .inl (cI, 25, .inl RG)), (a7, .inl (cI, 26, .inl SZ)), (a8, .inl (cI, 25, .inl LN))] s.heap.size = A at hD ⊢
  have hA : ∀ q : Nat, s.heap.size ≤ q → A q := fun q h => by rw [← hAe]; exact Or.inr h
  have hS : va_S A s.heap s.heap [] := va_S.rf
  generalize hQ : MQ below (va_Qi (fun (r : Int32) (_ : Unit) => r = nI (wn * hn)) (fun u t => va_P (dC, dI) vwCl ((fun (_ : Unit) => [(m0, .inr (2, [.int 0, .int (nI wn), .int (nI hn), .int (nI q0), .int 0, .ref a1, .ref a2, .ref a3, .ref a4, .ref a5, .ref a6, .ref a7, .ref a8, .int mn])), (a1, .inl (cI, 25, .inl (kI (fun _ => 0)))), (a2, .inl (cI, 25, .inl NX)), (a3, .inl (cZ, 25, .inl (zB (fun _ => false)))), (a4, .inl (cI, 100, .inl (bI wn hn))), (a5, .inl (cI, 25, .inl KP)), (a6, .inl (cI, 25, .inl RG)), (a7, .inl (cI, 26, .inl SZ)), (a8, .inl (cI, 25, .inl LN))]) u) t.heap) A) args s 0 0 A = Q
  have F9 : CallFix p m c cX2_newMap 3 s args wsX2_newMap RX2 := ⟨hx, hb, hml, hown, hts⟩
  obtain ⟨g1, g2, g3, g4⟩ := id g
  have g5 := wh_le g
  have g6 := wh_pos g
  refine z_entry (R := rmX2_newMap) ha (Nat.le_of_ble_eq_true rfl) (fun ls hl => ?_)
  have hl : lv_has ls 3 [(0, .ref m0), (1, .int (nI wn)), (2, .int (nI hn))] := hl
  refine lv_aload_n hx hb dX2_newMap_0 rfl (lv_at hl 0 rfl) ?_
  refine lv_iconst (v := 0) hx hb dX2_newMap_1 (by decide) ?_
  refine va_put (D := (dC, dI)) (ci := 2) (v := .int 0) (ty := .int) (C := RX2) (T := TX2) (N := 14) hx hb hts iX2_newMap_X2 tyX2 tyX2_ok nmX2 hown hK hP hD hS 0 rfl rfl 0 (by decide) (hts (.fieldLink RX2 43 "ColourTideModel" "thrown" "I") (List.mem_of_getElem? (i := 1) rfl)) (fun _ h9 => h9) rfl (by decide +kernel) rfl rfl (Nat.le_of_ble_eq_true rfl) dX2_newMap_2 (fun H locs hP hD hS => ?_)
  have hP : va_P (dC, dI) vwCl [(m0, .inr (2, [.int 0, .int wo, .int ho, .int (nI q0), .int wvo, .ref a1, .ref a2, .ref a3, .ref a4, .ref a5, .ref a6, .ref a7, .ref a8, .int mn])), (a1, .inl (cI, 25, .inl C0)), (a2, .inl (cI, 25, .inl NX)), (a3, .inl (cZ, 25, .inl TT)), (a4, .inl (cI, 100, .inl BB)), (a5, .inl (cI, 25, .inl KP)), (a6, .inl (cI, 25, .inl RG)), (a7, .inl (cI, 26, .inl SZ)), (a8, .inl (cI, 25, .inl LN))] H := hP
  have hD : va_D A [(m0, .inr (2, [.int 0, .int wo, .int ho, .int (nI q0), .int wvo, .ref a1, .ref a2, .ref a3, .ref a4, .ref a5, .ref a6, .ref a7, .ref a8, .int mn])), (a1, .inl (cI, 25, .inl C0)), (a2, .inl (cI, 25, .inl NX)), (a3, .inl (cZ, 25, .inl TT)), (a4, .inl (cI, 100, .inl BB)), (a5, .inl (cI, 25, .inl KP)), (a6, .inl (cI, 25, .inl RG)), (a7, .inl (cI, 26, .inl SZ)), (a8, .inl (cI, 25, .inl LN))] := hD
  refine lv_iload_n hx hb dX2_newMap_5 rfl (lv_at hl 1 rfl) ?_
  refine lv_iconst (v := 2) hx hb dX2_newMap_6 (by decide) ?_
  refine lv_iconst (v := 5) hx hb dX2_newMap_7 (by decide) ?_
  refine z_callSi (As := [.int (nI wn), .int 2, .int 5]) (rest := []) F9 (m_X2_isIn l dC dI cI cZ cJ cD (nI wn) 2 5 ) (va_cwS 3 hts gX2_newMap_X2_isIn rfl rfl rfl (by decide +kernel) ⟨Nat.le_of_ble_eq_true rfl, Nat.le_of_ble_eq_true rfl⟩) hK hN hP hD hS hA rfl hl.1 rfl (Nat.le_of_ble_eq_true rfl) dX2_newMap_8 ⟨Nat.zero_le _, Nat.zero_le _⟩ (fun r_1 H locs hp_8 hP hS => ?_)
  have hp_8 : r_1 = if pIn (nI wn) 2 5 then 1 else 0 := hp_8
  refine z_topi (y := if pIn (nI wn) 2 5 then 1 else 0) hp_8 ?_
  refine lv_if_eq (tgt := 23) hx hb dX2_newMap_11 (by decide) (fun c_11 => ?_) (fun c_11 => ?_)
  · skip
    exact absurd (side_ok g1 g2) (z_if0 c_11)
  · skip
    refine lv_iload_n hx hb dX2_newMap_14 rfl (lv_at hl 2 rfl) ?_
    refine lv_iconst (v := 2) hx hb dX2_newMap_15 (by decide) ?_
    refine lv_iconst (v := 5) hx hb dX2_newMap_16 (by decide) ?_
    refine z_callSi (As := [.int (nI hn), .int 2, .int 5]) (rest := []) F9 (m_X2_isIn l dC dI cI cZ cJ cD (nI hn) 2 5 ) (va_cwS 3 hts gX2_newMap_X2_isIn rfl rfl rfl (by decide +kernel) ⟨Nat.le_of_ble_eq_true rfl, Nat.le_of_ble_eq_true rfl⟩) hK hN hP hD hS hA rfl hl.1 rfl (Nat.le_of_ble_eq_true rfl) dX2_newMap_17 ⟨Nat.zero_le _, Nat.zero_le _⟩ (fun r_2 H locs hp_17 hP hS => ?_)
    have hp_17 : r_2 = if pIn (nI hn) 2 5 then 1 else 0 := hp_17
    refine z_topi (y := if pIn (nI hn) 2 5 then 1 else 0) hp_17 ?_
    refine lv_if_ne (tgt := 29) hx hb dX2_newMap_20 (by decide) (fun c_20 => ?_) (fun c_20 => ?_)
    · skip
      refine lv_aload_n hx hb dX2_newMap_29 rfl (lv_at hl 0 rfl) ?_
      refine lv_iload_n hx hb dX2_newMap_30 rfl (lv_at hl 1 rfl) ?_
      refine lv_iload_n hx hb dX2_newMap_31 rfl (lv_at hl 2 rfl) ?_
      refine z_callVv (As := [.int (nI wn), .int (nI hn)]) (rest := []) F9 (m_X2_take l dC dI cI cZ cJ cD m0 a1 a2 a3 a4 a5 a6 a7 a8 0 wo ho (nI q0) wvo C0 NX TT BB KP RG SZ LN mn wn hn (g)) (cwV 2 hts gX2_newMap_X2_take rfl rfl rfl (by decide +kernel) ⟨Nat.le_of_ble_eq_true rfl, Nat.le_of_ble_eq_true rfl⟩) hK hN hP hD hS hA [0, 1, 2, 3, 4, 5, 6, 7, 8] rfl rfl (fun _ => rfl) 0 (ci := 2) rfl rfl rfl rfl hl.1 rfl (Nat.le_of_ble_eq_true rfl) dX2_newMap_32 ⟨Nat.zero_le _, Nat.zero_le _⟩ (fun u H locs hp_32 hP hD hS => ?_)
      have hP : va_P (dC, dI) vwCl [(m0, .inr (2, [.int 0, .int (nI wn), .int (nI hn), .int (nI q0), .int 0, .ref a1, .ref a2, .ref a3, .ref a4, .ref a5, .ref a6, .ref a7, .ref a8, .int mn])), (a1, .inl (cI, 25, .inl (kI (fun _ => 0)))), (a2, .inl (cI, 25, .inl NX)), (a3, .inl (cZ, 25, .inl (zB (fun _ => false)))), (a4, .inl (cI, 100, .inl (bI wn hn))), (a5, .inl (cI, 25, .inl KP)), (a6, .inl (cI, 25, .inl RG)), (a7, .inl (cI, 26, .inl SZ)), (a8, .inl (cI, 25, .inl LN))] H := hP
      have hD : va_D A [(m0, .inr (2, [.int 0, .int (nI wn), .int (nI hn), .int (nI q0), .int 0, .ref a1, .ref a2, .ref a3, .ref a4, .ref a5, .ref a6, .ref a7, .ref a8, .int mn])), (a1, .inl (cI, 25, .inl (kI (fun _ => 0)))), (a2, .inl (cI, 25, .inl NX)), (a3, .inl (cZ, 25, .inl (zB (fun _ => false)))), (a4, .inl (cI, 100, .inl (bI wn hn))), (a5, .inl (cI, 25, .inl KP)), (a6, .inl (cI, 25, .inl RG)), (a7, .inl (cI, 26, .inl SZ)), (a8, .inl (cI, 25, .inl LN))] := hD
      refine lv_aload_n hx hb dX2_newMap_35 rfl (lv_at hl 0 rfl) ?_
      refine z_callVi (As := []) (rest := []) F9 (m_X2_cells l dC dI cI cZ cJ cD m0 a1 a2 a3 a4 a5 a6 a7 a8 0 wn hn q0 0 (fun _ => 0) NX (fun _ => false) KP RG SZ LN mn ) (cwV 0 hts gX2_newMap_X2_cells rfl rfl rfl (by decide +kernel) ⟨Nat.le_of_ble_eq_true rfl, Nat.le_of_ble_eq_true rfl⟩) hK hN hP hD hS hA [0, 1, 2, 3, 4, 5, 6, 7, 8] rfl rfl (fun _ => rfl) 0 (ci := 2) rfl rfl rfl rfl hl.1 rfl (Nat.le_of_ble_eq_true rfl) dX2_newMap_36 ⟨Nat.zero_le _, Nat.zero_le _⟩ (fun r_4 u H locs hp_36 hP hD hS => ?_)
      have hP : va_P (dC, dI) vwCl [(m0, .inr (2, [.int 0, .int (nI wn), .int (nI hn), .int (nI q0), .int 0, .ref a1, .ref a2, .ref a3, .ref a4, .ref a5, .ref a6, .ref a7, .ref a8, .int mn])), (a1, .inl (cI, 25, .inl (kI (fun _ => 0)))), (a2, .inl (cI, 25, .inl NX)), (a3, .inl (cZ, 25, .inl (zB (fun _ => false)))), (a4, .inl (cI, 100, .inl (bI wn hn))), (a5, .inl (cI, 25, .inl KP)), (a6, .inl (cI, 25, .inl RG)), (a7, .inl (cI, 26, .inl SZ)), (a8, .inl (cI, 25, .inl LN))] H := hP
      have hD : va_D A [(m0, .inr (2, [.int 0, .int (nI wn), .int (nI hn), .int (nI q0), .int 0, .ref a1, .ref a2, .ref a3, .ref a4, .ref a5, .ref a6, .ref a7, .ref a8, .int mn])), (a1, .inl (cI, 25, .inl (kI (fun _ => 0)))), (a2, .inl (cI, 25, .inl NX)), (a3, .inl (cZ, 25, .inl (zB (fun _ => false)))), (a4, .inl (cI, 100, .inl (bI wn hn))), (a5, .inl (cI, 25, .inl KP)), (a6, .inl (cI, 25, .inl RG)), (a7, .inl (cI, 26, .inl SZ)), (a8, .inl (cI, 25, .inl LN))] := hD
      have hp_36 : r_4 = nI (wn * hn) := hp_36
      refine z_topi (y := nI (wn * hn)) hp_36 ?_
      rw [← hQ]
      exact z_iret (W1 := (fun (_ : Unit) => [(m0, .inr (2, [.int 0, .int (nI wn), .int (nI hn), .int (nI q0), .int 0, .ref a1, .ref a2, .ref a3, .ref a4, .ref a5, .ref a6, .ref a7, .ref a8, .int mn])), (a1, .inl (cI, 25, .inl (kI (fun _ => 0)))), (a2, .inl (cI, 25, .inl NX)), (a3, .inl (cZ, 25, .inl (zB (fun _ => false)))), (a4, .inl (cI, 100, .inl (bI wn hn))), (a5, .inl (cI, 25, .inl KP)), (a6, .inl (cI, 25, .inl RG)), (a7, .inl (cI, 26, .inl SZ)), (a8, .inl (cI, 25, .inl LN))])) hx hb hr hlocks hP hS () (rfl) (rfl) dX2_newMap_39
    · skip
      exact absurd (side_ok g3 g4) (z_if0 c_20)
set_option maxHeartbeats 4000000 in
set_option maxRecDepth 100000 in
theorem m_X2_newMap_no (l : Launch) (dC : Nat → ClassId) (dI : Nat → Nat → Nat) (cI cZ cJ cD : ClassId) (m0 : Nat) (a1 : Nat) (a2 : Nat) (a3 : Nat) (a4 : Nat) (a5 : Nat) (a6 : Nat) (a7 : Nat) (a8 : Nat) (th : Int32) (wn : Nat) (hn : Nat) (q0 : Nat) (wv : Int32) (K0 : Nat → Nat) (NX : Nat → Int32) (T0 : Nat → Bool) (KP : Nat → Int32) (RG : Nat → Int32) (SZ : Nat → Int32) (LN : Nat → Int32) (mn : Int32) (x0 : Int32) (y0 : Int32) (g : gok wn hn) (hK4 : ∀ c, K0 c ≤ 4) (hno : ¬ (pSide x0 ∧ pSide y0)) : zI l (dC, dI) (wT cI cZ cJ cD) yX2_newMap wsX2_newMap rmX2_newMap [(m0, .inr (2, [.int th, .int (nI wn), .int (nI hn), .int (nI q0), .int wv, .ref a1, .ref a2, .ref a3, .ref a4, .ref a5, .ref a6, .ref a7, .ref a8, .int mn])), (a1, .inl (cI, 25, .inl (kI K0))), (a2, .inl (cI, 25, .inl NX)), (a3, .inl (cZ, 25, .inl (zB T0))), (a4, .inl (cI, 100, .inl (bI wn hn))), (a5, .inl (cI, 25, .inl KP)), (a6, .inl (cI, 25, .inl RG)), (a7, .inl (cI, 26, .inl SZ)), (a8, .inl (cI, 25, .inl LN))] [.ref m0, .int x0, .int y0] (fun (_ : Unit) => [(m0, .inr (2, [.int 1, .int (nI wn), .int (nI hn), .int (nI q0), .int wv, .ref a1, .ref a2, .ref a3, .ref a4, .ref a5, .ref a6, .ref a7, .ref a8, .int mn])), (a1, .inl (cI, 25, .inl (kI K0))), (a2, .inl (cI, 25, .inl NX)), (a3, .inl (cZ, 25, .inl (zB T0))), (a4, .inl (cI, 100, .inl (bI wn hn))), (a5, .inl (cI, 25, .inl KP)), (a6, .inl (cI, 25, .inl RG)), (a7, .inl (cI, 26, .inl SZ)), (a8, .inl (cI, 25, .inl LN))]) (fun (r : Int32) (_ : Unit) => True) := by
  intro sz
  refine Met.ofW (cc := cX2_newMap) (maxL := 3) (ret := (some .int)) (by decide) rfl ?_
  intro p e s m args below meth c s₁ B hml hv
  obtain ⟨ha, hsz, hP, hK, hD0, hN⟩ := hv
  have hx := B.exec
  have hb := B.bytes
  have hr := B.returns
  have hts := atoms_spec (ws := wsX2_newMap) B.pre
  have hown : s.vm.findClass RX2 = some m.cls := findClass_of_methodNamed B.named
  have hlocks := B.notSynchronized
  subst hsz
  have hD := hD0.self (sz := s.heap.size)
  generalize hAe : va_A [(m0, .inr (2, [.int th, .int (nI wn), .int (nI hn), .int (nI q0), .int wv, .ref a1, .ref a2, .ref a3, .ref a4, .ref a5, .ref a6, .ref a7, .ref a8, .int mn])), (a1, .inl (cI, 25, .inl (kI K0))), (a2, .inl (cI, 25, .inl NX)), (a3, .inl (cZ, 25, .inl (zB T0))), (a4, .inl (cI, 100, .inl (bI wn hn))), (a5, .inl (cI, 25, .inl KP)), (a6, .inl (cI, 25, .inl RG)), (a7, .inl (cI, 26, .inl SZ)), (a8, .inl (cI, 25, .inl LN))] s.heap.size = A at hD ⊢
  have hA : ∀ q : Nat, s.heap.size ≤ q → A q := fun q h => by rw [← hAe]; exact Or.inr h
  have hS : va_S A s.heap s.heap [] := va_S.rf
  generalize hQ : MQ below (va_Qi (fun (r : Int32) (_ : Unit) => True) (fun u t => va_P (dC, dI) vwCl ((fun (_ : Unit) => [(m0, .inr (2, [.int 1, .int (nI wn), .int (nI hn), .int (nI q0), .int wv, .ref a1, .ref a2, .ref a3, .ref a4, .ref a5, .ref a6, .ref a7, .ref a8, .int mn])), (a1, .inl (cI, 25, .inl (kI K0))), (a2, .inl (cI, 25, .inl NX)), (a3, .inl (cZ, 25, .inl (zB T0))), (a4, .inl (cI, 100, .inl (bI wn hn))), (a5, .inl (cI, 25, .inl KP)), (a6, .inl (cI, 25, .inl RG)), (a7, .inl (cI, 26, .inl SZ)), (a8, .inl (cI, 25, .inl LN))]) u) t.heap) A) args s 0 0 A = Q
  have F9 : CallFix p m c cX2_newMap 3 s args wsX2_newMap RX2 := ⟨hx, hb, hml, hown, hts⟩
  obtain ⟨g1, g2, g3, g4⟩ := id g
  have g5 := wh_le g
  have g6 := wh_pos g
  refine z_entry (R := rmX2_newMap) ha (Nat.le_of_ble_eq_true rfl) (fun ls hl => ?_)
  have hl : lv_has ls 3 [(0, .ref m0), (1, .int x0), (2, .int y0)] := hl
  refine lv_aload_n hx hb dX2_newMap_0 rfl (lv_at hl 0 rfl) ?_
  refine lv_iconst (v := 0) hx hb dX2_newMap_1 (by decide) ?_
  refine va_put (D := (dC, dI)) (ci := 2) (v := .int 0) (ty := .int) (C := RX2) (T := TX2) (N := 14) hx hb hts iX2_newMap_X2 tyX2 tyX2_ok nmX2 hown hK hP hD hS 0 rfl rfl 0 (by decide) (hts (.fieldLink RX2 43 "ColourTideModel" "thrown" "I") (List.mem_of_getElem? (i := 1) rfl)) (fun _ h9 => h9) rfl (by decide +kernel) rfl rfl (Nat.le_of_ble_eq_true rfl) dX2_newMap_2 (fun H locs hP hD hS => ?_)
  have hP : va_P (dC, dI) vwCl [(m0, .inr (2, [.int 0, .int (nI wn), .int (nI hn), .int (nI q0), .int wv, .ref a1, .ref a2, .ref a3, .ref a4, .ref a5, .ref a6, .ref a7, .ref a8, .int mn])), (a1, .inl (cI, 25, .inl (kI K0))), (a2, .inl (cI, 25, .inl NX)), (a3, .inl (cZ, 25, .inl (zB T0))), (a4, .inl (cI, 100, .inl (bI wn hn))), (a5, .inl (cI, 25, .inl KP)), (a6, .inl (cI, 25, .inl RG)), (a7, .inl (cI, 26, .inl SZ)), (a8, .inl (cI, 25, .inl LN))] H := hP
  have hD : va_D A [(m0, .inr (2, [.int 0, .int (nI wn), .int (nI hn), .int (nI q0), .int wv, .ref a1, .ref a2, .ref a3, .ref a4, .ref a5, .ref a6, .ref a7, .ref a8, .int mn])), (a1, .inl (cI, 25, .inl (kI K0))), (a2, .inl (cI, 25, .inl NX)), (a3, .inl (cZ, 25, .inl (zB T0))), (a4, .inl (cI, 100, .inl (bI wn hn))), (a5, .inl (cI, 25, .inl KP)), (a6, .inl (cI, 25, .inl RG)), (a7, .inl (cI, 26, .inl SZ)), (a8, .inl (cI, 25, .inl LN))] := hD
  refine lv_iload_n hx hb dX2_newMap_5 rfl (lv_at hl 1 rfl) ?_
  refine lv_iconst (v := 2) hx hb dX2_newMap_6 (by decide) ?_
  refine lv_iconst (v := 5) hx hb dX2_newMap_7 (by decide) ?_
  refine z_callSi (As := [.int x0, .int 2, .int 5]) (rest := []) F9 (m_X2_isIn l dC dI cI cZ cJ cD x0 2 5 ) (va_cwS 3 hts gX2_newMap_X2_isIn rfl rfl rfl (by decide +kernel) ⟨Nat.le_of_ble_eq_true rfl, Nat.le_of_ble_eq_true rfl⟩) hK hN hP hD hS hA rfl hl.1 rfl (Nat.le_of_ble_eq_true rfl) dX2_newMap_8 ⟨Nat.zero_le _, Nat.zero_le _⟩ (fun r_1 H locs hp_8 hP hS => ?_)
  have hp_8 : r_1 = if pIn x0 2 5 then 1 else 0 := hp_8
  refine z_topi (y := if pIn x0 2 5 then 1 else 0) hp_8 ?_
  refine lv_if_eq (tgt := 23) hx hb dX2_newMap_11 (by decide) (fun c_11 => ?_) (fun c_11 => ?_)
  · skip
    refine lv_aload_n hx hb dX2_newMap_23 rfl (lv_at hl 0 rfl) ?_
    refine lv_iconst (v := 1) hx hb dX2_newMap_24 (by decide) ?_
    refine z_callVi (As := [.int 1]) (rest := []) F9 (m_X2_fail l dC dI cI cZ cJ cD m0 a1 a2 a3 a4 a5 a6 a7 a8 0 wn hn q0 wv K0 NX T0 KP RG SZ LN mn 1 ) (cwV 1 hts gX2_newMap_X2_fail rfl rfl rfl (by decide +kernel) ⟨Nat.le_of_ble_eq_true rfl, Nat.le_of_ble_eq_true rfl⟩) hK hN hP hD hS hA [0, 1, 2, 3, 4, 5, 6, 7, 8] rfl rfl (fun _ => rfl) 0 (ci := 2) rfl rfl rfl rfl hl.1 rfl (Nat.le_of_ble_eq_true rfl) dX2_newMap_25 ⟨Nat.zero_le _, Nat.zero_le _⟩ (fun r_2 u H locs hp_25 hP hD hS => ?_)
    have hP : va_P (dC, dI) vwCl [(m0, .inr (2, [.int 1, .int (nI wn), .int (nI hn), .int (nI q0), .int wv, .ref a1, .ref a2, .ref a3, .ref a4, .ref a5, .ref a6, .ref a7, .ref a8, .int mn])), (a1, .inl (cI, 25, .inl (kI K0))), (a2, .inl (cI, 25, .inl NX)), (a3, .inl (cZ, 25, .inl (zB T0))), (a4, .inl (cI, 100, .inl (bI wn hn))), (a5, .inl (cI, 25, .inl KP)), (a6, .inl (cI, 25, .inl RG)), (a7, .inl (cI, 26, .inl SZ)), (a8, .inl (cI, 25, .inl LN))] H := hP
    have hD : va_D A [(m0, .inr (2, [.int 1, .int (nI wn), .int (nI hn), .int (nI q0), .int wv, .ref a1, .ref a2, .ref a3, .ref a4, .ref a5, .ref a6, .ref a7, .ref a8, .int mn])), (a1, .inl (cI, 25, .inl (kI K0))), (a2, .inl (cI, 25, .inl NX)), (a3, .inl (cZ, 25, .inl (zB T0))), (a4, .inl (cI, 100, .inl (bI wn hn))), (a5, .inl (cI, 25, .inl KP)), (a6, .inl (cI, 25, .inl RG)), (a7, .inl (cI, 26, .inl SZ)), (a8, .inl (cI, 25, .inl LN))] := hD
    have hp_25 : r_2 = 0 := hp_25
    refine z_topi (y := 0) hp_25 ?_
    rw [← hQ]
    exact z_iret (W1 := (fun (_ : Unit) => [(m0, .inr (2, [.int 1, .int (nI wn), .int (nI hn), .int (nI q0), .int wv, .ref a1, .ref a2, .ref a3, .ref a4, .ref a5, .ref a6, .ref a7, .ref a8, .int mn])), (a1, .inl (cI, 25, .inl (kI K0))), (a2, .inl (cI, 25, .inl NX)), (a3, .inl (cZ, 25, .inl (zB T0))), (a4, .inl (cI, 100, .inl (bI wn hn))), (a5, .inl (cI, 25, .inl KP)), (a6, .inl (cI, 25, .inl RG)), (a7, .inl (cI, 26, .inl SZ)), (a8, .inl (cI, 25, .inl LN))])) hx hb hr hlocks hP hS () (rfl) (trivial) dX2_newMap_28
  · skip
    refine lv_iload_n hx hb dX2_newMap_14 rfl (lv_at hl 2 rfl) ?_
    refine lv_iconst (v := 2) hx hb dX2_newMap_15 (by decide) ?_
    refine lv_iconst (v := 5) hx hb dX2_newMap_16 (by decide) ?_
    refine z_callSi (As := [.int y0, .int 2, .int 5]) (rest := []) F9 (m_X2_isIn l dC dI cI cZ cJ cD y0 2 5 ) (va_cwS 3 hts gX2_newMap_X2_isIn rfl rfl rfl (by decide +kernel) ⟨Nat.le_of_ble_eq_true rfl, Nat.le_of_ble_eq_true rfl⟩) hK hN hP hD hS hA rfl hl.1 rfl (Nat.le_of_ble_eq_true rfl) dX2_newMap_17 ⟨Nat.zero_le _, Nat.zero_le _⟩ (fun r_3 H locs hp_17 hP hS => ?_)
    have hp_17 : r_3 = if pIn y0 2 5 then 1 else 0 := hp_17
    refine z_topi (y := if pIn y0 2 5 then 1 else 0) hp_17 ?_
    refine lv_if_ne (tgt := 29) hx hb dX2_newMap_20 (by decide) (fun c_20 => ?_) (fun c_20 => ?_)
    · skip
      exact absurd ⟨z_if1 c_11, z_if1 c_20⟩ hno
    · skip
      refine lv_aload_n hx hb dX2_newMap_23 rfl (lv_at hl 0 rfl) ?_
      refine lv_iconst (v := 1) hx hb dX2_newMap_24 (by decide) ?_
      refine z_callVi (As := [.int 1]) (rest := []) F9 (m_X2_fail l dC dI cI cZ cJ cD m0 a1 a2 a3 a4 a5 a6 a7 a8 0 wn hn q0 wv K0 NX T0 KP RG SZ LN mn 1 ) (cwV 1 hts gX2_newMap_X2_fail rfl rfl rfl (by decide +kernel) ⟨Nat.le_of_ble_eq_true rfl, Nat.le_of_ble_eq_true rfl⟩) hK hN hP hD hS hA [0, 1, 2, 3, 4, 5, 6, 7, 8] rfl rfl (fun _ => rfl) 0 (ci := 2) rfl rfl rfl rfl hl.1 rfl (Nat.le_of_ble_eq_true rfl) dX2_newMap_25 ⟨Nat.zero_le _, Nat.zero_le _⟩ (fun r_4 u H locs hp_25 hP hD hS => ?_)
      have hP : va_P (dC, dI) vwCl [(m0, .inr (2, [.int 1, .int (nI wn), .int (nI hn), .int (nI q0), .int wv, .ref a1, .ref a2, .ref a3, .ref a4, .ref a5, .ref a6, .ref a7, .ref a8, .int mn])), (a1, .inl (cI, 25, .inl (kI K0))), (a2, .inl (cI, 25, .inl NX)), (a3, .inl (cZ, 25, .inl (zB T0))), (a4, .inl (cI, 100, .inl (bI wn hn))), (a5, .inl (cI, 25, .inl KP)), (a6, .inl (cI, 25, .inl RG)), (a7, .inl (cI, 26, .inl SZ)), (a8, .inl (cI, 25, .inl LN))] H := hP
      have hD : va_D A [(m0, .inr (2, [.int 1, .int (nI wn), .int (nI hn), .int (nI q0), .int wv, .ref a1, .ref a2, .ref a3, .ref a4, .ref a5, .ref a6, .ref a7, .ref a8, .int mn])), (a1, .inl (cI, 25, .inl (kI K0))), (a2, .inl (cI, 25, .inl NX)), (a3, .inl (cZ, 25, .inl (zB T0))), (a4, .inl (cI, 100, .inl (bI wn hn))), (a5, .inl (cI, 25, .inl KP)), (a6, .inl (cI, 25, .inl RG)), (a7, .inl (cI, 26, .inl SZ)), (a8, .inl (cI, 25, .inl LN))] := hD
      have hp_25 : r_4 = 0 := hp_25
      refine z_topi (y := 0) hp_25 ?_
      rw [← hQ]
      exact z_iret (W1 := (fun (_ : Unit) => [(m0, .inr (2, [.int 1, .int (nI wn), .int (nI hn), .int (nI q0), .int wv, .ref a1, .ref a2, .ref a3, .ref a4, .ref a5, .ref a6, .ref a7, .ref a8, .int mn])), (a1, .inl (cI, 25, .inl (kI K0))), (a2, .inl (cI, 25, .inl NX)), (a3, .inl (cZ, 25, .inl (zB T0))), (a4, .inl (cI, 100, .inl (bI wn hn))), (a5, .inl (cI, 25, .inl KP)), (a6, .inl (cI, 25, .inl RG)), (a7, .inl (cI, 26, .inl SZ)), (a8, .inl (cI, 25, .inl LN))])) hx hb hr hlocks hP hS () (rfl) (trivial) dX2_newMap_28
abbrev rmX2_paint : Room := { frames := 2, cells := 0, slots := 0, locals := 44 }
set_option maxRecDepth 20000 in
theorem iX2_paint_X2 : ∀ w ∈ wsX20, w ∈ wsX2_paint := fun w h => (goodIn_r (big := wsX2_paint) wsX20 [20, 21, 22, 23, 24, 25, 26, 27, 28, 29, 30, 31, 32, 33] (by decide +kernel) (by decide +kernel) w h).1
set_option maxHeartbeats 4000000 in
set_option maxRecDepth 100000 in
theorem m_X2_paint_ok (l : Launch) (dC : Nat → ClassId) (dI : Nat → Nat → Nat) (cI cZ cJ cD : ClassId) (m0 : Nat) (a1 : Nat) (a2 : Nat) (a3 : Nat) (a4 : Nat) (a5 : Nat) (a6 : Nat) (a7 : Nat) (a8 : Nat) (th : Int32) (wn : Nat) (hn : Nat) (q0 : Nat) (wv : Int32) (K0 : Nat → Nat) (NX : Nat → Int32) (T0 : Nat → Bool) (KP : Nat → Int32) (RG : Nat → Int32) (SZ : Nat → Int32) (LN : Nat → Int32) (mn : Int32) (xa : Nat) (ya : Nat) (j0 : Nat) (g : gok wn hn) (hK4 : ∀ c, K0 c ≤ 4) (hxa : xa < wn) (hya : ya < hn) (hj0 : j0 < 5) : zI l (dC, dI) (wT cI cZ cJ cD) yX2_paint wsX2_paint rmX2_paint [(m0, .inr (2, [.int th, .int (nI wn), .int (nI hn), .int (nI q0), .int wv, .ref a1, .ref a2, .ref a3, .ref a4, .ref a5, .ref a6, .ref a7, .ref a8, .int mn])), (a1, .inl (cI, 25, .inl (kI K0))), (a2, .inl (cI, 25, .inl NX)), (a3, .inl (cZ, 25, .inl (zB T0))), (a4, .inl (cI, 100, .inl (bI wn hn))), (a5, .inl (cI, 25, .inl KP)), (a6, .inl (cI, 25, .inl RG)), (a7, .inl (cI, 26, .inl SZ)), (a8, .inl (cI, 25, .inl LN))] [.ref m0, .int (nI xa), .int (nI ya), .int (nI j0)] (fun (_ : Unit) => [(m0, .inr (2, [.int 0, .int (nI wn), .int (nI hn), .int (nI q0), .int wv, .ref a1, .ref a2, .ref a3, .ref a4, .ref a5, .ref a6, .ref a7, .ref a8, .int mn])), (a1, .inl (cI, 25, .inl (kI (fun d => if d = (wn * ya + xa) then j0 else K0 d)))), (a2, .inl (cI, 25, .inl NX)), (a3, .inl (cZ, 25, .inl (zB T0))), (a4, .inl (cI, 100, .inl (bI wn hn))), (a5, .inl (cI, 25, .inl KP)), (a6, .inl (cI, 25, .inl RG)), (a7, .inl (cI, 26, .inl SZ)), (a8, .inl (cI, 25, .inl LN))]) (fun (r : Int32) (_ : Unit) => r = nI (K0 (wn * ya + xa))) := by
  intro sz
  refine Met.ofW (cc := cX2_paint) (maxL := 5) (ret := (some .int)) (by decide) rfl ?_
  intro p e s m args below meth c s₁ B hml hv
  obtain ⟨ha, hsz, hP, hK, hD0, hN⟩ := hv
  have hx := B.exec
  have hb := B.bytes
  have hr := B.returns
  have hts := atoms_spec (ws := wsX2_paint) B.pre
  have hown : s.vm.findClass RX2 = some m.cls := findClass_of_methodNamed B.named
  have hlocks := B.notSynchronized
  subst hsz
  have hD := hD0.self (sz := s.heap.size)
  generalize hAe : va_A [(m0, .inr (2, [.int th, .int (nI wn), .int (nI hn), .int (nI q0), .int wv, .ref a1, .ref a2, .ref a3, .ref a4, .ref a5, .ref a6, .ref a7, .ref a8, .int mn])), (a1, .inl (cI, 25, .inl (kI K0))), (a2, .inl (cI, 25, .inl NX)), (a3, .inl (cZ, 25, .inl (zB T0))), (a4, .inl (cI, 100, .inl (bI wn hn))), (a5, .inl (cI, 25, .inl KP)), (a6, .inl (cI, 25, .inl RG)), (a7, .inl (cI, 26, .inl SZ)), (a8, .inl (cI, 25, .inl LN))] s.heap.size = A at hD ⊢
  have hA : ∀ q : Nat, s.heap.size ≤ q → A q := fun q h => by rw [← hAe]; exact Or.inr h
  have hS : va_S A s.heap s.heap [] := va_S.rf
  generalize hQ : MQ below (va_Qi (fun (r : Int32) (_ : Unit) => r = nI (K0 (wn * ya + xa))) (fun u t => va_P (dC, dI) vwCl ((fun (_ : Unit) => [(m0, .inr (2, [.int 0, .int (nI wn), .int (nI hn), .int (nI q0), .int wv, .ref a1, .ref a2, .ref a3, .ref a4, .ref a5, .ref a6, .ref a7, .ref a8, .int mn])), (a1, .inl (cI, 25, .inl (kI (fun d => if d = (wn * ya + xa) then j0 else K0 d)))), (a2, .inl (cI, 25, .inl NX)), (a3, .inl (cZ, 25, .inl (zB T0))), (a4, .inl (cI, 100, .inl (bI wn hn))), (a5, .inl (cI, 25, .inl KP)), (a6, .inl (cI, 25, .inl RG)), (a7, .inl (cI, 26, .inl SZ)), (a8, .inl (cI, 25, .inl LN))]) u) t.heap) A) args s 0 0 A = Q
  have F9 : CallFix p m c cX2_paint 5 s args wsX2_paint RX2 := ⟨hx, hb, hml, hown, hts⟩
  obtain ⟨g1, g2, g3, g4⟩ := id g
  have g5 := wh_le g
  have g6 := wh_pos g
  have hci := cell_lt hxa hya
  have hon := on_ok hxa hya (by omega) (by omega)
  refine z_entry (R := rmX2_paint) ha (Nat.le_of_ble_eq_true rfl) (fun ls hl => ?_)
  have hl : lv_has ls 5 [(0, .ref m0), (1, .int (nI xa)), (2, .int (nI ya)), (3, .int (nI j0))] := hl
  refine lv_aload_n hx hb dX2_paint_0 rfl (lv_at hl 0 rfl) ?_
  refine lv_iconst (v := 0) hx hb dX2_paint_1 (by decide) ?_
  refine va_put (D := (dC, dI)) (ci := 2) (v := .int 0) (ty := .int) (C := RX2) (T := TX2) (N := 14) hx hb hts iX2_paint_X2 tyX2 tyX2_ok nmX2 hown hK hP hD hS 0 rfl rfl 0 (by decide) (hts (.fieldLink RX2 43 "ColourTideModel" "thrown" "I") (List.mem_of_getElem? (i := 1) rfl)) (fun _ h9 => h9) rfl (by decide +kernel) rfl rfl (Nat.le_of_ble_eq_true rfl) dX2_paint_2 (fun H locs hP hD hS => ?_)
  have hP : va_P (dC, dI) vwCl [(m0, .inr (2, [.int 0, .int (nI wn), .int (nI hn), .int (nI q0), .int wv, .ref a1, .ref a2, .ref a3, .ref a4, .ref a5, .ref a6, .ref a7, .ref a8, .int mn])), (a1, .inl (cI, 25, .inl (kI K0))), (a2, .inl (cI, 25, .inl NX)), (a3, .inl (cZ, 25, .inl (zB T0))), (a4, .inl (cI, 100, .inl (bI wn hn))), (a5, .inl (cI, 25, .inl KP)), (a6, .inl (cI, 25, .inl RG)), (a7, .inl (cI, 26, .inl SZ)), (a8, .inl (cI, 25, .inl LN))] H := hP
  have hD : va_D A [(m0, .inr (2, [.int 0, .int (nI wn), .int (nI hn), .int (nI q0), .int wv, .ref a1, .ref a2, .ref a3, .ref a4, .ref a5, .ref a6, .ref a7, .ref a8, .int mn])), (a1, .inl (cI, 25, .inl (kI K0))), (a2, .inl (cI, 25, .inl NX)), (a3, .inl (cZ, 25, .inl (zB T0))), (a4, .inl (cI, 100, .inl (bI wn hn))), (a5, .inl (cI, 25, .inl KP)), (a6, .inl (cI, 25, .inl RG)), (a7, .inl (cI, 26, .inl SZ)), (a8, .inl (cI, 25, .inl LN))] := hD
  refine lv_aload_n hx hb dX2_paint_5 rfl (lv_at hl 0 rfl) ?_
  refine lv_iload_n hx hb dX2_paint_6 rfl (lv_at hl 1 rfl) ?_
  refine lv_iload_n hx hb dX2_paint_7 rfl (lv_at hl 2 rfl) ?_
  refine z_callVi (As := [.int (nI xa), .int (nI ya)]) (rest := []) F9 (m_X2_isCell l dC dI cI cZ cJ cD m0 a1 a2 a3 a4 a5 a6 a7 a8 0 wn hn q0 wv K0 NX T0 KP RG SZ LN mn (nI xa) (nI ya) (g)) (cwV 2 hts gX2_paint_X2_isCell rfl rfl rfl (by decide +kernel) ⟨Nat.le_of_ble_eq_true rfl, Nat.le_of_ble_eq_true rfl⟩) hK hN hP hD hS hA [0, 1, 2, 3, 4, 5, 6, 7, 8] rfl rfl (fun _ => rfl) 0 (ci := 2) rfl rfl rfl rfl hl.1 rfl (Nat.le_of_ble_eq_true rfl) dX2_paint_8 ⟨Nat.zero_le _, Nat.zero_le _⟩ (fun r_1 u H locs hp_8 hP hD hS => ?_)
  have hP : va_P (dC, dI) vwCl [(m0, .inr (2, [.int 0, .int (nI wn), .int (nI hn), .int (nI q0), .int wv, .ref a1, .ref a2, .ref a3, .ref a4, .ref a5, .ref a6, .ref a7, .ref a8, .int mn])), (a1, .inl (cI, 25, .inl (kI K0))), (a2, .inl (cI, 25, .inl NX)), (a3, .inl (cZ, 25, .inl (zB T0))), (a4, .inl (cI, 100, .inl (bI wn hn))), (a5, .inl (cI, 25, .inl KP)), (a6, .inl (cI, 25, .inl RG)), (a7, .inl (cI, 26, .inl SZ)), (a8, .inl (cI, 25, .inl LN))] H := hP
  have hD : va_D A [(m0, .inr (2, [.int 0, .int (nI wn), .int (nI hn), .int (nI q0), .int wv, .ref a1, .ref a2, .ref a3, .ref a4, .ref a5, .ref a6, .ref a7, .ref a8, .int mn])), (a1, .inl (cI, 25, .inl (kI K0))), (a2, .inl (cI, 25, .inl NX)), (a3, .inl (cZ, 25, .inl (zB T0))), (a4, .inl (cI, 100, .inl (bI wn hn))), (a5, .inl (cI, 25, .inl KP)), (a6, .inl (cI, 25, .inl RG)), (a7, .inl (cI, 26, .inl SZ)), (a8, .inl (cI, 25, .inl LN))] := hD
  have hp_8 : r_1 = if pOn (nI xa) (nI ya) (nI wn) (nI hn) then 1 else 0 := hp_8
  refine z_topi (y := if pOn (nI xa) (nI ya) (nI wn) (nI hn) then 1 else 0) hp_8 ?_
  refine lv_if_eq (tgt := 21) hx hb dX2_paint_11 (by decide) (fun c_11 => ?_) (fun c_11 => ?_)
  · skip
    exact absurd hon (z_if0 c_11)
  · skip
    refine lv_iload_n hx hb dX2_paint_14 rfl (lv_at hl 3 rfl) ?_
    refine z_callSi (As := [.int (nI j0)]) (rest := []) F9 (m_X2_isAny l dC dI cI cZ cJ cD (nI j0) ) (va_cwS 1 hts gX2_paint_X2_isAny rfl rfl rfl (by decide +kernel) ⟨Nat.le_of_ble_eq_true rfl, Nat.le_of_ble_eq_true rfl⟩) hK hN hP hD hS hA rfl hl.1 rfl (Nat.le_of_ble_eq_true rfl) dX2_paint_15 ⟨Nat.zero_le _, Nat.zero_le _⟩ (fun r_2 H locs hp_15 hP hS => ?_)
    have hp_15 : r_2 = if pAny (nI j0) then 1 else 0 := hp_15
    refine z_topi (y := if pAny (nI j0) then 1 else 0) hp_15 ?_
    refine lv_if_ne (tgt := 27) hx hb dX2_paint_18 (by decide) (fun c_18 => ?_) (fun c_18 => ?_)
    · skip
      refine lv_aload_n hx hb dX2_paint_27 rfl (lv_at hl 0 rfl) ?_
      refine va_get (D := (dC, dI)) (ci := 2) (v := .ref a1) (C := RX2) (T := TX2) (N := 14) hx hb hts iX2_paint_X2 hown hK hP 0 rfl rfl 5 (by decide) (hts (.fieldLink RX2 13 "ColourTideModel" "colours" "[I") (List.mem_of_getElem? (i := 2) rfl)) (fun _ h9 => h9) rfl dX2_paint_28 ?_
      refine lv_aload_n hx hb dX2_paint_31 rfl (lv_at hl 0 rfl) ?_
      refine va_get (D := (dC, dI)) (ci := 2) (v := .int (nI wn)) (C := RX2) (T := TX2) (N := 14) hx hb hts iX2_paint_X2 hown hK hP 0 rfl rfl 1 (by decide) (hts (.fieldLink RX2 46 "ColourTideModel" "w" "I") (List.mem_of_getElem? (i := 3) rfl)) (fun _ h9 => h9) rfl dX2_paint_32 ?_
      refine lv_iload_n hx hb dX2_paint_35 rfl (lv_at hl 2 rfl) ?_
      refine lv_imul hx hb dX2_paint_36 ?_
      refine z_topi (y := nI (wn * ya)) (pk_mul wn ya) ?_
      refine lv_iload_n hx hb dX2_paint_37 rfl (lv_at hl 1 rfl) ?_
      refine lv_iadd hx hb dX2_paint_38 ?_
      refine z_topi (y := nI ((wn * ya) + xa)) (nI_add (wn * ya) xa) ?_
      refine z_iald hx hb hK hP 1 0 rfl rfl ((wn * ya) + xa) (rfl) (by omega) (by decide) dX2_paint_39 ?_
      refine z_topi (y := nI (K0 (wn * ya + xa))) (rfl) ?_
      refine lv_istore (lv' := [(4, .int (nI (K0 (wn * ya + xa)))), (0, .ref m0), (1, .int (nI xa)), (2, .int (nI ya)), (3, .int (nI j0))]) hx hb dX2_paint_40 hl (by decide) rfl (fun ls hl => ?_)
      refine lv_aload_n hx hb dX2_paint_42 rfl (lv_at hl 1 rfl) ?_
      refine va_get (D := (dC, dI)) (ci := 2) (v := .ref a1) (C := RX2) (T := TX2) (N := 14) hx hb hts iX2_paint_X2 hown hK hP 0 rfl rfl 5 (by decide) (hts (.fieldLink RX2 13 "ColourTideModel" "colours" "[I") (List.mem_of_getElem? (i := 2) rfl)) (fun _ h9 => h9) rfl dX2_paint_43 ?_
      refine lv_aload_n hx hb dX2_paint_46 rfl (lv_at hl 1 rfl) ?_
      refine va_get (D := (dC, dI)) (ci := 2) (v := .int (nI wn)) (C := RX2) (T := TX2) (N := 14) hx hb hts iX2_paint_X2 hown hK hP 0 rfl rfl 1 (by decide) (hts (.fieldLink RX2 46 "ColourTideModel" "w" "I") (List.mem_of_getElem? (i := 3) rfl)) (fun _ h9 => h9) rfl dX2_paint_47 ?_
      refine lv_iload_n hx hb dX2_paint_50 rfl (lv_at hl 3 rfl) ?_
      refine lv_imul hx hb dX2_paint_51 ?_
      refine z_topi (y := nI (wn * ya)) (pk_mul wn ya) ?_
      refine lv_iload_n hx hb dX2_paint_52 rfl (lv_at hl 2 rfl) ?_
      refine lv_iadd hx hb dX2_paint_53 ?_
      refine z_topi (y := nI ((wn * ya) + xa)) (nI_add (wn * ya) xa) ?_
      refine lv_iload_n hx hb dX2_paint_54 rfl (lv_at hl 4 rfl) ?_
      refine z_iast hx hb hK hP hD hS 1 0 rfl rfl ((wn * ya) + xa) (rfl) (by omega) (by decide) dX2_paint_55 (fun H locs hP hD hS => ?_)
      have hP : va_P (dC, dI) vwCl [(m0, .inr (2, [.int 0, .int (nI wn), .int (nI hn), .int (nI q0), .int wv, .ref a1, .ref a2, .ref a3, .ref a4, .ref a5, .ref a6, .ref a7, .ref a8, .int mn])), (a1, .inl (cI, 25, .inl (upd (kI K0) ((wn * ya) + xa) (nI j0)))), (a2, .inl (cI, 25, .inl NX)), (a3, .inl (cZ, 25, .inl (zB T0))), (a4, .inl (cI, 100, .inl (bI wn hn))), (a5, .inl (cI, 25, .inl KP)), (a6, .inl (cI, 25, .inl RG)), (a7, .inl (cI, 26, .inl SZ)), (a8, .inl (cI, 25, .inl LN))] H := hP
      have hD : va_D A [(m0, .inr (2, [.int 0, .int (nI wn), .int (nI hn), .int (nI q0), .int wv, .ref a1, .ref a2, .ref a3, .ref a4, .ref a5, .ref a6, .ref a7, .ref a8, .int mn])), (a1, .inl (cI, 25, .inl (upd (kI K0) ((wn * ya) + xa) (nI j0)))), (a2, .inl (cI, 25, .inl NX)), (a3, .inl (cZ, 25, .inl (zB T0))), (a4, .inl (cI, 100, .inl (bI wn hn))), (a5, .inl (cI, 25, .inl KP)), (a6, .inl (cI, 25, .inl RG)), (a7, .inl (cI, 26, .inl SZ)), (a8, .inl (cI, 25, .inl LN))] := hD
      have e_55 : upd (kI K0) ((wn * ya) + xa) (nI j0) = kI (fun d => if d = (wn * ya + xa) then j0 else K0 d) := kI_upd _ _ _
      rw [e_55] at hP hD
      refine lv_iload hx hb dX2_paint_56 (lv_at hl 0 rfl) ?_
      rw [← hQ]
      exact z_iret (W1 := (fun (_ : Unit) => [(m0, .inr (2, [.int 0, .int (nI wn), .int (nI hn), .int (nI q0), .int wv, .ref a1, .ref a2, .ref a3, .ref a4, .ref a5, .ref a6, .ref a7, .ref a8, .int mn])), (a1, .inl (cI, 25, .inl (kI (fun d => if d = (wn * ya + xa) then j0 else K0 d)))), (a2, .inl (cI, 25, .inl NX)), (a3, .inl (cZ, 25, .inl (zB T0))), (a4, .inl (cI, 100, .inl (bI wn hn))), (a5, .inl (cI, 25, .inl KP)), (a6, .inl (cI, 25, .inl RG)), (a7, .inl (cI, 26, .inl SZ)), (a8, .inl (cI, 25, .inl LN))])) hx hb hr hlocks hP hS () (rfl) (rfl) dX2_paint_58
    · skip
      exact absurd (any_ok hj0) (z_if0 c_18)
set_option maxHeartbeats 4000000 in
set_option maxRecDepth 100000 in
theorem m_X2_paint_no (l : Launch) (dC : Nat → ClassId) (dI : Nat → Nat → Nat) (cI cZ cJ cD : ClassId) (m0 : Nat) (a1 : Nat) (a2 : Nat) (a3 : Nat) (a4 : Nat) (a5 : Nat) (a6 : Nat) (a7 : Nat) (a8 : Nat) (th : Int32) (wn : Nat) (hn : Nat) (q0 : Nat) (wv : Int32) (K0 : Nat → Nat) (NX : Nat → Int32) (T0 : Nat → Bool) (KP : Nat → Int32) (RG : Nat → Int32) (SZ : Nat → Int32) (LN : Nat → Int32) (mn : Int32) (x0 : Int32) (y0 : Int32) (col : Int32) (g : gok wn hn) (hK4 : ∀ c, K0 c ≤ 4) (hno : ¬ (pOn x0 y0 (nI wn) (nI hn) ∧ pAny col)) : zI l (dC, dI) (wT cI cZ cJ cD) yX2_paint wsX2_paint rmX2_paint [(m0, .inr (2, [.int th, .int (nI wn), .int (nI hn), .int (nI q0), .int wv, .ref a1, .ref a2, .ref a3, .ref a4, .ref a5, .ref a6, .ref a7, .ref a8, .int mn])), (a1, .inl (cI, 25, .inl (kI K0))), (a2, .inl (cI, 25, .inl NX)), (a3, .inl (cZ, 25, .inl (zB T0))), (a4, .inl (cI, 100, .inl (bI wn hn))), (a5, .inl (cI, 25, .inl KP)), (a6, .inl (cI, 25, .inl RG)), (a7, .inl (cI, 26, .inl SZ)), (a8, .inl (cI, 25, .inl LN))] [.ref m0, .int x0, .int y0, .int col] (fun (_ : Unit) => [(m0, .inr (2, [.int 1, .int (nI wn), .int (nI hn), .int (nI q0), .int wv, .ref a1, .ref a2, .ref a3, .ref a4, .ref a5, .ref a6, .ref a7, .ref a8, .int mn])), (a1, .inl (cI, 25, .inl (kI K0))), (a2, .inl (cI, 25, .inl NX)), (a3, .inl (cZ, 25, .inl (zB T0))), (a4, .inl (cI, 100, .inl (bI wn hn))), (a5, .inl (cI, 25, .inl KP)), (a6, .inl (cI, 25, .inl RG)), (a7, .inl (cI, 26, .inl SZ)), (a8, .inl (cI, 25, .inl LN))]) (fun (r : Int32) (_ : Unit) => True) := by
  intro sz
  refine Met.ofW (cc := cX2_paint) (maxL := 5) (ret := (some .int)) (by decide) rfl ?_
  intro p e s m args below meth c s₁ B hml hv
  obtain ⟨ha, hsz, hP, hK, hD0, hN⟩ := hv
  have hx := B.exec
  have hb := B.bytes
  have hr := B.returns
  have hts := atoms_spec (ws := wsX2_paint) B.pre
  have hown : s.vm.findClass RX2 = some m.cls := findClass_of_methodNamed B.named
  have hlocks := B.notSynchronized
  subst hsz
  have hD := hD0.self (sz := s.heap.size)
  generalize hAe : va_A [(m0, .inr (2, [.int th, .int (nI wn), .int (nI hn), .int (nI q0), .int wv, .ref a1, .ref a2, .ref a3, .ref a4, .ref a5, .ref a6, .ref a7, .ref a8, .int mn])), (a1, .inl (cI, 25, .inl (kI K0))), (a2, .inl (cI, 25, .inl NX)), (a3, .inl (cZ, 25, .inl (zB T0))), (a4, .inl (cI, 100, .inl (bI wn hn))), (a5, .inl (cI, 25, .inl KP)), (a6, .inl (cI, 25, .inl RG)), (a7, .inl (cI, 26, .inl SZ)), (a8, .inl (cI, 25, .inl LN))] s.heap.size = A at hD ⊢
  have hA : ∀ q : Nat, s.heap.size ≤ q → A q := fun q h => by rw [← hAe]; exact Or.inr h
  have hS : va_S A s.heap s.heap [] := va_S.rf
  generalize hQ : MQ below (va_Qi (fun (r : Int32) (_ : Unit) => True) (fun u t => va_P (dC, dI) vwCl ((fun (_ : Unit) => [(m0, .inr (2, [.int 1, .int (nI wn), .int (nI hn), .int (nI q0), .int wv, .ref a1, .ref a2, .ref a3, .ref a4, .ref a5, .ref a6, .ref a7, .ref a8, .int mn])), (a1, .inl (cI, 25, .inl (kI K0))), (a2, .inl (cI, 25, .inl NX)), (a3, .inl (cZ, 25, .inl (zB T0))), (a4, .inl (cI, 100, .inl (bI wn hn))), (a5, .inl (cI, 25, .inl KP)), (a6, .inl (cI, 25, .inl RG)), (a7, .inl (cI, 26, .inl SZ)), (a8, .inl (cI, 25, .inl LN))]) u) t.heap) A) args s 0 0 A = Q
  have F9 : CallFix p m c cX2_paint 5 s args wsX2_paint RX2 := ⟨hx, hb, hml, hown, hts⟩
  obtain ⟨g1, g2, g3, g4⟩ := id g
  have g5 := wh_le g
  have g6 := wh_pos g
  refine z_entry (R := rmX2_paint) ha (Nat.le_of_ble_eq_true rfl) (fun ls hl => ?_)
  have hl : lv_has ls 5 [(0, .ref m0), (1, .int x0), (2, .int y0), (3, .int col)] := hl
  refine lv_aload_n hx hb dX2_paint_0 rfl (lv_at hl 0 rfl) ?_
  refine lv_iconst (v := 0) hx hb dX2_paint_1 (by decide) ?_
  refine va_put (D := (dC, dI)) (ci := 2) (v := .int 0) (ty := .int) (C := RX2) (T := TX2) (N := 14) hx hb hts iX2_paint_X2 tyX2 tyX2_ok nmX2 hown hK hP hD hS 0 rfl rfl 0 (by decide) (hts (.fieldLink RX2 43 "ColourTideModel" "thrown" "I") (List.mem_of_getElem? (i := 1) rfl)) (fun _ h9 => h9) rfl (by decide +kernel) rfl rfl (Nat.le_of_ble_eq_true rfl) dX2_paint_2 (fun H locs hP hD hS => ?_)
  have hP : va_P (dC, dI) vwCl [(m0, .inr (2, [.int 0, .int (nI wn), .int (nI hn), .int (nI q0), .int wv, .ref a1, .ref a2, .ref a3, .ref a4, .ref a5, .ref a6, .ref a7, .ref a8, .int mn])), (a1, .inl (cI, 25, .inl (kI K0))), (a2, .inl (cI, 25, .inl NX)), (a3, .inl (cZ, 25, .inl (zB T0))), (a4, .inl (cI, 100, .inl (bI wn hn))), (a5, .inl (cI, 25, .inl KP)), (a6, .inl (cI, 25, .inl RG)), (a7, .inl (cI, 26, .inl SZ)), (a8, .inl (cI, 25, .inl LN))] H := hP
  have hD : va_D A [(m0, .inr (2, [.int 0, .int (nI wn), .int (nI hn), .int (nI q0), .int wv, .ref a1, .ref a2, .ref a3, .ref a4, .ref a5, .ref a6, .ref a7, .ref a8, .int mn])), (a1, .inl (cI, 25, .inl (kI K0))), (a2, .inl (cI, 25, .inl NX)), (a3, .inl (cZ, 25, .inl (zB T0))), (a4, .inl (cI, 100, .inl (bI wn hn))), (a5, .inl (cI, 25, .inl KP)), (a6, .inl (cI, 25, .inl RG)), (a7, .inl (cI, 26, .inl SZ)), (a8, .inl (cI, 25, .inl LN))] := hD
  refine lv_aload_n hx hb dX2_paint_5 rfl (lv_at hl 0 rfl) ?_
  refine lv_iload_n hx hb dX2_paint_6 rfl (lv_at hl 1 rfl) ?_
  refine lv_iload_n hx hb dX2_paint_7 rfl (lv_at hl 2 rfl) ?_
  refine z_callVi (As := [.int x0, .int y0]) (rest := []) F9 (m_X2_isCell l dC dI cI cZ cJ cD m0 a1 a2 a3 a4 a5 a6 a7 a8 0 wn hn q0 wv K0 NX T0 KP RG SZ LN mn x0 y0 (g)) (cwV 2 hts gX2_paint_X2_isCell rfl rfl rfl (by decide +kernel) ⟨Nat.le_of_ble_eq_true rfl, Nat.le_of_ble_eq_true rfl⟩) hK hN hP hD hS hA [0, 1, 2, 3, 4, 5, 6, 7, 8] rfl rfl (fun _ => rfl) 0 (ci := 2) rfl rfl rfl rfl hl.1 rfl (Nat.le_of_ble_eq_true rfl) dX2_paint_8 ⟨Nat.zero_le _, Nat.zero_le _⟩ (fun r_1 u H locs hp_8 hP hD hS => ?_)
  have hP : va_P (dC, dI) vwCl [(m0, .inr (2, [.int 0, .int (nI wn), .int (nI hn), .int (nI q0), .int wv, .ref a1, .ref a2, .ref a3, .ref a4, .ref a5, .ref a6, .ref a7, .ref a8, .int mn])), (a1, .inl (cI, 25, .inl (kI K0))), (a2, .inl (cI, 25, .inl NX)), (a3, .inl (cZ, 25, .inl (zB T0))), (a4, .inl (cI, 100, .inl (bI wn hn))), (a5, .inl (cI, 25, .inl KP)), (a6, .inl (cI, 25, .inl RG)), (a7, .inl (cI, 26, .inl SZ)), (a8, .inl (cI, 25, .inl LN))] H := hP
  have hD : va_D A [(m0, .inr (2, [.int 0, .int (nI wn), .int (nI hn), .int (nI q0), .int wv, .ref a1, .ref a2, .ref a3, .ref a4, .ref a5, .ref a6, .ref a7, .ref a8, .int mn])), (a1, .inl (cI, 25, .inl (kI K0))), (a2, .inl (cI, 25, .inl NX)), (a3, .inl (cZ, 25, .inl (zB T0))), (a4, .inl (cI, 100, .inl (bI wn hn))), (a5, .inl (cI, 25, .inl KP)), (a6, .inl (cI, 25, .inl RG)), (a7, .inl (cI, 26, .inl SZ)), (a8, .inl (cI, 25, .inl LN))] := hD
  have hp_8 : r_1 = if pOn x0 y0 (nI wn) (nI hn) then 1 else 0 := hp_8
  refine z_topi (y := if pOn x0 y0 (nI wn) (nI hn) then 1 else 0) hp_8 ?_
  refine lv_if_eq (tgt := 21) hx hb dX2_paint_11 (by decide) (fun c_11 => ?_) (fun c_11 => ?_)
  · skip
    refine lv_aload_n hx hb dX2_paint_21 rfl (lv_at hl 0 rfl) ?_
    refine lv_iconst (v := 1) hx hb dX2_paint_22 (by decide) ?_
    refine z_callVi (As := [.int 1]) (rest := []) F9 (m_X2_fail l dC dI cI cZ cJ cD m0 a1 a2 a3 a4 a5 a6 a7 a8 0 wn hn q0 wv K0 NX T0 KP RG SZ LN mn 1 ) (cwV 1 hts gX2_paint_X2_fail rfl rfl rfl (by decide +kernel) ⟨Nat.le_of_ble_eq_true rfl, Nat.le_of_ble_eq_true rfl⟩) hK hN hP hD hS hA [0, 1, 2, 3, 4, 5, 6, 7, 8] rfl rfl (fun _ => rfl) 0 (ci := 2) rfl rfl rfl rfl hl.1 rfl (Nat.le_of_ble_eq_true rfl) dX2_paint_23 ⟨Nat.zero_le _, Nat.zero_le _⟩ (fun r_2 u H locs hp_23 hP hD hS => ?_)
    have hP : va_P (dC, dI) vwCl [(m0, .inr (2, [.int 1, .int (nI wn), .int (nI hn), .int (nI q0), .int wv, .ref a1, .ref a2, .ref a3, .ref a4, .ref a5, .ref a6, .ref a7, .ref a8, .int mn])), (a1, .inl (cI, 25, .inl (kI K0))), (a2, .inl (cI, 25, .inl NX)), (a3, .inl (cZ, 25, .inl (zB T0))), (a4, .inl (cI, 100, .inl (bI wn hn))), (a5, .inl (cI, 25, .inl KP)), (a6, .inl (cI, 25, .inl RG)), (a7, .inl (cI, 26, .inl SZ)), (a8, .inl (cI, 25, .inl LN))] H := hP
    have hD : va_D A [(m0, .inr (2, [.int 1, .int (nI wn), .int (nI hn), .int (nI q0), .int wv, .ref a1, .ref a2, .ref a3, .ref a4, .ref a5, .ref a6, .ref a7, .ref a8, .int mn])), (a1, .inl (cI, 25, .inl (kI K0))), (a2, .inl (cI, 25, .inl NX)), (a3, .inl (cZ, 25, .inl (zB T0))), (a4, .inl (cI, 100, .inl (bI wn hn))), (a5, .inl (cI, 25, .inl KP)), (a6, .inl (cI, 25, .inl RG)), (a7, .inl (cI, 26, .inl SZ)), (a8, .inl (cI, 25, .inl LN))] := hD
    have hp_23 : r_2 = 0 := hp_23
    refine z_topi (y := 0) hp_23 ?_
    rw [← hQ]
    exact z_iret (W1 := (fun (_ : Unit) => [(m0, .inr (2, [.int 1, .int (nI wn), .int (nI hn), .int (nI q0), .int wv, .ref a1, .ref a2, .ref a3, .ref a4, .ref a5, .ref a6, .ref a7, .ref a8, .int mn])), (a1, .inl (cI, 25, .inl (kI K0))), (a2, .inl (cI, 25, .inl NX)), (a3, .inl (cZ, 25, .inl (zB T0))), (a4, .inl (cI, 100, .inl (bI wn hn))), (a5, .inl (cI, 25, .inl KP)), (a6, .inl (cI, 25, .inl RG)), (a7, .inl (cI, 26, .inl SZ)), (a8, .inl (cI, 25, .inl LN))])) hx hb hr hlocks hP hS () (rfl) (trivial) dX2_paint_26
  · skip
    refine lv_iload_n hx hb dX2_paint_14 rfl (lv_at hl 3 rfl) ?_
    refine z_callSi (As := [.int col]) (rest := []) F9 (m_X2_isAny l dC dI cI cZ cJ cD col ) (va_cwS 1 hts gX2_paint_X2_isAny rfl rfl rfl (by decide +kernel) ⟨Nat.le_of_ble_eq_true rfl, Nat.le_of_ble_eq_true rfl⟩) hK hN hP hD hS hA rfl hl.1 rfl (Nat.le_of_ble_eq_true rfl) dX2_paint_15 ⟨Nat.zero_le _, Nat.zero_le _⟩ (fun r_3 H locs hp_15 hP hS => ?_)
    have hp_15 : r_3 = if pAny col then 1 else 0 := hp_15
    refine z_topi (y := if pAny col then 1 else 0) hp_15 ?_
    refine lv_if_ne (tgt := 27) hx hb dX2_paint_18 (by decide) (fun c_18 => ?_) (fun c_18 => ?_)
    · skip
      exact absurd ⟨z_if1 c_11, z_if1 c_18⟩ hno
    · skip
      refine lv_aload_n hx hb dX2_paint_21 rfl (lv_at hl 0 rfl) ?_
      refine lv_iconst (v := 1) hx hb dX2_paint_22 (by decide) ?_
      refine z_callVi (As := [.int 1]) (rest := []) F9 (m_X2_fail l dC dI cI cZ cJ cD m0 a1 a2 a3 a4 a5 a6 a7 a8 0 wn hn q0 wv K0 NX T0 KP RG SZ LN mn 1 ) (cwV 1 hts gX2_paint_X2_fail rfl rfl rfl (by decide +kernel) ⟨Nat.le_of_ble_eq_true rfl, Nat.le_of_ble_eq_true rfl⟩) hK hN hP hD hS hA [0, 1, 2, 3, 4, 5, 6, 7, 8] rfl rfl (fun _ => rfl) 0 (ci := 2) rfl rfl rfl rfl hl.1 rfl (Nat.le_of_ble_eq_true rfl) dX2_paint_23 ⟨Nat.zero_le _, Nat.zero_le _⟩ (fun r_4 u H locs hp_23 hP hD hS => ?_)
      have hP : va_P (dC, dI) vwCl [(m0, .inr (2, [.int 1, .int (nI wn), .int (nI hn), .int (nI q0), .int wv, .ref a1, .ref a2, .ref a3, .ref a4, .ref a5, .ref a6, .ref a7, .ref a8, .int mn])), (a1, .inl (cI, 25, .inl (kI K0))), (a2, .inl (cI, 25, .inl NX)), (a3, .inl (cZ, 25, .inl (zB T0))), (a4, .inl (cI, 100, .inl (bI wn hn))), (a5, .inl (cI, 25, .inl KP)), (a6, .inl (cI, 25, .inl RG)), (a7, .inl (cI, 26, .inl SZ)), (a8, .inl (cI, 25, .inl LN))] H := hP
      have hD : va_D A [(m0, .inr (2, [.int 1, .int (nI wn), .int (nI hn), .int (nI q0), .int wv, .ref a1, .ref a2, .ref a3, .ref a4, .ref a5, .ref a6, .ref a7, .ref a8, .int mn])), (a1, .inl (cI, 25, .inl (kI K0))), (a2, .inl (cI, 25, .inl NX)), (a3, .inl (cZ, 25, .inl (zB T0))), (a4, .inl (cI, 100, .inl (bI wn hn))), (a5, .inl (cI, 25, .inl KP)), (a6, .inl (cI, 25, .inl RG)), (a7, .inl (cI, 26, .inl SZ)), (a8, .inl (cI, 25, .inl LN))] := hD
      have hp_23 : r_4 = 0 := hp_23
      refine z_topi (y := 0) hp_23 ?_
      rw [← hQ]
      exact z_iret (W1 := (fun (_ : Unit) => [(m0, .inr (2, [.int 1, .int (nI wn), .int (nI hn), .int (nI q0), .int wv, .ref a1, .ref a2, .ref a3, .ref a4, .ref a5, .ref a6, .ref a7, .ref a8, .int mn])), (a1, .inl (cI, 25, .inl (kI K0))), (a2, .inl (cI, 25, .inl NX)), (a3, .inl (cZ, 25, .inl (zB T0))), (a4, .inl (cI, 100, .inl (bI wn hn))), (a5, .inl (cI, 25, .inl KP)), (a6, .inl (cI, 25, .inl RG)), (a7, .inl (cI, 26, .inl SZ)), (a8, .inl (cI, 25, .inl LN))])) hx hb hr hlocks hP hS () (rfl) (trivial) dX2_paint_26
abbrev rmX2_turnStubborn : Room := { frames := 2, cells := 0, slots := 0, locals := 44 }
set_option maxRecDepth 20000 in
theorem iX2_turnStubborn_X2 : ∀ w ∈ wsX20, w ∈ wsX2_turnStubborn := fun w h => (goodIn_r (big := wsX2_turnStubborn) wsX20 [13, 14, 15, 16, 17, 18, 19, 20, 21, 22, 23, 24, 25, 26] (by decide +kernel) (by decide +kernel) w h).1
set_option maxHeartbeats 4000000 in
set_option maxRecDepth 100000 in
theorem m_X2_turnStubborn_ok (l : Launch) (dC : Nat → ClassId) (dI : Nat → Nat → Nat) (cI cZ cJ cD : ClassId) (m0 : Nat) (a1 : Nat) (a2 : Nat) (a3 : Nat) (a4 : Nat) (a5 : Nat) (a6 : Nat) (a7 : Nat) (a8 : Nat) (th : Int32) (wn : Nat) (hn : Nat) (q0 : Nat) (wv : Int32) (K0 : Nat → Nat) (NX : Nat → Int32) (T0 : Nat → Bool) (KP : Nat → Int32) (RG : Nat → Int32) (SZ : Nat → Int32) (LN : Nat → Int32) (mn : Int32) (xa : Nat) (ya : Nat) (g : gok wn hn) (hK4 : ∀ c, K0 c ≤ 4) (hxa : xa < wn) (hya : ya < hn) : zI l (dC, dI) (wT cI cZ cJ cD) yX2_turnStubborn wsX2_turnStubborn rmX2_turnStubborn [(m0, .inr (2, [.int th, .int (nI wn), .int (nI hn), .int (nI q0), .int wv, .ref a1, .ref a2, .ref a3, .ref a4, .ref a5, .ref a6, .ref a7, .ref a8, .int mn])), (a1, .inl (cI, 25, .inl (kI K0))), (a2, .inl (cI, 25, .inl NX)), (a3, .inl (cZ, 25, .inl (zB T0))), (a4, .inl (cI, 100, .inl (bI wn hn))), (a5, .inl (cI, 25, .inl KP)), (a6, .inl (cI, 25, .inl RG)), (a7, .inl (cI, 26, .inl SZ)), (a8, .inl (cI, 25, .inl LN))] [.ref m0, .int (nI xa), .int (nI ya)] (fun (_ : Unit) => [(m0, .inr (2, [.int 0, .int (nI wn), .int (nI hn), .int (nI q0), .int wv, .ref a1, .ref a2, .ref a3, .ref a4, .ref a5, .ref a6, .ref a7, .ref a8, .int mn])), (a1, .inl (cI, 25, .inl (kI K0))), (a2, .inl (cI, 25, .inl NX)), (a3, .inl (cZ, 25, .inl (zB (fun d => if d = (wn * ya + xa) then !T0 (wn * ya + xa) else T0 d)))), (a4, .inl (cI, 100, .inl (bI wn hn))), (a5, .inl (cI, 25, .inl KP)), (a6, .inl (cI, 25, .inl RG)), (a7, .inl (cI, 26, .inl SZ)), (a8, .inl (cI, 25, .inl LN))]) (fun (r : Int32) (_ : Unit) => r = bz (!T0 (wn * ya + xa))) := by
  intro sz
  refine Met.ofW (cc := cX2_turnStubborn) (maxL := 3) (ret := (some .boolean)) (by decide) rfl ?_
  intro p e s m args below meth c s₁ B hml hv
  obtain ⟨ha, hsz, hP, hK, hD0, hN⟩ := hv
  have hx := B.exec
  have hb := B.bytes
  have hr := B.returns
  have hts := atoms_spec (ws := wsX2_turnStubborn) B.pre
  have hown : s.vm.findClass RX2 = some m.cls := findClass_of_methodNamed B.named
  have hlocks := B.notSynchronized
  subst hsz
  have hD := hD0.self (sz := s.heap.size)
  generalize hAe : va_A [(m0, .inr (2, [.int th, .int (nI wn), .int (nI hn), .int (nI q0), .int wv, .ref a1, .ref a2, .ref a3, .ref a4, .ref a5, .ref a6, .ref a7, .ref a8, .int mn])), (a1, .inl (cI, 25, .inl (kI K0))), (a2, .inl (cI, 25, .inl NX)), (a3, .inl (cZ, 25, .inl (zB T0))), (a4, .inl (cI, 100, .inl (bI wn hn))), (a5, .inl (cI, 25, .inl KP)), (a6, .inl (cI, 25, .inl RG)), (a7, .inl (cI, 26, .inl SZ)), (a8, .inl (cI, 25, .inl LN))] s.heap.size = A at hD ⊢
  have hA : ∀ q : Nat, s.heap.size ≤ q → A q := fun q h => by rw [← hAe]; exact Or.inr h
  have hS : va_S A s.heap s.heap [] := va_S.rf
  generalize hQ : MQ below (va_Qi (fun (r : Int32) (_ : Unit) => r = bz (!T0 (wn * ya + xa))) (fun u t => va_P (dC, dI) vwCl ((fun (_ : Unit) => [(m0, .inr (2, [.int 0, .int (nI wn), .int (nI hn), .int (nI q0), .int wv, .ref a1, .ref a2, .ref a3, .ref a4, .ref a5, .ref a6, .ref a7, .ref a8, .int mn])), (a1, .inl (cI, 25, .inl (kI K0))), (a2, .inl (cI, 25, .inl NX)), (a3, .inl (cZ, 25, .inl (zB (fun d => if d = (wn * ya + xa) then !T0 (wn * ya + xa) else T0 d)))), (a4, .inl (cI, 100, .inl (bI wn hn))), (a5, .inl (cI, 25, .inl KP)), (a6, .inl (cI, 25, .inl RG)), (a7, .inl (cI, 26, .inl SZ)), (a8, .inl (cI, 25, .inl LN))]) u) t.heap) A) args s 0 0 A = Q
  have F9 : CallFix p m c cX2_turnStubborn 3 s args wsX2_turnStubborn RX2 := ⟨hx, hb, hml, hown, hts⟩
  obtain ⟨g1, g2, g3, g4⟩ := id g
  have g5 := wh_le g
  have g6 := wh_pos g
  have hci := cell_lt hxa hya
  have hon := on_ok hxa hya (by omega) (by omega)
  refine z_entry (R := rmX2_turnStubborn) ha (Nat.le_of_ble_eq_true rfl) (fun ls hl => ?_)
  have hl : lv_has ls 3 [(0, .ref m0), (1, .int (nI xa)), (2, .int (nI ya))] := hl
  refine lv_aload_n hx hb dX2_turnStubborn_0 rfl (lv_at hl 0 rfl) ?_
  refine lv_aload_n hx hb dX2_turnStubborn_1 rfl (lv_at hl 0 rfl) ?_
  refine lv_iload_n hx hb dX2_turnStubborn_2 rfl (lv_at hl 1 rfl) ?_
  refine lv_iload_n hx hb dX2_turnStubborn_3 rfl (lv_at hl 2 rfl) ?_
  refine z_callVi (As := [.int (nI xa), .int (nI ya)]) (rest := [.ref m0]) F9 (m_X2_isCell l dC dI cI cZ cJ cD m0 a1 a2 a3 a4 a5 a6 a7 a8 th wn hn q0 wv K0 NX T0 KP RG SZ LN mn (nI xa) (nI ya) (g)) (cwV 2 hts gX2_turnStubborn_X2_isCell rfl rfl rfl (by decide +kernel) ⟨Nat.le_of_ble_eq_true rfl, Nat.le_of_ble_eq_true rfl⟩) hK hN hP hD hS hA [0, 1, 2, 3, 4, 5, 6, 7, 8] rfl rfl (fun _ => rfl) 0 (ci := 2) rfl rfl rfl rfl hl.1 rfl (Nat.le_of_ble_eq_true rfl) dX2_turnStubborn_4 ⟨Nat.zero_le _, Nat.zero_le _⟩ (fun r_1 u H locs hp_4 hP hD hS => ?_)
  have hP : va_P (dC, dI) vwCl [(m0, .inr (2, [.int th, .int (nI wn), .int (nI hn), .int (nI q0), .int wv, .ref a1, .ref a2, .ref a3, .ref a4, .ref a5, .ref a6, .ref a7, .ref a8, .int mn])), (a1, .inl (cI, 25, .inl (kI K0))), (a2, .inl (cI, 25, .inl NX)), (a3, .inl (cZ, 25, .inl (zB T0))), (a4, .inl (cI, 100, .inl (bI wn hn))), (a5, .inl (cI, 25, .inl KP)), (a6, .inl (cI, 25, .inl RG)), (a7, .inl (cI, 26, .inl SZ)), (a8, .inl (cI, 25, .inl LN))] H := hP
  have hD : va_D A [(m0, .inr (2, [.int th, .int (nI wn), .int (nI hn), .int (nI q0), .int wv, .ref a1, .ref a2, .ref a3, .ref a4, .ref a5, .ref a6, .ref a7, .ref a8, .int mn])), (a1, .inl (cI, 25, .inl (kI K0))), (a2, .inl (cI, 25, .inl NX)), (a3, .inl (cZ, 25, .inl (zB T0))), (a4, .inl (cI, 100, .inl (bI wn hn))), (a5, .inl (cI, 25, .inl KP)), (a6, .inl (cI, 25, .inl RG)), (a7, .inl (cI, 26, .inl SZ)), (a8, .inl (cI, 25, .inl LN))] := hD
  have hp_4 : r_1 = if pOn (nI xa) (nI ya) (nI wn) (nI hn) then 1 else 0 := hp_4
  refine z_topi (y := if pOn (nI xa) (nI ya) (nI wn) (nI hn) then 1 else 0) hp_4 ?_
  refine lv_if_eq (tgt := 14) hx hb dX2_turnStubborn_7 (by decide) (fun c_7 => ?_) (fun c_7 => ?_)
  · skip
    exact absurd hon (z_if0 c_7)
  · skip
    refine lv_iconst (v := 0) hx hb dX2_turnStubborn_10 (by decide) ?_
    refine lv_goto (tgt := 15) hx hb dX2_turnStubborn_11 (by decide) ?_
    refine va_put (D := (dC, dI)) (ci := 2) (v := .int 0) (ty := .int) (C := RX2) (T := TX2) (N := 14) hx hb hts iX2_turnStubborn_X2 tyX2 tyX2_ok nmX2 hown hK hP hD hS 0 rfl rfl 0 (by decide) (hts (.fieldLink RX2 43 "ColourTideModel" "thrown" "I") (List.mem_of_getElem? (i := 1) rfl)) (fun _ h9 => h9) rfl (by decide +kernel) rfl rfl (Nat.le_of_ble_eq_true rfl) dX2_turnStubborn_15 (fun H locs hP hD hS => ?_)
    have hP : va_P (dC, dI) vwCl [(m0, .inr (2, [.int 0, .int (nI wn), .int (nI hn), .int (nI q0), .int wv, .ref a1, .ref a2, .ref a3, .ref a4, .ref a5, .ref a6, .ref a7, .ref a8, .int mn])), (a1, .inl (cI, 25, .inl (kI K0))), (a2, .inl (cI, 25, .inl NX)), (a3, .inl (cZ, 25, .inl (zB T0))), (a4, .inl (cI, 100, .inl (bI wn hn))), (a5, .inl (cI, 25, .inl KP)), (a6, .inl (cI, 25, .inl RG)), (a7, .inl (cI, 26, .inl SZ)), (a8, .inl (cI, 25, .inl LN))] H := hP
    have hD : va_D A [(m0, .inr (2, [.int 0, .int (nI wn), .int (nI hn), .int (nI q0), .int wv, .ref a1, .ref a2, .ref a3, .ref a4, .ref a5, .ref a6, .ref a7, .ref a8, .int mn])), (a1, .inl (cI, 25, .inl (kI K0))), (a2, .inl (cI, 25, .inl NX)), (a3, .inl (cZ, 25, .inl (zB T0))), (a4, .inl (cI, 100, .inl (bI wn hn))), (a5, .inl (cI, 25, .inl KP)), (a6, .inl (cI, 25, .inl RG)), (a7, .inl (cI, 26, .inl SZ)), (a8, .inl (cI, 25, .inl LN))] := hD
    refine lv_aload_n hx hb dX2_turnStubborn_18 rfl (lv_at hl 0 rfl) ?_
    refine va_get (D := (dC, dI)) (ci := 2) (v := .int 0) (C := RX2) (T := TX2) (N := 14) hx hb hts iX2_turnStubborn_X2 hown hK hP 0 rfl rfl 0 (by decide) (hts (.fieldLink RX2 43 "ColourTideModel" "thrown" "I") (List.mem_of_getElem? (i := 1) rfl)) (fun _ h9 => h9) rfl dX2_turnStubborn_19 ?_
    refine lv_if_eq (tgt := 27) hx hb dX2_turnStubborn_22 (by decide) (fun c_22 => ?_) (fun c_22 => ?_)
    · skip
      have n_22 := zc_eq_t (a := 0) (b := 0) (by omega) (by omega) c_22
      refine lv_aload_n hx hb dX2_turnStubborn_27 rfl (lv_at hl 0 rfl) ?_
      refine va_get (D := (dC, dI)) (ci := 2) (v := .ref a3) (C := RX2) (T := TX2) (N := 14) hx hb hts iX2_turnStubborn_X2 hown hK hP 0 rfl rfl 7 (by decide) (hts (.fieldLink RX2 20 "ColourTideModel" "stubborn" "[Z") (List.mem_of_getElem? (i := 2) rfl)) (fun _ h9 => h9) rfl dX2_turnStubborn_28 ?_
      refine lv_aload_n hx hb dX2_turnStubborn_31 rfl (lv_at hl 0 rfl) ?_
      refine va_get (D := (dC, dI)) (ci := 2) (v := .int (nI wn)) (C := RX2) (T := TX2) (N := 14) hx hb hts iX2_turnStubborn_X2 hown hK hP 0 rfl rfl 1 (by decide) (hts (.fieldLink RX2 46 "ColourTideModel" "w" "I") (List.mem_of_getElem? (i := 3) rfl)) (fun _ h9 => h9) rfl dX2_turnStubborn_32 ?_
      refine lv_iload_n hx hb dX2_turnStubborn_35 rfl (lv_at hl 2 rfl) ?_
      refine lv_imul hx hb dX2_turnStubborn_36 ?_
      refine z_topi (y := nI (wn * ya)) (pk_mul wn ya) ?_
      refine lv_iload_n hx hb dX2_turnStubborn_37 rfl (lv_at hl 1 rfl) ?_
      refine lv_iadd hx hb dX2_turnStubborn_38 ?_
      refine z_topi (y := nI ((wn * ya) + xa)) (nI_add (wn * ya) xa) ?_
      refine lv_aload_n hx hb dX2_turnStubborn_39 rfl (lv_at hl 0 rfl) ?_
      refine va_get (D := (dC, dI)) (ci := 2) (v := .ref a3) (C := RX2) (T := TX2) (N := 14) hx hb hts iX2_turnStubborn_X2 hown hK hP 0 rfl rfl 7 (by decide) (hts (.fieldLink RX2 20 "ColourTideModel" "stubborn" "[Z") (List.mem_of_getElem? (i := 2) rfl)) (fun _ h9 => h9) rfl dX2_turnStubborn_40 ?_
      refine lv_aload_n hx hb dX2_turnStubborn_43 rfl (lv_at hl 0 rfl) ?_
      refine va_get (D := (dC, dI)) (ci := 2) (v := .int (nI wn)) (C := RX2) (T := TX2) (N := 14) hx hb hts iX2_turnStubborn_X2 hown hK hP 0 rfl rfl 1 (by decide) (hts (.fieldLink RX2 46 "ColourTideModel" "w" "I") (List.mem_of_getElem? (i := 3) rfl)) (fun _ h9 => h9) rfl dX2_turnStubborn_44 ?_
      refine lv_iload_n hx hb dX2_turnStubborn_47 rfl (lv_at hl 2 rfl) ?_
      refine lv_imul hx hb dX2_turnStubborn_48 ?_
      refine z_topi (y := nI (wn * ya)) (pk_mul wn ya) ?_
      refine lv_iload_n hx hb dX2_turnStubborn_49 rfl (lv_at hl 1 rfl) ?_
      refine lv_iadd hx hb dX2_turnStubborn_50 ?_
      refine z_topi (y := nI ((wn * ya) + xa)) (nI_add (wn * ya) xa) ?_
      refine z_zald hx hb hK hP 3 1 rfl rfl ((wn * ya) + xa) (rfl) (by omega) (by decide) dX2_turnStubborn_51 ?_
      refine z_topi (y := bz (T0 (wn * ya + xa))) (rfl) ?_
      suffices j_60 : ∀ v_60 : Int32, v_60 = (bz (!T0 (wn * ya + xa))) → W p l e rmX2_turnStubborn s m args below meth c H locs 0 0 Q (F0 m 60 ls [.int v_60, .int (nI ((wn * ya) + xa)), .ref a3]) by
        refine lv_if_ne (tgt := 59) hx hb dX2_turnStubborn_52 (by decide) (fun c_52 => ?_) (fun c_52 => ?_)
        · skip
          refine lv_iconst (v := 0) hx hb dX2_turnStubborn_59 (by decide) ?_
          exact j_60 _ (by rw [bz_1 c_52]; rfl)
        · skip
          refine lv_iconst (v := 1) hx hb dX2_turnStubborn_55 (by decide) ?_
          refine lv_goto (tgt := 60) hx hb dX2_turnStubborn_56 (by decide) ?_
          exact j_60 _ (by rw [bz_0 c_52]; rfl)
      intro v_60 h_v_60
      refine z_zast hx hb hK hP hD hS 3 1 rfl rfl ((wn * ya) + xa) (rfl) (by omega) (by decide) (by rw [h_v_60]; exact bz_nar _) dX2_turnStubborn_60 (fun H locs hP hD hS => ?_)
      have hP : va_P (dC, dI) vwCl [(m0, .inr (2, [.int 0, .int (nI wn), .int (nI hn), .int (nI q0), .int wv, .ref a1, .ref a2, .ref a3, .ref a4, .ref a5, .ref a6, .ref a7, .ref a8, .int mn])), (a1, .inl (cI, 25, .inl (kI K0))), (a2, .inl (cI, 25, .inl NX)), (a3, .inl (cZ, 25, .inl (upd (zB T0) ((wn * ya) + xa) v_60))), (a4, .inl (cI, 100, .inl (bI wn hn))), (a5, .inl (cI, 25, .inl KP)), (a6, .inl (cI, 25, .inl RG)), (a7, .inl (cI, 26, .inl SZ)), (a8, .inl (cI, 25, .inl LN))] H := hP
      have hD : va_D A [(m0, .inr (2, [.int 0, .int (nI wn), .int (nI hn), .int (nI q0), .int wv, .ref a1, .ref a2, .ref a3, .ref a4, .ref a5, .ref a6, .ref a7, .ref a8, .int mn])), (a1, .inl (cI, 25, .inl (kI K0))), (a2, .inl (cI, 25, .inl NX)), (a3, .inl (cZ, 25, .inl (upd (zB T0) ((wn * ya) + xa) v_60))), (a4, .inl (cI, 100, .inl (bI wn hn))), (a5, .inl (cI, 25, .inl KP)), (a6, .inl (cI, 25, .inl RG)), (a7, .inl (cI, 26, .inl SZ)), (a8, .inl (cI, 25, .inl LN))] := hD
      have e_60 : upd (zB T0) ((wn * ya) + xa) v_60 = zB (fun d => if d = (wn * ya + xa) then !T0 (wn * ya + xa) else T0 d) := by rw [h_v_60]; exact zB_upd _ _ _
      rw [e_60] at hP hD
      refine lv_aload_n hx hb dX2_turnStubborn_61 rfl (lv_at hl 0 rfl) ?_
      refine va_get (D := (dC, dI)) (ci := 2) (v := .ref a3) (C := RX2) (T := TX2) (N := 14) hx hb hts iX2_turnStubborn_X2 hown hK hP 0 rfl rfl 7 (by decide) (hts (.fieldLink RX2 20 "ColourTideModel" "stubborn" "[Z") (List.mem_of_getElem? (i := 2) rfl)) (fun _ h9 => h9) rfl dX2_turnStubborn_62 ?_
      refine lv_aload_n hx hb dX2_turnStubborn_65 rfl (lv_at hl 0 rfl) ?_
      refine va_get (D := (dC, dI)) (ci := 2) (v := .int (nI wn)) (C := RX2) (T := TX2) (N := 14) hx hb hts iX2_turnStubborn_X2 hown hK hP 0 rfl rfl 1 (by decide) (hts (.fieldLink RX2 46 "ColourTideModel" "w" "I") (List.mem_of_getElem? (i := 3) rfl)) (fun _ h9 => h9) rfl dX2_turnStubborn_66 ?_
      refine lv_iload_n hx hb dX2_turnStubborn_69 rfl (lv_at hl 2 rfl) ?_
      refine lv_imul hx hb dX2_turnStubborn_70 ?_
      refine z_topi (y := nI (wn * ya)) (pk_mul wn ya) ?_
      refine lv_iload_n hx hb dX2_turnStubborn_71 rfl (lv_at hl 1 rfl) ?_
      refine lv_iadd hx hb dX2_turnStubborn_72 ?_
      refine z_topi (y := nI ((wn * ya) + xa)) (nI_add (wn * ya) xa) ?_
      refine z_zald hx hb hK hP 3 1 rfl rfl ((wn * ya) + xa) (rfl) (by omega) (by decide) dX2_turnStubborn_73 ?_
      refine z_topi (y := bz (!T0 (wn * ya + xa))) (congrArg bz (if_pos rfl)) ?_
      rw [← hQ]
      exact z_zret (W1 := (fun (_ : Unit) => [(m0, .inr (2, [.int 0, .int (nI wn), .int (nI hn), .int (nI q0), .int wv, .ref a1, .ref a2, .ref a3, .ref a4, .ref a5, .ref a6, .ref a7, .ref a8, .int mn])), (a1, .inl (cI, 25, .inl (kI K0))), (a2, .inl (cI, 25, .inl NX)), (a3, .inl (cZ, 25, .inl (zB (fun d => if d = (wn * ya + xa) then !T0 (wn * ya + xa) else T0 d)))), (a4, .inl (cI, 100, .inl (bI wn hn))), (a5, .inl (cI, 25, .inl KP)), (a6, .inl (cI, 25, .inl RG)), (a7, .inl (cI, 26, .inl SZ)), (a8, .inl (cI, 25, .inl LN))])) hx hb hr hlocks (bz_ret _) hP hS () (rfl) (rfl) dX2_turnStubborn_74
    · skip
      have n_22 := zc_eq_f (a := 0) (b := 0) (by omega) (by omega) c_22
      exact absurd n_22 (by omega)
set_option maxHeartbeats 4000000 in
set_option maxRecDepth 100000 in
theorem m_X2_turnStubborn_no (l : Launch) (dC : Nat → ClassId) (dI : Nat → Nat → Nat) (cI cZ cJ cD : ClassId) (m0 : Nat) (a1 : Nat) (a2 : Nat) (a3 : Nat) (a4 : Nat) (a5 : Nat) (a6 : Nat) (a7 : Nat) (a8 : Nat) (th : Int32) (wn : Nat) (hn : Nat) (q0 : Nat) (wv : Int32) (K0 : Nat → Nat) (NX : Nat → Int32) (T0 : Nat → Bool) (KP : Nat → Int32) (RG : Nat → Int32) (SZ : Nat → Int32) (LN : Nat → Int32) (mn : Int32) (x0 : Int32) (y0 : Int32) (g : gok wn hn) (hK4 : ∀ c, K0 c ≤ 4) (hno : ¬ pOn x0 y0 (nI wn) (nI hn)) : zI l (dC, dI) (wT cI cZ cJ cD) yX2_turnStubborn wsX2_turnStubborn rmX2_turnStubborn [(m0, .inr (2, [.int th, .int (nI wn), .int (nI hn), .int (nI q0), .int wv, .ref a1, .ref a2, .ref a3, .ref a4, .ref a5, .ref a6, .ref a7, .ref a8, .int mn])), (a1, .inl (cI, 25, .inl (kI K0))), (a2, .inl (cI, 25, .inl NX)), (a3, .inl (cZ, 25, .inl (zB T0))), (a4, .inl (cI, 100, .inl (bI wn hn))), (a5, .inl (cI, 25, .inl KP)), (a6, .inl (cI, 25, .inl RG)), (a7, .inl (cI, 26, .inl SZ)), (a8, .inl (cI, 25, .inl LN))] [.ref m0, .int x0, .int y0] (fun (_ : Unit) => [(m0, .inr (2, [.int 1, .int (nI wn), .int (nI hn), .int (nI q0), .int wv, .ref a1, .ref a2, .ref a3, .ref a4, .ref a5, .ref a6, .ref a7, .ref a8, .int mn])), (a1, .inl (cI, 25, .inl (kI K0))), (a2, .inl (cI, 25, .inl NX)), (a3, .inl (cZ, 25, .inl (zB T0))), (a4, .inl (cI, 100, .inl (bI wn hn))), (a5, .inl (cI, 25, .inl KP)), (a6, .inl (cI, 25, .inl RG)), (a7, .inl (cI, 26, .inl SZ)), (a8, .inl (cI, 25, .inl LN))]) (fun (r : Int32) (_ : Unit) => True) := by
  intro sz
  refine Met.ofW (cc := cX2_turnStubborn) (maxL := 3) (ret := (some .boolean)) (by decide) rfl ?_
  intro p e s m args below meth c s₁ B hml hv
  obtain ⟨ha, hsz, hP, hK, hD0, hN⟩ := hv
  have hx := B.exec
  have hb := B.bytes
  have hr := B.returns
  have hts := atoms_spec (ws := wsX2_turnStubborn) B.pre
  have hown : s.vm.findClass RX2 = some m.cls := findClass_of_methodNamed B.named
  have hlocks := B.notSynchronized
  subst hsz
  have hD := hD0.self (sz := s.heap.size)
  generalize hAe : va_A [(m0, .inr (2, [.int th, .int (nI wn), .int (nI hn), .int (nI q0), .int wv, .ref a1, .ref a2, .ref a3, .ref a4, .ref a5, .ref a6, .ref a7, .ref a8, .int mn])), (a1, .inl (cI, 25, .inl (kI K0))), (a2, .inl (cI, 25, .inl NX)), (a3, .inl (cZ, 25, .inl (zB T0))), (a4, .inl (cI, 100, .inl (bI wn hn))), (a5, .inl (cI, 25, .inl KP)), (a6, .inl (cI, 25, .inl RG)), (a7, .inl (cI, 26, .inl SZ)), (a8, .inl (cI, 25, .inl LN))] s.heap.size = A at hD ⊢
  have hA : ∀ q : Nat, s.heap.size ≤ q → A q := fun q h => by rw [← hAe]; exact Or.inr h
  have hS : va_S A s.heap s.heap [] := va_S.rf
  generalize hQ : MQ below (va_Qi (fun (r : Int32) (_ : Unit) => True) (fun u t => va_P (dC, dI) vwCl ((fun (_ : Unit) => [(m0, .inr (2, [.int 1, .int (nI wn), .int (nI hn), .int (nI q0), .int wv, .ref a1, .ref a2, .ref a3, .ref a4, .ref a5, .ref a6, .ref a7, .ref a8, .int mn])), (a1, .inl (cI, 25, .inl (kI K0))), (a2, .inl (cI, 25, .inl NX)), (a3, .inl (cZ, 25, .inl (zB T0))), (a4, .inl (cI, 100, .inl (bI wn hn))), (a5, .inl (cI, 25, .inl KP)), (a6, .inl (cI, 25, .inl RG)), (a7, .inl (cI, 26, .inl SZ)), (a8, .inl (cI, 25, .inl LN))]) u) t.heap) A) args s 0 0 A = Q
  have F9 : CallFix p m c cX2_turnStubborn 3 s args wsX2_turnStubborn RX2 := ⟨hx, hb, hml, hown, hts⟩
  obtain ⟨g1, g2, g3, g4⟩ := id g
  have g5 := wh_le g
  have g6 := wh_pos g
  refine z_entry (R := rmX2_turnStubborn) ha (Nat.le_of_ble_eq_true rfl) (fun ls hl => ?_)
  have hl : lv_has ls 3 [(0, .ref m0), (1, .int x0), (2, .int y0)] := hl
  refine lv_aload_n hx hb dX2_turnStubborn_0 rfl (lv_at hl 0 rfl) ?_
  refine lv_aload_n hx hb dX2_turnStubborn_1 rfl (lv_at hl 0 rfl) ?_
  refine lv_iload_n hx hb dX2_turnStubborn_2 rfl (lv_at hl 1 rfl) ?_
  refine lv_iload_n hx hb dX2_turnStubborn_3 rfl (lv_at hl 2 rfl) ?_
  refine z_callVi (As := [.int x0, .int y0]) (rest := [.ref m0]) F9 (m_X2_isCell l dC dI cI cZ cJ cD m0 a1 a2 a3 a4 a5 a6 a7 a8 th wn hn q0 wv K0 NX T0 KP RG SZ LN mn x0 y0 (g)) (cwV 2 hts gX2_turnStubborn_X2_isCell rfl rfl rfl (by decide +kernel) ⟨Nat.le_of_ble_eq_true rfl, Nat.le_of_ble_eq_true rfl⟩) hK hN hP hD hS hA [0, 1, 2, 3, 4, 5, 6, 7, 8] rfl rfl (fun _ => rfl) 0 (ci := 2) rfl rfl rfl rfl hl.1 rfl (Nat.le_of_ble_eq_true rfl) dX2_turnStubborn_4 ⟨Nat.zero_le _, Nat.zero_le _⟩ (fun r_1 u H locs hp_4 hP hD hS => ?_)
  have hP : va_P (dC, dI) vwCl [(m0, .inr (2, [.int th, .int (nI wn), .int (nI hn), .int (nI q0), .int wv, .ref a1, .ref a2, .ref a3, .ref a4, .ref a5, .ref a6, .ref a7, .ref a8, .int mn])), (a1, .inl (cI, 25, .inl (kI K0))), (a2, .inl (cI, 25, .inl NX)), (a3, .inl (cZ, 25, .inl (zB T0))), (a4, .inl (cI, 100, .inl (bI wn hn))), (a5, .inl (cI, 25, .inl KP)), (a6, .inl (cI, 25, .inl RG)), (a7, .inl (cI, 26, .inl SZ)), (a8, .inl (cI, 25, .inl LN))] H := hP
  have hD : va_D A [(m0, .inr (2, [.int th, .int (nI wn), .int (nI hn), .int (nI q0), .int wv, .ref a1, .ref a2, .ref a3, .ref a4, .ref a5, .ref a6, .ref a7, .ref a8, .int mn])), (a1, .inl (cI, 25, .inl (kI K0))), (a2, .inl (cI, 25, .inl NX)), (a3, .inl (cZ, 25, .inl (zB T0))), (a4, .inl (cI, 100, .inl (bI wn hn))), (a5, .inl (cI, 25, .inl KP)), (a6, .inl (cI, 25, .inl RG)), (a7, .inl (cI, 26, .inl SZ)), (a8, .inl (cI, 25, .inl LN))] := hD
  have hp_4 : r_1 = if pOn x0 y0 (nI wn) (nI hn) then 1 else 0 := hp_4
  refine z_topi (y := if pOn x0 y0 (nI wn) (nI hn) then 1 else 0) hp_4 ?_
  refine lv_if_eq (tgt := 14) hx hb dX2_turnStubborn_7 (by decide) (fun c_7 => ?_) (fun c_7 => ?_)
  · skip
    refine lv_iconst (v := 1) hx hb dX2_turnStubborn_14 (by decide) ?_
    refine va_put (D := (dC, dI)) (ci := 2) (v := .int 1) (ty := .int) (C := RX2) (T := TX2) (N := 14) hx hb hts iX2_turnStubborn_X2 tyX2 tyX2_ok nmX2 hown hK hP hD hS 0 rfl rfl 0 (by decide) (hts (.fieldLink RX2 43 "ColourTideModel" "thrown" "I") (List.mem_of_getElem? (i := 1) rfl)) (fun _ h9 => h9) rfl (by decide +kernel) rfl rfl (Nat.le_of_ble_eq_true rfl) dX2_turnStubborn_15 (fun H locs hP hD hS => ?_)
    have hP : va_P (dC, dI) vwCl [(m0, .inr (2, [.int 1, .int (nI wn), .int (nI hn), .int (nI q0), .int wv, .ref a1, .ref a2, .ref a3, .ref a4, .ref a5, .ref a6, .ref a7, .ref a8, .int mn])), (a1, .inl (cI, 25, .inl (kI K0))), (a2, .inl (cI, 25, .inl NX)), (a3, .inl (cZ, 25, .inl (zB T0))), (a4, .inl (cI, 100, .inl (bI wn hn))), (a5, .inl (cI, 25, .inl KP)), (a6, .inl (cI, 25, .inl RG)), (a7, .inl (cI, 26, .inl SZ)), (a8, .inl (cI, 25, .inl LN))] H := hP
    have hD : va_D A [(m0, .inr (2, [.int 1, .int (nI wn), .int (nI hn), .int (nI q0), .int wv, .ref a1, .ref a2, .ref a3, .ref a4, .ref a5, .ref a6, .ref a7, .ref a8, .int mn])), (a1, .inl (cI, 25, .inl (kI K0))), (a2, .inl (cI, 25, .inl NX)), (a3, .inl (cZ, 25, .inl (zB T0))), (a4, .inl (cI, 100, .inl (bI wn hn))), (a5, .inl (cI, 25, .inl KP)), (a6, .inl (cI, 25, .inl RG)), (a7, .inl (cI, 26, .inl SZ)), (a8, .inl (cI, 25, .inl LN))] := hD
    refine lv_aload_n hx hb dX2_turnStubborn_18 rfl (lv_at hl 0 rfl) ?_
    refine va_get (D := (dC, dI)) (ci := 2) (v := .int 1) (C := RX2) (T := TX2) (N := 14) hx hb hts iX2_turnStubborn_X2 hown hK hP 0 rfl rfl 0 (by decide) (hts (.fieldLink RX2 43 "ColourTideModel" "thrown" "I") (List.mem_of_getElem? (i := 1) rfl)) (fun _ h9 => h9) rfl dX2_turnStubborn_19 ?_
    refine lv_if_eq (tgt := 27) hx hb dX2_turnStubborn_22 (by decide) (fun c_22 => ?_) (fun c_22 => ?_)
    · skip
      have n_22 := zc_eq_t (a := 1) (b := 0) (by omega) (by omega) c_22
      exact absurd n_22 (by omega)
    · skip
      have n_22 := zc_eq_f (a := 1) (b := 0) (by omega) (by omega) c_22
      refine lv_iconst (v := 0) hx hb dX2_turnStubborn_25 (by decide) ?_
      rw [← hQ]
      exact z_zret (W1 := (fun (_ : Unit) => [(m0, .inr (2, [.int 1, .int (nI wn), .int (nI hn), .int (nI q0), .int wv, .ref a1, .ref a2, .ref a3, .ref a4, .ref a5, .ref a6, .ref a7, .ref a8, .int mn])), (a1, .inl (cI, 25, .inl (kI K0))), (a2, .inl (cI, 25, .inl NX)), (a3, .inl (cZ, 25, .inl (zB T0))), (a4, .inl (cI, 100, .inl (bI wn hn))), (a5, .inl (cI, 25, .inl KP)), (a6, .inl (cI, 25, .inl RG)), (a7, .inl (cI, 26, .inl SZ)), (a8, .inl (cI, 25, .inl LN))])) hx hb hr hlocks (by decide +kernel) hP hS () (rfl) (trivial) dX2_turnStubborn_26
  · skip
    exact absurd (z_if1 c_7) hno
abbrev rmX2_setNeed : Room := { frames := 1, cells := 0, slots := 0, locals := 22 }
set_option maxRecDepth 20000 in
theorem iX2_setNeed_X2 : ∀ w ∈ wsX20, w ∈ wsX2_setNeed := fun w h => (goodIn_r (big := wsX2_setNeed) wsX20 [11, 12, 13, 14, 15, 16, 17, 18, 19, 20, 21, 22, 23, 24] (by decide +kernel) (by decide +kernel) w h).1
set_option maxHeartbeats 4000000 in
set_option maxRecDepth 100000 in
theorem m_X2_setNeed_ok (l : Launch) (dC : Nat → ClassId) (dI : Nat → Nat → Nat) (cI cZ cJ cD : ClassId) (m0 : Nat) (a1 : Nat) (a2 : Nat) (a3 : Nat) (a4 : Nat) (a5 : Nat) (a6 : Nat) (a7 : Nat) (a8 : Nat) (th : Int32) (wn : Nat) (hn : Nat) (q0 : Nat) (wv : Int32) (K0 : Nat → Nat) (NX : Nat → Int32) (T0 : Nat → Bool) (KP : Nat → Int32) (RG : Nat → Int32) (SZ : Nat → Int32) (LN : Nat → Int32) (mn : Int32) (n1 : Nat) (g : gok wn hn) (hK4 : ∀ c, K0 c ≤ 4) (hn1 : 1 ≤ n1 ∧ n1 ≤ 4) : zI l (dC, dI) (wT cI cZ cJ cD) yX2_setNeed wsX2_setNeed rmX2_setNeed [(m0, .inr (2, [.int th, .int (nI wn), .int (nI hn), .int (nI q0), .int wv, .ref a1, .ref a2, .ref a3, .ref a4, .ref a5, .ref a6, .ref a7, .ref a8, .int mn])), (a1, .inl (cI, 25, .inl (kI K0))), (a2, .inl (cI, 25, .inl NX)), (a3, .inl (cZ, 25, .inl (zB T0))), (a4, .inl (cI, 100, .inl (bI wn hn))), (a5, .inl (cI, 25, .inl KP)), (a6, .inl (cI, 25, .inl RG)), (a7, .inl (cI, 26, .inl SZ)), (a8, .inl (cI, 25, .inl LN))] [.ref m0, .int (nI n1)] (fun (_ : Unit) => [(m0, .inr (2, [.int 0, .int (nI wn), .int (nI hn), .int (nI n1), .int wv, .ref a1, .ref a2, .ref a3, .ref a4, .ref a5, .ref a6, .ref a7, .ref a8, .int mn])), (a1, .inl (cI, 25, .inl (kI K0))), (a2, .inl (cI, 25, .inl NX)), (a3, .inl (cZ, 25, .inl (zB T0))), (a4, .inl (cI, 100, .inl (bI wn hn))), (a5, .inl (cI, 25, .inl KP)), (a6, .inl (cI, 25, .inl RG)), (a7, .inl (cI, 26, .inl SZ)), (a8, .inl (cI, 25, .inl LN))]) (fun (r : Int32) (_ : Unit) => r = nI q0) := by
  intro sz
  refine Met.ofW (cc := cX2_setNeed) (maxL := 3) (ret := (some .int)) (by decide) rfl ?_
  intro p e s m args below meth c s₁ B hml hv
  obtain ⟨ha, hsz, hP, hK, hD0, hN⟩ := hv
  have hx := B.exec
  have hb := B.bytes
  have hr := B.returns
  have hts := atoms_spec (ws := wsX2_setNeed) B.pre
  have hown : s.vm.findClass RX2 = some m.cls := findClass_of_methodNamed B.named
  have hlocks := B.notSynchronized
  subst hsz
  have hD := hD0.self (sz := s.heap.size)
  generalize hAe : va_A [(m0, .inr (2, [.int th, .int (nI wn), .int (nI hn), .int (nI q0), .int wv, .ref a1, .ref a2, .ref a3, .ref a4, .ref a5, .ref a6, .ref a7, .ref a8, .int mn])), (a1, .inl (cI, 25, .inl (kI K0))), (a2, .inl (cI, 25, .inl NX)), (a3, .inl (cZ, 25, .inl (zB T0))), (a4, .inl (cI, 100, .inl (bI wn hn))), (a5, .inl (cI, 25, .inl KP)), (a6, .inl (cI, 25, .inl RG)), (a7, .inl (cI, 26, .inl SZ)), (a8, .inl (cI, 25, .inl LN))] s.heap.size = A at hD ⊢
  have hA : ∀ q : Nat, s.heap.size ≤ q → A q := fun q h => by rw [← hAe]; exact Or.inr h
  have hS : va_S A s.heap s.heap [] := va_S.rf
  generalize hQ : MQ below (va_Qi (fun (r : Int32) (_ : Unit) => r = nI q0) (fun u t => va_P (dC, dI) vwCl ((fun (_ : Unit) => [(m0, .inr (2, [.int 0, .int (nI wn), .int (nI hn), .int (nI n1), .int wv, .ref a1, .ref a2, .ref a3, .ref a4, .ref a5, .ref a6, .ref a7, .ref a8, .int mn])), (a1, .inl (cI, 25, .inl (kI K0))), (a2, .inl (cI, 25, .inl NX)), (a3, .inl (cZ, 25, .inl (zB T0))), (a4, .inl (cI, 100, .inl (bI wn hn))), (a5, .inl (cI, 25, .inl KP)), (a6, .inl (cI, 25, .inl RG)), (a7, .inl (cI, 26, .inl SZ)), (a8, .inl (cI, 25, .inl LN))]) u) t.heap) A) args s 0 0 A = Q
  have F9 : CallFix p m c cX2_setNeed 3 s args wsX2_setNeed RX2 := ⟨hx, hb, hml, hown, hts⟩
  obtain ⟨g1, g2, g3, g4⟩ := id g
  have g5 := wh_le g
  have g6 := wh_pos g
  refine z_entry (R := rmX2_setNeed) ha (Nat.le_of_ble_eq_true rfl) (fun ls hl => ?_)
  have hl : lv_has ls 3 [(0, .ref m0), (1, .int (nI n1))] := hl
  refine lv_aload_n hx hb dX2_setNeed_0 rfl (lv_at hl 0 rfl) ?_
  refine lv_iconst (v := 0) hx hb dX2_setNeed_1 (by decide) ?_
  refine va_put (D := (dC, dI)) (ci := 2) (v := .int 0) (ty := .int) (C := RX2) (T := TX2) (N := 14) hx hb hts iX2_setNeed_X2 tyX2 tyX2_ok nmX2 hown hK hP hD hS 0 rfl rfl 0 (by decide) (hts (.fieldLink RX2 43 "ColourTideModel" "thrown" "I") (List.mem_of_getElem? (i := 1) rfl)) (fun _ h9 => h9) rfl (by decide +kernel) rfl rfl (Nat.le_of_ble_eq_true rfl) dX2_setNeed_2 (fun H locs hP hD hS => ?_)
  have hP : va_P (dC, dI) vwCl [(m0, .inr (2, [.int 0, .int (nI wn), .int (nI hn), .int (nI q0), .int wv, .ref a1, .ref a2, .ref a3, .ref a4, .ref a5, .ref a6, .ref a7, .ref a8, .int mn])), (a1, .inl (cI, 25, .inl (kI K0))), (a2, .inl (cI, 25, .inl NX)), (a3, .inl (cZ, 25, .inl (zB T0))), (a4, .inl (cI, 100, .inl (bI wn hn))), (a5, .inl (cI, 25, .inl KP)), (a6, .inl (cI, 25, .inl RG)), (a7, .inl (cI, 26, .inl SZ)), (a8, .inl (cI, 25, .inl LN))] H := hP
  have hD : va_D A [(m0, .inr (2, [.int 0, .int (nI wn), .int (nI hn), .int (nI q0), .int wv, .ref a1, .ref a2, .ref a3, .ref a4, .ref a5, .ref a6, .ref a7, .ref a8, .int mn])), (a1, .inl (cI, 25, .inl (kI K0))), (a2, .inl (cI, 25, .inl NX)), (a3, .inl (cZ, 25, .inl (zB T0))), (a4, .inl (cI, 100, .inl (bI wn hn))), (a5, .inl (cI, 25, .inl KP)), (a6, .inl (cI, 25, .inl RG)), (a7, .inl (cI, 26, .inl SZ)), (a8, .inl (cI, 25, .inl LN))] := hD
  refine lv_iload_n hx hb dX2_setNeed_5 rfl (lv_at hl 1 rfl) ?_
  refine lv_iconst (v := 1) hx hb dX2_setNeed_6 (by decide) ?_
  refine lv_iconst (v := 4) hx hb dX2_setNeed_7 (by decide) ?_
  refine z_callSi (As := [.int (nI n1), .int 1, .int 4]) (rest := []) F9 (m_X2_isIn l dC dI cI cZ cJ cD (nI n1) 1 4 ) (va_cwS 3 hts gX2_setNeed_X2_isIn rfl rfl rfl (by decide +kernel) ⟨Nat.le_of_ble_eq_true rfl, Nat.le_of_ble_eq_true rfl⟩) hK hN hP hD hS hA rfl hl.1 rfl (Nat.le_of_ble_eq_true rfl) dX2_setNeed_8 ⟨Nat.zero_le _, Nat.zero_le _⟩ (fun r_1 H locs hp_8 hP hS => ?_)
  have hp_8 : r_1 = if pIn (nI n1) 1 4 then 1 else 0 := hp_8
  refine z_topi (y := if pIn (nI n1) 1 4 then 1 else 0) hp_8 ?_
  refine lv_if_ne (tgt := 20) hx hb dX2_setNeed_11 (by decide) (fun c_11 => ?_) (fun c_11 => ?_)
  · skip
    refine lv_aload_n hx hb dX2_setNeed_20 rfl (lv_at hl 0 rfl) ?_
    refine va_get (D := (dC, dI)) (ci := 2) (v := .int (nI q0)) (C := RX2) (T := TX2) (N := 14) hx hb hts iX2_setNeed_X2 hown hK hP 0 rfl rfl 3 (by decide) (hts (.fieldLink RX2 7 "ColourTideModel" "need" "I") (List.mem_of_getElem? (i := 2) rfl)) (fun _ h9 => h9) rfl dX2_setNeed_21 ?_
    refine lv_istore_n (lv' := [(2, .int (nI q0)), (0, .ref m0), (1, .int (nI n1))]) hx hb dX2_setNeed_24 rfl hl (by decide) rfl (fun ls hl => ?_)
    refine lv_aload_n hx hb dX2_setNeed_25 rfl (lv_at hl 1 rfl) ?_
    refine lv_iload_n hx hb dX2_setNeed_26 rfl (lv_at hl 2 rfl) ?_
    refine va_put (D := (dC, dI)) (ci := 2) (v := .int (nI n1)) (ty := .int) (C := RX2) (T := TX2) (N := 14) hx hb hts iX2_setNeed_X2 tyX2 tyX2_ok nmX2 hown hK hP hD hS 0 rfl rfl 3 (by decide) (hts (.fieldLink RX2 7 "ColourTideModel" "need" "I") (List.mem_of_getElem? (i := 2) rfl)) (fun _ h9 => h9) rfl (by decide +kernel) rfl rfl (Nat.le_of_ble_eq_true rfl) dX2_setNeed_27 (fun H locs hP hD hS => ?_)
    have hP : va_P (dC, dI) vwCl [(m0, .inr (2, [.int 0, .int (nI wn), .int (nI hn), .int (nI n1), .int wv, .ref a1, .ref a2, .ref a3, .ref a4, .ref a5, .ref a6, .ref a7, .ref a8, .int mn])), (a1, .inl (cI, 25, .inl (kI K0))), (a2, .inl (cI, 25, .inl NX)), (a3, .inl (cZ, 25, .inl (zB T0))), (a4, .inl (cI, 100, .inl (bI wn hn))), (a5, .inl (cI, 25, .inl KP)), (a6, .inl (cI, 25, .inl RG)), (a7, .inl (cI, 26, .inl SZ)), (a8, .inl (cI, 25, .inl LN))] H := hP
    have hD : va_D A [(m0, .inr (2, [.int 0, .int (nI wn), .int (nI hn), .int (nI n1), .int wv, .ref a1, .ref a2, .ref a3, .ref a4, .ref a5, .ref a6, .ref a7, .ref a8, .int mn])), (a1, .inl (cI, 25, .inl (kI K0))), (a2, .inl (cI, 25, .inl NX)), (a3, .inl (cZ, 25, .inl (zB T0))), (a4, .inl (cI, 100, .inl (bI wn hn))), (a5, .inl (cI, 25, .inl KP)), (a6, .inl (cI, 25, .inl RG)), (a7, .inl (cI, 26, .inl SZ)), (a8, .inl (cI, 25, .inl LN))] := hD
    refine lv_iload_n hx hb dX2_setNeed_30 rfl (lv_at hl 0 rfl) ?_
    rw [← hQ]
    exact z_iret (W1 := (fun (_ : Unit) => [(m0, .inr (2, [.int 0, .int (nI wn), .int (nI hn), .int (nI n1), .int wv, .ref a1, .ref a2, .ref a3, .ref a4, .ref a5, .ref a6, .ref a7, .ref a8, .int mn])), (a1, .inl (cI, 25, .inl (kI K0))), (a2, .inl (cI, 25, .inl NX)), (a3, .inl (cZ, 25, .inl (zB T0))), (a4, .inl (cI, 100, .inl (bI wn hn))), (a5, .inl (cI, 25, .inl KP)), (a6, .inl (cI, 25, .inl RG)), (a7, .inl (cI, 26, .inl SZ)), (a8, .inl (cI, 25, .inl LN))])) hx hb hr hlocks hP hS () (rfl) (rfl) dX2_setNeed_31
  · skip
    exact absurd (pin_ok (lo := 1) (hi := 4) hn1.1 hn1.2 (by omega)) (z_if0 c_11)
set_option maxHeartbeats 4000000 in
set_option maxRecDepth 100000 in
theorem m_X2_setNeed_no (l : Launch) (dC : Nat → ClassId) (dI : Nat → Nat → Nat) (cI cZ cJ cD : ClassId) (m0 : Nat) (a1 : Nat) (a2 : Nat) (a3 : Nat) (a4 : Nat) (a5 : Nat) (a6 : Nat) (a7 : Nat) (a8 : Nat) (th : Int32) (wn : Nat) (hn : Nat) (q0 : Nat) (wv : Int32) (K0 : Nat → Nat) (NX : Nat → Int32) (T0 : Nat → Bool) (KP : Nat → Int32) (RG : Nat → Int32) (SZ : Nat → Int32) (LN : Nat → Int32) (mn : Int32) (x0 : Int32) (g : gok wn hn) (hK4 : ∀ c, K0 c ≤ 4) (hno : ¬ pIn x0 1 4) : zI l (dC, dI) (wT cI cZ cJ cD) yX2_setNeed wsX2_setNeed rmX2_setNeed [(m0, .inr (2, [.int th, .int (nI wn), .int (nI hn), .int (nI q0), .int wv, .ref a1, .ref a2, .ref a3, .ref a4, .ref a5, .ref a6, .ref a7, .ref a8, .int mn])), (a1, .inl (cI, 25, .inl (kI K0))), (a2, .inl (cI, 25, .inl NX)), (a3, .inl (cZ, 25, .inl (zB T0))), (a4, .inl (cI, 100, .inl (bI wn hn))), (a5, .inl (cI, 25, .inl KP)), (a6, .inl (cI, 25, .inl RG)), (a7, .inl (cI, 26, .inl SZ)), (a8, .inl (cI, 25, .inl LN))] [.ref m0, .int x0] (fun (_ : Unit) => [(m0, .inr (2, [.int 1, .int (nI wn), .int (nI hn), .int (nI q0), .int wv, .ref a1, .ref a2, .ref a3, .ref a4, .ref a5, .ref a6, .ref a7, .ref a8, .int mn])), (a1, .inl (cI, 25, .inl (kI K0))), (a2, .inl (cI, 25, .inl NX)), (a3, .inl (cZ, 25, .inl (zB T0))), (a4, .inl (cI, 100, .inl (bI wn hn))), (a5, .inl (cI, 25, .inl KP)), (a6, .inl (cI, 25, .inl RG)), (a7, .inl (cI, 26, .inl SZ)), (a8, .inl (cI, 25, .inl LN))]) (fun (r : Int32) (_ : Unit) => True) := by
  intro sz
  refine Met.ofW (cc := cX2_setNeed) (maxL := 3) (ret := (some .int)) (by decide) rfl ?_
  intro p e s m args below meth c s₁ B hml hv
  obtain ⟨ha, hsz, hP, hK, hD0, hN⟩ := hv
  have hx := B.exec
  have hb := B.bytes
  have hr := B.returns
  have hts := atoms_spec (ws := wsX2_setNeed) B.pre
  have hown : s.vm.findClass RX2 = some m.cls := findClass_of_methodNamed B.named
  have hlocks := B.notSynchronized
  subst hsz
  have hD := hD0.self (sz := s.heap.size)
  generalize hAe : va_A [(m0, .inr (2, [.int th, .int (nI wn), .int (nI hn), .int (nI q0), .int wv, .ref a1, .ref a2, .ref a3, .ref a4, .ref a5, .ref a6, .ref a7, .ref a8, .int mn])), (a1, .inl (cI, 25, .inl (kI K0))), (a2, .inl (cI, 25, .inl NX)), (a3, .inl (cZ, 25, .inl (zB T0))), (a4, .inl (cI, 100, .inl (bI wn hn))), (a5, .inl (cI, 25, .inl KP)), (a6, .inl (cI, 25, .inl RG)), (a7, .inl (cI, 26, .inl SZ)), (a8, .inl (cI, 25, .inl LN))] s.heap.size = A at hD ⊢
  have hA : ∀ q : Nat, s.heap.size ≤ q → A q := fun q h => by rw [← hAe]; exact Or.inr h
  have hS : va_S A s.heap s.heap [] := va_S.rf
  generalize hQ : MQ below (va_Qi (fun (r : Int32) (_ : Unit) => True) (fun u t => va_P (dC, dI) vwCl ((fun (_ : Unit) => [(m0, .inr (2, [.int 1, .int (nI wn), .int (nI hn), .int (nI q0), .int wv, .ref a1, .ref a2, .ref a3, .ref a4, .ref a5, .ref a6, .ref a7, .ref a8, .int mn])), (a1, .inl (cI, 25, .inl (kI K0))), (a2, .inl (cI, 25, .inl NX)), (a3, .inl (cZ, 25, .inl (zB T0))), (a4, .inl (cI, 100, .inl (bI wn hn))), (a5, .inl (cI, 25, .inl KP)), (a6, .inl (cI, 25, .inl RG)), (a7, .inl (cI, 26, .inl SZ)), (a8, .inl (cI, 25, .inl LN))]) u) t.heap) A) args s 0 0 A = Q
  have F9 : CallFix p m c cX2_setNeed 3 s args wsX2_setNeed RX2 := ⟨hx, hb, hml, hown, hts⟩
  obtain ⟨g1, g2, g3, g4⟩ := id g
  have g5 := wh_le g
  have g6 := wh_pos g
  refine z_entry (R := rmX2_setNeed) ha (Nat.le_of_ble_eq_true rfl) (fun ls hl => ?_)
  have hl : lv_has ls 3 [(0, .ref m0), (1, .int x0)] := hl
  refine lv_aload_n hx hb dX2_setNeed_0 rfl (lv_at hl 0 rfl) ?_
  refine lv_iconst (v := 0) hx hb dX2_setNeed_1 (by decide) ?_
  refine va_put (D := (dC, dI)) (ci := 2) (v := .int 0) (ty := .int) (C := RX2) (T := TX2) (N := 14) hx hb hts iX2_setNeed_X2 tyX2 tyX2_ok nmX2 hown hK hP hD hS 0 rfl rfl 0 (by decide) (hts (.fieldLink RX2 43 "ColourTideModel" "thrown" "I") (List.mem_of_getElem? (i := 1) rfl)) (fun _ h9 => h9) rfl (by decide +kernel) rfl rfl (Nat.le_of_ble_eq_true rfl) dX2_setNeed_2 (fun H locs hP hD hS => ?_)
  have hP : va_P (dC, dI) vwCl [(m0, .inr (2, [.int 0, .int (nI wn), .int (nI hn), .int (nI q0), .int wv, .ref a1, .ref a2, .ref a3, .ref a4, .ref a5, .ref a6, .ref a7, .ref a8, .int mn])), (a1, .inl (cI, 25, .inl (kI K0))), (a2, .inl (cI, 25, .inl NX)), (a3, .inl (cZ, 25, .inl (zB T0))), (a4, .inl (cI, 100, .inl (bI wn hn))), (a5, .inl (cI, 25, .inl KP)), (a6, .inl (cI, 25, .inl RG)), (a7, .inl (cI, 26, .inl SZ)), (a8, .inl (cI, 25, .inl LN))] H := hP
  have hD : va_D A [(m0, .inr (2, [.int 0, .int (nI wn), .int (nI hn), .int (nI q0), .int wv, .ref a1, .ref a2, .ref a3, .ref a4, .ref a5, .ref a6, .ref a7, .ref a8, .int mn])), (a1, .inl (cI, 25, .inl (kI K0))), (a2, .inl (cI, 25, .inl NX)), (a3, .inl (cZ, 25, .inl (zB T0))), (a4, .inl (cI, 100, .inl (bI wn hn))), (a5, .inl (cI, 25, .inl KP)), (a6, .inl (cI, 25, .inl RG)), (a7, .inl (cI, 26, .inl SZ)), (a8, .inl (cI, 25, .inl LN))] := hD
  refine lv_iload_n hx hb dX2_setNeed_5 rfl (lv_at hl 1 rfl) ?_
  refine lv_iconst (v := 1) hx hb dX2_setNeed_6 (by decide) ?_
  refine lv_iconst (v := 4) hx hb dX2_setNeed_7 (by decide) ?_
  refine z_callSi (As := [.int x0, .int 1, .int 4]) (rest := []) F9 (m_X2_isIn l dC dI cI cZ cJ cD x0 1 4 ) (va_cwS 3 hts gX2_setNeed_X2_isIn rfl rfl rfl (by decide +kernel) ⟨Nat.le_of_ble_eq_true rfl, Nat.le_of_ble_eq_true rfl⟩) hK hN hP hD hS hA rfl hl.1 rfl (Nat.le_of_ble_eq_true rfl) dX2_setNeed_8 ⟨Nat.zero_le _, Nat.zero_le _⟩ (fun r_1 H locs hp_8 hP hS => ?_)
  have hp_8 : r_1 = if pIn x0 1 4 then 1 else 0 := hp_8
  refine z_topi (y := if pIn x0 1 4 then 1 else 0) hp_8 ?_
  refine lv_if_ne (tgt := 20) hx hb dX2_setNeed_11 (by decide) (fun c_11 => ?_) (fun c_11 => ?_)
  · skip
    exact absurd (z_if1 c_11) hno
  · skip
    refine lv_aload_n hx hb dX2_setNeed_14 rfl (lv_at hl 0 rfl) ?_
    refine lv_iconst (v := 1) hx hb dX2_setNeed_15 (by decide) ?_
    refine z_callVi (As := [.int 1]) (rest := []) F9 (m_X2_fail l dC dI cI cZ cJ cD m0 a1 a2 a3 a4 a5 a6 a7 a8 0 wn hn q0 wv K0 NX T0 KP RG SZ LN mn 1 ) (cwV 1 hts gX2_setNeed_X2_fail rfl rfl rfl (by decide +kernel) ⟨Nat.le_of_ble_eq_true rfl, Nat.le_of_ble_eq_true rfl⟩) hK hN hP hD hS hA [0, 1, 2, 3, 4, 5, 6, 7, 8] rfl rfl (fun _ => rfl) 0 (ci := 2) rfl rfl rfl rfl hl.1 rfl (Nat.le_of_ble_eq_true rfl) dX2_setNeed_16 ⟨Nat.zero_le _, Nat.zero_le _⟩ (fun r_2 u H locs hp_16 hP hD hS => ?_)
    have hP : va_P (dC, dI) vwCl [(m0, .inr (2, [.int 1, .int (nI wn), .int (nI hn), .int (nI q0), .int wv, .ref a1, .ref a2, .ref a3, .ref a4, .ref a5, .ref a6, .ref a7, .ref a8, .int mn])), (a1, .inl (cI, 25, .inl (kI K0))), (a2, .inl (cI, 25, .inl NX)), (a3, .inl (cZ, 25, .inl (zB T0))), (a4, .inl (cI, 100, .inl (bI wn hn))), (a5, .inl (cI, 25, .inl KP)), (a6, .inl (cI, 25, .inl RG)), (a7, .inl (cI, 26, .inl SZ)), (a8, .inl (cI, 25, .inl LN))] H := hP
    have hD : va_D A [(m0, .inr (2, [.int 1, .int (nI wn), .int (nI hn), .int (nI q0), .int wv, .ref a1, .ref a2, .ref a3, .ref a4, .ref a5, .ref a6, .ref a7, .ref a8, .int mn])), (a1, .inl (cI, 25, .inl (kI K0))), (a2, .inl (cI, 25, .inl NX)), (a3, .inl (cZ, 25, .inl (zB T0))), (a4, .inl (cI, 100, .inl (bI wn hn))), (a5, .inl (cI, 25, .inl KP)), (a6, .inl (cI, 25, .inl RG)), (a7, .inl (cI, 26, .inl SZ)), (a8, .inl (cI, 25, .inl LN))] := hD
    have hp_16 : r_2 = 0 := hp_16
    refine z_topi (y := 0) hp_16 ?_
    rw [← hQ]
    exact z_iret (W1 := (fun (_ : Unit) => [(m0, .inr (2, [.int 1, .int (nI wn), .int (nI hn), .int (nI q0), .int wv, .ref a1, .ref a2, .ref a3, .ref a4, .ref a5, .ref a6, .ref a7, .ref a8, .int mn])), (a1, .inl (cI, 25, .inl (kI K0))), (a2, .inl (cI, 25, .inl NX)), (a3, .inl (cZ, 25, .inl (zB T0))), (a4, .inl (cI, 100, .inl (bI wn hn))), (a5, .inl (cI, 25, .inl KP)), (a6, .inl (cI, 25, .inl RG)), (a7, .inl (cI, 26, .inl SZ)), (a8, .inl (cI, 25, .inl LN))])) hx hb hr hlocks hP hS () (rfl) (trivial) dX2_setNeed_19
abbrev rmX2_pass : Room := { frames := 3, cells := 0, slots := 0, locals := 72 }
set_option maxRecDepth 20000 in
theorem iX2_pass_X2 : ∀ w ∈ wsX20, w ∈ wsX2_pass := fun w h => (goodIn_r (big := wsX2_pass) wsX20 [38, 39, 40, 41, 42, 43, 44, 45, 46, 47, 48, 49, 50, 51] (by decide +kernel) (by decide +kernel) w h).1
set_option maxHeartbeats 4000000 in
set_option maxRecDepth 100000 in
theorem m_X2_pass_ok (l : Launch) (dC : Nat → ClassId) (dI : Nat → Nat → Nat) (cI cZ cJ cD : ClassId) (m0 : Nat) (a1 : Nat) (a2 : Nat) (a3 : Nat) (a4 : Nat) (a5 : Nat) (a6 : Nat) (a7 : Nat) (a8 : Nat) (th : Int32) (wn : Nat) (hn : Nat) (q0 : Nat) (wv : Int32) (K0 : Nat → Nat) (NX : Nat → Int32) (T0 : Nat → Bool) (KP : Nat → Int32) (RG : Nat → Int32) (SZ : Nat → Int32) (LN : Nat → Int32) (mn : Int32) (n9 : Nat) (g : gok wn hn) (hK4 : ∀ c, K0 c ≤ 4) (hq : 1 ≤ q0 ∧ q0 ≤ 4) (hn9 : 1 ≤ n9 ∧ n9 ≤ 40) : zI l (dC, dI) (wT cI cZ cJ cD) yX2_pass wsX2_pass rmX2_pass [(m0, .inr (2, [.int th, .int (nI wn), .int (nI hn), .int (nI q0), .int wv, .ref a1, .ref a2, .ref a3, .ref a4, .ref a5, .ref a6, .ref a7, .ref a8, .int mn])), (a1, .inl (cI, 25, .inl (kI K0))), (a2, .inl (cI, 25, .inl NX)), (a3, .inl (cZ, 25, .inl (zB T0))), (a4, .inl (cI, 100, .inl (bI wn hn))), (a5, .inl (cI, 25, .inl KP)), (a6, .inl (cI, 25, .inl RG)), (a7, .inl (cI, 26, .inl SZ)), (a8, .inl (cI, 25, .inl LN))] [.ref m0, .int (nI n9)] (fun (u : (Nat → Int32)) => [(m0, .inr (2, [.int 0, .int (nI wn), .int (nI hn), .int (nI q0), .int (wv + nI n9), .ref a1, .ref a2, .ref a3, .ref a4, .ref a5, .ref a6, .ref a7, .ref a8, .int mn])), (a1, .inl (cI, 25, .inl (kI (wavN wn hn q0 T0 K0 n9)))), (a2, .inl (cI, 25, .inl u)), (a3, .inl (cZ, 25, .inl (zB T0))), (a4, .inl (cI, 100, .inl (bI wn hn))), (a5, .inl (cI, 25, .inl KP)), (a6, .inl (cI, 25, .inl RG)), (a7, .inl (cI, 26, .inl SZ)), (a8, .inl (cI, 25, .inl LN))]) (fun (r : Int32) (u : (Nat → Int32)) => r = nI (lchg wn hn q0 T0 K0 n9)) := by
  intro sz
  refine Met.ofW (cc := cX2_pass) (maxL := 4) (ret := (some .int)) (by decide) rfl ?_
  intro p e s m args below meth c s₁ B hml hv
  obtain ⟨ha, hsz, hP, hK, hD0, hN⟩ := hv
  have hx := B.exec
  have hb := B.bytes
  have hr := B.returns
  have hts := atoms_spec (ws := wsX2_pass) B.pre
  have hown : s.vm.findClass RX2 = some m.cls := findClass_of_methodNamed B.named
  have hlocks := B.notSynchronized
  subst hsz
  have hD := hD0.self (sz := s.heap.size)
  generalize hAe : va_A [(m0, .inr (2, [.int th, .int (nI wn), .int (nI hn), .int (nI q0), .int wv, .ref a1, .ref a2, .ref a3, .ref a4, .ref a5, .ref a6, .ref a7, .ref a8, .int mn])), (a1, .inl (cI, 25, .inl (kI K0))), (a2, .inl (cI, 25, .inl NX)), (a3, .inl (cZ, 25, .inl (zB T0))), (a4, .inl (cI, 100, .inl (bI wn hn))), (a5, .inl (cI, 25, .inl KP)), (a6, .inl (cI, 25, .inl RG)), (a7, .inl (cI, 26, .inl SZ)), (a8, .inl (cI, 25, .inl LN))] s.heap.size = A at hD ⊢
  have hA : ∀ q : Nat, s.heap.size ≤ q → A q := fun q h => by rw [← hAe]; exact Or.inr h
  have hS : va_S A s.heap s.heap [] := va_S.rf
  generalize hQ : MQ below (va_Qi (fun (r : Int32) (u : (Nat → Int32)) => r = nI (lchg wn hn q0 T0 K0 n9)) (fun u t => va_P (dC, dI) vwCl ((fun (u : (Nat → Int32)) => [(m0, .inr (2, [.int 0, .int (nI wn), .int (nI hn), .int (nI q0), .int (wv + nI n9), .ref a1, .ref a2, .ref a3, .ref a4, .ref a5, .ref a6, .ref a7, .ref a8, .int mn])), (a1, .inl (cI, 25, .inl (kI (wavN wn hn q0 T0 K0 n9)))), (a2, .inl (cI, 25, .inl u)), (a3, .inl (cZ, 25, .inl (zB T0))), (a4, .inl (cI, 100, .inl (bI wn hn))), (a5, .inl (cI, 25, .inl KP)), (a6, .inl (cI, 25, .inl RG)), (a7, .inl (cI, 26, .inl SZ)), (a8, .inl (cI, 25, .inl LN))]) u) t.heap) A) args s 0 0 A = Q
  have F9 : CallFix p m c cX2_pass 4 s args wsX2_pass RX2 := ⟨hx, hb, hml, hown, hts⟩
  obtain ⟨g1, g2, g3, g4⟩ := id g
  have g5 := wh_le g
  have g6 := wh_pos g
  refine z_entry (R := rmX2_pass) ha (Nat.le_of_ble_eq_true rfl) (fun ls hl => ?_)
  have hl : lv_has ls 4 [(0, .ref m0), (1, .int (nI n9))] := hl
  refine lv_aload_n hx hb dX2_pass_0 rfl (lv_at hl 0 rfl) ?_
  refine lv_iconst (v := 0) hx hb dX2_pass_1 (by decide) ?_
  refine va_put (D := (dC, dI)) (ci := 2) (v := .int 0) (ty := .int) (C := RX2) (T := TX2) (N := 14) hx hb hts iX2_pass_X2 tyX2 tyX2_ok nmX2 hown hK hP hD hS 0 rfl rfl 0 (by decide) (hts (.fieldLink RX2 43 "ColourTideModel" "thrown" "I") (List.mem_of_getElem? (i := 1) rfl)) (fun _ h9 => h9) rfl (by decide +kernel) rfl rfl (Nat.le_of_ble_eq_true rfl) dX2_pass_2 (fun H locs hP hD hS => ?_)
  have hP : va_P (dC, dI) vwCl [(m0, .inr (2, [.int 0, .int (nI wn), .int (nI hn), .int (nI q0), .int wv, .ref a1, .ref a2, .ref a3, .ref a4, .ref a5, .ref a6, .ref a7, .ref a8, .int mn])), (a1, .inl (cI, 25, .inl (kI K0))), (a2, .inl (cI, 25, .inl NX)), (a3, .inl (cZ, 25, .inl (zB T0))), (a4, .inl (cI, 100, .inl (bI wn hn))), (a5, .inl (cI, 25, .inl KP)), (a6, .inl (cI, 25, .inl RG)), (a7, .inl (cI, 26, .inl SZ)), (a8, .inl (cI, 25, .inl LN))] H := hP
  have hD : va_D A [(m0, .inr (2, [.int 0, .int (nI wn), .int (nI hn), .int (nI q0), .int wv, .ref a1, .ref a2, .ref a3, .ref a4, .ref a5, .ref a6, .ref a7, .ref a8, .int mn])), (a1, .inl (cI, 25, .inl (kI K0))), (a2, .inl (cI, 25, .inl NX)), (a3, .inl (cZ, 25, .inl (zB T0))), (a4, .inl (cI, 100, .inl (bI wn hn))), (a5, .inl (cI, 25, .inl KP)), (a6, .inl (cI, 25, .inl RG)), (a7, .inl (cI, 26, .inl SZ)), (a8, .inl (cI, 25, .inl LN))] := hD
  refine lv_iload_n hx hb dX2_pass_5 rfl (lv_at hl 1 rfl) ?_
  refine lv_iconst (v := 1) hx hb dX2_pass_6 (by decide) ?_
  refine lv_bipush (v := 40) hx hb dX2_pass_7 (by decide +kernel) ?_
  refine z_callSi (As := [.int (nI n9), .int 1, .int 40]) (rest := []) F9 (m_X2_isIn l dC dI cI cZ cJ cD (nI n9) 1 40 ) (va_cwS 3 hts gX2_pass_X2_isIn rfl rfl rfl (by decide +kernel) ⟨Nat.le_of_ble_eq_true rfl, Nat.le_of_ble_eq_true rfl⟩) hK hN hP hD hS hA rfl hl.1 rfl (Nat.le_of_ble_eq_true rfl) dX2_pass_9 ⟨Nat.zero_le _, Nat.zero_le _⟩ (fun r_1 H locs hp_9 hP hS => ?_)
  have hp_9 : r_1 = if pIn (nI n9) 1 40 then 1 else 0 := hp_9
  refine z_topi (y := if pIn (nI n9) 1 40 then 1 else 0) hp_9 ?_
  refine lv_if_ne (tgt := 21) hx hb dX2_pass_12 (by decide) (fun c_12 => ?_) (fun c_12 => ?_)
  · skip
    refine lv_iconst (v := 0) hx hb dX2_pass_21 (by decide) ?_
    refine lv_istore_n (lv' := [(2, .int 0), (0, .ref m0), (1, .int (nI n9))]) hx hb dX2_pass_22 rfl hl (by decide) rfl (fun ls hl => ?_)
    refine lv_iconst (v := 0) hx hb dX2_pass_23 (by decide) ?_
    refine lv_istore_n (lv' := [(3, .int 0), (2, .int 0), (0, .ref m0), (1, .int (nI n9))]) hx hb dX2_pass_24 rfl hl (by decide) rfl (fun ls hl => ?_)
    have loop_25 : ∀ (n : Nat) (i : Nat) (NX1 : Nat → Int32) (hkn : i + n = n9) (H : Heap) (locs : List Loc) (ls : Array Slot) (hP : va_P (dC, dI) vwCl [(m0, .inr (2, [.int 0, .int (nI wn), .int (nI hn), .int (nI q0), .int wv, .ref a1, .ref a2, .ref a3, .ref a4, .ref a5, .ref a6, .ref a7, .ref a8, .int mn])), (a1, .inl (cI, 25, .inl (kI (wavN wn hn q0 T0 K0 i)))), (a2, .inl (cI, 25, .inl NX1)), (a3, .inl (cZ, 25, .inl (zB T0))), (a4, .inl (cI, 100, .inl (bI wn hn))), (a5, .inl (cI, 25, .inl KP)), (a6, .inl (cI, 25, .inl RG)), (a7, .inl (cI, 26, .inl SZ)), (a8, .inl (cI, 25, .inl LN))] H) (hD : va_D A [(m0, .inr (2, [.int 0, .int (nI wn), .int (nI hn), .int (nI q0), .int wv, .ref a1, .ref a2, .ref a3, .ref a4, .ref a5, .ref a6, .ref a7, .ref a8, .int mn])), (a1, .inl (cI, 25, .inl (kI (wavN wn hn q0 T0 K0 i)))), (a2, .inl (cI, 25, .inl NX1)), (a3, .inl (cZ, 25, .inl (zB T0))), (a4, .inl (cI, 100, .inl (bI wn hn))), (a5, .inl (cI, 25, .inl KP)), (a6, .inl (cI, 25, .inl RG)), (a7, .inl (cI, 26, .inl SZ)), (a8, .inl (cI, 25, .inl LN))]) (hS : va_S A s.heap H locs) (hl : lv_has ls 4 [(0, .ref m0), (1, .int (nI n9)), (2, .int (nI (lchg wn hn q0 T0 K0 i))), (3, .int (nI i))]), W p l e rmX2_pass s m args below meth c H locs 0 0 Q (F0 m 25 ls []) := by
      intro n
      induction n with
      | zero =>
        intro i NX1 hkn  H locs ls hP hD hS hl
        refine lv_iload_n hx hb dX2_pass_25 rfl (lv_at hl 3 rfl) ?_
        refine lv_iload_n hx hb dX2_pass_26 rfl (lv_at hl 1 rfl) ?_
        refine lv_icmp_ge (tgt := 41) hx hb dX2_pass_27 (by decide) (fun c_27 => ?_) (fun c_27 => ?_)
        · skip
          have n_27 := zc_le_t (a := n9) (b := i) (by omega) (by omega) c_27
          have ei : i = n9 := by omega
          refine lv_aload_n hx hb dX2_pass_41 rfl (lv_at hl 0 rfl) ?_
          refine lv_dup hx hb dX2_pass_42 rfl ?_
          refine va_get (D := (dC, dI)) (ci := 2) (v := .int wv) (C := RX2) (T := TX2) (N := 14) hx hb hts iX2_pass_X2 hown hK hP 0 rfl rfl 4 (by decide) (hts (.fieldLink RX2 56 "ColourTideModel" "waves" "I") (List.mem_of_getElem? (i := 2) rfl)) (fun _ h9 => h9) rfl dX2_pass_43 ?_
          refine lv_iload_n hx hb dX2_pass_46 rfl (lv_at hl 1 rfl) ?_
          refine lv_iadd hx hb dX2_pass_47 ?_
          refine va_put (D := (dC, dI)) (ci := 2) (v := .int (wv + (nI n9))) (ty := .int) (C := RX2) (T := TX2) (N := 14) hx hb hts iX2_pass_X2 tyX2 tyX2_ok nmX2 hown hK hP hD hS 0 rfl rfl 4 (by decide) (hts (.fieldLink RX2 56 "ColourTideModel" "waves" "I") (List.mem_of_getElem? (i := 2) rfl)) (fun _ h9 => h9) rfl (by decide +kernel) rfl rfl (Nat.le_of_ble_eq_true rfl) dX2_pass_48 (fun H locs hP hD hS => ?_)
          have hP : va_P (dC, dI) vwCl [(m0, .inr (2, [.int 0, .int (nI wn), .int (nI hn), .int (nI q0), .int (wv + (nI n9)), .ref a1, .ref a2, .ref a3, .ref a4, .ref a5, .ref a6, .ref a7, .ref a8, .int mn])), (a1, .inl (cI, 25, .inl (kI (wavN wn hn q0 T0 K0 i)))), (a2, .inl (cI, 25, .inl NX1)), (a3, .inl (cZ, 25, .inl (zB T0))), (a4, .inl (cI, 100, .inl (bI wn hn))), (a5, .inl (cI, 25, .inl KP)), (a6, .inl (cI, 25, .inl RG)), (a7, .inl (cI, 26, .inl SZ)), (a8, .inl (cI, 25, .inl LN))] H := hP
          have hD : va_D A [(m0, .inr (2, [.int 0, .int (nI wn), .int (nI hn), .int (nI q0), .int (wv + (nI n9)), .ref a1, .ref a2, .ref a3, .ref a4, .ref a5, .ref a6, .ref a7, .ref a8, .int mn])), (a1, .inl (cI, 25, .inl (kI (wavN wn hn q0 T0 K0 i)))), (a2, .inl (cI, 25, .inl NX1)), (a3, .inl (cZ, 25, .inl (zB T0))), (a4, .inl (cI, 100, .inl (bI wn hn))), (a5, .inl (cI, 25, .inl KP)), (a6, .inl (cI, 25, .inl RG)), (a7, .inl (cI, 26, .inl SZ)), (a8, .inl (cI, 25, .inl LN))] := hD
          refine lv_iload_n hx hb dX2_pass_51 rfl (lv_at hl 2 rfl) ?_
          have hP := z_ren hP 1 rfl (kI (wavN wn hn q0 T0 K0 n9)) (fun j hj => by rw [ei])
          have hP : va_P (dC, dI) vwCl [(m0, .inr (2, [.int 0, .int (nI wn), .int (nI hn), .int (nI q0), .int (wv + (nI n9)), .ref a1, .ref a2, .ref a3, .ref a4, .ref a5, .ref a6, .ref a7, .ref a8, .int mn])), (a1, .inl (cI, 25, .inl (kI (wavN wn hn q0 T0 K0 n9)))), (a2, .inl (cI, 25, .inl NX1)), (a3, .inl (cZ, 25, .inl (zB T0))), (a4, .inl (cI, 100, .inl (bI wn hn))), (a5, .inl (cI, 25, .inl KP)), (a6, .inl (cI, 25, .inl RG)), (a7, .inl (cI, 26, .inl SZ)), (a8, .inl (cI, 25, .inl LN))] H := hP
          rw [← hQ]
          exact z_iret (W1 := (fun (u : (Nat → Int32)) => [(m0, .inr (2, [.int 0, .int (nI wn), .int (nI hn), .int (nI q0), .int (wv + nI n9), .ref a1, .ref a2, .ref a3, .ref a4, .ref a5, .ref a6, .ref a7, .ref a8, .int mn])), (a1, .inl (cI, 25, .inl (kI (wavN wn hn q0 T0 K0 n9)))), (a2, .inl (cI, 25, .inl u)), (a3, .inl (cZ, 25, .inl (zB T0))), (a4, .inl (cI, 100, .inl (bI wn hn))), (a5, .inl (cI, 25, .inl KP)), (a6, .inl (cI, 25, .inl RG)), (a7, .inl (cI, 26, .inl SZ)), (a8, .inl (cI, 25, .inl LN))])) hx hb hr hlocks hP hS NX1 (rfl) (by rw [ei]) dX2_pass_52
        · skip
          have n_27 := zc_le_f (a := n9) (b := i) (by omega) (by omega) c_27
          exact absurd n_27 (by omega)
      | succ n ih_25 =>
        intro i NX1 hkn  H locs ls hP hD hS hl
        refine lv_iload_n hx hb dX2_pass_25 rfl (lv_at hl 3 rfl) ?_
        refine lv_iload_n hx hb dX2_pass_26 rfl (lv_at hl 1 rfl) ?_
        refine lv_icmp_ge (tgt := 41) hx hb dX2_pass_27 (by decide) (fun c_27 => ?_) (fun c_27 => ?_)
        · skip
          have n_27 := zc_le_t (a := n9) (b := i) (by omega) (by omega) c_27
          exact absurd n_27 (by omega)
        · skip
          have n_27 := zc_le_f (a := n9) (b := i) (by omega) (by omega) c_27
          refine lv_aload_n hx hb dX2_pass_30 rfl (lv_at hl 0 rfl) ?_
          refine z_callVi (As := []) (rest := []) F9 (m_X2_wave l dC dI cI cZ cJ cD m0 a1 a2 a3 a4 a5 a6 a7 a8 0 wn hn q0 wv (wavN wn hn q0 T0 K0 i) NX1 T0 KP RG SZ LN mn (g) (wavN_le hq.1 hK4 i) (hq)) (cwV 0 hts gX2_pass_X2_wave rfl rfl rfl (by decide +kernel) ⟨Nat.le_of_ble_eq_true rfl, Nat.le_of_ble_eq_true rfl⟩) hK hN hP hD hS hA [0, 1, 2, 3, 4, 5, 6, 7, 8] rfl rfl (fun _ => rfl) 0 (ci := 2) rfl rfl rfl rfl hl.1 rfl (Nat.le_of_ble_eq_true rfl) dX2_pass_31 ⟨Nat.zero_le _, Nat.zero_le _⟩ (fun r_2 u H locs hp_31 hP hD hS => ?_)
          obtain ⟨NXq_3, rfl⟩ : ∃ z, z = u := ⟨_, rfl⟩
          have hP : va_P (dC, dI) vwCl [(m0, .inr (2, [.int 0, .int (nI wn), .int (nI hn), .int (nI q0), .int wv, .ref a1, .ref a2, .ref a3, .ref a4, .ref a5, .ref a6, .ref a7, .ref a8, .int mn])), (a1, .inl (cI, 25, .inl (kI (wav wn hn q0 T0 (wavN wn hn q0 T0 K0 i))))), (a2, .inl (cI, 25, .inl NXq_3)), (a3, .inl (cZ, 25, .inl (zB T0))), (a4, .inl (cI, 100, .inl (bI wn hn))), (a5, .inl (cI, 25, .inl KP)), (a6, .inl (cI, 25, .inl RG)), (a7, .inl (cI, 26, .inl SZ)), (a8, .inl (cI, 25, .inl LN))] H := hP
          have hD : va_D A [(m0, .inr (2, [.int 0, .int (nI wn), .int (nI hn), .int (nI q0), .int wv, .ref a1, .ref a2, .ref a3, .ref a4, .ref a5, .ref a6, .ref a7, .ref a8, .int mn])), (a1, .inl (cI, 25, .inl (kI (wav wn hn q0 T0 (wavN wn hn q0 T0 K0 i))))), (a2, .inl (cI, 25, .inl NXq_3)), (a3, .inl (cZ, 25, .inl (zB T0))), (a4, .inl (cI, 100, .inl (bI wn hn))), (a5, .inl (cI, 25, .inl KP)), (a6, .inl (cI, 25, .inl RG)), (a7, .inl (cI, 26, .inl SZ)), (a8, .inl (cI, 25, .inl LN))] := hD
          have hp_31 : r_2 = nI (chg wn hn q0 T0 (wavN wn hn q0 T0 K0 i)) := hp_31
          refine z_topi (y := nI (chg wn hn q0 T0 (wavN wn hn q0 T0 K0 i))) hp_31 ?_
          refine lv_istore_n (lv' := [(2, .int (nI (chg wn hn q0 T0 (wavN wn hn q0 T0 K0 i)))), (0, .ref m0), (1, .int (nI n9)), (3, .int (nI i))]) hx hb dX2_pass_34 rfl hl (by decide) rfl (fun ls hl => ?_)
          refine lv_iinc (v := nI (i + 1)) (lv' := [(3, .int (nI (i + 1))), (2, .int (nI (chg wn hn q0 T0 (wavN wn hn q0 T0 K0 i)))), (0, .ref m0), (1, .int (nI n9))]) hx hb dX2_pass_35 hl (k := 3) rfl (nI_1 i) (by decide) rfl (fun ls hl => ?_)
          refine lv_goto (tgt := 25) hx hb dX2_pass_38 (by decide) ?_
          exact ih_25 (i + 1) NXq_3 (by omega)  _ _ _ hP hD hS (lv_sub hl [2, 3, 1, 0] rfl)
    exact loop_25 n9 0 NX (by omega)  _ _ _ hP hD hS (lv_sub hl [2, 3, 1, 0] rfl)
  · skip
    exact absurd (pin_ok (lo := 1) (hi := 40) hn9.1 hn9.2 (by omega)) (z_if0 c_12)
set_option maxHeartbeats 4000000 in
set_option maxRecDepth 100000 in
theorem m_X2_pass_no (l : Launch) (dC : Nat → ClassId) (dI : Nat → Nat → Nat) (cI cZ cJ cD : ClassId) (m0 : Nat) (a1 : Nat) (a2 : Nat) (a3 : Nat) (a4 : Nat) (a5 : Nat) (a6 : Nat) (a7 : Nat) (a8 : Nat) (th : Int32) (wn : Nat) (hn : Nat) (q0 : Nat) (wv : Int32) (K0 : Nat → Nat) (NX : Nat → Int32) (T0 : Nat → Bool) (KP : Nat → Int32) (RG : Nat → Int32) (SZ : Nat → Int32) (LN : Nat → Int32) (mn : Int32) (x0 : Int32) (g : gok wn hn) (hK4 : ∀ c, K0 c ≤ 4) (hno : ¬ pIn x0 1 40) : zI l (dC, dI) (wT cI cZ cJ cD) yX2_pass wsX2_pass rmX2_pass [(m0, .inr (2, [.int th, .int (nI wn), .int (nI hn), .int (nI q0), .int wv, .ref a1, .ref a2, .ref a3, .ref a4, .ref a5, .ref a6, .ref a7, .ref a8, .int mn])), (a1, .inl (cI, 25, .inl (kI K0))), (a2, .inl (cI, 25, .inl NX)), (a3, .inl (cZ, 25, .inl (zB T0))), (a4, .inl (cI, 100, .inl (bI wn hn))), (a5, .inl (cI, 25, .inl KP)), (a6, .inl (cI, 25, .inl RG)), (a7, .inl (cI, 26, .inl SZ)), (a8, .inl (cI, 25, .inl LN))] [.ref m0, .int x0] (fun (_ : Unit) => [(m0, .inr (2, [.int 1, .int (nI wn), .int (nI hn), .int (nI q0), .int wv, .ref a1, .ref a2, .ref a3, .ref a4, .ref a5, .ref a6, .ref a7, .ref a8, .int mn])), (a1, .inl (cI, 25, .inl (kI K0))), (a2, .inl (cI, 25, .inl NX)), (a3, .inl (cZ, 25, .inl (zB T0))), (a4, .inl (cI, 100, .inl (bI wn hn))), (a5, .inl (cI, 25, .inl KP)), (a6, .inl (cI, 25, .inl RG)), (a7, .inl (cI, 26, .inl SZ)), (a8, .inl (cI, 25, .inl LN))]) (fun (r : Int32) (_ : Unit) => True) := by
  intro sz
  refine Met.ofW (cc := cX2_pass) (maxL := 4) (ret := (some .int)) (by decide) rfl ?_
  intro p e s m args below meth c s₁ B hml hv
  obtain ⟨ha, hsz, hP, hK, hD0, hN⟩ := hv
  have hx := B.exec
  have hb := B.bytes
  have hr := B.returns
  have hts := atoms_spec (ws := wsX2_pass) B.pre
  have hown : s.vm.findClass RX2 = some m.cls := findClass_of_methodNamed B.named
  have hlocks := B.notSynchronized
  subst hsz
  have hD := hD0.self (sz := s.heap.size)
  generalize hAe : va_A [(m0, .inr (2, [.int th, .int (nI wn), .int (nI hn), .int (nI q0), .int wv, .ref a1, .ref a2, .ref a3, .ref a4, .ref a5, .ref a6, .ref a7, .ref a8, .int mn])), (a1, .inl (cI, 25, .inl (kI K0))), (a2, .inl (cI, 25, .inl NX)), (a3, .inl (cZ, 25, .inl (zB T0))), (a4, .inl (cI, 100, .inl (bI wn hn))), (a5, .inl (cI, 25, .inl KP)), (a6, .inl (cI, 25, .inl RG)), (a7, .inl (cI, 26, .inl SZ)), (a8, .inl (cI, 25, .inl LN))] s.heap.size = A at hD ⊢
  have hA : ∀ q : Nat, s.heap.size ≤ q → A q := fun q h => by rw [← hAe]; exact Or.inr h
  have hS : va_S A s.heap s.heap [] := va_S.rf
  generalize hQ : MQ below (va_Qi (fun (r : Int32) (_ : Unit) => True) (fun u t => va_P (dC, dI) vwCl ((fun (_ : Unit) => [(m0, .inr (2, [.int 1, .int (nI wn), .int (nI hn), .int (nI q0), .int wv, .ref a1, .ref a2, .ref a3, .ref a4, .ref a5, .ref a6, .ref a7, .ref a8, .int mn])), (a1, .inl (cI, 25, .inl (kI K0))), (a2, .inl (cI, 25, .inl NX)), (a3, .inl (cZ, 25, .inl (zB T0))), (a4, .inl (cI, 100, .inl (bI wn hn))), (a5, .inl (cI, 25, .inl KP)), (a6, .inl (cI, 25, .inl RG)), (a7, .inl (cI, 26, .inl SZ)), (a8, .inl (cI, 25, .inl LN))]) u) t.heap) A) args s 0 0 A = Q
  have F9 : CallFix p m c cX2_pass 4 s args wsX2_pass RX2 := ⟨hx, hb, hml, hown, hts⟩
  obtain ⟨g1, g2, g3, g4⟩ := id g
  have g5 := wh_le g
  have g6 := wh_pos g
  refine z_entry (R := rmX2_pass) ha (Nat.le_of_ble_eq_true rfl) (fun ls hl => ?_)
  have hl : lv_has ls 4 [(0, .ref m0), (1, .int x0)] := hl
  refine lv_aload_n hx hb dX2_pass_0 rfl (lv_at hl 0 rfl) ?_
  refine lv_iconst (v := 0) hx hb dX2_pass_1 (by decide) ?_
  refine va_put (D := (dC, dI)) (ci := 2) (v := .int 0) (ty := .int) (C := RX2) (T := TX2) (N := 14) hx hb hts iX2_pass_X2 tyX2 tyX2_ok nmX2 hown hK hP hD hS 0 rfl rfl 0 (by decide) (hts (.fieldLink RX2 43 "ColourTideModel" "thrown" "I") (List.mem_of_getElem? (i := 1) rfl)) (fun _ h9 => h9) rfl (by decide +kernel) rfl rfl (Nat.le_of_ble_eq_true rfl) dX2_pass_2 (fun H locs hP hD hS => ?_)
  have hP : va_P (dC, dI) vwCl [(m0, .inr (2, [.int 0, .int (nI wn), .int (nI hn), .int (nI q0), .int wv, .ref a1, .ref a2, .ref a3, .ref a4, .ref a5, .ref a6, .ref a7, .ref a8, .int mn])), (a1, .inl (cI, 25, .inl (kI K0))), (a2, .inl (cI, 25, .inl NX)), (a3, .inl (cZ, 25, .inl (zB T0))), (a4, .inl (cI, 100, .inl (bI wn hn))), (a5, .inl (cI, 25, .inl KP)), (a6, .inl (cI, 25, .inl RG)), (a7, .inl (cI, 26, .inl SZ)), (a8, .inl (cI, 25, .inl LN))] H := hP
  have hD : va_D A [(m0, .inr (2, [.int 0, .int (nI wn), .int (nI hn), .int (nI q0), .int wv, .ref a1, .ref a2, .ref a3, .ref a4, .ref a5, .ref a6, .ref a7, .ref a8, .int mn])), (a1, .inl (cI, 25, .inl (kI K0))), (a2, .inl (cI, 25, .inl NX)), (a3, .inl (cZ, 25, .inl (zB T0))), (a4, .inl (cI, 100, .inl (bI wn hn))), (a5, .inl (cI, 25, .inl KP)), (a6, .inl (cI, 25, .inl RG)), (a7, .inl (cI, 26, .inl SZ)), (a8, .inl (cI, 25, .inl LN))] := hD
  refine lv_iload_n hx hb dX2_pass_5 rfl (lv_at hl 1 rfl) ?_
  refine lv_iconst (v := 1) hx hb dX2_pass_6 (by decide) ?_
  refine lv_bipush (v := 40) hx hb dX2_pass_7 (by decide +kernel) ?_
  refine z_callSi (As := [.int x0, .int 1, .int 40]) (rest := []) F9 (m_X2_isIn l dC dI cI cZ cJ cD x0 1 40 ) (va_cwS 3 hts gX2_pass_X2_isIn rfl rfl rfl (by decide +kernel) ⟨Nat.le_of_ble_eq_true rfl, Nat.le_of_ble_eq_true rfl⟩) hK hN hP hD hS hA rfl hl.1 rfl (Nat.le_of_ble_eq_true rfl) dX2_pass_9 ⟨Nat.zero_le _, Nat.zero_le _⟩ (fun r_1 H locs hp_9 hP hS => ?_)
  have hp_9 : r_1 = if pIn x0 1 40 then 1 else 0 := hp_9
  refine z_topi (y := if pIn x0 1 40 then 1 else 0) hp_9 ?_
  refine lv_if_ne (tgt := 21) hx hb dX2_pass_12 (by decide) (fun c_12 => ?_) (fun c_12 => ?_)
  · skip
    exact absurd (z_if1 c_12) hno
  · skip
    refine lv_aload_n hx hb dX2_pass_15 rfl (lv_at hl 0 rfl) ?_
    refine lv_iconst (v := 1) hx hb dX2_pass_16 (by decide) ?_
    refine z_callVi (As := [.int 1]) (rest := []) F9 (m_X2_fail l dC dI cI cZ cJ cD m0 a1 a2 a3 a4 a5 a6 a7 a8 0 wn hn q0 wv K0 NX T0 KP RG SZ LN mn 1 ) (cwV 1 hts gX2_pass_X2_fail rfl rfl rfl (by decide +kernel) ⟨Nat.le_of_ble_eq_true rfl, Nat.le_of_ble_eq_true rfl⟩) hK hN hP hD hS hA [0, 1, 2, 3, 4, 5, 6, 7, 8] rfl rfl (fun _ => rfl) 0 (ci := 2) rfl rfl rfl rfl hl.1 rfl (Nat.le_of_ble_eq_true rfl) dX2_pass_17 ⟨Nat.zero_le _, Nat.zero_le _⟩ (fun r_2 u H locs hp_17 hP hD hS => ?_)
    have hP : va_P (dC, dI) vwCl [(m0, .inr (2, [.int 1, .int (nI wn), .int (nI hn), .int (nI q0), .int wv, .ref a1, .ref a2, .ref a3, .ref a4, .ref a5, .ref a6, .ref a7, .ref a8, .int mn])), (a1, .inl (cI, 25, .inl (kI K0))), (a2, .inl (cI, 25, .inl NX)), (a3, .inl (cZ, 25, .inl (zB T0))), (a4, .inl (cI, 100, .inl (bI wn hn))), (a5, .inl (cI, 25, .inl KP)), (a6, .inl (cI, 25, .inl RG)), (a7, .inl (cI, 26, .inl SZ)), (a8, .inl (cI, 25, .inl LN))] H := hP
    have hD : va_D A [(m0, .inr (2, [.int 1, .int (nI wn), .int (nI hn), .int (nI q0), .int wv, .ref a1, .ref a2, .ref a3, .ref a4, .ref a5, .ref a6, .ref a7, .ref a8, .int mn])), (a1, .inl (cI, 25, .inl (kI K0))), (a2, .inl (cI, 25, .inl NX)), (a3, .inl (cZ, 25, .inl (zB T0))), (a4, .inl (cI, 100, .inl (bI wn hn))), (a5, .inl (cI, 25, .inl KP)), (a6, .inl (cI, 25, .inl RG)), (a7, .inl (cI, 26, .inl SZ)), (a8, .inl (cI, 25, .inl LN))] := hD
    have hp_17 : r_2 = 0 := hp_17
    refine z_topi (y := 0) hp_17 ?_
    rw [← hQ]
    exact z_iret (W1 := (fun (_ : Unit) => [(m0, .inr (2, [.int 1, .int (nI wn), .int (nI hn), .int (nI q0), .int wv, .ref a1, .ref a2, .ref a3, .ref a4, .ref a5, .ref a6, .ref a7, .ref a8, .int mn])), (a1, .inl (cI, 25, .inl (kI K0))), (a2, .inl (cI, 25, .inl NX)), (a3, .inl (cZ, 25, .inl (zB T0))), (a4, .inl (cI, 100, .inl (bI wn hn))), (a5, .inl (cI, 25, .inl KP)), (a6, .inl (cI, 25, .inl RG)), (a7, .inl (cI, 26, .inl SZ)), (a8, .inl (cI, 25, .inl LN))])) hx hb hr hlocks hP hS () (rfl) (trivial) dX2_pass_20
abbrev rmX2_colourAt : Room := { frames := 2, cells := 0, slots := 0, locals := 44 }
set_option maxRecDepth 20000 in
theorem iX2_colourAt_X2 : ∀ w ∈ wsX20, w ∈ wsX2_colourAt := fun w h => (goodIn_r (big := wsX2_colourAt) wsX20 [17, 18, 19, 20, 21, 22, 23, 24, 25, 26, 27, 28, 29, 30] (by decide +kernel) (by decide +kernel) w h).1
set_option maxHeartbeats 4000000 in
set_option maxRecDepth 100000 in
theorem m_X2_colourAt_ok (l : Launch) (dC : Nat → ClassId) (dI : Nat → Nat → Nat) (cI cZ cJ cD : ClassId) (m0 : Nat) (a1 : Nat) (a2 : Nat) (a3 : Nat) (a4 : Nat) (a5 : Nat) (a6 : Nat) (a7 : Nat) (a8 : Nat) (th : Int32) (wn : Nat) (hn : Nat) (q0 : Nat) (wv : Int32) (K0 : Nat → Nat) (NX : Nat → Int32) (T0 : Nat → Bool) (KP : Nat → Int32) (RG : Nat → Int32) (SZ : Nat → Int32) (LN : Nat → Int32) (mn : Int32) (xa : Nat) (ya : Nat) (g : gok wn hn) (hK4 : ∀ c, K0 c ≤ 4) (hxa : xa < wn) (hya : ya < hn) : zI l (dC, dI) (wT cI cZ cJ cD) yX2_colourAt wsX2_colourAt rmX2_colourAt [(m0, .inr (2, [.int th, .int (nI wn), .int (nI hn), .int (nI q0), .int wv, .ref a1, .ref a2, .ref a3, .ref a4, .ref a5, .ref a6, .ref a7, .ref a8, .int mn])), (a1, .inl (cI, 25, .inl (kI K0))), (a2, .inl (cI, 25, .inl NX)), (a3, .inl (cZ, 25, .inl (zB T0))), (a4, .inl (cI, 100, .inl (bI wn hn))), (a5, .inl (cI, 25, .inl KP)), (a6, .inl (cI, 25, .inl RG)), (a7, .inl (cI, 26, .inl SZ)), (a8, .inl (cI, 25, .inl LN))] [.ref m0, .int (nI xa), .int (nI ya)] (fun (_ : Unit) => [(m0, .inr (2, [.int 0, .int (nI wn), .int (nI hn), .int (nI q0), .int wv, .ref a1, .ref a2, .ref a3, .ref a4, .ref a5, .ref a6, .ref a7, .ref a8, .int mn])), (a1, .inl (cI, 25, .inl (kI K0))), (a2, .inl (cI, 25, .inl NX)), (a3, .inl (cZ, 25, .inl (zB T0))), (a4, .inl (cI, 100, .inl (bI wn hn))), (a5, .inl (cI, 25, .inl KP)), (a6, .inl (cI, 25, .inl RG)), (a7, .inl (cI, 26, .inl SZ)), (a8, .inl (cI, 25, .inl LN))]) (fun (r : Int32) (_ : Unit) => r = nI (K0 (wn * ya + xa))) := by
  intro sz
  refine Met.ofW (cc := cX2_colourAt) (maxL := 3) (ret := (some .int)) (by decide) rfl ?_
  intro p e s m args below meth c s₁ B hml hv
  obtain ⟨ha, hsz, hP, hK, hD0, hN⟩ := hv
  have hx := B.exec
  have hb := B.bytes
  have hr := B.returns
  have hts := atoms_spec (ws := wsX2_colourAt) B.pre
  have hown : s.vm.findClass RX2 = some m.cls := findClass_of_methodNamed B.named
  have hlocks := B.notSynchronized
  subst hsz
  have hD := hD0.self (sz := s.heap.size)
  generalize hAe : va_A [(m0, .inr (2, [.int th, .int (nI wn), .int (nI hn), .int (nI q0), .int wv, .ref a1, .ref a2, .ref a3, .ref a4, .ref a5, .ref a6, .ref a7, .ref a8, .int mn])), (a1, .inl (cI, 25, .inl (kI K0))), (a2, .inl (cI, 25, .inl NX)), (a3, .inl (cZ, 25, .inl (zB T0))), (a4, .inl (cI, 100, .inl (bI wn hn))), (a5, .inl (cI, 25, .inl KP)), (a6, .inl (cI, 25, .inl RG)), (a7, .inl (cI, 26, .inl SZ)), (a8, .inl (cI, 25, .inl LN))] s.heap.size = A at hD ⊢
  have hA : ∀ q : Nat, s.heap.size ≤ q → A q := fun q h => by rw [← hAe]; exact Or.inr h
  have hS : va_S A s.heap s.heap [] := va_S.rf
  generalize hQ : MQ below (va_Qi (fun (r : Int32) (_ : Unit) => r = nI (K0 (wn * ya + xa))) (fun u t => va_P (dC, dI) vwCl ((fun (_ : Unit) => [(m0, .inr (2, [.int 0, .int (nI wn), .int (nI hn), .int (nI q0), .int wv, .ref a1, .ref a2, .ref a3, .ref a4, .ref a5, .ref a6, .ref a7, .ref a8, .int mn])), (a1, .inl (cI, 25, .inl (kI K0))), (a2, .inl (cI, 25, .inl NX)), (a3, .inl (cZ, 25, .inl (zB T0))), (a4, .inl (cI, 100, .inl (bI wn hn))), (a5, .inl (cI, 25, .inl KP)), (a6, .inl (cI, 25, .inl RG)), (a7, .inl (cI, 26, .inl SZ)), (a8, .inl (cI, 25, .inl LN))]) u) t.heap) A) args s 0 0 A = Q
  have F9 : CallFix p m c cX2_colourAt 3 s args wsX2_colourAt RX2 := ⟨hx, hb, hml, hown, hts⟩
  obtain ⟨g1, g2, g3, g4⟩ := id g
  have g5 := wh_le g
  have g6 := wh_pos g
  have hci := cell_lt hxa hya
  have hon := on_ok hxa hya (by omega) (by omega)
  refine z_entry (R := rmX2_colourAt) ha (Nat.le_of_ble_eq_true rfl) (fun ls hl => ?_)
  have hl : lv_has ls 3 [(0, .ref m0), (1, .int (nI xa)), (2, .int (nI ya))] := hl
  refine lv_aload_n hx hb dX2_colourAt_0 rfl (lv_at hl 0 rfl) ?_
  refine lv_iconst (v := 0) hx hb dX2_colourAt_1 (by decide) ?_
  refine va_put (D := (dC, dI)) (ci := 2) (v := .int 0) (ty := .int) (C := RX2) (T := TX2) (N := 14) hx hb hts iX2_colourAt_X2 tyX2 tyX2_ok nmX2 hown hK hP hD hS 0 rfl rfl 0 (by decide) (hts (.fieldLink RX2 43 "ColourTideModel" "thrown" "I") (List.mem_of_getElem? (i := 1) rfl)) (fun _ h9 => h9) rfl (by decide +kernel) rfl rfl (Nat.le_of_ble_eq_true rfl) dX2_colourAt_2 (fun H locs hP hD hS => ?_)
  have hP : va_P (dC, dI) vwCl [(m0, .inr (2, [.int 0, .int (nI wn), .int (nI hn), .int (nI q0), .int wv, .ref a1, .ref a2, .ref a3, .ref a4, .ref a5, .ref a6, .ref a7, .ref a8, .int mn])), (a1, .inl (cI, 25, .inl (kI K0))), (a2, .inl (cI, 25, .inl NX)), (a3, .inl (cZ, 25, .inl (zB T0))), (a4, .inl (cI, 100, .inl (bI wn hn))), (a5, .inl (cI, 25, .inl KP)), (a6, .inl (cI, 25, .inl RG)), (a7, .inl (cI, 26, .inl SZ)), (a8, .inl (cI, 25, .inl LN))] H := hP
  have hD : va_D A [(m0, .inr (2, [.int 0, .int (nI wn), .int (nI hn), .int (nI q0), .int wv, .ref a1, .ref a2, .ref a3, .ref a4, .ref a5, .ref a6, .ref a7, .ref a8, .int mn])), (a1, .inl (cI, 25, .inl (kI K0))), (a2, .inl (cI, 25, .inl NX)), (a3, .inl (cZ, 25, .inl (zB T0))), (a4, .inl (cI, 100, .inl (bI wn hn))), (a5, .inl (cI, 25, .inl KP)), (a6, .inl (cI, 25, .inl RG)), (a7, .inl (cI, 26, .inl SZ)), (a8, .inl (cI, 25, .inl LN))] := hD
  refine lv_aload_n hx hb dX2_colourAt_5 rfl (lv_at hl 0 rfl) ?_
  refine lv_iload_n hx hb dX2_colourAt_6 rfl (lv_at hl 1 rfl) ?_
  refine lv_iload_n hx hb dX2_colourAt_7 rfl (lv_at hl 2 rfl) ?_
  refine z_callVi (As := [.int (nI xa), .int (nI ya)]) (rest := []) F9 (m_X2_isCell l dC dI cI cZ cJ cD m0 a1 a2 a3 a4 a5 a6 a7 a8 0 wn hn q0 wv K0 NX T0 KP RG SZ LN mn (nI xa) (nI ya) (g)) (cwV 2 hts gX2_colourAt_X2_isCell rfl rfl rfl (by decide +kernel) ⟨Nat.le_of_ble_eq_true rfl, Nat.le_of_ble_eq_true rfl⟩) hK hN hP hD hS hA [0, 1, 2, 3, 4, 5, 6, 7, 8] rfl rfl (fun _ => rfl) 0 (ci := 2) rfl rfl rfl rfl hl.1 rfl (Nat.le_of_ble_eq_true rfl) dX2_colourAt_8 ⟨Nat.zero_le _, Nat.zero_le _⟩ (fun r_1 u H locs hp_8 hP hD hS => ?_)
  have hP : va_P (dC, dI) vwCl [(m0, .inr (2, [.int 0, .int (nI wn), .int (nI hn), .int (nI q0), .int wv, .ref a1, .ref a2, .ref a3, .ref a4, .ref a5, .ref a6, .ref a7, .ref a8, .int mn])), (a1, .inl (cI, 25, .inl (kI K0))), (a2, .inl (cI, 25, .inl NX)), (a3, .inl (cZ, 25, .inl (zB T0))), (a4, .inl (cI, 100, .inl (bI wn hn))), (a5, .inl (cI, 25, .inl KP)), (a6, .inl (cI, 25, .inl RG)), (a7, .inl (cI, 26, .inl SZ)), (a8, .inl (cI, 25, .inl LN))] H := hP
  have hD : va_D A [(m0, .inr (2, [.int 0, .int (nI wn), .int (nI hn), .int (nI q0), .int wv, .ref a1, .ref a2, .ref a3, .ref a4, .ref a5, .ref a6, .ref a7, .ref a8, .int mn])), (a1, .inl (cI, 25, .inl (kI K0))), (a2, .inl (cI, 25, .inl NX)), (a3, .inl (cZ, 25, .inl (zB T0))), (a4, .inl (cI, 100, .inl (bI wn hn))), (a5, .inl (cI, 25, .inl KP)), (a6, .inl (cI, 25, .inl RG)), (a7, .inl (cI, 26, .inl SZ)), (a8, .inl (cI, 25, .inl LN))] := hD
  have hp_8 : r_1 = if pOn (nI xa) (nI ya) (nI wn) (nI hn) then 1 else 0 := hp_8
  refine z_topi (y := if pOn (nI xa) (nI ya) (nI wn) (nI hn) then 1 else 0) hp_8 ?_
  refine lv_if_eq (tgt := 30) hx hb dX2_colourAt_11 (by decide) (fun c_11 => ?_) (fun c_11 => ?_)
  · skip
    exact absurd hon (z_if0 c_11)
  · skip
    refine lv_aload_n hx hb dX2_colourAt_14 rfl (lv_at hl 0 rfl) ?_
    refine va_get (D := (dC, dI)) (ci := 2) (v := .ref a1) (C := RX2) (T := TX2) (N := 14) hx hb hts iX2_colourAt_X2 hown hK hP 0 rfl rfl 5 (by decide) (hts (.fieldLink RX2 13 "ColourTideModel" "colours" "[I") (List.mem_of_getElem? (i := 2) rfl)) (fun _ h9 => h9) rfl dX2_colourAt_15 ?_
    refine lv_aload_n hx hb dX2_colourAt_18 rfl (lv_at hl 0 rfl) ?_
    refine va_get (D := (dC, dI)) (ci := 2) (v := .int (nI wn)) (C := RX2) (T := TX2) (N := 14) hx hb hts iX2_colourAt_X2 hown hK hP 0 rfl rfl 1 (by decide) (hts (.fieldLink RX2 46 "ColourTideModel" "w" "I") (List.mem_of_getElem? (i := 3) rfl)) (fun _ h9 => h9) rfl dX2_colourAt_19 ?_
    refine lv_iload_n hx hb dX2_colourAt_22 rfl (lv_at hl 2 rfl) ?_
    refine lv_imul hx hb dX2_colourAt_23 ?_
    refine z_topi (y := nI (wn * ya)) (pk_mul wn ya) ?_
    refine lv_iload_n hx hb dX2_colourAt_24 rfl (lv_at hl 1 rfl) ?_
    refine lv_iadd hx hb dX2_colourAt_25 ?_
    refine z_topi (y := nI ((wn * ya) + xa)) (nI_add (wn * ya) xa) ?_
    refine z_iald hx hb hK hP 1 0 rfl rfl ((wn * ya) + xa) (rfl) (by omega) (by decide) dX2_colourAt_26 ?_
    refine z_topi (y := nI (K0 (wn * ya + xa))) (rfl) ?_
    refine lv_goto (tgt := 35) hx hb dX2_colourAt_27 (by decide) ?_
    rw [← hQ]
    exact z_iret (W1 := (fun (_ : Unit) => [(m0, .inr (2, [.int 0, .int (nI wn), .int (nI hn), .int (nI q0), .int wv, .ref a1, .ref a2, .ref a3, .ref a4, .ref a5, .ref a6, .ref a7, .ref a8, .int mn])), (a1, .inl (cI, 25, .inl (kI K0))), (a2, .inl (cI, 25, .inl NX)), (a3, .inl (cZ, 25, .inl (zB T0))), (a4, .inl (cI, 100, .inl (bI wn hn))), (a5, .inl (cI, 25, .inl KP)), (a6, .inl (cI, 25, .inl RG)), (a7, .inl (cI, 26, .inl SZ)), (a8, .inl (cI, 25, .inl LN))])) hx hb hr hlocks hP hS () (rfl) (rfl) dX2_colourAt_35
set_option maxHeartbeats 4000000 in
set_option maxRecDepth 100000 in
theorem m_X2_colourAt_no (l : Launch) (dC : Nat → ClassId) (dI : Nat → Nat → Nat) (cI cZ cJ cD : ClassId) (m0 : Nat) (a1 : Nat) (a2 : Nat) (a3 : Nat) (a4 : Nat) (a5 : Nat) (a6 : Nat) (a7 : Nat) (a8 : Nat) (th : Int32) (wn : Nat) (hn : Nat) (q0 : Nat) (wv : Int32) (K0 : Nat → Nat) (NX : Nat → Int32) (T0 : Nat → Bool) (KP : Nat → Int32) (RG : Nat → Int32) (SZ : Nat → Int32) (LN : Nat → Int32) (mn : Int32) (x0 : Int32) (y0 : Int32) (g : gok wn hn) (hK4 : ∀ c, K0 c ≤ 4) (hno : ¬ pOn x0 y0 (nI wn) (nI hn)) : zI l (dC, dI) (wT cI cZ cJ cD) yX2_colourAt wsX2_colourAt rmX2_colourAt [(m0, .inr (2, [.int th, .int (nI wn), .int (nI hn), .int (nI q0), .int wv, .ref a1, .ref a2, .ref a3, .ref a4, .ref a5, .ref a6, .ref a7, .ref a8, .int mn])), (a1, .inl (cI, 25, .inl (kI K0))), (a2, .inl (cI, 25, .inl NX)), (a3, .inl (cZ, 25, .inl (zB T0))), (a4, .inl (cI, 100, .inl (bI wn hn))), (a5, .inl (cI, 25, .inl KP)), (a6, .inl (cI, 25, .inl RG)), (a7, .inl (cI, 26, .inl SZ)), (a8, .inl (cI, 25, .inl LN))] [.ref m0, .int x0, .int y0] (fun (_ : Unit) => [(m0, .inr (2, [.int 1, .int (nI wn), .int (nI hn), .int (nI q0), .int wv, .ref a1, .ref a2, .ref a3, .ref a4, .ref a5, .ref a6, .ref a7, .ref a8, .int mn])), (a1, .inl (cI, 25, .inl (kI K0))), (a2, .inl (cI, 25, .inl NX)), (a3, .inl (cZ, 25, .inl (zB T0))), (a4, .inl (cI, 100, .inl (bI wn hn))), (a5, .inl (cI, 25, .inl KP)), (a6, .inl (cI, 25, .inl RG)), (a7, .inl (cI, 26, .inl SZ)), (a8, .inl (cI, 25, .inl LN))]) (fun (r : Int32) (_ : Unit) => True) := by
  intro sz
  refine Met.ofW (cc := cX2_colourAt) (maxL := 3) (ret := (some .int)) (by decide) rfl ?_
  intro p e s m args below meth c s₁ B hml hv
  obtain ⟨ha, hsz, hP, hK, hD0, hN⟩ := hv
  have hx := B.exec
  have hb := B.bytes
  have hr := B.returns
  have hts := atoms_spec (ws := wsX2_colourAt) B.pre
  have hown : s.vm.findClass RX2 = some m.cls := findClass_of_methodNamed B.named
  have hlocks := B.notSynchronized
  subst hsz
  have hD := hD0.self (sz := s.heap.size)
  generalize hAe : va_A [(m0, .inr (2, [.int th, .int (nI wn), .int (nI hn), .int (nI q0), .int wv, .ref a1, .ref a2, .ref a3, .ref a4, .ref a5, .ref a6, .ref a7, .ref a8, .int mn])), (a1, .inl (cI, 25, .inl (kI K0))), (a2, .inl (cI, 25, .inl NX)), (a3, .inl (cZ, 25, .inl (zB T0))), (a4, .inl (cI, 100, .inl (bI wn hn))), (a5, .inl (cI, 25, .inl KP)), (a6, .inl (cI, 25, .inl RG)), (a7, .inl (cI, 26, .inl SZ)), (a8, .inl (cI, 25, .inl LN))] s.heap.size = A at hD ⊢
  have hA : ∀ q : Nat, s.heap.size ≤ q → A q := fun q h => by rw [← hAe]; exact Or.inr h
  have hS : va_S A s.heap s.heap [] := va_S.rf
  generalize hQ : MQ below (va_Qi (fun (r : Int32) (_ : Unit) => True) (fun u t => va_P (dC, dI) vwCl ((fun (_ : Unit) => [(m0, .inr (2, [.int 1, .int (nI wn), .int (nI hn), .int (nI q0), .int wv, .ref a1, .ref a2, .ref a3, .ref a4, .ref a5, .ref a6, .ref a7, .ref a8, .int mn])), (a1, .inl (cI, 25, .inl (kI K0))), (a2, .inl (cI, 25, .inl NX)), (a3, .inl (cZ, 25, .inl (zB T0))), (a4, .inl (cI, 100, .inl (bI wn hn))), (a5, .inl (cI, 25, .inl KP)), (a6, .inl (cI, 25, .inl RG)), (a7, .inl (cI, 26, .inl SZ)), (a8, .inl (cI, 25, .inl LN))]) u) t.heap) A) args s 0 0 A = Q
  have F9 : CallFix p m c cX2_colourAt 3 s args wsX2_colourAt RX2 := ⟨hx, hb, hml, hown, hts⟩
  obtain ⟨g1, g2, g3, g4⟩ := id g
  have g5 := wh_le g
  have g6 := wh_pos g
  refine z_entry (R := rmX2_colourAt) ha (Nat.le_of_ble_eq_true rfl) (fun ls hl => ?_)
  have hl : lv_has ls 3 [(0, .ref m0), (1, .int x0), (2, .int y0)] := hl
  refine lv_aload_n hx hb dX2_colourAt_0 rfl (lv_at hl 0 rfl) ?_
  refine lv_iconst (v := 0) hx hb dX2_colourAt_1 (by decide) ?_
  refine va_put (D := (dC, dI)) (ci := 2) (v := .int 0) (ty := .int) (C := RX2) (T := TX2) (N := 14) hx hb hts iX2_colourAt_X2 tyX2 tyX2_ok nmX2 hown hK hP hD hS 0 rfl rfl 0 (by decide) (hts (.fieldLink RX2 43 "ColourTideModel" "thrown" "I") (List.mem_of_getElem? (i := 1) rfl)) (fun _ h9 => h9) rfl (by decide +kernel) rfl rfl (Nat.le_of_ble_eq_true rfl) dX2_colourAt_2 (fun H locs hP hD hS => ?_)
  have hP : va_P (dC, dI) vwCl [(m0, .inr (2, [.int 0, .int (nI wn), .int (nI hn), .int (nI q0), .int wv, .ref a1, .ref a2, .ref a3, .ref a4, .ref a5, .ref a6, .ref a7, .ref a8, .int mn])), (a1, .inl (cI, 25, .inl (kI K0))), (a2, .inl (cI, 25, .inl NX)), (a3, .inl (cZ, 25, .inl (zB T0))), (a4, .inl (cI, 100, .inl (bI wn hn))), (a5, .inl (cI, 25, .inl KP)), (a6, .inl (cI, 25, .inl RG)), (a7, .inl (cI, 26, .inl SZ)), (a8, .inl (cI, 25, .inl LN))] H := hP
  have hD : va_D A [(m0, .inr (2, [.int 0, .int (nI wn), .int (nI hn), .int (nI q0), .int wv, .ref a1, .ref a2, .ref a3, .ref a4, .ref a5, .ref a6, .ref a7, .ref a8, .int mn])), (a1, .inl (cI, 25, .inl (kI K0))), (a2, .inl (cI, 25, .inl NX)), (a3, .inl (cZ, 25, .inl (zB T0))), (a4, .inl (cI, 100, .inl (bI wn hn))), (a5, .inl (cI, 25, .inl KP)), (a6, .inl (cI, 25, .inl RG)), (a7, .inl (cI, 26, .inl SZ)), (a8, .inl (cI, 25, .inl LN))] := hD
  refine lv_aload_n hx hb dX2_colourAt_5 rfl (lv_at hl 0 rfl) ?_
  refine lv_iload_n hx hb dX2_colourAt_6 rfl (lv_at hl 1 rfl) ?_
  refine lv_iload_n hx hb dX2_colourAt_7 rfl (lv_at hl 2 rfl) ?_
  refine z_callVi (As := [.int x0, .int y0]) (rest := []) F9 (m_X2_isCell l dC dI cI cZ cJ cD m0 a1 a2 a3 a4 a5 a6 a7 a8 0 wn hn q0 wv K0 NX T0 KP RG SZ LN mn x0 y0 (g)) (cwV 2 hts gX2_colourAt_X2_isCell rfl rfl rfl (by decide +kernel) ⟨Nat.le_of_ble_eq_true rfl, Nat.le_of_ble_eq_true rfl⟩) hK hN hP hD hS hA [0, 1, 2, 3, 4, 5, 6, 7, 8] rfl rfl (fun _ => rfl) 0 (ci := 2) rfl rfl rfl rfl hl.1 rfl (Nat.le_of_ble_eq_true rfl) dX2_colourAt_8 ⟨Nat.zero_le _, Nat.zero_le _⟩ (fun r_1 u H locs hp_8 hP hD hS => ?_)
  have hP : va_P (dC, dI) vwCl [(m0, .inr (2, [.int 0, .int (nI wn), .int (nI hn), .int (nI q0), .int wv, .ref a1, .ref a2, .ref a3, .ref a4, .ref a5, .ref a6, .ref a7, .ref a8, .int mn])), (a1, .inl (cI, 25, .inl (kI K0))), (a2, .inl (cI, 25, .inl NX)), (a3, .inl (cZ, 25, .inl (zB T0))), (a4, .inl (cI, 100, .inl (bI wn hn))), (a5, .inl (cI, 25, .inl KP)), (a6, .inl (cI, 25, .inl RG)), (a7, .inl (cI, 26, .inl SZ)), (a8, .inl (cI, 25, .inl LN))] H := hP
  have hD : va_D A [(m0, .inr (2, [.int 0, .int (nI wn), .int (nI hn), .int (nI q0), .int wv, .ref a1, .ref a2, .ref a3, .ref a4, .ref a5, .ref a6, .ref a7, .ref a8, .int mn])), (a1, .inl (cI, 25, .inl (kI K0))), (a2, .inl (cI, 25, .inl NX)), (a3, .inl (cZ, 25, .inl (zB T0))), (a4, .inl (cI, 100, .inl (bI wn hn))), (a5, .inl (cI, 25, .inl KP)), (a6, .inl (cI, 25, .inl RG)), (a7, .inl (cI, 26, .inl SZ)), (a8, .inl (cI, 25, .inl LN))] := hD
  have hp_8 : r_1 = if pOn x0 y0 (nI wn) (nI hn) then 1 else 0 := hp_8
  refine z_topi (y := if pOn x0 y0 (nI wn) (nI hn) then 1 else 0) hp_8 ?_
  refine lv_if_eq (tgt := 30) hx hb dX2_colourAt_11 (by decide) (fun c_11 => ?_) (fun c_11 => ?_)
  · skip
    refine lv_aload_n hx hb dX2_colourAt_30 rfl (lv_at hl 0 rfl) ?_
    refine lv_iconst (v := 1) hx hb dX2_colourAt_31 (by decide) ?_
    refine z_callVi (As := [.int 1]) (rest := []) F9 (m_X2_fail l dC dI cI cZ cJ cD m0 a1 a2 a3 a4 a5 a6 a7 a8 0 wn hn q0 wv K0 NX T0 KP RG SZ LN mn 1 ) (cwV 1 hts gX2_colourAt_X2_fail rfl rfl rfl (by decide +kernel) ⟨Nat.le_of_ble_eq_true rfl, Nat.le_of_ble_eq_true rfl⟩) hK hN hP hD hS hA [0, 1, 2, 3, 4, 5, 6, 7, 8] rfl rfl (fun _ => rfl) 0 (ci := 2) rfl rfl rfl rfl hl.1 rfl (Nat.le_of_ble_eq_true rfl) dX2_colourAt_32 ⟨Nat.zero_le _, Nat.zero_le _⟩ (fun r_2 u H locs hp_32 hP hD hS => ?_)
    have hP : va_P (dC, dI) vwCl [(m0, .inr (2, [.int 1, .int (nI wn), .int (nI hn), .int (nI q0), .int wv, .ref a1, .ref a2, .ref a3, .ref a4, .ref a5, .ref a6, .ref a7, .ref a8, .int mn])), (a1, .inl (cI, 25, .inl (kI K0))), (a2, .inl (cI, 25, .inl NX)), (a3, .inl (cZ, 25, .inl (zB T0))), (a4, .inl (cI, 100, .inl (bI wn hn))), (a5, .inl (cI, 25, .inl KP)), (a6, .inl (cI, 25, .inl RG)), (a7, .inl (cI, 26, .inl SZ)), (a8, .inl (cI, 25, .inl LN))] H := hP
    have hD : va_D A [(m0, .inr (2, [.int 1, .int (nI wn), .int (nI hn), .int (nI q0), .int wv, .ref a1, .ref a2, .ref a3, .ref a4, .ref a5, .ref a6, .ref a7, .ref a8, .int mn])), (a1, .inl (cI, 25, .inl (kI K0))), (a2, .inl (cI, 25, .inl NX)), (a3, .inl (cZ, 25, .inl (zB T0))), (a4, .inl (cI, 100, .inl (bI wn hn))), (a5, .inl (cI, 25, .inl KP)), (a6, .inl (cI, 25, .inl RG)), (a7, .inl (cI, 26, .inl SZ)), (a8, .inl (cI, 25, .inl LN))] := hD
    have hp_32 : r_2 = 0 := hp_32
    refine z_topi (y := 0) hp_32 ?_
    rw [← hQ]
    exact z_iret (W1 := (fun (_ : Unit) => [(m0, .inr (2, [.int 1, .int (nI wn), .int (nI hn), .int (nI q0), .int wv, .ref a1, .ref a2, .ref a3, .ref a4, .ref a5, .ref a6, .ref a7, .ref a8, .int mn])), (a1, .inl (cI, 25, .inl (kI K0))), (a2, .inl (cI, 25, .inl NX)), (a3, .inl (cZ, 25, .inl (zB T0))), (a4, .inl (cI, 100, .inl (bI wn hn))), (a5, .inl (cI, 25, .inl KP)), (a6, .inl (cI, 25, .inl RG)), (a7, .inl (cI, 26, .inl SZ)), (a8, .inl (cI, 25, .inl LN))])) hx hb hr hlocks hP hS () (rfl) (trivial) dX2_colourAt_35
  · skip
    exact absurd (z_if1 c_11) hno
abbrev rmX2_isStubborn : Room := { frames := 2, cells := 0, slots := 0, locals := 44 }
set_option maxRecDepth 20000 in
theorem iX2_isStubborn_X2 : ∀ w ∈ wsX20, w ∈ wsX2_isStubborn := fun w h => (goodIn_r (big := wsX2_isStubborn) wsX20 [13, 14, 15, 16, 17, 18, 19, 20, 21, 22, 23, 24, 25, 26] (by decide +kernel) (by decide +kernel) w h).1
set_option maxHeartbeats 4000000 in
set_option maxRecDepth 100000 in
theorem m_X2_isStubborn_ok (l : Launch) (dC : Nat → ClassId) (dI : Nat → Nat → Nat) (cI cZ cJ cD : ClassId) (m0 : Nat) (a1 : Nat) (a2 : Nat) (a3 : Nat) (a4 : Nat) (a5 : Nat) (a6 : Nat) (a7 : Nat) (a8 : Nat) (th : Int32) (wn : Nat) (hn : Nat) (q0 : Nat) (wv : Int32) (K0 : Nat → Nat) (NX : Nat → Int32) (T0 : Nat → Bool) (KP : Nat → Int32) (RG : Nat → Int32) (SZ : Nat → Int32) (LN : Nat → Int32) (mn : Int32) (xa : Nat) (ya : Nat) (g : gok wn hn) (hK4 : ∀ c, K0 c ≤ 4) (hxa : xa < wn) (hya : ya < hn) : zI l (dC, dI) (wT cI cZ cJ cD) yX2_isStubborn wsX2_isStubborn rmX2_isStubborn [(m0, .inr (2, [.int th, .int (nI wn), .int (nI hn), .int (nI q0), .int wv, .ref a1, .ref a2, .ref a3, .ref a4, .ref a5, .ref a6, .ref a7, .ref a8, .int mn])), (a1, .inl (cI, 25, .inl (kI K0))), (a2, .inl (cI, 25, .inl NX)), (a3, .inl (cZ, 25, .inl (zB T0))), (a4, .inl (cI, 100, .inl (bI wn hn))), (a5, .inl (cI, 25, .inl KP)), (a6, .inl (cI, 25, .inl RG)), (a7, .inl (cI, 26, .inl SZ)), (a8, .inl (cI, 25, .inl LN))] [.ref m0, .int (nI xa), .int (nI ya)] (fun (_ : Unit) => [(m0, .inr (2, [.int 0, .int (nI wn), .int (nI hn), .int (nI q0), .int wv, .ref a1, .ref a2, .ref a3, .ref a4, .ref a5, .ref a6, .ref a7, .ref a8, .int mn])), (a1, .inl (cI, 25, .inl (kI K0))), (a2, .inl (cI, 25, .inl NX)), (a3, .inl (cZ, 25, .inl (zB T0))), (a4, .inl (cI, 100, .inl (bI wn hn))), (a5, .inl (cI, 25, .inl KP)), (a6, .inl (cI, 25, .inl RG)), (a7, .inl (cI, 26, .inl SZ)), (a8, .inl (cI, 25, .inl LN))]) (fun (r : Int32) (_ : Unit) => r = bz (T0 (wn * ya + xa))) := by
  intro sz
  refine Met.ofW (cc := cX2_isStubborn) (maxL := 3) (ret := (some .boolean)) (by decide) rfl ?_
  intro p e s m args below meth c s₁ B hml hv
  obtain ⟨ha, hsz, hP, hK, hD0, hN⟩ := hv
  have hx := B.exec
  have hb := B.bytes
  have hr := B.returns
  have hts := atoms_spec (ws := wsX2_isStubborn) B.pre
  have hown : s.vm.findClass RX2 = some m.cls := findClass_of_methodNamed B.named
  have hlocks := B.notSynchronized
  subst hsz
  have hD := hD0.self (sz := s.heap.size)
  generalize hAe : va_A [(m0, .inr (2, [.int th, .int (nI wn), .int (nI hn), .int (nI q0), .int wv, .ref a1, .ref a2, .ref a3, .ref a4, .ref a5, .ref a6, .ref a7, .ref a8, .int mn])), (a1, .inl (cI, 25, .inl (kI K0))), (a2, .inl (cI, 25, .inl NX)), (a3, .inl (cZ, 25, .inl (zB T0))), (a4, .inl (cI, 100, .inl (bI wn hn))), (a5, .inl (cI, 25, .inl KP)), (a6, .inl (cI, 25, .inl RG)), (a7, .inl (cI, 26, .inl SZ)), (a8, .inl (cI, 25, .inl LN))] s.heap.size = A at hD ⊢
  have hA : ∀ q : Nat, s.heap.size ≤ q → A q := fun q h => by rw [← hAe]; exact Or.inr h
  have hS : va_S A s.heap s.heap [] := va_S.rf
  generalize hQ : MQ below (va_Qi (fun (r : Int32) (_ : Unit) => r = bz (T0 (wn * ya + xa))) (fun u t => va_P (dC, dI) vwCl ((fun (_ : Unit) => [(m0, .inr (2, [.int 0, .int (nI wn), .int (nI hn), .int (nI q0), .int wv, .ref a1, .ref a2, .ref a3, .ref a4, .ref a5, .ref a6, .ref a7, .ref a8, .int mn])), (a1, .inl (cI, 25, .inl (kI K0))), (a2, .inl (cI, 25, .inl NX)), (a3, .inl (cZ, 25, .inl (zB T0))), (a4, .inl (cI, 100, .inl (bI wn hn))), (a5, .inl (cI, 25, .inl KP)), (a6, .inl (cI, 25, .inl RG)), (a7, .inl (cI, 26, .inl SZ)), (a8, .inl (cI, 25, .inl LN))]) u) t.heap) A) args s 0 0 A = Q
  have F9 : CallFix p m c cX2_isStubborn 3 s args wsX2_isStubborn RX2 := ⟨hx, hb, hml, hown, hts⟩
  obtain ⟨g1, g2, g3, g4⟩ := id g
  have g5 := wh_le g
  have g6 := wh_pos g
  have hci := cell_lt hxa hya
  have hon := on_ok hxa hya (by omega) (by omega)
  refine z_entry (R := rmX2_isStubborn) ha (Nat.le_of_ble_eq_true rfl) (fun ls hl => ?_)
  have hl : lv_has ls 3 [(0, .ref m0), (1, .int (nI xa)), (2, .int (nI ya))] := hl
  refine lv_aload_n hx hb dX2_isStubborn_0 rfl (lv_at hl 0 rfl) ?_
  refine lv_aload_n hx hb dX2_isStubborn_1 rfl (lv_at hl 0 rfl) ?_
  refine lv_iload_n hx hb dX2_isStubborn_2 rfl (lv_at hl 1 rfl) ?_
  refine lv_iload_n hx hb dX2_isStubborn_3 rfl (lv_at hl 2 rfl) ?_
  refine z_callVi (As := [.int (nI xa), .int (nI ya)]) (rest := [.ref m0]) F9 (m_X2_isCell l dC dI cI cZ cJ cD m0 a1 a2 a3 a4 a5 a6 a7 a8 th wn hn q0 wv K0 NX T0 KP RG SZ LN mn (nI xa) (nI ya) (g)) (cwV 2 hts gX2_isStubborn_X2_isCell rfl rfl rfl (by decide +kernel) ⟨Nat.le_of_ble_eq_true rfl, Nat.le_of_ble_eq_true rfl⟩) hK hN hP hD hS hA [0, 1, 2, 3, 4, 5, 6, 7, 8] rfl rfl (fun _ => rfl) 0 (ci := 2) rfl rfl rfl rfl hl.1 rfl (Nat.le_of_ble_eq_true rfl) dX2_isStubborn_4 ⟨Nat.zero_le _, Nat.zero_le _⟩ (fun r_1 u H locs hp_4 hP hD hS => ?_)
  have hP : va_P (dC, dI) vwCl [(m0, .inr (2, [.int th, .int (nI wn), .int (nI hn), .int (nI q0), .int wv, .ref a1, .ref a2, .ref a3, .ref a4, .ref a5, .ref a6, .ref a7, .ref a8, .int mn])), (a1, .inl (cI, 25, .inl (kI K0))), (a2, .inl (cI, 25, .inl NX)), (a3, .inl (cZ, 25, .inl (zB T0))), (a4, .inl (cI, 100, .inl (bI wn hn))), (a5, .inl (cI, 25, .inl KP)), (a6, .inl (cI, 25, .inl RG)), (a7, .inl (cI, 26, .inl SZ)), (a8, .inl (cI, 25, .inl LN))] H := hP
  have hD : va_D A [(m0, .inr (2, [.int th, .int (nI wn), .int (nI hn), .int (nI q0), .int wv, .ref a1, .ref a2, .ref a3, .ref a4, .ref a5, .ref a6, .ref a7, .ref a8, .int mn])), (a1, .inl (cI, 25, .inl (kI K0))), (a2, .inl (cI, 25, .inl NX)), (a3, .inl (cZ, 25, .inl (zB T0))), (a4, .inl (cI, 100, .inl (bI wn hn))), (a5, .inl (cI, 25, .inl KP)), (a6, .inl (cI, 25, .inl RG)), (a7, .inl (cI, 26, .inl SZ)), (a8, .inl (cI, 25, .inl LN))] := hD
  have hp_4 : r_1 = if pOn (nI xa) (nI ya) (nI wn) (nI hn) then 1 else 0 := hp_4
  refine z_topi (y := if pOn (nI xa) (nI ya) (nI wn) (nI hn) then 1 else 0) hp_4 ?_
  refine lv_if_eq (tgt := 14) hx hb dX2_isStubborn_7 (by decide) (fun c_7 => ?_) (fun c_7 => ?_)
  · skip
    exact absurd hon (z_if0 c_7)
  · skip
    refine lv_iconst (v := 0) hx hb dX2_isStubborn_10 (by decide) ?_
    refine lv_goto (tgt := 15) hx hb dX2_isStubborn_11 (by decide) ?_
    refine va_put (D := (dC, dI)) (ci := 2) (v := .int 0) (ty := .int) (C := RX2) (T := TX2) (N := 14) hx hb hts iX2_isStubborn_X2 tyX2 tyX2_ok nmX2 hown hK hP hD hS 0 rfl rfl 0 (by decide) (hts (.fieldLink RX2 43 "ColourTideModel" "thrown" "I") (List.mem_of_getElem? (i := 1) rfl)) (fun _ h9 => h9) rfl (by decide +kernel) rfl rfl (Nat.le_of_ble_eq_true rfl) dX2_isStubborn_15 (fun H locs hP hD hS => ?_)
    have hP : va_P (dC, dI) vwCl [(m0, .inr (2, [.int 0, .int (nI wn), .int (nI hn), .int (nI q0), .int wv, .ref a1, .ref a2, .ref a3, .ref a4, .ref a5, .ref a6, .ref a7, .ref a8, .int mn])), (a1, .inl (cI, 25, .inl (kI K0))), (a2, .inl (cI, 25, .inl NX)), (a3, .inl (cZ, 25, .inl (zB T0))), (a4, .inl (cI, 100, .inl (bI wn hn))), (a5, .inl (cI, 25, .inl KP)), (a6, .inl (cI, 25, .inl RG)), (a7, .inl (cI, 26, .inl SZ)), (a8, .inl (cI, 25, .inl LN))] H := hP
    have hD : va_D A [(m0, .inr (2, [.int 0, .int (nI wn), .int (nI hn), .int (nI q0), .int wv, .ref a1, .ref a2, .ref a3, .ref a4, .ref a5, .ref a6, .ref a7, .ref a8, .int mn])), (a1, .inl (cI, 25, .inl (kI K0))), (a2, .inl (cI, 25, .inl NX)), (a3, .inl (cZ, 25, .inl (zB T0))), (a4, .inl (cI, 100, .inl (bI wn hn))), (a5, .inl (cI, 25, .inl KP)), (a6, .inl (cI, 25, .inl RG)), (a7, .inl (cI, 26, .inl SZ)), (a8, .inl (cI, 25, .inl LN))] := hD
    refine lv_aload_n hx hb dX2_isStubborn_18 rfl (lv_at hl 0 rfl) ?_
    refine va_get (D := (dC, dI)) (ci := 2) (v := .int 0) (C := RX2) (T := TX2) (N := 14) hx hb hts iX2_isStubborn_X2 hown hK hP 0 rfl rfl 0 (by decide) (hts (.fieldLink RX2 43 "ColourTideModel" "thrown" "I") (List.mem_of_getElem? (i := 1) rfl)) (fun _ h9 => h9) rfl dX2_isStubborn_19 ?_
    refine lv_if_ne (tgt := 45) hx hb dX2_isStubborn_22 (by decide) (fun c_22 => ?_) (fun c_22 => ?_)
    · skip
      have n_22 := zc_eq_f (a := 0) (b := 0) (by omega) (by omega) c_22
      exact absurd n_22 (by omega)
    · skip
      have n_22 := zc_eq_t (a := 0) (b := 0) (by omega) (by omega) c_22
      refine lv_aload_n hx hb dX2_isStubborn_25 rfl (lv_at hl 0 rfl) ?_
      refine va_get (D := (dC, dI)) (ci := 2) (v := .ref a3) (C := RX2) (T := TX2) (N := 14) hx hb hts iX2_isStubborn_X2 hown hK hP 0 rfl rfl 7 (by decide) (hts (.fieldLink RX2 20 "ColourTideModel" "stubborn" "[Z") (List.mem_of_getElem? (i := 2) rfl)) (fun _ h9 => h9) rfl dX2_isStubborn_26 ?_
      refine lv_aload_n hx hb dX2_isStubborn_29 rfl (lv_at hl 0 rfl) ?_
      refine va_get (D := (dC, dI)) (ci := 2) (v := .int (nI wn)) (C := RX2) (T := TX2) (N := 14) hx hb hts iX2_isStubborn_X2 hown hK hP 0 rfl rfl 1 (by decide) (hts (.fieldLink RX2 46 "ColourTideModel" "w" "I") (List.mem_of_getElem? (i := 3) rfl)) (fun _ h9 => h9) rfl dX2_isStubborn_30 ?_
      refine lv_iload_n hx hb dX2_isStubborn_33 rfl (lv_at hl 2 rfl) ?_
      refine lv_imul hx hb dX2_isStubborn_34 ?_
      refine z_topi (y := nI (wn * ya)) (pk_mul wn ya) ?_
      refine lv_iload_n hx hb dX2_isStubborn_35 rfl (lv_at hl 1 rfl) ?_
      refine lv_iadd hx hb dX2_isStubborn_36 ?_
      refine z_topi (y := nI ((wn * ya) + xa)) (nI_add (wn * ya) xa) ?_
      refine z_zald hx hb hK hP 3 1 rfl rfl ((wn * ya) + xa) (rfl) (by omega) (by decide) dX2_isStubborn_37 ?_
      refine z_topi (y := bz (T0 (wn * ya + xa))) (rfl) ?_
      refine lv_if_eq (tgt := 45) hx hb dX2_isStubborn_38 (by decide) (fun c_38 => ?_) (fun c_38 => ?_)
      · skip
        refine lv_iconst (v := 0) hx hb dX2_isStubborn_45 (by decide) ?_
        rw [← hQ]
        exact z_zret (W1 := (fun (_ : Unit) => [(m0, .inr (2, [.int 0, .int (nI wn), .int (nI hn), .int (nI q0), .int wv, .ref a1, .ref a2, .ref a3, .ref a4, .ref a5, .ref a6, .ref a7, .ref a8, .int mn])), (a1, .inl (cI, 25, .inl (kI K0))), (a2, .inl (cI, 25, .inl NX)), (a3, .inl (cZ, 25, .inl (zB T0))), (a4, .inl (cI, 100, .inl (bI wn hn))), (a5, .inl (cI, 25, .inl KP)), (a6, .inl (cI, 25, .inl RG)), (a7, .inl (cI, 26, .inl SZ)), (a8, .inl (cI, 25, .inl LN))])) hx hb hr hlocks (by decide +kernel) hP hS () (rfl) (by rw [bz_0 c_38]; rfl) dX2_isStubborn_46
      · skip
        refine lv_iconst (v := 1) hx hb dX2_isStubborn_41 (by decide) ?_
        refine lv_goto (tgt := 46) hx hb dX2_isStubborn_42 (by decide) ?_
        rw [← hQ]
        exact z_zret (W1 := (fun (_ : Unit) => [(m0, .inr (2, [.int 0, .int (nI wn), .int (nI hn), .int (nI q0), .int wv, .ref a1, .ref a2, .ref a3, .ref a4, .ref a5, .ref a6, .ref a7, .ref a8, .int mn])), (a1, .inl (cI, 25, .inl (kI K0))), (a2, .inl (cI, 25, .inl NX)), (a3, .inl (cZ, 25, .inl (zB T0))), (a4, .inl (cI, 100, .inl (bI wn hn))), (a5, .inl (cI, 25, .inl KP)), (a6, .inl (cI, 25, .inl RG)), (a7, .inl (cI, 26, .inl SZ)), (a8, .inl (cI, 25, .inl LN))])) hx hb hr hlocks (by decide +kernel) hP hS () (rfl) (by rw [bz_1 c_38]; rfl) dX2_isStubborn_46
set_option maxHeartbeats 4000000 in
set_option maxRecDepth 100000 in
theorem m_X2_isStubborn_no (l : Launch) (dC : Nat → ClassId) (dI : Nat → Nat → Nat) (cI cZ cJ cD : ClassId) (m0 : Nat) (a1 : Nat) (a2 : Nat) (a3 : Nat) (a4 : Nat) (a5 : Nat) (a6 : Nat) (a7 : Nat) (a8 : Nat) (th : Int32) (wn : Nat) (hn : Nat) (q0 : Nat) (wv : Int32) (K0 : Nat → Nat) (NX : Nat → Int32) (T0 : Nat → Bool) (KP : Nat → Int32) (RG : Nat → Int32) (SZ : Nat → Int32) (LN : Nat → Int32) (mn : Int32) (x0 : Int32) (y0 : Int32) (g : gok wn hn) (hK4 : ∀ c, K0 c ≤ 4) (hno : ¬ pOn x0 y0 (nI wn) (nI hn)) : zI l (dC, dI) (wT cI cZ cJ cD) yX2_isStubborn wsX2_isStubborn rmX2_isStubborn [(m0, .inr (2, [.int th, .int (nI wn), .int (nI hn), .int (nI q0), .int wv, .ref a1, .ref a2, .ref a3, .ref a4, .ref a5, .ref a6, .ref a7, .ref a8, .int mn])), (a1, .inl (cI, 25, .inl (kI K0))), (a2, .inl (cI, 25, .inl NX)), (a3, .inl (cZ, 25, .inl (zB T0))), (a4, .inl (cI, 100, .inl (bI wn hn))), (a5, .inl (cI, 25, .inl KP)), (a6, .inl (cI, 25, .inl RG)), (a7, .inl (cI, 26, .inl SZ)), (a8, .inl (cI, 25, .inl LN))] [.ref m0, .int x0, .int y0] (fun (_ : Unit) => [(m0, .inr (2, [.int 1, .int (nI wn), .int (nI hn), .int (nI q0), .int wv, .ref a1, .ref a2, .ref a3, .ref a4, .ref a5, .ref a6, .ref a7, .ref a8, .int mn])), (a1, .inl (cI, 25, .inl (kI K0))), (a2, .inl (cI, 25, .inl NX)), (a3, .inl (cZ, 25, .inl (zB T0))), (a4, .inl (cI, 100, .inl (bI wn hn))), (a5, .inl (cI, 25, .inl KP)), (a6, .inl (cI, 25, .inl RG)), (a7, .inl (cI, 26, .inl SZ)), (a8, .inl (cI, 25, .inl LN))]) (fun (r : Int32) (_ : Unit) => True) := by
  intro sz
  refine Met.ofW (cc := cX2_isStubborn) (maxL := 3) (ret := (some .boolean)) (by decide) rfl ?_
  intro p e s m args below meth c s₁ B hml hv
  obtain ⟨ha, hsz, hP, hK, hD0, hN⟩ := hv
  have hx := B.exec
  have hb := B.bytes
  have hr := B.returns
  have hts := atoms_spec (ws := wsX2_isStubborn) B.pre
  have hown : s.vm.findClass RX2 = some m.cls := findClass_of_methodNamed B.named
  have hlocks := B.notSynchronized
  subst hsz
  have hD := hD0.self (sz := s.heap.size)
  generalize hAe : va_A [(m0, .inr (2, [.int th, .int (nI wn), .int (nI hn), .int (nI q0), .int wv, .ref a1, .ref a2, .ref a3, .ref a4, .ref a5, .ref a6, .ref a7, .ref a8, .int mn])), (a1, .inl (cI, 25, .inl (kI K0))), (a2, .inl (cI, 25, .inl NX)), (a3, .inl (cZ, 25, .inl (zB T0))), (a4, .inl (cI, 100, .inl (bI wn hn))), (a5, .inl (cI, 25, .inl KP)), (a6, .inl (cI, 25, .inl RG)), (a7, .inl (cI, 26, .inl SZ)), (a8, .inl (cI, 25, .inl LN))] s.heap.size = A at hD ⊢
  have hA : ∀ q : Nat, s.heap.size ≤ q → A q := fun q h => by rw [← hAe]; exact Or.inr h
  have hS : va_S A s.heap s.heap [] := va_S.rf
  generalize hQ : MQ below (va_Qi (fun (r : Int32) (_ : Unit) => True) (fun u t => va_P (dC, dI) vwCl ((fun (_ : Unit) => [(m0, .inr (2, [.int 1, .int (nI wn), .int (nI hn), .int (nI q0), .int wv, .ref a1, .ref a2, .ref a3, .ref a4, .ref a5, .ref a6, .ref a7, .ref a8, .int mn])), (a1, .inl (cI, 25, .inl (kI K0))), (a2, .inl (cI, 25, .inl NX)), (a3, .inl (cZ, 25, .inl (zB T0))), (a4, .inl (cI, 100, .inl (bI wn hn))), (a5, .inl (cI, 25, .inl KP)), (a6, .inl (cI, 25, .inl RG)), (a7, .inl (cI, 26, .inl SZ)), (a8, .inl (cI, 25, .inl LN))]) u) t.heap) A) args s 0 0 A = Q
  have F9 : CallFix p m c cX2_isStubborn 3 s args wsX2_isStubborn RX2 := ⟨hx, hb, hml, hown, hts⟩
  obtain ⟨g1, g2, g3, g4⟩ := id g
  have g5 := wh_le g
  have g6 := wh_pos g
  refine z_entry (R := rmX2_isStubborn) ha (Nat.le_of_ble_eq_true rfl) (fun ls hl => ?_)
  have hl : lv_has ls 3 [(0, .ref m0), (1, .int x0), (2, .int y0)] := hl
  refine lv_aload_n hx hb dX2_isStubborn_0 rfl (lv_at hl 0 rfl) ?_
  refine lv_aload_n hx hb dX2_isStubborn_1 rfl (lv_at hl 0 rfl) ?_
  refine lv_iload_n hx hb dX2_isStubborn_2 rfl (lv_at hl 1 rfl) ?_
  refine lv_iload_n hx hb dX2_isStubborn_3 rfl (lv_at hl 2 rfl) ?_
  refine z_callVi (As := [.int x0, .int y0]) (rest := [.ref m0]) F9 (m_X2_isCell l dC dI cI cZ cJ cD m0 a1 a2 a3 a4 a5 a6 a7 a8 th wn hn q0 wv K0 NX T0 KP RG SZ LN mn x0 y0 (g)) (cwV 2 hts gX2_isStubborn_X2_isCell rfl rfl rfl (by decide +kernel) ⟨Nat.le_of_ble_eq_true rfl, Nat.le_of_ble_eq_true rfl⟩) hK hN hP hD hS hA [0, 1, 2, 3, 4, 5, 6, 7, 8] rfl rfl (fun _ => rfl) 0 (ci := 2) rfl rfl rfl rfl hl.1 rfl (Nat.le_of_ble_eq_true rfl) dX2_isStubborn_4 ⟨Nat.zero_le _, Nat.zero_le _⟩ (fun r_1 u H locs hp_4 hP hD hS => ?_)
  have hP : va_P (dC, dI) vwCl [(m0, .inr (2, [.int th, .int (nI wn), .int (nI hn), .int (nI q0), .int wv, .ref a1, .ref a2, .ref a3, .ref a4, .ref a5, .ref a6, .ref a7, .ref a8, .int mn])), (a1, .inl (cI, 25, .inl (kI K0))), (a2, .inl (cI, 25, .inl NX)), (a3, .inl (cZ, 25, .inl (zB T0))), (a4, .inl (cI, 100, .inl (bI wn hn))), (a5, .inl (cI, 25, .inl KP)), (a6, .inl (cI, 25, .inl RG)), (a7, .inl (cI, 26, .inl SZ)), (a8, .inl (cI, 25, .inl LN))] H := hP
  have hD : va_D A [(m0, .inr (2, [.int th, .int (nI wn), .int (nI hn), .int (nI q0), .int wv, .ref a1, .ref a2, .ref a3, .ref a4, .ref a5, .ref a6, .ref a7, .ref a8, .int mn])), (a1, .inl (cI, 25, .inl (kI K0))), (a2, .inl (cI, 25, .inl NX)), (a3, .inl (cZ, 25, .inl (zB T0))), (a4, .inl (cI, 100, .inl (bI wn hn))), (a5, .inl (cI, 25, .inl KP)), (a6, .inl (cI, 25, .inl RG)), (a7, .inl (cI, 26, .inl SZ)), (a8, .inl (cI, 25, .inl LN))] := hD
  have hp_4 : r_1 = if pOn x0 y0 (nI wn) (nI hn) then 1 else 0 := hp_4
  refine z_topi (y := if pOn x0 y0 (nI wn) (nI hn) then 1 else 0) hp_4 ?_
  refine lv_if_eq (tgt := 14) hx hb dX2_isStubborn_7 (by decide) (fun c_7 => ?_) (fun c_7 => ?_)
  · skip
    refine lv_iconst (v := 1) hx hb dX2_isStubborn_14 (by decide) ?_
    refine va_put (D := (dC, dI)) (ci := 2) (v := .int 1) (ty := .int) (C := RX2) (T := TX2) (N := 14) hx hb hts iX2_isStubborn_X2 tyX2 tyX2_ok nmX2 hown hK hP hD hS 0 rfl rfl 0 (by decide) (hts (.fieldLink RX2 43 "ColourTideModel" "thrown" "I") (List.mem_of_getElem? (i := 1) rfl)) (fun _ h9 => h9) rfl (by decide +kernel) rfl rfl (Nat.le_of_ble_eq_true rfl) dX2_isStubborn_15 (fun H locs hP hD hS => ?_)
    have hP : va_P (dC, dI) vwCl [(m0, .inr (2, [.int 1, .int (nI wn), .int (nI hn), .int (nI q0), .int wv, .ref a1, .ref a2, .ref a3, .ref a4, .ref a5, .ref a6, .ref a7, .ref a8, .int mn])), (a1, .inl (cI, 25, .inl (kI K0))), (a2, .inl (cI, 25, .inl NX)), (a3, .inl (cZ, 25, .inl (zB T0))), (a4, .inl (cI, 100, .inl (bI wn hn))), (a5, .inl (cI, 25, .inl KP)), (a6, .inl (cI, 25, .inl RG)), (a7, .inl (cI, 26, .inl SZ)), (a8, .inl (cI, 25, .inl LN))] H := hP
    have hD : va_D A [(m0, .inr (2, [.int 1, .int (nI wn), .int (nI hn), .int (nI q0), .int wv, .ref a1, .ref a2, .ref a3, .ref a4, .ref a5, .ref a6, .ref a7, .ref a8, .int mn])), (a1, .inl (cI, 25, .inl (kI K0))), (a2, .inl (cI, 25, .inl NX)), (a3, .inl (cZ, 25, .inl (zB T0))), (a4, .inl (cI, 100, .inl (bI wn hn))), (a5, .inl (cI, 25, .inl KP)), (a6, .inl (cI, 25, .inl RG)), (a7, .inl (cI, 26, .inl SZ)), (a8, .inl (cI, 25, .inl LN))] := hD
    refine lv_aload_n hx hb dX2_isStubborn_18 rfl (lv_at hl 0 rfl) ?_
    refine va_get (D := (dC, dI)) (ci := 2) (v := .int 1) (C := RX2) (T := TX2) (N := 14) hx hb hts iX2_isStubborn_X2 hown hK hP 0 rfl rfl 0 (by decide) (hts (.fieldLink RX2 43 "ColourTideModel" "thrown" "I") (List.mem_of_getElem? (i := 1) rfl)) (fun _ h9 => h9) rfl dX2_isStubborn_19 ?_
    refine lv_if_ne (tgt := 45) hx hb dX2_isStubborn_22 (by decide) (fun c_22 => ?_) (fun c_22 => ?_)
    · skip
      have n_22 := zc_eq_f (a := 1) (b := 0) (by omega) (by omega) c_22
      refine lv_iconst (v := 0) hx hb dX2_isStubborn_45 (by decide) ?_
      rw [← hQ]
      exact z_zret (W1 := (fun (_ : Unit) => [(m0, .inr (2, [.int 1, .int (nI wn), .int (nI hn), .int (nI q0), .int wv, .ref a1, .ref a2, .ref a3, .ref a4, .ref a5, .ref a6, .ref a7, .ref a8, .int mn])), (a1, .inl (cI, 25, .inl (kI K0))), (a2, .inl (cI, 25, .inl NX)), (a3, .inl (cZ, 25, .inl (zB T0))), (a4, .inl (cI, 100, .inl (bI wn hn))), (a5, .inl (cI, 25, .inl KP)), (a6, .inl (cI, 25, .inl RG)), (a7, .inl (cI, 26, .inl SZ)), (a8, .inl (cI, 25, .inl LN))])) hx hb hr hlocks (by decide +kernel) hP hS () (rfl) (trivial) dX2_isStubborn_46
    · skip
      have n_22 := zc_eq_t (a := 1) (b := 0) (by omega) (by omega) c_22
      exact absurd n_22 (by omega)
  · skip
    exact absurd (z_if1 c_7) hno
abbrev rmX2_neighboursWith : Room := { frames := 2, cells := 0, slots := 0, locals := 44 }
set_option maxRecDepth 20000 in
theorem iX2_neighboursWith_X2 : ∀ w ∈ wsX20, w ∈ wsX2_neighboursWith := fun w h => (goodIn_r (big := wsX2_neighboursWith) wsX20 [25, 26, 27, 28, 29, 30, 31, 32, 33, 34, 35, 36, 37, 38] (by decide +kernel) (by decide +kernel) w h).1
set_option maxHeartbeats 4000000 in
set_option maxRecDepth 100000 in
theorem m_X2_neighboursWith_ok (l : Launch) (dC : Nat → ClassId) (dI : Nat → Nat → Nat) (cI cZ cJ cD : ClassId) (m0 : Nat) (a1 : Nat) (a2 : Nat) (a3 : Nat) (a4 : Nat) (a5 : Nat) (a6 : Nat) (a7 : Nat) (a8 : Nat) (th : Int32) (wn : Nat) (hn : Nat) (q0 : Nat) (wv : Int32) (K0 : Nat → Nat) (NX : Nat → Int32) (T0 : Nat → Bool) (KP : Nat → Int32) (RG : Nat → Int32) (SZ : Nat → Int32) (LN : Nat → Int32) (mn : Int32) (xa : Nat) (ya : Nat) (j0 : Nat) (g : gok wn hn) (hK4 : ∀ c, K0 c ≤ 4) (hxa : xa < wn) (hya : ya < hn) (hj0 : j0 < 5) : zI l (dC, dI) (wT cI cZ cJ cD) yX2_neighboursWith wsX2_neighboursWith rmX2_neighboursWith [(m0, .inr (2, [.int th, .int (nI wn), .int (nI hn), .int (nI q0), .int wv, .ref a1, .ref a2, .ref a3, .ref a4, .ref a5, .ref a6, .ref a7, .ref a8, .int mn])), (a1, .inl (cI, 25, .inl (kI K0))), (a2, .inl (cI, 25, .inl NX)), (a3, .inl (cZ, 25, .inl (zB T0))), (a4, .inl (cI, 100, .inl (bI wn hn))), (a5, .inl (cI, 25, .inl KP)), (a6, .inl (cI, 25, .inl RG)), (a7, .inl (cI, 26, .inl SZ)), (a8, .inl (cI, 25, .inl LN))] [.ref m0, .int (nI xa), .int (nI ya), .int (nI j0)] (fun (_ : Unit) => [(m0, .inr (2, [.int 0, .int (nI wn), .int (nI hn), .int (nI q0), .int wv, .ref a1, .ref a2, .ref a3, .ref a4, .ref a5, .ref a6, .ref a7, .ref a8, .int mn])), (a1, .inl (cI, 25, .inl (kI K0))), (a2, .inl (cI, 25, .inl NX)), (a3, .inl (cZ, 25, .inl (zB T0))), (a4, .inl (cI, 100, .inl (bI wn hn))), (a5, .inl (cI, 25, .inl KP)), (a6, .inl (cI, 25, .inl RG)), (a7, .inl (cI, 26, .inl SZ)), (a8, .inl (cI, 25, .inl LN))]) (fun (r : Int32) (_ : Unit) => r = nI (cnbs wn hn K0 (wn * ya + xa) j0)) := by
  intro sz
  refine Met.ofW (cc := cX2_neighboursWith) (maxL := 4) (ret := (some .int)) (by decide) rfl ?_
  intro p e s m args below meth c s₁ B hml hv
  obtain ⟨ha, hsz, hP, hK, hD0, hN⟩ := hv
  have hx := B.exec
  have hb := B.bytes
  have hr := B.returns
  have hts := atoms_spec (ws := wsX2_neighboursWith) B.pre
  have hown : s.vm.findClass RX2 = some m.cls := findClass_of_methodNamed B.named
  have hlocks := B.notSynchronized
  subst hsz
  have hD := hD0.self (sz := s.heap.size)
  generalize hAe : va_A [(m0, .inr (2, [.int th, .int (nI wn), .int (nI hn), .int (nI q0), .int wv, .ref a1, .ref a2, .ref a3, .ref a4, .ref a5, .ref a6, .ref a7, .ref a8, .int mn])), (a1, .inl (cI, 25, .inl (kI K0))), (a2, .inl (cI, 25, .inl NX)), (a3, .inl (cZ, 25, .inl (zB T0))), (a4, .inl (cI, 100, .inl (bI wn hn))), (a5, .inl (cI, 25, .inl KP)), (a6, .inl (cI, 25, .inl RG)), (a7, .inl (cI, 26, .inl SZ)), (a8, .inl (cI, 25, .inl LN))] s.heap.size = A at hD ⊢
  have hA : ∀ q : Nat, s.heap.size ≤ q → A q := fun q h => by rw [← hAe]; exact Or.inr h
  have hS : va_S A s.heap s.heap [] := va_S.rf
  generalize hQ : MQ below (va_Qi (fun (r : Int32) (_ : Unit) => r = nI (cnbs wn hn K0 (wn * ya + xa) j0)) (fun u t => va_P (dC, dI) vwCl ((fun (_ : Unit) => [(m0, .inr (2, [.int 0, .int (nI wn), .int (nI hn), .int (nI q0), .int wv, .ref a1, .ref a2, .ref a3, .ref a4, .ref a5, .ref a6, .ref a7, .ref a8, .int mn])), (a1, .inl (cI, 25, .inl (kI K0))), (a2, .inl (cI, 25, .inl NX)), (a3, .inl (cZ, 25, .inl (zB T0))), (a4, .inl (cI, 100, .inl (bI wn hn))), (a5, .inl (cI, 25, .inl KP)), (a6, .inl (cI, 25, .inl RG)), (a7, .inl (cI, 26, .inl SZ)), (a8, .inl (cI, 25, .inl LN))]) u) t.heap) A) args s 0 0 A = Q
  have F9 : CallFix p m c cX2_neighboursWith 4 s args wsX2_neighboursWith RX2 := ⟨hx, hb, hml, hown, hts⟩
  obtain ⟨g1, g2, g3, g4⟩ := id g
  have g5 := wh_le g
  have g6 := wh_pos g
  have hci := cell_lt hxa hya
  have hon := on_ok hxa hya (by omega) (by omega)
  refine z_entry (R := rmX2_neighboursWith) ha (Nat.le_of_ble_eq_true rfl) (fun ls hl => ?_)
  have hl : lv_has ls 4 [(0, .ref m0), (1, .int (nI xa)), (2, .int (nI ya)), (3, .int (nI j0))] := hl
  refine lv_aload_n hx hb dX2_neighboursWith_0 rfl (lv_at hl 0 rfl) ?_
  refine lv_iconst (v := 0) hx hb dX2_neighboursWith_1 (by decide) ?_
  refine va_put (D := (dC, dI)) (ci := 2) (v := .int 0) (ty := .int) (C := RX2) (T := TX2) (N := 14) hx hb hts iX2_neighboursWith_X2 tyX2 tyX2_ok nmX2 hown hK hP hD hS 0 rfl rfl 0 (by decide) (hts (.fieldLink RX2 43 "ColourTideModel" "thrown" "I") (List.mem_of_getElem? (i := 1) rfl)) (fun _ h9 => h9) rfl (by decide +kernel) rfl rfl (Nat.le_of_ble_eq_true rfl) dX2_neighboursWith_2 (fun H locs hP hD hS => ?_)
  have hP : va_P (dC, dI) vwCl [(m0, .inr (2, [.int 0, .int (nI wn), .int (nI hn), .int (nI q0), .int wv, .ref a1, .ref a2, .ref a3, .ref a4, .ref a5, .ref a6, .ref a7, .ref a8, .int mn])), (a1, .inl (cI, 25, .inl (kI K0))), (a2, .inl (cI, 25, .inl NX)), (a3, .inl (cZ, 25, .inl (zB T0))), (a4, .inl (cI, 100, .inl (bI wn hn))), (a5, .inl (cI, 25, .inl KP)), (a6, .inl (cI, 25, .inl RG)), (a7, .inl (cI, 26, .inl SZ)), (a8, .inl (cI, 25, .inl LN))] H := hP
  have hD : va_D A [(m0, .inr (2, [.int 0, .int (nI wn), .int (nI hn), .int (nI q0), .int wv, .ref a1, .ref a2, .ref a3, .ref a4, .ref a5, .ref a6, .ref a7, .ref a8, .int mn])), (a1, .inl (cI, 25, .inl (kI K0))), (a2, .inl (cI, 25, .inl NX)), (a3, .inl (cZ, 25, .inl (zB T0))), (a4, .inl (cI, 100, .inl (bI wn hn))), (a5, .inl (cI, 25, .inl KP)), (a6, .inl (cI, 25, .inl RG)), (a7, .inl (cI, 26, .inl SZ)), (a8, .inl (cI, 25, .inl LN))] := hD
  refine lv_aload_n hx hb dX2_neighboursWith_5 rfl (lv_at hl 0 rfl) ?_
  refine lv_iload_n hx hb dX2_neighboursWith_6 rfl (lv_at hl 1 rfl) ?_
  refine lv_iload_n hx hb dX2_neighboursWith_7 rfl (lv_at hl 2 rfl) ?_
  refine z_callVi (As := [.int (nI xa), .int (nI ya)]) (rest := []) F9 (m_X2_isCell l dC dI cI cZ cJ cD m0 a1 a2 a3 a4 a5 a6 a7 a8 0 wn hn q0 wv K0 NX T0 KP RG SZ LN mn (nI xa) (nI ya) (g)) (cwV 2 hts gX2_neighboursWith_X2_isCell rfl rfl rfl (by decide +kernel) ⟨Nat.le_of_ble_eq_true rfl, Nat.le_of_ble_eq_true rfl⟩) hK hN hP hD hS hA [0, 1, 2, 3, 4, 5, 6, 7, 8] rfl rfl (fun _ => rfl) 0 (ci := 2) rfl rfl rfl rfl hl.1 rfl (Nat.le_of_ble_eq_true rfl) dX2_neighboursWith_8 ⟨Nat.zero_le _, Nat.zero_le _⟩ (fun r_1 u H locs hp_8 hP hD hS => ?_)
  have hP : va_P (dC, dI) vwCl [(m0, .inr (2, [.int 0, .int (nI wn), .int (nI hn), .int (nI q0), .int wv, .ref a1, .ref a2, .ref a3, .ref a4, .ref a5, .ref a6, .ref a7, .ref a8, .int mn])), (a1, .inl (cI, 25, .inl (kI K0))), (a2, .inl (cI, 25, .inl NX)), (a3, .inl (cZ, 25, .inl (zB T0))), (a4, .inl (cI, 100, .inl (bI wn hn))), (a5, .inl (cI, 25, .inl KP)), (a6, .inl (cI, 25, .inl RG)), (a7, .inl (cI, 26, .inl SZ)), (a8, .inl (cI, 25, .inl LN))] H := hP
  have hD : va_D A [(m0, .inr (2, [.int 0, .int (nI wn), .int (nI hn), .int (nI q0), .int wv, .ref a1, .ref a2, .ref a3, .ref a4, .ref a5, .ref a6, .ref a7, .ref a8, .int mn])), (a1, .inl (cI, 25, .inl (kI K0))), (a2, .inl (cI, 25, .inl NX)), (a3, .inl (cZ, 25, .inl (zB T0))), (a4, .inl (cI, 100, .inl (bI wn hn))), (a5, .inl (cI, 25, .inl KP)), (a6, .inl (cI, 25, .inl RG)), (a7, .inl (cI, 26, .inl SZ)), (a8, .inl (cI, 25, .inl LN))] := hD
  have hp_8 : r_1 = if pOn (nI xa) (nI ya) (nI wn) (nI hn) then 1 else 0 := hp_8
  refine z_topi (y := if pOn (nI xa) (nI ya) (nI wn) (nI hn) then 1 else 0) hp_8 ?_
  refine lv_if_eq (tgt := 37) hx hb dX2_neighboursWith_11 (by decide) (fun c_11 => ?_) (fun c_11 => ?_)
  · skip
    exact absurd hon (z_if0 c_11)
  · skip
    refine lv_iload_n hx hb dX2_neighboursWith_14 rfl (lv_at hl 3 rfl) ?_
    refine z_callSi (As := [.int (nI j0)]) (rest := []) F9 (m_X2_isAny l dC dI cI cZ cJ cD (nI j0) ) (va_cwS 1 hts gX2_neighboursWith_X2_isAny rfl rfl rfl (by decide +kernel) ⟨Nat.le_of_ble_eq_true rfl, Nat.le_of_ble_eq_true rfl⟩) hK hN hP hD hS hA rfl hl.1 rfl (Nat.le_of_ble_eq_true rfl) dX2_neighboursWith_15 ⟨Nat.zero_le _, Nat.zero_le _⟩ (fun r_2 H locs hp_15 hP hS => ?_)
    have hp_15 : r_2 = if pAny (nI j0) then 1 else 0 := hp_15
    refine z_topi (y := if pAny (nI j0) then 1 else 0) hp_15 ?_
    refine lv_if_eq (tgt := 37) hx hb dX2_neighboursWith_18 (by decide) (fun c_18 => ?_) (fun c_18 => ?_)
    · skip
      exact absurd (any_ok hj0) (z_if0 c_18)
    · skip
      refine lv_aload_n hx hb dX2_neighboursWith_21 rfl (lv_at hl 0 rfl) ?_
      refine lv_aload_n hx hb dX2_neighboursWith_22 rfl (lv_at hl 0 rfl) ?_
      refine va_get (D := (dC, dI)) (ci := 2) (v := .int (nI wn)) (C := RX2) (T := TX2) (N := 14) hx hb hts iX2_neighboursWith_X2 hown hK hP 0 rfl rfl 1 (by decide) (hts (.fieldLink RX2 46 "ColourTideModel" "w" "I") (List.mem_of_getElem? (i := 2) rfl)) (fun _ h9 => h9) rfl dX2_neighboursWith_23 ?_
      refine lv_iload_n hx hb dX2_neighboursWith_26 rfl (lv_at hl 2 rfl) ?_
      refine lv_imul hx hb dX2_neighboursWith_27 ?_
      refine z_topi (y := nI (wn * ya)) (pk_mul wn ya) ?_
      refine lv_iload_n hx hb dX2_neighboursWith_28 rfl (lv_at hl 1 rfl) ?_
      refine lv_iadd hx hb dX2_neighboursWith_29 ?_
      refine z_topi (y := nI ((wn * ya) + xa)) (nI_add (wn * ya) xa) ?_
      refine lv_iload_n hx hb dX2_neighboursWith_30 rfl (lv_at hl 3 rfl) ?_
      refine z_callVi (As := [.int (nI ((wn * ya) + xa)), .int (nI j0)]) (rest := []) F9 (m_X2_beside l dC dI cI cZ cJ cD m0 a1 a2 a3 a4 a5 a6 a7 a8 0 wn hn q0 wv K0 NX T0 KP RG SZ LN mn ((wn * ya) + xa) j0 (g) (hK4) (hci) (by omega)) (cwV 2 hts gX2_neighboursWith_X2_beside rfl rfl rfl (by decide +kernel) ⟨Nat.le_of_ble_eq_true rfl, Nat.le_of_ble_eq_true rfl⟩) hK hN hP hD hS hA [0, 1, 2, 3, 4, 5, 6, 7, 8] rfl rfl (fun _ => rfl) 0 (ci := 2) rfl rfl rfl rfl hl.1 rfl (Nat.le_of_ble_eq_true rfl) dX2_neighboursWith_31 ⟨Nat.zero_le _, Nat.zero_le _⟩ (fun r_3 u H locs hp_31 hP hD hS => ?_)
      have hP : va_P (dC, dI) vwCl [(m0, .inr (2, [.int 0, .int (nI wn), .int (nI hn), .int (nI q0), .int wv, .ref a1, .ref a2, .ref a3, .ref a4, .ref a5, .ref a6, .ref a7, .ref a8, .int mn])), (a1, .inl (cI, 25, .inl (kI K0))), (a2, .inl (cI, 25, .inl NX)), (a3, .inl (cZ, 25, .inl (zB T0))), (a4, .inl (cI, 100, .inl (bI wn hn))), (a5, .inl (cI, 25, .inl KP)), (a6, .inl (cI, 25, .inl RG)), (a7, .inl (cI, 26, .inl SZ)), (a8, .inl (cI, 25, .inl LN))] H := hP
      have hD : va_D A [(m0, .inr (2, [.int 0, .int (nI wn), .int (nI hn), .int (nI q0), .int wv, .ref a1, .ref a2, .ref a3, .ref a4, .ref a5, .ref a6, .ref a7, .ref a8, .int mn])), (a1, .inl (cI, 25, .inl (kI K0))), (a2, .inl (cI, 25, .inl NX)), (a3, .inl (cZ, 25, .inl (zB T0))), (a4, .inl (cI, 100, .inl (bI wn hn))), (a5, .inl (cI, 25, .inl KP)), (a6, .inl (cI, 25, .inl RG)), (a7, .inl (cI, 26, .inl SZ)), (a8, .inl (cI, 25, .inl LN))] := hD
      have hp_31 : r_3 = nI (cnbs wn hn K0 ((wn * ya) + xa) j0) := hp_31
      refine z_topi (y := nI (cnbs wn hn K0 ((wn * ya) + xa) j0)) hp_31 ?_
      refine lv_goto (tgt := 42) hx hb dX2_neighboursWith_34 (by decide) ?_
      rw [← hQ]
      exact z_iret (W1 := (fun (_ : Unit) => [(m0, .inr (2, [.int 0, .int (nI wn), .int (nI hn), .int (nI q0), .int wv, .ref a1, .ref a2, .ref a3, .ref a4, .ref a5, .ref a6, .ref a7, .ref a8, .int mn])), (a1, .inl (cI, 25, .inl (kI K0))), (a2, .inl (cI, 25, .inl NX)), (a3, .inl (cZ, 25, .inl (zB T0))), (a4, .inl (cI, 100, .inl (bI wn hn))), (a5, .inl (cI, 25, .inl KP)), (a6, .inl (cI, 25, .inl RG)), (a7, .inl (cI, 26, .inl SZ)), (a8, .inl (cI, 25, .inl LN))])) hx hb hr hlocks hP hS () (rfl) (rfl) dX2_neighboursWith_42
set_option maxHeartbeats 4000000 in
set_option maxRecDepth 100000 in
theorem m_X2_neighboursWith_no (l : Launch) (dC : Nat → ClassId) (dI : Nat → Nat → Nat) (cI cZ cJ cD : ClassId) (m0 : Nat) (a1 : Nat) (a2 : Nat) (a3 : Nat) (a4 : Nat) (a5 : Nat) (a6 : Nat) (a7 : Nat) (a8 : Nat) (th : Int32) (wn : Nat) (hn : Nat) (q0 : Nat) (wv : Int32) (K0 : Nat → Nat) (NX : Nat → Int32) (T0 : Nat → Bool) (KP : Nat → Int32) (RG : Nat → Int32) (SZ : Nat → Int32) (LN : Nat → Int32) (mn : Int32) (x0 : Int32) (y0 : Int32) (col : Int32) (g : gok wn hn) (hK4 : ∀ c, K0 c ≤ 4) (hno : ¬ (pOn x0 y0 (nI wn) (nI hn) ∧ pAny col)) : zI l (dC, dI) (wT cI cZ cJ cD) yX2_neighboursWith wsX2_neighboursWith rmX2_neighboursWith [(m0, .inr (2, [.int th, .int (nI wn), .int (nI hn), .int (nI q0), .int wv, .ref a1, .ref a2, .ref a3, .ref a4, .ref a5, .ref a6, .ref a7, .ref a8, .int mn])), (a1, .inl (cI, 25, .inl (kI K0))), (a2, .inl (cI, 25, .inl NX)), (a3, .inl (cZ, 25, .inl (zB T0))), (a4, .inl (cI, 100, .inl (bI wn hn))), (a5, .inl (cI, 25, .inl KP)), (a6, .inl (cI, 25, .inl RG)), (a7, .inl (cI, 26, .inl SZ)), (a8, .inl (cI, 25, .inl LN))] [.ref m0, .int x0, .int y0, .int col] (fun (_ : Unit) => [(m0, .inr (2, [.int 1, .int (nI wn), .int (nI hn), .int (nI q0), .int wv, .ref a1, .ref a2, .ref a3, .ref a4, .ref a5, .ref a6, .ref a7, .ref a8, .int mn])), (a1, .inl (cI, 25, .inl (kI K0))), (a2, .inl (cI, 25, .inl NX)), (a3, .inl (cZ, 25, .inl (zB T0))), (a4, .inl (cI, 100, .inl (bI wn hn))), (a5, .inl (cI, 25, .inl KP)), (a6, .inl (cI, 25, .inl RG)), (a7, .inl (cI, 26, .inl SZ)), (a8, .inl (cI, 25, .inl LN))]) (fun (r : Int32) (_ : Unit) => True) := by
  intro sz
  refine Met.ofW (cc := cX2_neighboursWith) (maxL := 4) (ret := (some .int)) (by decide) rfl ?_
  intro p e s m args below meth c s₁ B hml hv
  obtain ⟨ha, hsz, hP, hK, hD0, hN⟩ := hv
  have hx := B.exec
  have hb := B.bytes
  have hr := B.returns
  have hts := atoms_spec (ws := wsX2_neighboursWith) B.pre
  have hown : s.vm.findClass RX2 = some m.cls := findClass_of_methodNamed B.named
  have hlocks := B.notSynchronized
  subst hsz
  have hD := hD0.self (sz := s.heap.size)
  generalize hAe : va_A [(m0, .inr (2, [.int th, .int (nI wn), .int (nI hn), .int (nI q0), .int wv, .ref a1, .ref a2, .ref a3, .ref a4, .ref a5, .ref a6, .ref a7, .ref a8, .int mn])), (a1, .inl (cI, 25, .inl (kI K0))), (a2, .inl (cI, 25, .inl NX)), (a3, .inl (cZ, 25, .inl (zB T0))), (a4, .inl (cI, 100, .inl (bI wn hn))), (a5, .inl (cI, 25, .inl KP)), (a6, .inl (cI, 25, .inl RG)), (a7, .inl (cI, 26, .inl SZ)), (a8, .inl (cI, 25, .inl LN))] s.heap.size = A at hD ⊢
  have hA : ∀ q : Nat, s.heap.size ≤ q → A q := fun q h => by rw [← hAe]; exact Or.inr h
  have hS : va_S A s.heap s.heap [] := va_S.rf
  generalize hQ : MQ below (va_Qi (fun (r : Int32) (_ : Unit) => True) (fun u t => va_P (dC, dI) vwCl ((fun (_ : Unit) => [(m0, .inr (2, [.int 1, .int (nI wn), .int (nI hn), .int (nI q0), .int wv, .ref a1, .ref a2, .ref a3, .ref a4, .ref a5, .ref a6, .ref a7, .ref a8, .int mn])), (a1, .inl (cI, 25, .inl (kI K0))), (a2, .inl (cI, 25, .inl NX)), (a3, .inl (cZ, 25, .inl (zB T0))), (a4, .inl (cI, 100, .inl (bI wn hn))), (a5, .inl (cI, 25, .inl KP)), (a6, .inl (cI, 25, .inl RG)), (a7, .inl (cI, 26, .inl SZ)), (a8, .inl (cI, 25, .inl LN))]) u) t.heap) A) args s 0 0 A = Q
  have F9 : CallFix p m c cX2_neighboursWith 4 s args wsX2_neighboursWith RX2 := ⟨hx, hb, hml, hown, hts⟩
  obtain ⟨g1, g2, g3, g4⟩ := id g
  have g5 := wh_le g
  have g6 := wh_pos g
  refine z_entry (R := rmX2_neighboursWith) ha (Nat.le_of_ble_eq_true rfl) (fun ls hl => ?_)
  have hl : lv_has ls 4 [(0, .ref m0), (1, .int x0), (2, .int y0), (3, .int col)] := hl
  refine lv_aload_n hx hb dX2_neighboursWith_0 rfl (lv_at hl 0 rfl) ?_
  refine lv_iconst (v := 0) hx hb dX2_neighboursWith_1 (by decide) ?_
  refine va_put (D := (dC, dI)) (ci := 2) (v := .int 0) (ty := .int) (C := RX2) (T := TX2) (N := 14) hx hb hts iX2_neighboursWith_X2 tyX2 tyX2_ok nmX2 hown hK hP hD hS 0 rfl rfl 0 (by decide) (hts (.fieldLink RX2 43 "ColourTideModel" "thrown" "I") (List.mem_of_getElem? (i := 1) rfl)) (fun _ h9 => h9) rfl (by decide +kernel) rfl rfl (Nat.le_of_ble_eq_true rfl) dX2_neighboursWith_2 (fun H locs hP hD hS => ?_)
  have hP : va_P (dC, dI) vwCl [(m0, .inr (2, [.int 0, .int (nI wn), .int (nI hn), .int (nI q0), .int wv, .ref a1, .ref a2, .ref a3, .ref a4, .ref a5, .ref a6, .ref a7, .ref a8, .int mn])), (a1, .inl (cI, 25, .inl (kI K0))), (a2, .inl (cI, 25, .inl NX)), (a3, .inl (cZ, 25, .inl (zB T0))), (a4, .inl (cI, 100, .inl (bI wn hn))), (a5, .inl (cI, 25, .inl KP)), (a6, .inl (cI, 25, .inl RG)), (a7, .inl (cI, 26, .inl SZ)), (a8, .inl (cI, 25, .inl LN))] H := hP
  have hD : va_D A [(m0, .inr (2, [.int 0, .int (nI wn), .int (nI hn), .int (nI q0), .int wv, .ref a1, .ref a2, .ref a3, .ref a4, .ref a5, .ref a6, .ref a7, .ref a8, .int mn])), (a1, .inl (cI, 25, .inl (kI K0))), (a2, .inl (cI, 25, .inl NX)), (a3, .inl (cZ, 25, .inl (zB T0))), (a4, .inl (cI, 100, .inl (bI wn hn))), (a5, .inl (cI, 25, .inl KP)), (a6, .inl (cI, 25, .inl RG)), (a7, .inl (cI, 26, .inl SZ)), (a8, .inl (cI, 25, .inl LN))] := hD
  refine lv_aload_n hx hb dX2_neighboursWith_5 rfl (lv_at hl 0 rfl) ?_
  refine lv_iload_n hx hb dX2_neighboursWith_6 rfl (lv_at hl 1 rfl) ?_
  refine lv_iload_n hx hb dX2_neighboursWith_7 rfl (lv_at hl 2 rfl) ?_
  refine z_callVi (As := [.int x0, .int y0]) (rest := []) F9 (m_X2_isCell l dC dI cI cZ cJ cD m0 a1 a2 a3 a4 a5 a6 a7 a8 0 wn hn q0 wv K0 NX T0 KP RG SZ LN mn x0 y0 (g)) (cwV 2 hts gX2_neighboursWith_X2_isCell rfl rfl rfl (by decide +kernel) ⟨Nat.le_of_ble_eq_true rfl, Nat.le_of_ble_eq_true rfl⟩) hK hN hP hD hS hA [0, 1, 2, 3, 4, 5, 6, 7, 8] rfl rfl (fun _ => rfl) 0 (ci := 2) rfl rfl rfl rfl hl.1 rfl (Nat.le_of_ble_eq_true rfl) dX2_neighboursWith_8 ⟨Nat.zero_le _, Nat.zero_le _⟩ (fun r_1 u H locs hp_8 hP hD hS => ?_)
  have hP : va_P (dC, dI) vwCl [(m0, .inr (2, [.int 0, .int (nI wn), .int (nI hn), .int (nI q0), .int wv, .ref a1, .ref a2, .ref a3, .ref a4, .ref a5, .ref a6, .ref a7, .ref a8, .int mn])), (a1, .inl (cI, 25, .inl (kI K0))), (a2, .inl (cI, 25, .inl NX)), (a3, .inl (cZ, 25, .inl (zB T0))), (a4, .inl (cI, 100, .inl (bI wn hn))), (a5, .inl (cI, 25, .inl KP)), (a6, .inl (cI, 25, .inl RG)), (a7, .inl (cI, 26, .inl SZ)), (a8, .inl (cI, 25, .inl LN))] H := hP
  have hD : va_D A [(m0, .inr (2, [.int 0, .int (nI wn), .int (nI hn), .int (nI q0), .int wv, .ref a1, .ref a2, .ref a3, .ref a4, .ref a5, .ref a6, .ref a7, .ref a8, .int mn])), (a1, .inl (cI, 25, .inl (kI K0))), (a2, .inl (cI, 25, .inl NX)), (a3, .inl (cZ, 25, .inl (zB T0))), (a4, .inl (cI, 100, .inl (bI wn hn))), (a5, .inl (cI, 25, .inl KP)), (a6, .inl (cI, 25, .inl RG)), (a7, .inl (cI, 26, .inl SZ)), (a8, .inl (cI, 25, .inl LN))] := hD
  have hp_8 : r_1 = if pOn x0 y0 (nI wn) (nI hn) then 1 else 0 := hp_8
  refine z_topi (y := if pOn x0 y0 (nI wn) (nI hn) then 1 else 0) hp_8 ?_
  refine lv_if_eq (tgt := 37) hx hb dX2_neighboursWith_11 (by decide) (fun c_11 => ?_) (fun c_11 => ?_)
  · skip
    refine lv_aload_n hx hb dX2_neighboursWith_37 rfl (lv_at hl 0 rfl) ?_
    refine lv_iconst (v := 1) hx hb dX2_neighboursWith_38 (by decide) ?_
    refine z_callVi (As := [.int 1]) (rest := []) F9 (m_X2_fail l dC dI cI cZ cJ cD m0 a1 a2 a3 a4 a5 a6 a7 a8 0 wn hn q0 wv K0 NX T0 KP RG SZ LN mn 1 ) (cwV 1 hts gX2_neighboursWith_X2_fail rfl rfl rfl (by decide +kernel) ⟨Nat.le_of_ble_eq_true rfl, Nat.le_of_ble_eq_true rfl⟩) hK hN hP hD hS hA [0, 1, 2, 3, 4, 5, 6, 7, 8] rfl rfl (fun _ => rfl) 0 (ci := 2) rfl rfl rfl rfl hl.1 rfl (Nat.le_of_ble_eq_true rfl) dX2_neighboursWith_39 ⟨Nat.zero_le _, Nat.zero_le _⟩ (fun r_2 u H locs hp_39 hP hD hS => ?_)
    have hP : va_P (dC, dI) vwCl [(m0, .inr (2, [.int 1, .int (nI wn), .int (nI hn), .int (nI q0), .int wv, .ref a1, .ref a2, .ref a3, .ref a4, .ref a5, .ref a6, .ref a7, .ref a8, .int mn])), (a1, .inl (cI, 25, .inl (kI K0))), (a2, .inl (cI, 25, .inl NX)), (a3, .inl (cZ, 25, .inl (zB T0))), (a4, .inl (cI, 100, .inl (bI wn hn))), (a5, .inl (cI, 25, .inl KP)), (a6, .inl (cI, 25, .inl RG)), (a7, .inl (cI, 26, .inl SZ)), (a8, .inl (cI, 25, .inl LN))] H := hP
    have hD : va_D A [(m0, .inr (2, [.int 1, .int (nI wn), .int (nI hn), .int (nI q0), .int wv, .ref a1, .ref a2, .ref a3, .ref a4, .ref a5, .ref a6, .ref a7, .ref a8, .int mn])), (a1, .inl (cI, 25, .inl (kI K0))), (a2, .inl (cI, 25, .inl NX)), (a3, .inl (cZ, 25, .inl (zB T0))), (a4, .inl (cI, 100, .inl (bI wn hn))), (a5, .inl (cI, 25, .inl KP)), (a6, .inl (cI, 25, .inl RG)), (a7, .inl (cI, 26, .inl SZ)), (a8, .inl (cI, 25, .inl LN))] := hD
    have hp_39 : r_2 = 0 := hp_39
    refine z_topi (y := 0) hp_39 ?_
    rw [← hQ]
    exact z_iret (W1 := (fun (_ : Unit) => [(m0, .inr (2, [.int 1, .int (nI wn), .int (nI hn), .int (nI q0), .int wv, .ref a1, .ref a2, .ref a3, .ref a4, .ref a5, .ref a6, .ref a7, .ref a8, .int mn])), (a1, .inl (cI, 25, .inl (kI K0))), (a2, .inl (cI, 25, .inl NX)), (a3, .inl (cZ, 25, .inl (zB T0))), (a4, .inl (cI, 100, .inl (bI wn hn))), (a5, .inl (cI, 25, .inl KP)), (a6, .inl (cI, 25, .inl RG)), (a7, .inl (cI, 26, .inl SZ)), (a8, .inl (cI, 25, .inl LN))])) hx hb hr hlocks hP hS () (rfl) (trivial) dX2_neighboursWith_42
  · skip
    refine lv_iload_n hx hb dX2_neighboursWith_14 rfl (lv_at hl 3 rfl) ?_
    refine z_callSi (As := [.int col]) (rest := []) F9 (m_X2_isAny l dC dI cI cZ cJ cD col ) (va_cwS 1 hts gX2_neighboursWith_X2_isAny rfl rfl rfl (by decide +kernel) ⟨Nat.le_of_ble_eq_true rfl, Nat.le_of_ble_eq_true rfl⟩) hK hN hP hD hS hA rfl hl.1 rfl (Nat.le_of_ble_eq_true rfl) dX2_neighboursWith_15 ⟨Nat.zero_le _, Nat.zero_le _⟩ (fun r_3 H locs hp_15 hP hS => ?_)
    have hp_15 : r_3 = if pAny col then 1 else 0 := hp_15
    refine z_topi (y := if pAny col then 1 else 0) hp_15 ?_
    refine lv_if_eq (tgt := 37) hx hb dX2_neighboursWith_18 (by decide) (fun c_18 => ?_) (fun c_18 => ?_)
    · skip
      refine lv_aload_n hx hb dX2_neighboursWith_37 rfl (lv_at hl 0 rfl) ?_
      refine lv_iconst (v := 1) hx hb dX2_neighboursWith_38 (by decide) ?_
      refine z_callVi (As := [.int 1]) (rest := []) F9 (m_X2_fail l dC dI cI cZ cJ cD m0 a1 a2 a3 a4 a5 a6 a7 a8 0 wn hn q0 wv K0 NX T0 KP RG SZ LN mn 1 ) (cwV 1 hts gX2_neighboursWith_X2_fail rfl rfl rfl (by decide +kernel) ⟨Nat.le_of_ble_eq_true rfl, Nat.le_of_ble_eq_true rfl⟩) hK hN hP hD hS hA [0, 1, 2, 3, 4, 5, 6, 7, 8] rfl rfl (fun _ => rfl) 0 (ci := 2) rfl rfl rfl rfl hl.1 rfl (Nat.le_of_ble_eq_true rfl) dX2_neighboursWith_39 ⟨Nat.zero_le _, Nat.zero_le _⟩ (fun r_4 u H locs hp_39 hP hD hS => ?_)
      have hP : va_P (dC, dI) vwCl [(m0, .inr (2, [.int 1, .int (nI wn), .int (nI hn), .int (nI q0), .int wv, .ref a1, .ref a2, .ref a3, .ref a4, .ref a5, .ref a6, .ref a7, .ref a8, .int mn])), (a1, .inl (cI, 25, .inl (kI K0))), (a2, .inl (cI, 25, .inl NX)), (a3, .inl (cZ, 25, .inl (zB T0))), (a4, .inl (cI, 100, .inl (bI wn hn))), (a5, .inl (cI, 25, .inl KP)), (a6, .inl (cI, 25, .inl RG)), (a7, .inl (cI, 26, .inl SZ)), (a8, .inl (cI, 25, .inl LN))] H := hP
      have hD : va_D A [(m0, .inr (2, [.int 1, .int (nI wn), .int (nI hn), .int (nI q0), .int wv, .ref a1, .ref a2, .ref a3, .ref a4, .ref a5, .ref a6, .ref a7, .ref a8, .int mn])), (a1, .inl (cI, 25, .inl (kI K0))), (a2, .inl (cI, 25, .inl NX)), (a3, .inl (cZ, 25, .inl (zB T0))), (a4, .inl (cI, 100, .inl (bI wn hn))), (a5, .inl (cI, 25, .inl KP)), (a6, .inl (cI, 25, .inl RG)), (a7, .inl (cI, 26, .inl SZ)), (a8, .inl (cI, 25, .inl LN))] := hD
      have hp_39 : r_4 = 0 := hp_39
      refine z_topi (y := 0) hp_39 ?_
      rw [← hQ]
      exact z_iret (W1 := (fun (_ : Unit) => [(m0, .inr (2, [.int 1, .int (nI wn), .int (nI hn), .int (nI q0), .int wv, .ref a1, .ref a2, .ref a3, .ref a4, .ref a5, .ref a6, .ref a7, .ref a8, .int mn])), (a1, .inl (cI, 25, .inl (kI K0))), (a2, .inl (cI, 25, .inl NX)), (a3, .inl (cZ, 25, .inl (zB T0))), (a4, .inl (cI, 100, .inl (bI wn hn))), (a5, .inl (cI, 25, .inl KP)), (a6, .inl (cI, 25, .inl RG)), (a7, .inl (cI, 26, .inl SZ)), (a8, .inl (cI, 25, .inl LN))])) hx hb hr hlocks hP hS () (rfl) (trivial) dX2_neighboursWith_42
    · skip
      exact absurd ⟨z_if1 c_11, z_if1 c_18⟩ hno
abbrev rmX2_nextColour : Room := { frames := 2, cells := 0, slots := 0, locals := 50 }
set_option maxRecDepth 20000 in
theorem iX2_nextColour_X2 : ∀ w ∈ wsX20, w ∈ wsX2_nextColour := fun w h => (goodIn_r (big := wsX2_nextColour) wsX20 [28, 29, 30, 31, 32, 33, 34, 35, 36, 37, 38, 39, 40, 41] (by decide +kernel) (by decide +kernel) w h).1
set_option maxHeartbeats 4000000 in
set_option maxRecDepth 100000 in
theorem m_X2_nextColour_ok (l : Launch) (dC : Nat → ClassId) (dI : Nat → Nat → Nat) (cI cZ cJ cD : ClassId) (m0 : Nat) (a1 : Nat) (a2 : Nat) (a3 : Nat) (a4 : Nat) (a5 : Nat) (a6 : Nat) (a7 : Nat) (a8 : Nat) (th : Int32) (wn : Nat) (hn : Nat) (q0 : Nat) (wv : Int32) (K0 : Nat → Nat) (NX : Nat → Int32) (T0 : Nat → Bool) (KP : Nat → Int32) (RG : Nat → Int32) (SZ : Nat → Int32) (LN : Nat → Int32) (mn : Int32) (xa : Nat) (ya : Nat) (g : gok wn hn) (hK4 : ∀ c, K0 c ≤ 4) (hxa : xa < wn) (hya : ya < hn) (hq : 1 ≤ q0 ∧ q0 ≤ 4) : zI l (dC, dI) (wT cI cZ cJ cD) yX2_nextColour wsX2_nextColour rmX2_nextColour [(m0, .inr (2, [.int th, .int (nI wn), .int (nI hn), .int (nI q0), .int wv, .ref a1, .ref a2, .ref a3, .ref a4, .ref a5, .ref a6, .ref a7, .ref a8, .int mn])), (a1, .inl (cI, 25, .inl (kI K0))), (a2, .inl (cI, 25, .inl NX)), (a3, .inl (cZ, 25, .inl (zB T0))), (a4, .inl (cI, 100, .inl (bI wn hn))), (a5, .inl (cI, 25, .inl KP)), (a6, .inl (cI, 25, .inl RG)), (a7, .inl (cI, 26, .inl SZ)), (a8, .inl (cI, 25, .inl LN))] [.ref m0, .int (nI xa), .int (nI ya)] (fun (_ : Unit) => [(m0, .inr (2, [.int 0, .int (nI wn), .int (nI hn), .int (nI q0), .int wv, .ref a1, .ref a2, .ref a3, .ref a4, .ref a5, .ref a6, .ref a7, .ref a8, .int mn])), (a1, .inl (cI, 25, .inl (kI K0))), (a2, .inl (cI, 25, .inl NX)), (a3, .inl (cZ, 25, .inl (zB T0))), (a4, .inl (cI, 100, .inl (bI wn hn))), (a5, .inl (cI, 25, .inl KP)), (a6, .inl (cI, 25, .inl RG)), (a7, .inl (cI, 26, .inl SZ)), (a8, .inl (cI, 25, .inl LN))]) (fun (r : Int32) (_ : Unit) => r = nI (nxt wn hn q0 T0 K0 (wn * ya + xa))) := by
  intro sz
  refine Met.ofW (cc := cX2_nextColour) (maxL := 3) (ret := (some .int)) (by decide) rfl ?_
  intro p e s m args below meth c s₁ B hml hv
  obtain ⟨ha, hsz, hP, hK, hD0, hN⟩ := hv
  have hx := B.exec
  have hb := B.bytes
  have hr := B.returns
  have hts := atoms_spec (ws := wsX2_nextColour) B.pre
  have hown : s.vm.findClass RX2 = some m.cls := findClass_of_methodNamed B.named
  have hlocks := B.notSynchronized
  subst hsz
  have hD := hD0.self (sz := s.heap.size)
  generalize hAe : va_A [(m0, .inr (2, [.int th, .int (nI wn), .int (nI hn), .int (nI q0), .int wv, .ref a1, .ref a2, .ref a3, .ref a4, .ref a5, .ref a6, .ref a7, .ref a8, .int mn])), (a1, .inl (cI, 25, .inl (kI K0))), (a2, .inl (cI, 25, .inl NX)), (a3, .inl (cZ, 25, .inl (zB T0))), (a4, .inl (cI, 100, .inl (bI wn hn))), (a5, .inl (cI, 25, .inl KP)), (a6, .inl (cI, 25, .inl RG)), (a7, .inl (cI, 26, .inl SZ)), (a8, .inl (cI, 25, .inl LN))] s.heap.size = A at hD ⊢
  have hA : ∀ q : Nat, s.heap.size ≤ q → A q := fun q h => by rw [← hAe]; exact Or.inr h
  have hS : va_S A s.heap s.heap [] := va_S.rf
  generalize hQ : MQ below (va_Qi (fun (r : Int32) (_ : Unit) => r = nI (nxt wn hn q0 T0 K0 (wn * ya + xa))) (fun u t => va_P (dC, dI) vwCl ((fun (_ : Unit) => [(m0, .inr (2, [.int 0, .int (nI wn), .int (nI hn), .int (nI q0), .int wv, .ref a1, .ref a2, .ref a3, .ref a4, .ref a5, .ref a6, .ref a7, .ref a8, .int mn])), (a1, .inl (cI, 25, .inl (kI K0))), (a2, .inl (cI, 25, .inl NX)), (a3, .inl (cZ, 25, .inl (zB T0))), (a4, .inl (cI, 100, .inl (bI wn hn))), (a5, .inl (cI, 25, .inl KP)), (a6, .inl (cI, 25, .inl RG)), (a7, .inl (cI, 26, .inl SZ)), (a8, .inl (cI, 25, .inl LN))]) u) t.heap) A) args s 0 0 A = Q
  have F9 : CallFix p m c cX2_nextColour 3 s args wsX2_nextColour RX2 := ⟨hx, hb, hml, hown, hts⟩
  obtain ⟨g1, g2, g3, g4⟩ := id g
  have g5 := wh_le g
  have g6 := wh_pos g
  have hci := cell_lt hxa hya
  have hon := on_ok hxa hya (by omega) (by omega)
  refine z_entry (R := rmX2_nextColour) ha (Nat.le_of_ble_eq_true rfl) (fun ls hl => ?_)
  have hl : lv_has ls 3 [(0, .ref m0), (1, .int (nI xa)), (2, .int (nI ya))] := hl
  refine lv_aload_n hx hb dX2_nextColour_0 rfl (lv_at hl 0 rfl) ?_
  refine lv_iconst (v := 0) hx hb dX2_nextColour_1 (by decide) ?_
  refine va_put (D := (dC, dI)) (ci := 2) (v := .int 0) (ty := .int) (C := RX2) (T := TX2) (N := 14) hx hb hts iX2_nextColour_X2 tyX2 tyX2_ok nmX2 hown hK hP hD hS 0 rfl rfl 0 (by decide) (hts (.fieldLink RX2 43 "ColourTideModel" "thrown" "I") (List.mem_of_getElem? (i := 1) rfl)) (fun _ h9 => h9) rfl (by decide +kernel) rfl rfl (Nat.le_of_ble_eq_true rfl) dX2_nextColour_2 (fun H locs hP hD hS => ?_)
  have hP : va_P (dC, dI) vwCl [(m0, .inr (2, [.int 0, .int (nI wn), .int (nI hn), .int (nI q0), .int wv, .ref a1, .ref a2, .ref a3, .ref a4, .ref a5, .ref a6, .ref a7, .ref a8, .int mn])), (a1, .inl (cI, 25, .inl (kI K0))), (a2, .inl (cI, 25, .inl NX)), (a3, .inl (cZ, 25, .inl (zB T0))), (a4, .inl (cI, 100, .inl (bI wn hn))), (a5, .inl (cI, 25, .inl KP)), (a6, .inl (cI, 25, .inl RG)), (a7, .inl (cI, 26, .inl SZ)), (a8, .inl (cI, 25, .inl LN))] H := hP
  have hD : va_D A [(m0, .inr (2, [.int 0, .int (nI wn), .int (nI hn), .int (nI q0), .int wv, .ref a1, .ref a2, .ref a3, .ref a4, .ref a5, .ref a6, .ref a7, .ref a8, .int mn])), (a1, .inl (cI, 25, .inl (kI K0))), (a2, .inl (cI, 25, .inl NX)), (a3, .inl (cZ, 25, .inl (zB T0))), (a4, .inl (cI, 100, .inl (bI wn hn))), (a5, .inl (cI, 25, .inl KP)), (a6, .inl (cI, 25, .inl RG)), (a7, .inl (cI, 26, .inl SZ)), (a8, .inl (cI, 25, .inl LN))] := hD
  refine lv_aload_n hx hb dX2_nextColour_5 rfl (lv_at hl 0 rfl) ?_
  refine lv_iload_n hx hb dX2_nextColour_6 rfl (lv_at hl 1 rfl) ?_
  refine lv_iload_n hx hb dX2_nextColour_7 rfl (lv_at hl 2 rfl) ?_
  refine z_callVi (As := [.int (nI xa), .int (nI ya)]) (rest := []) F9 (m_X2_isCell l dC dI cI cZ cJ cD m0 a1 a2 a3 a4 a5 a6 a7 a8 0 wn hn q0 wv K0 NX T0 KP RG SZ LN mn (nI xa) (nI ya) (g)) (cwV 2 hts gX2_nextColour_X2_isCell rfl rfl rfl (by decide +kernel) ⟨Nat.le_of_ble_eq_true rfl, Nat.le_of_ble_eq_true rfl⟩) hK hN hP hD hS hA [0, 1, 2, 3, 4, 5, 6, 7, 8] rfl rfl (fun _ => rfl) 0 (ci := 2) rfl rfl rfl rfl hl.1 rfl (Nat.le_of_ble_eq_true rfl) dX2_nextColour_8 ⟨Nat.zero_le _, Nat.zero_le _⟩ (fun r_1 u H locs hp_8 hP hD hS => ?_)
  have hP : va_P (dC, dI) vwCl [(m0, .inr (2, [.int 0, .int (nI wn), .int (nI hn), .int (nI q0), .int wv, .ref a1, .ref a2, .ref a3, .ref a4, .ref a5, .ref a6, .ref a7, .ref a8, .int mn])), (a1, .inl (cI, 25, .inl (kI K0))), (a2, .inl (cI, 25, .inl NX)), (a3, .inl (cZ, 25, .inl (zB T0))), (a4, .inl (cI, 100, .inl (bI wn hn))), (a5, .inl (cI, 25, .inl KP)), (a6, .inl (cI, 25, .inl RG)), (a7, .inl (cI, 26, .inl SZ)), (a8, .inl (cI, 25, .inl LN))] H := hP
  have hD : va_D A [(m0, .inr (2, [.int 0, .int (nI wn), .int (nI hn), .int (nI q0), .int wv, .ref a1, .ref a2, .ref a3, .ref a4, .ref a5, .ref a6, .ref a7, .ref a8, .int mn])), (a1, .inl (cI, 25, .inl (kI K0))), (a2, .inl (cI, 25, .inl NX)), (a3, .inl (cZ, 25, .inl (zB T0))), (a4, .inl (cI, 100, .inl (bI wn hn))), (a5, .inl (cI, 25, .inl KP)), (a6, .inl (cI, 25, .inl RG)), (a7, .inl (cI, 26, .inl SZ)), (a8, .inl (cI, 25, .inl LN))] := hD
  have hp_8 : r_1 = if pOn (nI xa) (nI ya) (nI wn) (nI hn) then 1 else 0 := hp_8
  refine z_topi (y := if pOn (nI xa) (nI ya) (nI wn) (nI hn) then 1 else 0) hp_8 ?_
  refine lv_if_eq (tgt := 29) hx hb dX2_nextColour_11 (by decide) (fun c_11 => ?_) (fun c_11 => ?_)
  · skip
    exact absurd hon (z_if0 c_11)
  · skip
    refine lv_aload_n hx hb dX2_nextColour_14 rfl (lv_at hl 0 rfl) ?_
    refine lv_aload_n hx hb dX2_nextColour_15 rfl (lv_at hl 0 rfl) ?_
    refine va_get (D := (dC, dI)) (ci := 2) (v := .int (nI wn)) (C := RX2) (T := TX2) (N := 14) hx hb hts iX2_nextColour_X2 hown hK hP 0 rfl rfl 1 (by decide) (hts (.fieldLink RX2 46 "ColourTideModel" "w" "I") (List.mem_of_getElem? (i := 2) rfl)) (fun _ h9 => h9) rfl dX2_nextColour_16 ?_
    refine lv_iload_n hx hb dX2_nextColour_19 rfl (lv_at hl 2 rfl) ?_
    refine lv_imul hx hb dX2_nextColour_20 ?_
    refine z_topi (y := nI (wn * ya)) (pk_mul wn ya) ?_
    refine lv_iload_n hx hb dX2_nextColour_21 rfl (lv_at hl 1 rfl) ?_
    refine lv_iadd hx hb dX2_nextColour_22 ?_
    refine z_topi (y := nI ((wn * ya) + xa)) (nI_add (wn * ya) xa) ?_
    refine z_callVi (As := [.int (nI ((wn * ya) + xa))]) (rest := []) F9 (m_X2_nextOf l dC dI cI cZ cJ cD m0 a1 a2 a3 a4 a5 a6 a7 a8 0 wn hn q0 wv K0 NX T0 KP RG SZ LN mn ((wn * ya) + xa) (g) (hK4) (hq) (hci)) (cwV 1 hts gX2_nextColour_X2_nextOf rfl rfl rfl (by decide +kernel) ⟨Nat.le_of_ble_eq_true rfl, Nat.le_of_ble_eq_true rfl⟩) hK hN hP hD hS hA [0, 1, 2, 3, 4, 5, 6, 7, 8] rfl rfl (fun _ => rfl) 0 (ci := 2) rfl rfl rfl rfl hl.1 rfl (Nat.le_of_ble_eq_true rfl) dX2_nextColour_23 ⟨Nat.zero_le _, Nat.zero_le _⟩ (fun r_2 u H locs hp_23 hP hD hS => ?_)
    have hP : va_P (dC, dI) vwCl [(m0, .inr (2, [.int 0, .int (nI wn), .int (nI hn), .int (nI q0), .int wv, .ref a1, .ref a2, .ref a3, .ref a4, .ref a5, .ref a6, .ref a7, .ref a8, .int mn])), (a1, .inl (cI, 25, .inl (kI K0))), (a2, .inl (cI, 25, .inl NX)), (a3, .inl (cZ, 25, .inl (zB T0))), (a4, .inl (cI, 100, .inl (bI wn hn))), (a5, .inl (cI, 25, .inl KP)), (a6, .inl (cI, 25, .inl RG)), (a7, .inl (cI, 26, .inl SZ)), (a8, .inl (cI, 25, .inl LN))] H := hP
    have hD : va_D A [(m0, .inr (2, [.int 0, .int (nI wn), .int (nI hn), .int (nI q0), .int wv, .ref a1, .ref a2, .ref a3, .ref a4, .ref a5, .ref a6, .ref a7, .ref a8, .int mn])), (a1, .inl (cI, 25, .inl (kI K0))), (a2, .inl (cI, 25, .inl NX)), (a3, .inl (cZ, 25, .inl (zB T0))), (a4, .inl (cI, 100, .inl (bI wn hn))), (a5, .inl (cI, 25, .inl KP)), (a6, .inl (cI, 25, .inl RG)), (a7, .inl (cI, 26, .inl SZ)), (a8, .inl (cI, 25, .inl LN))] := hD
    have hp_23 : r_2 = nI (nxt wn hn q0 T0 K0 ((wn * ya) + xa)) := hp_23
    refine z_topi (y := nI (nxt wn hn q0 T0 K0 ((wn * ya) + xa))) hp_23 ?_
    refine lv_goto (tgt := 34) hx hb dX2_nextColour_26 (by decide) ?_
    rw [← hQ]
    exact z_iret (W1 := (fun (_ : Unit) => [(m0, .inr (2, [.int 0, .int (nI wn), .int (nI hn), .int (nI q0), .int wv, .ref a1, .ref a2, .ref a3, .ref a4, .ref a5, .ref a6, .ref a7, .ref a8, .int mn])), (a1, .inl (cI, 25, .inl (kI K0))), (a2, .inl (cI, 25, .inl NX)), (a3, .inl (cZ, 25, .inl (zB T0))), (a4, .inl (cI, 100, .inl (bI wn hn))), (a5, .inl (cI, 25, .inl KP)), (a6, .inl (cI, 25, .inl RG)), (a7, .inl (cI, 26, .inl SZ)), (a8, .inl (cI, 25, .inl LN))])) hx hb hr hlocks hP hS () (rfl) (rfl) dX2_nextColour_34
set_option maxHeartbeats 4000000 in
set_option maxRecDepth 100000 in
theorem m_X2_nextColour_no (l : Launch) (dC : Nat → ClassId) (dI : Nat → Nat → Nat) (cI cZ cJ cD : ClassId) (m0 : Nat) (a1 : Nat) (a2 : Nat) (a3 : Nat) (a4 : Nat) (a5 : Nat) (a6 : Nat) (a7 : Nat) (a8 : Nat) (th : Int32) (wn : Nat) (hn : Nat) (q0 : Nat) (wv : Int32) (K0 : Nat → Nat) (NX : Nat → Int32) (T0 : Nat → Bool) (KP : Nat → Int32) (RG : Nat → Int32) (SZ : Nat → Int32) (LN : Nat → Int32) (mn : Int32) (x0 : Int32) (y0 : Int32) (g : gok wn hn) (hK4 : ∀ c, K0 c ≤ 4) (hno : ¬ pOn x0 y0 (nI wn) (nI hn)) : zI l (dC, dI) (wT cI cZ cJ cD) yX2_nextColour wsX2_nextColour rmX2_nextColour [(m0, .inr (2, [.int th, .int (nI wn), .int (nI hn), .int (nI q0), .int wv, .ref a1, .ref a2, .ref a3, .ref a4, .ref a5, .ref a6, .ref a7, .ref a8, .int mn])), (a1, .inl (cI, 25, .inl (kI K0))), (a2, .inl (cI, 25, .inl NX)), (a3, .inl (cZ, 25, .inl (zB T0))), (a4, .inl (cI, 100, .inl (bI wn hn))), (a5, .inl (cI, 25, .inl KP)), (a6, .inl (cI, 25, .inl RG)), (a7, .inl (cI, 26, .inl SZ)), (a8, .inl (cI, 25, .inl LN))] [.ref m0, .int x0, .int y0] (fun (_ : Unit) => [(m0, .inr (2, [.int 1, .int (nI wn), .int (nI hn), .int (nI q0), .int wv, .ref a1, .ref a2, .ref a3, .ref a4, .ref a5, .ref a6, .ref a7, .ref a8, .int mn])), (a1, .inl (cI, 25, .inl (kI K0))), (a2, .inl (cI, 25, .inl NX)), (a3, .inl (cZ, 25, .inl (zB T0))), (a4, .inl (cI, 100, .inl (bI wn hn))), (a5, .inl (cI, 25, .inl KP)), (a6, .inl (cI, 25, .inl RG)), (a7, .inl (cI, 26, .inl SZ)), (a8, .inl (cI, 25, .inl LN))]) (fun (r : Int32) (_ : Unit) => True) := by
  intro sz
  refine Met.ofW (cc := cX2_nextColour) (maxL := 3) (ret := (some .int)) (by decide) rfl ?_
  intro p e s m args below meth c s₁ B hml hv
  obtain ⟨ha, hsz, hP, hK, hD0, hN⟩ := hv
  have hx := B.exec
  have hb := B.bytes
  have hr := B.returns
  have hts := atoms_spec (ws := wsX2_nextColour) B.pre
  have hown : s.vm.findClass RX2 = some m.cls := findClass_of_methodNamed B.named
  have hlocks := B.notSynchronized
  subst hsz
  have hD := hD0.self (sz := s.heap.size)
  generalize hAe : va_A [(m0, .inr (2, [.int th, .int (nI wn), .int (nI hn), .int (nI q0), .int wv, .ref a1, .ref a2, .ref a3, .ref a4, .ref a5, .ref a6, .ref a7, .ref a8, .int mn])), (a1, .inl (cI, 25, .inl (kI K0))), (a2, .inl (cI, 25, .inl NX)), (a3, .inl (cZ, 25, .inl (zB T0))), (a4, .inl (cI, 100, .inl (bI wn hn))), (a5, .inl (cI, 25, .inl KP)), (a6, .inl (cI, 25, .inl RG)), (a7, .inl (cI, 26, .inl SZ)), (a8, .inl (cI, 25, .inl LN))] s.heap.size = A at hD ⊢
  have hA : ∀ q : Nat, s.heap.size ≤ q → A q := fun q h => by rw [← hAe]; exact Or.inr h
  have hS : va_S A s.heap s.heap [] := va_S.rf
  generalize hQ : MQ below (va_Qi (fun (r : Int32) (_ : Unit) => True) (fun u t => va_P (dC, dI) vwCl ((fun (_ : Unit) => [(m0, .inr (2, [.int 1, .int (nI wn), .int (nI hn), .int (nI q0), .int wv, .ref a1, .ref a2, .ref a3, .ref a4, .ref a5, .ref a6, .ref a7, .ref a8, .int mn])), (a1, .inl (cI, 25, .inl (kI K0))), (a2, .inl (cI, 25, .inl NX)), (a3, .inl (cZ, 25, .inl (zB T0))), (a4, .inl (cI, 100, .inl (bI wn hn))), (a5, .inl (cI, 25, .inl KP)), (a6, .inl (cI, 25, .inl RG)), (a7, .inl (cI, 26, .inl SZ)), (a8, .inl (cI, 25, .inl LN))]) u) t.heap) A) args s 0 0 A = Q
  have F9 : CallFix p m c cX2_nextColour 3 s args wsX2_nextColour RX2 := ⟨hx, hb, hml, hown, hts⟩
  obtain ⟨g1, g2, g3, g4⟩ := id g
  have g5 := wh_le g
  have g6 := wh_pos g
  refine z_entry (R := rmX2_nextColour) ha (Nat.le_of_ble_eq_true rfl) (fun ls hl => ?_)
  have hl : lv_has ls 3 [(0, .ref m0), (1, .int x0), (2, .int y0)] := hl
  refine lv_aload_n hx hb dX2_nextColour_0 rfl (lv_at hl 0 rfl) ?_
  refine lv_iconst (v := 0) hx hb dX2_nextColour_1 (by decide) ?_
  refine va_put (D := (dC, dI)) (ci := 2) (v := .int 0) (ty := .int) (C := RX2) (T := TX2) (N := 14) hx hb hts iX2_nextColour_X2 tyX2 tyX2_ok nmX2 hown hK hP hD hS 0 rfl rfl 0 (by decide) (hts (.fieldLink RX2 43 "ColourTideModel" "thrown" "I") (List.mem_of_getElem? (i := 1) rfl)) (fun _ h9 => h9) rfl (by decide +kernel) rfl rfl (Nat.le_of_ble_eq_true rfl) dX2_nextColour_2 (fun H locs hP hD hS => ?_)
  have hP : va_P (dC, dI) vwCl [(m0, .inr (2, [.int 0, .int (nI wn), .int (nI hn), .int (nI q0), .int wv, .ref a1, .ref a2, .ref a3, .ref a4, .ref a5, .ref a6, .ref a7, .ref a8, .int mn])), (a1, .inl (cI, 25, .inl (kI K0))), (a2, .inl (cI, 25, .inl NX)), (a3, .inl (cZ, 25, .inl (zB T0))), (a4, .inl (cI, 100, .inl (bI wn hn))), (a5, .inl (cI, 25, .inl KP)), (a6, .inl (cI, 25, .inl RG)), (a7, .inl (cI, 26, .inl SZ)), (a8, .inl (cI, 25, .inl LN))] H := hP
  have hD : va_D A [(m0, .inr (2, [.int 0, .int (nI wn), .int (nI hn), .int (nI q0), .int wv, .ref a1, .ref a2, .ref a3, .ref a4, .ref a5, .ref a6, .ref a7, .ref a8, .int mn])), (a1, .inl (cI, 25, .inl (kI K0))), (a2, .inl (cI, 25, .inl NX)), (a3, .inl (cZ, 25, .inl (zB T0))), (a4, .inl (cI, 100, .inl (bI wn hn))), (a5, .inl (cI, 25, .inl KP)), (a6, .inl (cI, 25, .inl RG)), (a7, .inl (cI, 26, .inl SZ)), (a8, .inl (cI, 25, .inl LN))] := hD
  refine lv_aload_n hx hb dX2_nextColour_5 rfl (lv_at hl 0 rfl) ?_
  refine lv_iload_n hx hb dX2_nextColour_6 rfl (lv_at hl 1 rfl) ?_
  refine lv_iload_n hx hb dX2_nextColour_7 rfl (lv_at hl 2 rfl) ?_
  refine z_callVi (As := [.int x0, .int y0]) (rest := []) F9 (m_X2_isCell l dC dI cI cZ cJ cD m0 a1 a2 a3 a4 a5 a6 a7 a8 0 wn hn q0 wv K0 NX T0 KP RG SZ LN mn x0 y0 (g)) (cwV 2 hts gX2_nextColour_X2_isCell rfl rfl rfl (by decide +kernel) ⟨Nat.le_of_ble_eq_true rfl, Nat.le_of_ble_eq_true rfl⟩) hK hN hP hD hS hA [0, 1, 2, 3, 4, 5, 6, 7, 8] rfl rfl (fun _ => rfl) 0 (ci := 2) rfl rfl rfl rfl hl.1 rfl (Nat.le_of_ble_eq_true rfl) dX2_nextColour_8 ⟨Nat.zero_le _, Nat.zero_le _⟩ (fun r_1 u H locs hp_8 hP hD hS => ?_)
  have hP : va_P (dC, dI) vwCl [(m0, .inr (2, [.int 0, .int (nI wn), .int (nI hn), .int (nI q0), .int wv, .ref a1, .ref a2, .ref a3, .ref a4, .ref a5, .ref a6, .ref a7, .ref a8, .int mn])), (a1, .inl (cI, 25, .inl (kI K0))), (a2, .inl (cI, 25, .inl NX)), (a3, .inl (cZ, 25, .inl (zB T0))), (a4, .inl (cI, 100, .inl (bI wn hn))), (a5, .inl (cI, 25, .inl KP)), (a6, .inl (cI, 25, .inl RG)), (a7, .inl (cI, 26, .inl SZ)), (a8, .inl (cI, 25, .inl LN))] H := hP
  have hD : va_D A [(m0, .inr (2, [.int 0, .int (nI wn), .int (nI hn), .int (nI q0), .int wv, .ref a1, .ref a2, .ref a3, .ref a4, .ref a5, .ref a6, .ref a7, .ref a8, .int mn])), (a1, .inl (cI, 25, .inl (kI K0))), (a2, .inl (cI, 25, .inl NX)), (a3, .inl (cZ, 25, .inl (zB T0))), (a4, .inl (cI, 100, .inl (bI wn hn))), (a5, .inl (cI, 25, .inl KP)), (a6, .inl (cI, 25, .inl RG)), (a7, .inl (cI, 26, .inl SZ)), (a8, .inl (cI, 25, .inl LN))] := hD
  have hp_8 : r_1 = if pOn x0 y0 (nI wn) (nI hn) then 1 else 0 := hp_8
  refine z_topi (y := if pOn x0 y0 (nI wn) (nI hn) then 1 else 0) hp_8 ?_
  refine lv_if_eq (tgt := 29) hx hb dX2_nextColour_11 (by decide) (fun c_11 => ?_) (fun c_11 => ?_)
  · skip
    refine lv_aload_n hx hb dX2_nextColour_29 rfl (lv_at hl 0 rfl) ?_
    refine lv_iconst (v := 1) hx hb dX2_nextColour_30 (by decide) ?_
    refine z_callVi (As := [.int 1]) (rest := []) F9 (m_X2_fail l dC dI cI cZ cJ cD m0 a1 a2 a3 a4 a5 a6 a7 a8 0 wn hn q0 wv K0 NX T0 KP RG SZ LN mn 1 ) (cwV 1 hts gX2_nextColour_X2_fail rfl rfl rfl (by decide +kernel) ⟨Nat.le_of_ble_eq_true rfl, Nat.le_of_ble_eq_true rfl⟩) hK hN hP hD hS hA [0, 1, 2, 3, 4, 5, 6, 7, 8] rfl rfl (fun _ => rfl) 0 (ci := 2) rfl rfl rfl rfl hl.1 rfl (Nat.le_of_ble_eq_true rfl) dX2_nextColour_31 ⟨Nat.zero_le _, Nat.zero_le _⟩ (fun r_2 u H locs hp_31 hP hD hS => ?_)
    have hP : va_P (dC, dI) vwCl [(m0, .inr (2, [.int 1, .int (nI wn), .int (nI hn), .int (nI q0), .int wv, .ref a1, .ref a2, .ref a3, .ref a4, .ref a5, .ref a6, .ref a7, .ref a8, .int mn])), (a1, .inl (cI, 25, .inl (kI K0))), (a2, .inl (cI, 25, .inl NX)), (a3, .inl (cZ, 25, .inl (zB T0))), (a4, .inl (cI, 100, .inl (bI wn hn))), (a5, .inl (cI, 25, .inl KP)), (a6, .inl (cI, 25, .inl RG)), (a7, .inl (cI, 26, .inl SZ)), (a8, .inl (cI, 25, .inl LN))] H := hP
    have hD : va_D A [(m0, .inr (2, [.int 1, .int (nI wn), .int (nI hn), .int (nI q0), .int wv, .ref a1, .ref a2, .ref a3, .ref a4, .ref a5, .ref a6, .ref a7, .ref a8, .int mn])), (a1, .inl (cI, 25, .inl (kI K0))), (a2, .inl (cI, 25, .inl NX)), (a3, .inl (cZ, 25, .inl (zB T0))), (a4, .inl (cI, 100, .inl (bI wn hn))), (a5, .inl (cI, 25, .inl KP)), (a6, .inl (cI, 25, .inl RG)), (a7, .inl (cI, 26, .inl SZ)), (a8, .inl (cI, 25, .inl LN))] := hD
    have hp_31 : r_2 = 0 := hp_31
    refine z_topi (y := 0) hp_31 ?_
    rw [← hQ]
    exact z_iret (W1 := (fun (_ : Unit) => [(m0, .inr (2, [.int 1, .int (nI wn), .int (nI hn), .int (nI q0), .int wv, .ref a1, .ref a2, .ref a3, .ref a4, .ref a5, .ref a6, .ref a7, .ref a8, .int mn])), (a1, .inl (cI, 25, .inl (kI K0))), (a2, .inl (cI, 25, .inl NX)), (a3, .inl (cZ, 25, .inl (zB T0))), (a4, .inl (cI, 100, .inl (bI wn hn))), (a5, .inl (cI, 25, .inl KP)), (a6, .inl (cI, 25, .inl RG)), (a7, .inl (cI, 26, .inl SZ)), (a8, .inl (cI, 25, .inl LN))])) hx hb hr hlocks hP hS () (rfl) (trivial) dX2_nextColour_34
  · skip
    exact absurd (z_if1 c_11) hno
abbrev rmX2_regionSize : Room := { frames := 2, cells := 0, slots := 0, locals := 46 }
set_option maxRecDepth 20000 in
theorem iX2_regionSize_X2 : ∀ w ∈ wsX20, w ∈ wsX2_regionSize := fun w h => (goodIn_r (big := wsX2_regionSize) wsX20 [38, 39, 40, 41, 42, 43, 44, 45, 46, 47, 48, 49, 50, 51] (by decide +kernel) (by decide +kernel) w h).1
set_option maxHeartbeats 4000000 in
set_option maxRecDepth 100000 in
theorem m_X2_regionSize_ok (l : Launch) (dC : Nat → ClassId) (dI : Nat → Nat → Nat) (cI cZ cJ cD : ClassId) (m0 : Nat) (a1 : Nat) (a2 : Nat) (a3 : Nat) (a4 : Nat) (a5 : Nat) (a6 : Nat) (a7 : Nat) (a8 : Nat) (th : Int32) (wn : Nat) (hn : Nat) (q0 : Nat) (wv : Int32) (K0 : Nat → Nat) (NX : Nat → Int32) (T0 : Nat → Bool) (KP : Nat → Int32) (RG : Nat → Int32) (SZ : Nat → Int32) (LN : Nat → Int32) (mn : Int32) (xa : Nat) (ya : Nat) (g : gok wn hn) (hK4 : ∀ c, K0 c ≤ 4) (hxa : xa < wn) (hya : ya < hn) : zI l (dC, dI) (wT cI cZ cJ cD) yX2_regionSize wsX2_regionSize rmX2_regionSize [(m0, .inr (2, [.int th, .int (nI wn), .int (nI hn), .int (nI q0), .int wv, .ref a1, .ref a2, .ref a3, .ref a4, .ref a5, .ref a6, .ref a7, .ref a8, .int mn])), (a1, .inl (cI, 25, .inl (kI K0))), (a2, .inl (cI, 25, .inl NX)), (a3, .inl (cZ, 25, .inl (zB T0))), (a4, .inl (cI, 100, .inl (bI wn hn))), (a5, .inl (cI, 25, .inl KP)), (a6, .inl (cI, 25, .inl RG)), (a7, .inl (cI, 26, .inl SZ)), (a8, .inl (cI, 25, .inl LN))] [.ref m0, .int (nI xa), .int (nI ya)] (fun (u : (Nat → Int32) × (Nat → Int32) × (Nat → Int32) × Int32) => [(m0, .inr (2, [.int 0, .int (nI wn), .int (nI hn), .int (nI q0), .int wv, .ref a1, .ref a2, .ref a3, .ref a4, .ref a5, .ref a6, .ref a7, .ref a8, .int u.2.2.2])), (a1, .inl (cI, 25, .inl (kI K0))), (a2, .inl (cI, 25, .inl NX)), (a3, .inl (cZ, 25, .inl (zB T0))), (a4, .inl (cI, 100, .inl (bI wn hn))), (a5, .inl (cI, 25, .inl KP)), (a6, .inl (cI, 25, .inl u.1)), (a7, .inl (cI, 26, .inl u.2.1)), (a8, .inl (cI, 25, .inl u.2.2.1))]) (fun (r : Int32) (u : (Nat → Int32) × (Nat → Int32) × (Nat → Int32) × Int32) => r = nI (sz0 wn hn K0 (wn * ya + xa))) := by
  intro sz
  refine Met.ofW (cc := cX2_regionSize) (maxL := 3) (ret := (some .int)) (by decide) rfl ?_
  intro p e s m args below meth c s₁ B hml hv
  obtain ⟨ha, hsz, hP, hK, hD0, hN⟩ := hv
  have hx := B.exec
  have hb := B.bytes
  have hr := B.returns
  have hts := atoms_spec (ws := wsX2_regionSize) B.pre
  have hown : s.vm.findClass RX2 = some m.cls := findClass_of_methodNamed B.named
  have hlocks := B.notSynchronized
  subst hsz
  have hD := hD0.self (sz := s.heap.size)
  generalize hAe : va_A [(m0, .inr (2, [.int th, .int (nI wn), .int (nI hn), .int (nI q0), .int wv, .ref a1, .ref a2, .ref a3, .ref a4, .ref a5, .ref a6, .ref a7, .ref a8, .int mn])), (a1, .inl (cI, 25, .inl (kI K0))), (a2, .inl (cI, 25, .inl NX)), (a3, .inl (cZ, 25, .inl (zB T0))), (a4, .inl (cI, 100, .inl (bI wn hn))), (a5, .inl (cI, 25, .inl KP)), (a6, .inl (cI, 25, .inl RG)), (a7, .inl (cI, 26, .inl SZ)), (a8, .inl (cI, 25, .inl LN))] s.heap.size = A at hD ⊢
  have hA : ∀ q : Nat, s.heap.size ≤ q → A q := fun q h => by rw [← hAe]; exact Or.inr h
  have hS : va_S A s.heap s.heap [] := va_S.rf
  generalize hQ : MQ below (va_Qi (fun (r : Int32) (u : (Nat → Int32) × (Nat → Int32) × (Nat → Int32) × Int32) => r = nI (sz0 wn hn K0 (wn * ya + xa))) (fun u t => va_P (dC, dI) vwCl ((fun (u : (Nat → Int32) × (Nat → Int32) × (Nat → Int32) × Int32) => [(m0, .inr (2, [.int 0, .int (nI wn), .int (nI hn), .int (nI q0), .int wv, .ref a1, .ref a2, .ref a3, .ref a4, .ref a5, .ref a6, .ref a7, .ref a8, .int u.2.2.2])), (a1, .inl (cI, 25, .inl (kI K0))), (a2, .inl (cI, 25, .inl NX)), (a3, .inl (cZ, 25, .inl (zB T0))), (a4, .inl (cI, 100, .inl (bI wn hn))), (a5, .inl (cI, 25, .inl KP)), (a6, .inl (cI, 25, .inl u.1)), (a7, .inl (cI, 26, .inl u.2.1)), (a8, .inl (cI, 25, .inl u.2.2.1))]) u) t.heap) A) args s 0 0 A = Q
  have F9 : CallFix p m c cX2_regionSize 3 s args wsX2_regionSize RX2 := ⟨hx, hb, hml, hown, hts⟩
  obtain ⟨g1, g2, g3, g4⟩ := id g
  have g5 := wh_le g
  have g6 := wh_pos g
  have hci := cell_lt hxa hya
  have hon := on_ok hxa hya (by omega) (by omega)
  refine z_entry (R := rmX2_regionSize) ha (Nat.le_of_ble_eq_true rfl) (fun ls hl => ?_)
  have hl : lv_has ls 3 [(0, .ref m0), (1, .int (nI xa)), (2, .int (nI ya))] := hl
  refine lv_aload_n hx hb dX2_regionSize_0 rfl (lv_at hl 0 rfl) ?_
  refine lv_iconst (v := 0) hx hb dX2_regionSize_1 (by decide) ?_
  refine va_put (D := (dC, dI)) (ci := 2) (v := .int 0) (ty := .int) (C := RX2) (T := TX2) (N := 14) hx hb hts iX2_regionSize_X2 tyX2 tyX2_ok nmX2 hown hK hP hD hS 0 rfl rfl 0 (by decide) (hts (.fieldLink RX2 43 "ColourTideModel" "thrown" "I") (List.mem_of_getElem? (i := 1) rfl)) (fun _ h9 => h9) rfl (by decide +kernel) rfl rfl (Nat.le_of_ble_eq_true rfl) dX2_regionSize_2 (fun H locs hP hD hS => ?_)
  have hP : va_P (dC, dI) vwCl [(m0, .inr (2, [.int 0, .int (nI wn), .int (nI hn), .int (nI q0), .int wv, .ref a1, .ref a2, .ref a3, .ref a4, .ref a5, .ref a6, .ref a7, .ref a8, .int mn])), (a1, .inl (cI, 25, .inl (kI K0))), (a2, .inl (cI, 25, .inl NX)), (a3, .inl (cZ, 25, .inl (zB T0))), (a4, .inl (cI, 100, .inl (bI wn hn))), (a5, .inl (cI, 25, .inl KP)), (a6, .inl (cI, 25, .inl RG)), (a7, .inl (cI, 26, .inl SZ)), (a8, .inl (cI, 25, .inl LN))] H := hP
  have hD : va_D A [(m0, .inr (2, [.int 0, .int (nI wn), .int (nI hn), .int (nI q0), .int wv, .ref a1, .ref a2, .ref a3, .ref a4, .ref a5, .ref a6, .ref a7, .ref a8, .int mn])), (a1, .inl (cI, 25, .inl (kI K0))), (a2, .inl (cI, 25, .inl NX)), (a3, .inl (cZ, 25, .inl (zB T0))), (a4, .inl (cI, 100, .inl (bI wn hn))), (a5, .inl (cI, 25, .inl KP)), (a6, .inl (cI, 25, .inl RG)), (a7, .inl (cI, 26, .inl SZ)), (a8, .inl (cI, 25, .inl LN))] := hD
  refine lv_aload_n hx hb dX2_regionSize_5 rfl (lv_at hl 0 rfl) ?_
  refine lv_iload_n hx hb dX2_regionSize_6 rfl (lv_at hl 1 rfl) ?_
  refine lv_iload_n hx hb dX2_regionSize_7 rfl (lv_at hl 2 rfl) ?_
  refine z_callVi (As := [.int (nI xa), .int (nI ya)]) (rest := []) F9 (m_X2_isCell l dC dI cI cZ cJ cD m0 a1 a2 a3 a4 a5 a6 a7 a8 0 wn hn q0 wv K0 NX T0 KP RG SZ LN mn (nI xa) (nI ya) (g)) (cwV 2 hts gX2_regionSize_X2_isCell rfl rfl rfl (by decide +kernel) ⟨Nat.le_of_ble_eq_true rfl, Nat.le_of_ble_eq_true rfl⟩) hK hN hP hD hS hA [0, 1, 2, 3, 4, 5, 6, 7, 8] rfl rfl (fun _ => rfl) 0 (ci := 2) rfl rfl rfl rfl hl.1 rfl (Nat.le_of_ble_eq_true rfl) dX2_regionSize_8 ⟨Nat.zero_le _, Nat.zero_le _⟩ (fun r_1 u H locs hp_8 hP hD hS => ?_)
  have hP : va_P (dC, dI) vwCl [(m0, .inr (2, [.int 0, .int (nI wn), .int (nI hn), .int (nI q0), .int wv, .ref a1, .ref a2, .ref a3, .ref a4, .ref a5, .ref a6, .ref a7, .ref a8, .int mn])), (a1, .inl (cI, 25, .inl (kI K0))), (a2, .inl (cI, 25, .inl NX)), (a3, .inl (cZ, 25, .inl (zB T0))), (a4, .inl (cI, 100, .inl (bI wn hn))), (a5, .inl (cI, 25, .inl KP)), (a6, .inl (cI, 25, .inl RG)), (a7, .inl (cI, 26, .inl SZ)), (a8, .inl (cI, 25, .inl LN))] H := hP
  have hD : va_D A [(m0, .inr (2, [.int 0, .int (nI wn), .int (nI hn), .int (nI q0), .int wv, .ref a1, .ref a2, .ref a3, .ref a4, .ref a5, .ref a6, .ref a7, .ref a8, .int mn])), (a1, .inl (cI, 25, .inl (kI K0))), (a2, .inl (cI, 25, .inl NX)), (a3, .inl (cZ, 25, .inl (zB T0))), (a4, .inl (cI, 100, .inl (bI wn hn))), (a5, .inl (cI, 25, .inl KP)), (a6, .inl (cI, 25, .inl RG)), (a7, .inl (cI, 26, .inl SZ)), (a8, .inl (cI, 25, .inl LN))] := hD
  have hp_8 : r_1 = if pOn (nI xa) (nI ya) (nI wn) (nI hn) then 1 else 0 := hp_8
  refine z_topi (y := if pOn (nI xa) (nI ya) (nI wn) (nI hn) then 1 else 0) hp_8 ?_
  refine lv_if_ne (tgt := 20) hx hb dX2_regionSize_11 (by decide) (fun c_11 => ?_) (fun c_11 => ?_)
  · skip
    refine lv_aload_n hx hb dX2_regionSize_20 rfl (lv_at hl 0 rfl) ?_
    refine z_callVv (As := []) (rest := []) F9 (m_X2_hang l dC dI cI cZ cJ cD m0 a1 a2 a3 a4 a5 a6 a7 a8 0 wn hn q0 wv K0 NX T0 KP RG SZ LN mn (g) (hK4)) (cwV 0 hts gX2_regionSize_X2_hang rfl rfl rfl (by decide +kernel) ⟨Nat.le_of_ble_eq_true rfl, Nat.le_of_ble_eq_true rfl⟩) hK hN hP hD hS hA [0, 1, 2, 3, 4, 5, 6, 7, 8] rfl rfl (fun _ => rfl) 0 (ci := 2) rfl rfl rfl rfl hl.1 rfl (Nat.le_of_ble_eq_true rfl) dX2_regionSize_21 ⟨Nat.zero_le _, Nat.zero_le _⟩ (fun u H locs hp_21 hP hD hS => ?_)
    obtain ⟨Rq_3, SZq_4, LNq_5, mnq_6⟩ := u
    have hP : va_P (dC, dI) vwCl [(m0, .inr (2, [.int 0, .int (nI wn), .int (nI hn), .int (nI q0), .int wv, .ref a1, .ref a2, .ref a3, .ref a4, .ref a5, .ref a6, .ref a7, .ref a8, .int mnq_6])), (a1, .inl (cI, 25, .inl (kI K0))), (a2, .inl (cI, 25, .inl NX)), (a3, .inl (cZ, 25, .inl (zB T0))), (a4, .inl (cI, 100, .inl (bI wn hn))), (a5, .inl (cI, 25, .inl KP)), (a6, .inl (cI, 25, .inl (zfill (kI Rq_3) RG (wn * hn)))), (a7, .inl (cI, 26, .inl SZq_4)), (a8, .inl (cI, 25, .inl LNq_5))] H := hP
    have hD : va_D A [(m0, .inr (2, [.int 0, .int (nI wn), .int (nI hn), .int (nI q0), .int wv, .ref a1, .ref a2, .ref a3, .ref a4, .ref a5, .ref a6, .ref a7, .ref a8, .int mnq_6])), (a1, .inl (cI, 25, .inl (kI K0))), (a2, .inl (cI, 25, .inl NX)), (a3, .inl (cZ, 25, .inl (zB T0))), (a4, .inl (cI, 100, .inl (bI wn hn))), (a5, .inl (cI, 25, .inl KP)), (a6, .inl (cI, 25, .inl (zfill (kI Rq_3) RG (wn * hn)))), (a7, .inl (cI, 26, .inl SZq_4)), (a8, .inl (cI, 25, .inl LNq_5))] := hD
    have hp_21 : HgP wn hn K0 Rq_3 SZq_4 := hp_21
    refine lv_aload_n hx hb dX2_regionSize_24 rfl (lv_at hl 0 rfl) ?_
    refine lv_aload_n hx hb dX2_regionSize_25 rfl (lv_at hl 0 rfl) ?_
    refine va_get (D := (dC, dI)) (ci := 2) (v := .int (nI wn)) (C := RX2) (T := TX2) (N := 14) hx hb hts iX2_regionSize_X2 hown hK hP 0 rfl rfl 1 (by decide) (hts (.fieldLink RX2 46 "ColourTideModel" "w" "I") (List.mem_of_getElem? (i := 2) rfl)) (fun _ h9 => h9) rfl dX2_regionSize_26 ?_
    refine lv_iload_n hx hb dX2_regionSize_29 rfl (lv_at hl 2 rfl) ?_
    refine lv_imul hx hb dX2_regionSize_30 ?_
    refine z_topi (y := nI (wn * ya)) (pk_mul wn ya) ?_
    refine lv_iload_n hx hb dX2_regionSize_31 rfl (lv_at hl 1 rfl) ?_
    refine lv_iadd hx hb dX2_regionSize_32 ?_
    refine z_topi (y := nI ((wn * ya) + xa)) (nI_add (wn * ya) xa) ?_
    refine z_callVi (As := [.int (nI ((wn * ya) + xa))]) (rest := []) F9 (m_X2_sizeOf l dC dI cI cZ cJ cD m0 a1 a2 a3 a4 a5 a6 a7 a8 0 wn hn q0 wv K0 NX T0 KP RG SZq_4 LNq_5 mnq_6 Rq_3 ((wn * ya) + xa) (g) (hK4) (hci) (hp_21)) (cwV 1 hts gX2_regionSize_X2_sizeOf rfl rfl rfl (by decide +kernel) ⟨Nat.le_of_ble_eq_true rfl, Nat.le_of_ble_eq_true rfl⟩) hK hN hP hD hS hA [0, 1, 2, 3, 4, 5, 6, 7, 8] rfl rfl (fun _ => rfl) 0 (ci := 2) rfl rfl rfl rfl hl.1 rfl (Nat.le_of_ble_eq_true rfl) dX2_regionSize_33 ⟨Nat.zero_le _, Nat.zero_le _⟩ (fun r_7 u H locs hp_33 hP hD hS => ?_)
    have hP : va_P (dC, dI) vwCl [(m0, .inr (2, [.int 0, .int (nI wn), .int (nI hn), .int (nI q0), .int wv, .ref a1, .ref a2, .ref a3, .ref a4, .ref a5, .ref a6, .ref a7, .ref a8, .int mnq_6])), (a1, .inl (cI, 25, .inl (kI K0))), (a2, .inl (cI, 25, .inl NX)), (a3, .inl (cZ, 25, .inl (zB T0))), (a4, .inl (cI, 100, .inl (bI wn hn))), (a5, .inl (cI, 25, .inl KP)), (a6, .inl (cI, 25, .inl (zfill (kI Rq_3) RG (wn * hn)))), (a7, .inl (cI, 26, .inl SZq_4)), (a8, .inl (cI, 25, .inl LNq_5))] H := hP
    have hD : va_D A [(m0, .inr (2, [.int 0, .int (nI wn), .int (nI hn), .int (nI q0), .int wv, .ref a1, .ref a2, .ref a3, .ref a4, .ref a5, .ref a6, .ref a7, .ref a8, .int mnq_6])), (a1, .inl (cI, 25, .inl (kI K0))), (a2, .inl (cI, 25, .inl NX)), (a3, .inl (cZ, 25, .inl (zB T0))), (a4, .inl (cI, 100, .inl (bI wn hn))), (a5, .inl (cI, 25, .inl KP)), (a6, .inl (cI, 25, .inl (zfill (kI Rq_3) RG (wn * hn)))), (a7, .inl (cI, 26, .inl SZq_4)), (a8, .inl (cI, 25, .inl LNq_5))] := hD
    have hp_33 : r_7 = nI (sz0 wn hn K0 ((wn * ya) + xa)) := hp_33
    refine z_topi (y := nI (sz0 wn hn K0 ((wn * ya) + xa))) hp_33 ?_
    rw [← hQ]
    exact z_iret (W1 := (fun (u : (Nat → Int32) × (Nat → Int32) × (Nat → Int32) × Int32) => [(m0, .inr (2, [.int 0, .int (nI wn), .int (nI hn), .int (nI q0), .int wv, .ref a1, .ref a2, .ref a3, .ref a4, .ref a5, .ref a6, .ref a7, .ref a8, .int u.2.2.2])), (a1, .inl (cI, 25, .inl (kI K0))), (a2, .inl (cI, 25, .inl NX)), (a3, .inl (cZ, 25, .inl (zB T0))), (a4, .inl (cI, 100, .inl (bI wn hn))), (a5, .inl (cI, 25, .inl KP)), (a6, .inl (cI, 25, .inl u.1)), (a7, .inl (cI, 26, .inl u.2.1)), (a8, .inl (cI, 25, .inl u.2.2.1))])) hx hb hr hlocks hP hS (zfill (kI Rq_3) RG (wn * hn), SZq_4, LNq_5, mnq_6) (rfl) (rfl) dX2_regionSize_36
  · skip
    exact absurd hon (z_if0 c_11)
set_option maxHeartbeats 4000000 in
set_option maxRecDepth 100000 in
theorem m_X2_regionSize_no (l : Launch) (dC : Nat → ClassId) (dI : Nat → Nat → Nat) (cI cZ cJ cD : ClassId) (m0 : Nat) (a1 : Nat) (a2 : Nat) (a3 : Nat) (a4 : Nat) (a5 : Nat) (a6 : Nat) (a7 : Nat) (a8 : Nat) (th : Int32) (wn : Nat) (hn : Nat) (q0 : Nat) (wv : Int32) (K0 : Nat → Nat) (NX : Nat → Int32) (T0 : Nat → Bool) (KP : Nat → Int32) (RG : Nat → Int32) (SZ : Nat → Int32) (LN : Nat → Int32) (mn : Int32) (x0 : Int32) (y0 : Int32) (g : gok wn hn) (hK4 : ∀ c, K0 c ≤ 4) (hno : ¬ pOn x0 y0 (nI wn) (nI hn)) : zI l (dC, dI) (wT cI cZ cJ cD) yX2_regionSize wsX2_regionSize rmX2_regionSize [(m0, .inr (2, [.int th, .int (nI wn), .int (nI hn), .int (nI q0), .int wv, .ref a1, .ref a2, .ref a3, .ref a4, .ref a5, .ref a6, .ref a7, .ref a8, .int mn])), (a1, .inl (cI, 25, .inl (kI K0))), (a2, .inl (cI, 25, .inl NX)), (a3, .inl (cZ, 25, .inl (zB T0))), (a4, .inl (cI, 100, .inl (bI wn hn))), (a5, .inl (cI, 25, .inl KP)), (a6, .inl (cI, 25, .inl RG)), (a7, .inl (cI, 26, .inl SZ)), (a8, .inl (cI, 25, .inl LN))] [.ref m0, .int x0, .int y0] (fun (_ : Unit) => [(m0, .inr (2, [.int 1, .int (nI wn), .int (nI hn), .int (nI q0), .int wv, .ref a1, .ref a2, .ref a3, .ref a4, .ref a5, .ref a6, .ref a7, .ref a8, .int mn])), (a1, .inl (cI, 25, .inl (kI K0))), (a2, .inl (cI, 25, .inl NX)), (a3, .inl (cZ, 25, .inl (zB T0))), (a4, .inl (cI, 100, .inl (bI wn hn))), (a5, .inl (cI, 25, .inl KP)), (a6, .inl (cI, 25, .inl RG)), (a7, .inl (cI, 26, .inl SZ)), (a8, .inl (cI, 25, .inl LN))]) (fun (r : Int32) (_ : Unit) => True) := by
  intro sz
  refine Met.ofW (cc := cX2_regionSize) (maxL := 3) (ret := (some .int)) (by decide) rfl ?_
  intro p e s m args below meth c s₁ B hml hv
  obtain ⟨ha, hsz, hP, hK, hD0, hN⟩ := hv
  have hx := B.exec
  have hb := B.bytes
  have hr := B.returns
  have hts := atoms_spec (ws := wsX2_regionSize) B.pre
  have hown : s.vm.findClass RX2 = some m.cls := findClass_of_methodNamed B.named
  have hlocks := B.notSynchronized
  subst hsz
  have hD := hD0.self (sz := s.heap.size)
  generalize hAe : va_A [(m0, .inr (2, [.int th, .int (nI wn), .int (nI hn), .int (nI q0), .int wv, .ref a1, .ref a2, .ref a3, .ref a4, .ref a5, .ref a6, .ref a7, .ref a8, .int mn])), (a1, .inl (cI, 25, .inl (kI K0))), (a2, .inl (cI, 25, .inl NX)), (a3, .inl (cZ, 25, .inl (zB T0))), (a4, .inl (cI, 100, .inl (bI wn hn))), (a5, .inl (cI, 25, .inl KP)), (a6, .inl (cI, 25, .inl RG)), (a7, .inl (cI, 26, .inl SZ)), (a8, .inl (cI, 25, .inl LN))] s.heap.size = A at hD ⊢
  have hA : ∀ q : Nat, s.heap.size ≤ q → A q := fun q h => by rw [← hAe]; exact Or.inr h
  have hS : va_S A s.heap s.heap [] := va_S.rf
  generalize hQ : MQ below (va_Qi (fun (r : Int32) (_ : Unit) => True) (fun u t => va_P (dC, dI) vwCl ((fun (_ : Unit) => [(m0, .inr (2, [.int 1, .int (nI wn), .int (nI hn), .int (nI q0), .int wv, .ref a1, .ref a2, .ref a3, .ref a4, .ref a5, .ref a6, .ref a7, .ref a8, .int mn])), (a1, .inl (cI, 25, .inl (kI K0))), (a2, .inl (cI, 25, .inl NX)), (a3, .inl (cZ, 25, .inl (zB T0))), (a4, .inl (cI, 100, .inl (bI wn hn))), (a5, .inl (cI, 25, .inl KP)), (a6, .inl (cI, 25, .inl RG)), (a7, .inl (cI, 26, .inl SZ)), (a8, .inl (cI, 25, .inl LN))]) u) t.heap) A) args s 0 0 A = Q
  have F9 : CallFix p m c cX2_regionSize 3 s args wsX2_regionSize RX2 := ⟨hx, hb, hml, hown, hts⟩
  obtain ⟨g1, g2, g3, g4⟩ := id g
  have g5 := wh_le g
  have g6 := wh_pos g
  refine z_entry (R := rmX2_regionSize) ha (Nat.le_of_ble_eq_true rfl) (fun ls hl => ?_)
  have hl : lv_has ls 3 [(0, .ref m0), (1, .int x0), (2, .int y0)] := hl
  refine lv_aload_n hx hb dX2_regionSize_0 rfl (lv_at hl 0 rfl) ?_
  refine lv_iconst (v := 0) hx hb dX2_regionSize_1 (by decide) ?_
  refine va_put (D := (dC, dI)) (ci := 2) (v := .int 0) (ty := .int) (C := RX2) (T := TX2) (N := 14) hx hb hts iX2_regionSize_X2 tyX2 tyX2_ok nmX2 hown hK hP hD hS 0 rfl rfl 0 (by decide) (hts (.fieldLink RX2 43 "ColourTideModel" "thrown" "I") (List.mem_of_getElem? (i := 1) rfl)) (fun _ h9 => h9) rfl (by decide +kernel) rfl rfl (Nat.le_of_ble_eq_true rfl) dX2_regionSize_2 (fun H locs hP hD hS => ?_)
  have hP : va_P (dC, dI) vwCl [(m0, .inr (2, [.int 0, .int (nI wn), .int (nI hn), .int (nI q0), .int wv, .ref a1, .ref a2, .ref a3, .ref a4, .ref a5, .ref a6, .ref a7, .ref a8, .int mn])), (a1, .inl (cI, 25, .inl (kI K0))), (a2, .inl (cI, 25, .inl NX)), (a3, .inl (cZ, 25, .inl (zB T0))), (a4, .inl (cI, 100, .inl (bI wn hn))), (a5, .inl (cI, 25, .inl KP)), (a6, .inl (cI, 25, .inl RG)), (a7, .inl (cI, 26, .inl SZ)), (a8, .inl (cI, 25, .inl LN))] H := hP
  have hD : va_D A [(m0, .inr (2, [.int 0, .int (nI wn), .int (nI hn), .int (nI q0), .int wv, .ref a1, .ref a2, .ref a3, .ref a4, .ref a5, .ref a6, .ref a7, .ref a8, .int mn])), (a1, .inl (cI, 25, .inl (kI K0))), (a2, .inl (cI, 25, .inl NX)), (a3, .inl (cZ, 25, .inl (zB T0))), (a4, .inl (cI, 100, .inl (bI wn hn))), (a5, .inl (cI, 25, .inl KP)), (a6, .inl (cI, 25, .inl RG)), (a7, .inl (cI, 26, .inl SZ)), (a8, .inl (cI, 25, .inl LN))] := hD
  refine lv_aload_n hx hb dX2_regionSize_5 rfl (lv_at hl 0 rfl) ?_
  refine lv_iload_n hx hb dX2_regionSize_6 rfl (lv_at hl 1 rfl) ?_
  refine lv_iload_n hx hb dX2_regionSize_7 rfl (lv_at hl 2 rfl) ?_
  refine z_callVi (As := [.int x0, .int y0]) (rest := []) F9 (m_X2_isCell l dC dI cI cZ cJ cD m0 a1 a2 a3 a4 a5 a6 a7 a8 0 wn hn q0 wv K0 NX T0 KP RG SZ LN mn x0 y0 (g)) (cwV 2 hts gX2_regionSize_X2_isCell rfl rfl rfl (by decide +kernel) ⟨Nat.le_of_ble_eq_true rfl, Nat.le_of_ble_eq_true rfl⟩) hK hN hP hD hS hA [0, 1, 2, 3, 4, 5, 6, 7, 8] rfl rfl (fun _ => rfl) 0 (ci := 2) rfl rfl rfl rfl hl.1 rfl (Nat.le_of_ble_eq_true rfl) dX2_regionSize_8 ⟨Nat.zero_le _, Nat.zero_le _⟩ (fun r_1 u H locs hp_8 hP hD hS => ?_)
  have hP : va_P (dC, dI) vwCl [(m0, .inr (2, [.int 0, .int (nI wn), .int (nI hn), .int (nI q0), .int wv, .ref a1, .ref a2, .ref a3, .ref a4, .ref a5, .ref a6, .ref a7, .ref a8, .int mn])), (a1, .inl (cI, 25, .inl (kI K0))), (a2, .inl (cI, 25, .inl NX)), (a3, .inl (cZ, 25, .inl (zB T0))), (a4, .inl (cI, 100, .inl (bI wn hn))), (a5, .inl (cI, 25, .inl KP)), (a6, .inl (cI, 25, .inl RG)), (a7, .inl (cI, 26, .inl SZ)), (a8, .inl (cI, 25, .inl LN))] H := hP
  have hD : va_D A [(m0, .inr (2, [.int 0, .int (nI wn), .int (nI hn), .int (nI q0), .int wv, .ref a1, .ref a2, .ref a3, .ref a4, .ref a5, .ref a6, .ref a7, .ref a8, .int mn])), (a1, .inl (cI, 25, .inl (kI K0))), (a2, .inl (cI, 25, .inl NX)), (a3, .inl (cZ, 25, .inl (zB T0))), (a4, .inl (cI, 100, .inl (bI wn hn))), (a5, .inl (cI, 25, .inl KP)), (a6, .inl (cI, 25, .inl RG)), (a7, .inl (cI, 26, .inl SZ)), (a8, .inl (cI, 25, .inl LN))] := hD
  have hp_8 : r_1 = if pOn x0 y0 (nI wn) (nI hn) then 1 else 0 := hp_8
  refine z_topi (y := if pOn x0 y0 (nI wn) (nI hn) then 1 else 0) hp_8 ?_
  refine lv_if_ne (tgt := 20) hx hb dX2_regionSize_11 (by decide) (fun c_11 => ?_) (fun c_11 => ?_)
  · skip
    exact absurd (z_if1 c_11) hno
  · skip
    refine lv_aload_n hx hb dX2_regionSize_14 rfl (lv_at hl 0 rfl) ?_
    refine lv_iconst (v := 1) hx hb dX2_regionSize_15 (by decide) ?_
    refine z_callVi (As := [.int 1]) (rest := []) F9 (m_X2_fail l dC dI cI cZ cJ cD m0 a1 a2 a3 a4 a5 a6 a7 a8 0 wn hn q0 wv K0 NX T0 KP RG SZ LN mn 1 ) (cwV 1 hts gX2_regionSize_X2_fail rfl rfl rfl (by decide +kernel) ⟨Nat.le_of_ble_eq_true rfl, Nat.le_of_ble_eq_true rfl⟩) hK hN hP hD hS hA [0, 1, 2, 3, 4, 5, 6, 7, 8] rfl rfl (fun _ => rfl) 0 (ci := 2) rfl rfl rfl rfl hl.1 rfl (Nat.le_of_ble_eq_true rfl) dX2_regionSize_16 ⟨Nat.zero_le _, Nat.zero_le _⟩ (fun r_2 u H locs hp_16 hP hD hS => ?_)
    have hP : va_P (dC, dI) vwCl [(m0, .inr (2, [.int 1, .int (nI wn), .int (nI hn), .int (nI q0), .int wv, .ref a1, .ref a2, .ref a3, .ref a4, .ref a5, .ref a6, .ref a7, .ref a8, .int mn])), (a1, .inl (cI, 25, .inl (kI K0))), (a2, .inl (cI, 25, .inl NX)), (a3, .inl (cZ, 25, .inl (zB T0))), (a4, .inl (cI, 100, .inl (bI wn hn))), (a5, .inl (cI, 25, .inl KP)), (a6, .inl (cI, 25, .inl RG)), (a7, .inl (cI, 26, .inl SZ)), (a8, .inl (cI, 25, .inl LN))] H := hP
    have hD : va_D A [(m0, .inr (2, [.int 1, .int (nI wn), .int (nI hn), .int (nI q0), .int wv, .ref a1, .ref a2, .ref a3, .ref a4, .ref a5, .ref a6, .ref a7, .ref a8, .int mn])), (a1, .inl (cI, 25, .inl (kI K0))), (a2, .inl (cI, 25, .inl NX)), (a3, .inl (cZ, 25, .inl (zB T0))), (a4, .inl (cI, 100, .inl (bI wn hn))), (a5, .inl (cI, 25, .inl KP)), (a6, .inl (cI, 25, .inl RG)), (a7, .inl (cI, 26, .inl SZ)), (a8, .inl (cI, 25, .inl LN))] := hD
    have hp_16 : r_2 = 0 := hp_16
    refine z_topi (y := 0) hp_16 ?_
    rw [← hQ]
    exact z_iret (W1 := (fun (_ : Unit) => [(m0, .inr (2, [.int 1, .int (nI wn), .int (nI hn), .int (nI q0), .int wv, .ref a1, .ref a2, .ref a3, .ref a4, .ref a5, .ref a6, .ref a7, .ref a8, .int mn])), (a1, .inl (cI, 25, .inl (kI K0))), (a2, .inl (cI, 25, .inl NX)), (a3, .inl (cZ, 25, .inl (zB T0))), (a4, .inl (cI, 100, .inl (bI wn hn))), (a5, .inl (cI, 25, .inl KP)), (a6, .inl (cI, 25, .inl RG)), (a7, .inl (cI, 26, .inl SZ)), (a8, .inl (cI, 25, .inl LN))])) hx hb hr hlocks hP hS () (rfl) (trivial) dX2_regionSize_19
abbrev rmX2_width : Room := { frames := 0, cells := 0, slots := 0, locals := 0 }
set_option maxRecDepth 20000 in
theorem iX2_width_X2 : ∀ w ∈ wsX20, w ∈ wsX2_width := fun w h => (goodIn_r (big := wsX2_width) wsX20 [3, 4, 5, 6, 7, 8, 9, 10, 11, 12, 13, 14, 15, 16] (by decide +kernel) (by decide +kernel) w h).1
set_option maxHeartbeats 4000000 in
set_option maxRecDepth 100000 in
theorem m_X2_width_ok (l : Launch) (dC : Nat → ClassId) (dI : Nat → Nat → Nat) (cI cZ cJ cD : ClassId) (m0 : Nat) (a1 : Nat) (a2 : Nat) (a3 : Nat) (a4 : Nat) (a5 : Nat) (a6 : Nat) (a7 : Nat) (a8 : Nat) (th : Int32) (wn : Nat) (hn : Nat) (q0 : Nat) (wv : Int32) (K0 : Nat → Nat) (NX : Nat → Int32) (T0 : Nat → Bool) (KP : Nat → Int32) (RG : Nat → Int32) (SZ : Nat → Int32) (LN : Nat → Int32) (mn : Int32)  : zI l (dC, dI) (wT cI cZ cJ cD) yX2_width wsX2_width rmX2_width [(m0, .inr (2, [.int th, .int (nI wn), .int (nI hn), .int (nI q0), .int wv, .ref a1, .ref a2, .ref a3, .ref a4, .ref a5, .ref a6, .ref a7, .ref a8, .int mn])), (a1, .inl (cI, 25, .inl (kI K0))), (a2, .inl (cI, 25, .inl NX)), (a3, .inl (cZ, 25, .inl (zB T0))), (a4, .inl (cI, 100, .inl (bI wn hn))), (a5, .inl (cI, 25, .inl KP)), (a6, .inl (cI, 25, .inl RG)), (a7, .inl (cI, 26, .inl SZ)), (a8, .inl (cI, 25, .inl LN))] [.ref m0] (fun (_ : Unit) => [(m0, .inr (2, [.int 0, .int (nI wn), .int (nI hn), .int (nI q0), .int wv, .ref a1, .ref a2, .ref a3, .ref a4, .ref a5, .ref a6, .ref a7, .ref a8, .int mn])), (a1, .inl (cI, 25, .inl (kI K0))), (a2, .inl (cI, 25, .inl NX)), (a3, .inl (cZ, 25, .inl (zB T0))), (a4, .inl (cI, 100, .inl (bI wn hn))), (a5, .inl (cI, 25, .inl KP)), (a6, .inl (cI, 25, .inl RG)), (a7, .inl (cI, 26, .inl SZ)), (a8, .inl (cI, 25, .inl LN))]) (fun (r : Int32) (_ : Unit) => r = nI wn) := by
  intro sz
  refine Met.ofW (cc := cX2_width) (maxL := 1) (ret := (some .int)) (by decide) rfl ?_
  intro p e s m args below meth c s₁ B hml hv
  obtain ⟨ha, hsz, hP, hK, hD0, hN⟩ := hv
  have hx := B.exec
  have hb := B.bytes
  have hr := B.returns
  have hts := atoms_spec (ws := wsX2_width) B.pre
  have hown : s.vm.findClass RX2 = some m.cls := findClass_of_methodNamed B.named
  have hlocks := B.notSynchronized
  subst hsz
  have hD := hD0.self (sz := s.heap.size)
  generalize hAe : va_A [(m0, .inr (2, [.int th, .int (nI wn), .int (nI hn), .int (nI q0), .int wv, .ref a1, .ref a2, .ref a3, .ref a4, .ref a5, .ref a6, .ref a7, .ref a8, .int mn])), (a1, .inl (cI, 25, .inl (kI K0))), (a2, .inl (cI, 25, .inl NX)), (a3, .inl (cZ, 25, .inl (zB T0))), (a4, .inl (cI, 100, .inl (bI wn hn))), (a5, .inl (cI, 25, .inl KP)), (a6, .inl (cI, 25, .inl RG)), (a7, .inl (cI, 26, .inl SZ)), (a8, .inl (cI, 25, .inl LN))] s.heap.size = A at hD ⊢
  have hA : ∀ q : Nat, s.heap.size ≤ q → A q := fun q h => by rw [← hAe]; exact Or.inr h
  have hS : va_S A s.heap s.heap [] := va_S.rf
  generalize hQ : MQ below (va_Qi (fun (r : Int32) (_ : Unit) => r = nI wn) (fun u t => va_P (dC, dI) vwCl ((fun (_ : Unit) => [(m0, .inr (2, [.int 0, .int (nI wn), .int (nI hn), .int (nI q0), .int wv, .ref a1, .ref a2, .ref a3, .ref a4, .ref a5, .ref a6, .ref a7, .ref a8, .int mn])), (a1, .inl (cI, 25, .inl (kI K0))), (a2, .inl (cI, 25, .inl NX)), (a3, .inl (cZ, 25, .inl (zB T0))), (a4, .inl (cI, 100, .inl (bI wn hn))), (a5, .inl (cI, 25, .inl KP)), (a6, .inl (cI, 25, .inl RG)), (a7, .inl (cI, 26, .inl SZ)), (a8, .inl (cI, 25, .inl LN))]) u) t.heap) A) args s 0 0 A = Q
  have F9 : CallFix p m c cX2_width 1 s args wsX2_width RX2 := ⟨hx, hb, hml, hown, hts⟩
  refine z_entry (R := rmX2_width) ha (Nat.le_of_ble_eq_true rfl) (fun ls hl => ?_)
  have hl : lv_has ls 1 [(0, .ref m0)] := hl
  refine lv_aload_n hx hb dX2_width_0 rfl (lv_at hl 0 rfl) ?_
  refine lv_iconst (v := 0) hx hb dX2_width_1 (by decide) ?_
  refine va_put (D := (dC, dI)) (ci := 2) (v := .int 0) (ty := .int) (C := RX2) (T := TX2) (N := 14) hx hb hts iX2_width_X2 tyX2 tyX2_ok nmX2 hown hK hP hD hS 0 rfl rfl 0 (by decide) (hts (.fieldLink RX2 43 "ColourTideModel" "thrown" "I") (List.mem_of_getElem? (i := 1) rfl)) (fun _ h9 => h9) rfl (by decide +kernel) rfl rfl (Nat.le_of_ble_eq_true rfl) dX2_width_2 (fun H locs hP hD hS => ?_)
  have hP : va_P (dC, dI) vwCl [(m0, .inr (2, [.int 0, .int (nI wn), .int (nI hn), .int (nI q0), .int wv, .ref a1, .ref a2, .ref a3, .ref a4, .ref a5, .ref a6, .ref a7, .ref a8, .int mn])), (a1, .inl (cI, 25, .inl (kI K0))), (a2, .inl (cI, 25, .inl NX)), (a3, .inl (cZ, 25, .inl (zB T0))), (a4, .inl (cI, 100, .inl (bI wn hn))), (a5, .inl (cI, 25, .inl KP)), (a6, .inl (cI, 25, .inl RG)), (a7, .inl (cI, 26, .inl SZ)), (a8, .inl (cI, 25, .inl LN))] H := hP
  have hD : va_D A [(m0, .inr (2, [.int 0, .int (nI wn), .int (nI hn), .int (nI q0), .int wv, .ref a1, .ref a2, .ref a3, .ref a4, .ref a5, .ref a6, .ref a7, .ref a8, .int mn])), (a1, .inl (cI, 25, .inl (kI K0))), (a2, .inl (cI, 25, .inl NX)), (a3, .inl (cZ, 25, .inl (zB T0))), (a4, .inl (cI, 100, .inl (bI wn hn))), (a5, .inl (cI, 25, .inl KP)), (a6, .inl (cI, 25, .inl RG)), (a7, .inl (cI, 26, .inl SZ)), (a8, .inl (cI, 25, .inl LN))] := hD
  refine lv_aload_n hx hb dX2_width_5 rfl (lv_at hl 0 rfl) ?_
  refine va_get (D := (dC, dI)) (ci := 2) (v := .int (nI wn)) (C := RX2) (T := TX2) (N := 14) hx hb hts iX2_width_X2 hown hK hP 0 rfl rfl 1 (by decide) (hts (.fieldLink RX2 46 "ColourTideModel" "w" "I") (List.mem_of_getElem? (i := 2) rfl)) (fun _ h9 => h9) rfl dX2_width_6 ?_
  rw [← hQ]
  exact z_iret (W1 := (fun (_ : Unit) => [(m0, .inr (2, [.int 0, .int (nI wn), .int (nI hn), .int (nI q0), .int wv, .ref a1, .ref a2, .ref a3, .ref a4, .ref a5, .ref a6, .ref a7, .ref a8, .int mn])), (a1, .inl (cI, 25, .inl (kI K0))), (a2, .inl (cI, 25, .inl NX)), (a3, .inl (cZ, 25, .inl (zB T0))), (a4, .inl (cI, 100, .inl (bI wn hn))), (a5, .inl (cI, 25, .inl KP)), (a6, .inl (cI, 25, .inl RG)), (a7, .inl (cI, 26, .inl SZ)), (a8, .inl (cI, 25, .inl LN))])) hx hb hr hlocks hP hS () (rfl) (rfl) dX2_width_9
abbrev rmX2_height : Room := { frames := 0, cells := 0, slots := 0, locals := 0 }
set_option maxRecDepth 20000 in
theorem iX2_height_X2 : ∀ w ∈ wsX20, w ∈ wsX2_height := fun w h => (goodIn_r (big := wsX2_height) wsX20 [3, 4, 5, 6, 7, 8, 9, 10, 11, 12, 13, 14, 15, 16] (by decide +kernel) (by decide +kernel) w h).1
set_option maxHeartbeats 4000000 in
set_option maxRecDepth 100000 in
theorem m_X2_height_ok (l : Launch) (dC : Nat → ClassId) (dI : Nat → Nat → Nat) (cI cZ cJ cD : ClassId) (m0 : Nat) (a1 : Nat) (a2 : Nat) (a3 : Nat) (a4 : Nat) (a5 : Nat) (a6 : Nat) (a7 : Nat) (a8 : Nat) (th : Int32) (wn : Nat) (hn : Nat) (q0 : Nat) (wv : Int32) (K0 : Nat → Nat) (NX : Nat → Int32) (T0 : Nat → Bool) (KP : Nat → Int32) (RG : Nat → Int32) (SZ : Nat → Int32) (LN : Nat → Int32) (mn : Int32)  : zI l (dC, dI) (wT cI cZ cJ cD) yX2_height wsX2_height rmX2_height [(m0, .inr (2, [.int th, .int (nI wn), .int (nI hn), .int (nI q0), .int wv, .ref a1, .ref a2, .ref a3, .ref a4, .ref a5, .ref a6, .ref a7, .ref a8, .int mn])), (a1, .inl (cI, 25, .inl (kI K0))), (a2, .inl (cI, 25, .inl NX)), (a3, .inl (cZ, 25, .inl (zB T0))), (a4, .inl (cI, 100, .inl (bI wn hn))), (a5, .inl (cI, 25, .inl KP)), (a6, .inl (cI, 25, .inl RG)), (a7, .inl (cI, 26, .inl SZ)), (a8, .inl (cI, 25, .inl LN))] [.ref m0] (fun (_ : Unit) => [(m0, .inr (2, [.int 0, .int (nI wn), .int (nI hn), .int (nI q0), .int wv, .ref a1, .ref a2, .ref a3, .ref a4, .ref a5, .ref a6, .ref a7, .ref a8, .int mn])), (a1, .inl (cI, 25, .inl (kI K0))), (a2, .inl (cI, 25, .inl NX)), (a3, .inl (cZ, 25, .inl (zB T0))), (a4, .inl (cI, 100, .inl (bI wn hn))), (a5, .inl (cI, 25, .inl KP)), (a6, .inl (cI, 25, .inl RG)), (a7, .inl (cI, 26, .inl SZ)), (a8, .inl (cI, 25, .inl LN))]) (fun (r : Int32) (_ : Unit) => r = nI hn) := by
  intro sz
  refine Met.ofW (cc := cX2_height) (maxL := 1) (ret := (some .int)) (by decide) rfl ?_
  intro p e s m args below meth c s₁ B hml hv
  obtain ⟨ha, hsz, hP, hK, hD0, hN⟩ := hv
  have hx := B.exec
  have hb := B.bytes
  have hr := B.returns
  have hts := atoms_spec (ws := wsX2_height) B.pre
  have hown : s.vm.findClass RX2 = some m.cls := findClass_of_methodNamed B.named
  have hlocks := B.notSynchronized
  subst hsz
  have hD := hD0.self (sz := s.heap.size)
  generalize hAe : va_A [(m0, .inr (2, [.int th, .int (nI wn), .int (nI hn), .int (nI q0), .int wv, .ref a1, .ref a2, .ref a3, .ref a4, .ref a5, .ref a6, .ref a7, .ref a8, .int mn])), (a1, .inl (cI, 25, .inl (kI K0))), (a2, .inl (cI, 25, .inl NX)), (a3, .inl (cZ, 25, .inl (zB T0))), (a4, .inl (cI, 100, .inl (bI wn hn))), (a5, .inl (cI, 25, .inl KP)), (a6, .inl (cI, 25, .inl RG)), (a7, .inl (cI, 26, .inl SZ)), (a8, .inl (cI, 25, .inl LN))] s.heap.size = A at hD ⊢
  have hA : ∀ q : Nat, s.heap.size ≤ q → A q := fun q h => by rw [← hAe]; exact Or.inr h
  have hS : va_S A s.heap s.heap [] := va_S.rf
  generalize hQ : MQ below (va_Qi (fun (r : Int32) (_ : Unit) => r = nI hn) (fun u t => va_P (dC, dI) vwCl ((fun (_ : Unit) => [(m0, .inr (2, [.int 0, .int (nI wn), .int (nI hn), .int (nI q0), .int wv, .ref a1, .ref a2, .ref a3, .ref a4, .ref a5, .ref a6, .ref a7, .ref a8, .int mn])), (a1, .inl (cI, 25, .inl (kI K0))), (a2, .inl (cI, 25, .inl NX)), (a3, .inl (cZ, 25, .inl (zB T0))), (a4, .inl (cI, 100, .inl (bI wn hn))), (a5, .inl (cI, 25, .inl KP)), (a6, .inl (cI, 25, .inl RG)), (a7, .inl (cI, 26, .inl SZ)), (a8, .inl (cI, 25, .inl LN))]) u) t.heap) A) args s 0 0 A = Q
  have F9 : CallFix p m c cX2_height 1 s args wsX2_height RX2 := ⟨hx, hb, hml, hown, hts⟩
  refine z_entry (R := rmX2_height) ha (Nat.le_of_ble_eq_true rfl) (fun ls hl => ?_)
  have hl : lv_has ls 1 [(0, .ref m0)] := hl
  refine lv_aload_n hx hb dX2_height_0 rfl (lv_at hl 0 rfl) ?_
  refine lv_iconst (v := 0) hx hb dX2_height_1 (by decide) ?_
  refine va_put (D := (dC, dI)) (ci := 2) (v := .int 0) (ty := .int) (C := RX2) (T := TX2) (N := 14) hx hb hts iX2_height_X2 tyX2 tyX2_ok nmX2 hown hK hP hD hS 0 rfl rfl 0 (by decide) (hts (.fieldLink RX2 43 "ColourTideModel" "thrown" "I") (List.mem_of_getElem? (i := 1) rfl)) (fun _ h9 => h9) rfl (by decide +kernel) rfl rfl (Nat.le_of_ble_eq_true rfl) dX2_height_2 (fun H locs hP hD hS => ?_)
  have hP : va_P (dC, dI) vwCl [(m0, .inr (2, [.int 0, .int (nI wn), .int (nI hn), .int (nI q0), .int wv, .ref a1, .ref a2, .ref a3, .ref a4, .ref a5, .ref a6, .ref a7, .ref a8, .int mn])), (a1, .inl (cI, 25, .inl (kI K0))), (a2, .inl (cI, 25, .inl NX)), (a3, .inl (cZ, 25, .inl (zB T0))), (a4, .inl (cI, 100, .inl (bI wn hn))), (a5, .inl (cI, 25, .inl KP)), (a6, .inl (cI, 25, .inl RG)), (a7, .inl (cI, 26, .inl SZ)), (a8, .inl (cI, 25, .inl LN))] H := hP
  have hD : va_D A [(m0, .inr (2, [.int 0, .int (nI wn), .int (nI hn), .int (nI q0), .int wv, .ref a1, .ref a2, .ref a3, .ref a4, .ref a5, .ref a6, .ref a7, .ref a8, .int mn])), (a1, .inl (cI, 25, .inl (kI K0))), (a2, .inl (cI, 25, .inl NX)), (a3, .inl (cZ, 25, .inl (zB T0))), (a4, .inl (cI, 100, .inl (bI wn hn))), (a5, .inl (cI, 25, .inl KP)), (a6, .inl (cI, 25, .inl RG)), (a7, .inl (cI, 26, .inl SZ)), (a8, .inl (cI, 25, .inl LN))] := hD
  refine lv_aload_n hx hb dX2_height_5 rfl (lv_at hl 0 rfl) ?_
  refine va_get (D := (dC, dI)) (ci := 2) (v := .int (nI hn)) (C := RX2) (T := TX2) (N := 14) hx hb hts iX2_height_X2 hown hK hP 0 rfl rfl 2 (by decide) (hts (.fieldLink RX2 49 "ColourTideModel" "h" "I") (List.mem_of_getElem? (i := 2) rfl)) (fun _ h9 => h9) rfl dX2_height_6 ?_
  rw [← hQ]
  exact z_iret (W1 := (fun (_ : Unit) => [(m0, .inr (2, [.int 0, .int (nI wn), .int (nI hn), .int (nI q0), .int wv, .ref a1, .ref a2, .ref a3, .ref a4, .ref a5, .ref a6, .ref a7, .ref a8, .int mn])), (a1, .inl (cI, 25, .inl (kI K0))), (a2, .inl (cI, 25, .inl NX)), (a3, .inl (cZ, 25, .inl (zB T0))), (a4, .inl (cI, 100, .inl (bI wn hn))), (a5, .inl (cI, 25, .inl KP)), (a6, .inl (cI, 25, .inl RG)), (a7, .inl (cI, 26, .inl SZ)), (a8, .inl (cI, 25, .inl LN))])) hx hb hr hlocks hP hS () (rfl) (rfl) dX2_height_9
abbrev rmX2_need : Room := { frames := 0, cells := 0, slots := 0, locals := 0 }
set_option maxRecDepth 20000 in
theorem iX2_need_X2 : ∀ w ∈ wsX20, w ∈ wsX2_need := fun w h => (goodIn_r (big := wsX2_need) wsX20 [3, 4, 5, 6, 7, 8, 9, 10, 11, 12, 13, 14, 15, 16] (by decide +kernel) (by decide +kernel) w h).1
set_option maxHeartbeats 4000000 in
set_option maxRecDepth 100000 in
theorem m_X2_need_ok (l : Launch) (dC : Nat → ClassId) (dI : Nat → Nat → Nat) (cI cZ cJ cD : ClassId) (m0 : Nat) (a1 : Nat) (a2 : Nat) (a3 : Nat) (a4 : Nat) (a5 : Nat) (a6 : Nat) (a7 : Nat) (a8 : Nat) (th : Int32) (wn : Nat) (hn : Nat) (q0 : Nat) (wv : Int32) (K0 : Nat → Nat) (NX : Nat → Int32) (T0 : Nat → Bool) (KP : Nat → Int32) (RG : Nat → Int32) (SZ : Nat → Int32) (LN : Nat → Int32) (mn : Int32)  : zI l (dC, dI) (wT cI cZ cJ cD) yX2_need wsX2_need rmX2_need [(m0, .inr (2, [.int th, .int (nI wn), .int (nI hn), .int (nI q0), .int wv, .ref a1, .ref a2, .ref a3, .ref a4, .ref a5, .ref a6, .ref a7, .ref a8, .int mn])), (a1, .inl (cI, 25, .inl (kI K0))), (a2, .inl (cI, 25, .inl NX)), (a3, .inl (cZ, 25, .inl (zB T0))), (a4, .inl (cI, 100, .inl (bI wn hn))), (a5, .inl (cI, 25, .inl KP)), (a6, .inl (cI, 25, .inl RG)), (a7, .inl (cI, 26, .inl SZ)), (a8, .inl (cI, 25, .inl LN))] [.ref m0] (fun (_ : Unit) => [(m0, .inr (2, [.int 0, .int (nI wn), .int (nI hn), .int (nI q0), .int wv, .ref a1, .ref a2, .ref a3, .ref a4, .ref a5, .ref a6, .ref a7, .ref a8, .int mn])), (a1, .inl (cI, 25, .inl (kI K0))), (a2, .inl (cI, 25, .inl NX)), (a3, .inl (cZ, 25, .inl (zB T0))), (a4, .inl (cI, 100, .inl (bI wn hn))), (a5, .inl (cI, 25, .inl KP)), (a6, .inl (cI, 25, .inl RG)), (a7, .inl (cI, 26, .inl SZ)), (a8, .inl (cI, 25, .inl LN))]) (fun (r : Int32) (_ : Unit) => r = nI q0) := by
  intro sz
  refine Met.ofW (cc := cX2_need) (maxL := 1) (ret := (some .int)) (by decide) rfl ?_
  intro p e s m args below meth c s₁ B hml hv
  obtain ⟨ha, hsz, hP, hK, hD0, hN⟩ := hv
  have hx := B.exec
  have hb := B.bytes
  have hr := B.returns
  have hts := atoms_spec (ws := wsX2_need) B.pre
  have hown : s.vm.findClass RX2 = some m.cls := findClass_of_methodNamed B.named
  have hlocks := B.notSynchronized
  subst hsz
  have hD := hD0.self (sz := s.heap.size)
  generalize hAe : va_A [(m0, .inr (2, [.int th, .int (nI wn), .int (nI hn), .int (nI q0), .int wv, .ref a1, .ref a2, .ref a3, .ref a4, .ref a5, .ref a6, .ref a7, .ref a8, .int mn])), (a1, .inl (cI, 25, .inl (kI K0))), (a2, .inl (cI, 25, .inl NX)), (a3, .inl (cZ, 25, .inl (zB T0))), (a4, .inl (cI, 100, .inl (bI wn hn))), (a5, .inl (cI, 25, .inl KP)), (a6, .inl (cI, 25, .inl RG)), (a7, .inl (cI, 26, .inl SZ)), (a8, .inl (cI, 25, .inl LN))] s.heap.size = A at hD ⊢
  have hA : ∀ q : Nat, s.heap.size ≤ q → A q := fun q h => by rw [← hAe]; exact Or.inr h
  have hS : va_S A s.heap s.heap [] := va_S.rf
  generalize hQ : MQ below (va_Qi (fun (r : Int32) (_ : Unit) => r = nI q0) (fun u t => va_P (dC, dI) vwCl ((fun (_ : Unit) => [(m0, .inr (2, [.int 0, .int (nI wn), .int (nI hn), .int (nI q0), .int wv, .ref a1, .ref a2, .ref a3, .ref a4, .ref a5, .ref a6, .ref a7, .ref a8, .int mn])), (a1, .inl (cI, 25, .inl (kI K0))), (a2, .inl (cI, 25, .inl NX)), (a3, .inl (cZ, 25, .inl (zB T0))), (a4, .inl (cI, 100, .inl (bI wn hn))), (a5, .inl (cI, 25, .inl KP)), (a6, .inl (cI, 25, .inl RG)), (a7, .inl (cI, 26, .inl SZ)), (a8, .inl (cI, 25, .inl LN))]) u) t.heap) A) args s 0 0 A = Q
  have F9 : CallFix p m c cX2_need 1 s args wsX2_need RX2 := ⟨hx, hb, hml, hown, hts⟩
  refine z_entry (R := rmX2_need) ha (Nat.le_of_ble_eq_true rfl) (fun ls hl => ?_)
  have hl : lv_has ls 1 [(0, .ref m0)] := hl
  refine lv_aload_n hx hb dX2_need_0 rfl (lv_at hl 0 rfl) ?_
  refine lv_iconst (v := 0) hx hb dX2_need_1 (by decide) ?_
  refine va_put (D := (dC, dI)) (ci := 2) (v := .int 0) (ty := .int) (C := RX2) (T := TX2) (N := 14) hx hb hts iX2_need_X2 tyX2 tyX2_ok nmX2 hown hK hP hD hS 0 rfl rfl 0 (by decide) (hts (.fieldLink RX2 43 "ColourTideModel" "thrown" "I") (List.mem_of_getElem? (i := 1) rfl)) (fun _ h9 => h9) rfl (by decide +kernel) rfl rfl (Nat.le_of_ble_eq_true rfl) dX2_need_2 (fun H locs hP hD hS => ?_)
  have hP : va_P (dC, dI) vwCl [(m0, .inr (2, [.int 0, .int (nI wn), .int (nI hn), .int (nI q0), .int wv, .ref a1, .ref a2, .ref a3, .ref a4, .ref a5, .ref a6, .ref a7, .ref a8, .int mn])), (a1, .inl (cI, 25, .inl (kI K0))), (a2, .inl (cI, 25, .inl NX)), (a3, .inl (cZ, 25, .inl (zB T0))), (a4, .inl (cI, 100, .inl (bI wn hn))), (a5, .inl (cI, 25, .inl KP)), (a6, .inl (cI, 25, .inl RG)), (a7, .inl (cI, 26, .inl SZ)), (a8, .inl (cI, 25, .inl LN))] H := hP
  have hD : va_D A [(m0, .inr (2, [.int 0, .int (nI wn), .int (nI hn), .int (nI q0), .int wv, .ref a1, .ref a2, .ref a3, .ref a4, .ref a5, .ref a6, .ref a7, .ref a8, .int mn])), (a1, .inl (cI, 25, .inl (kI K0))), (a2, .inl (cI, 25, .inl NX)), (a3, .inl (cZ, 25, .inl (zB T0))), (a4, .inl (cI, 100, .inl (bI wn hn))), (a5, .inl (cI, 25, .inl KP)), (a6, .inl (cI, 25, .inl RG)), (a7, .inl (cI, 26, .inl SZ)), (a8, .inl (cI, 25, .inl LN))] := hD
  refine lv_aload_n hx hb dX2_need_5 rfl (lv_at hl 0 rfl) ?_
  refine va_get (D := (dC, dI)) (ci := 2) (v := .int (nI q0)) (C := RX2) (T := TX2) (N := 14) hx hb hts iX2_need_X2 hown hK hP 0 rfl rfl 3 (by decide) (hts (.fieldLink RX2 7 "ColourTideModel" "need" "I") (List.mem_of_getElem? (i := 2) rfl)) (fun _ h9 => h9) rfl dX2_need_6 ?_
  rw [← hQ]
  exact z_iret (W1 := (fun (_ : Unit) => [(m0, .inr (2, [.int 0, .int (nI wn), .int (nI hn), .int (nI q0), .int wv, .ref a1, .ref a2, .ref a3, .ref a4, .ref a5, .ref a6, .ref a7, .ref a8, .int mn])), (a1, .inl (cI, 25, .inl (kI K0))), (a2, .inl (cI, 25, .inl NX)), (a3, .inl (cZ, 25, .inl (zB T0))), (a4, .inl (cI, 100, .inl (bI wn hn))), (a5, .inl (cI, 25, .inl KP)), (a6, .inl (cI, 25, .inl RG)), (a7, .inl (cI, 26, .inl SZ)), (a8, .inl (cI, 25, .inl LN))])) hx hb hr hlocks hP hS () (rfl) (rfl) dX2_need_9
abbrev rmX2_waves : Room := { frames := 0, cells := 0, slots := 0, locals := 0 }
set_option maxRecDepth 20000 in
theorem iX2_waves_X2 : ∀ w ∈ wsX20, w ∈ wsX2_waves := fun w h => (goodIn_r (big := wsX2_waves) wsX20 [3, 4, 5, 6, 7, 8, 9, 10, 11, 12, 13, 14, 15, 16] (by decide +kernel) (by decide +kernel) w h).1
set_option maxHeartbeats 4000000 in
set_option maxRecDepth 100000 in
theorem m_X2_waves_ok (l : Launch) (dC : Nat → ClassId) (dI : Nat → Nat → Nat) (cI cZ cJ cD : ClassId) (m0 : Nat) (a1 : Nat) (a2 : Nat) (a3 : Nat) (a4 : Nat) (a5 : Nat) (a6 : Nat) (a7 : Nat) (a8 : Nat) (th : Int32) (wn : Nat) (hn : Nat) (q0 : Nat) (wv : Int32) (K0 : Nat → Nat) (NX : Nat → Int32) (T0 : Nat → Bool) (KP : Nat → Int32) (RG : Nat → Int32) (SZ : Nat → Int32) (LN : Nat → Int32) (mn : Int32)  : zI l (dC, dI) (wT cI cZ cJ cD) yX2_waves wsX2_waves rmX2_waves [(m0, .inr (2, [.int th, .int (nI wn), .int (nI hn), .int (nI q0), .int wv, .ref a1, .ref a2, .ref a3, .ref a4, .ref a5, .ref a6, .ref a7, .ref a8, .int mn])), (a1, .inl (cI, 25, .inl (kI K0))), (a2, .inl (cI, 25, .inl NX)), (a3, .inl (cZ, 25, .inl (zB T0))), (a4, .inl (cI, 100, .inl (bI wn hn))), (a5, .inl (cI, 25, .inl KP)), (a6, .inl (cI, 25, .inl RG)), (a7, .inl (cI, 26, .inl SZ)), (a8, .inl (cI, 25, .inl LN))] [.ref m0] (fun (_ : Unit) => [(m0, .inr (2, [.int 0, .int (nI wn), .int (nI hn), .int (nI q0), .int wv, .ref a1, .ref a2, .ref a3, .ref a4, .ref a5, .ref a6, .ref a7, .ref a8, .int mn])), (a1, .inl (cI, 25, .inl (kI K0))), (a2, .inl (cI, 25, .inl NX)), (a3, .inl (cZ, 25, .inl (zB T0))), (a4, .inl (cI, 100, .inl (bI wn hn))), (a5, .inl (cI, 25, .inl KP)), (a6, .inl (cI, 25, .inl RG)), (a7, .inl (cI, 26, .inl SZ)), (a8, .inl (cI, 25, .inl LN))]) (fun (r : Int32) (_ : Unit) => r = wv) := by
  intro sz
  refine Met.ofW (cc := cX2_waves) (maxL := 1) (ret := (some .int)) (by decide) rfl ?_
  intro p e s m args below meth c s₁ B hml hv
  obtain ⟨ha, hsz, hP, hK, hD0, hN⟩ := hv
  have hx := B.exec
  have hb := B.bytes
  have hr := B.returns
  have hts := atoms_spec (ws := wsX2_waves) B.pre
  have hown : s.vm.findClass RX2 = some m.cls := findClass_of_methodNamed B.named
  have hlocks := B.notSynchronized
  subst hsz
  have hD := hD0.self (sz := s.heap.size)
  generalize hAe : va_A [(m0, .inr (2, [.int th, .int (nI wn), .int (nI hn), .int (nI q0), .int wv, .ref a1, .ref a2, .ref a3, .ref a4, .ref a5, .ref a6, .ref a7, .ref a8, .int mn])), (a1, .inl (cI, 25, .inl (kI K0))), (a2, .inl (cI, 25, .inl NX)), (a3, .inl (cZ, 25, .inl (zB T0))), (a4, .inl (cI, 100, .inl (bI wn hn))), (a5, .inl (cI, 25, .inl KP)), (a6, .inl (cI, 25, .inl RG)), (a7, .inl (cI, 26, .inl SZ)), (a8, .inl (cI, 25, .inl LN))] s.heap.size = A at hD ⊢
  have hA : ∀ q : Nat, s.heap.size ≤ q → A q := fun q h => by rw [← hAe]; exact Or.inr h
  have hS : va_S A s.heap s.heap [] := va_S.rf
  generalize hQ : MQ below (va_Qi (fun (r : Int32) (_ : Unit) => r = wv) (fun u t => va_P (dC, dI) vwCl ((fun (_ : Unit) => [(m0, .inr (2, [.int 0, .int (nI wn), .int (nI hn), .int (nI q0), .int wv, .ref a1, .ref a2, .ref a3, .ref a4, .ref a5, .ref a6, .ref a7, .ref a8, .int mn])), (a1, .inl (cI, 25, .inl (kI K0))), (a2, .inl (cI, 25, .inl NX)), (a3, .inl (cZ, 25, .inl (zB T0))), (a4, .inl (cI, 100, .inl (bI wn hn))), (a5, .inl (cI, 25, .inl KP)), (a6, .inl (cI, 25, .inl RG)), (a7, .inl (cI, 26, .inl SZ)), (a8, .inl (cI, 25, .inl LN))]) u) t.heap) A) args s 0 0 A = Q
  have F9 : CallFix p m c cX2_waves 1 s args wsX2_waves RX2 := ⟨hx, hb, hml, hown, hts⟩
  refine z_entry (R := rmX2_waves) ha (Nat.le_of_ble_eq_true rfl) (fun ls hl => ?_)
  have hl : lv_has ls 1 [(0, .ref m0)] := hl
  refine lv_aload_n hx hb dX2_waves_0 rfl (lv_at hl 0 rfl) ?_
  refine lv_iconst (v := 0) hx hb dX2_waves_1 (by decide) ?_
  refine va_put (D := (dC, dI)) (ci := 2) (v := .int 0) (ty := .int) (C := RX2) (T := TX2) (N := 14) hx hb hts iX2_waves_X2 tyX2 tyX2_ok nmX2 hown hK hP hD hS 0 rfl rfl 0 (by decide) (hts (.fieldLink RX2 43 "ColourTideModel" "thrown" "I") (List.mem_of_getElem? (i := 1) rfl)) (fun _ h9 => h9) rfl (by decide +kernel) rfl rfl (Nat.le_of_ble_eq_true rfl) dX2_waves_2 (fun H locs hP hD hS => ?_)
  have hP : va_P (dC, dI) vwCl [(m0, .inr (2, [.int 0, .int (nI wn), .int (nI hn), .int (nI q0), .int wv, .ref a1, .ref a2, .ref a3, .ref a4, .ref a5, .ref a6, .ref a7, .ref a8, .int mn])), (a1, .inl (cI, 25, .inl (kI K0))), (a2, .inl (cI, 25, .inl NX)), (a3, .inl (cZ, 25, .inl (zB T0))), (a4, .inl (cI, 100, .inl (bI wn hn))), (a5, .inl (cI, 25, .inl KP)), (a6, .inl (cI, 25, .inl RG)), (a7, .inl (cI, 26, .inl SZ)), (a8, .inl (cI, 25, .inl LN))] H := hP
  have hD : va_D A [(m0, .inr (2, [.int 0, .int (nI wn), .int (nI hn), .int (nI q0), .int wv, .ref a1, .ref a2, .ref a3, .ref a4, .ref a5, .ref a6, .ref a7, .ref a8, .int mn])), (a1, .inl (cI, 25, .inl (kI K0))), (a2, .inl (cI, 25, .inl NX)), (a3, .inl (cZ, 25, .inl (zB T0))), (a4, .inl (cI, 100, .inl (bI wn hn))), (a5, .inl (cI, 25, .inl KP)), (a6, .inl (cI, 25, .inl RG)), (a7, .inl (cI, 26, .inl SZ)), (a8, .inl (cI, 25, .inl LN))] := hD
  refine lv_aload_n hx hb dX2_waves_5 rfl (lv_at hl 0 rfl) ?_
  refine va_get (D := (dC, dI)) (ci := 2) (v := .int wv) (C := RX2) (T := TX2) (N := 14) hx hb hts iX2_waves_X2 hown hK hP 0 rfl rfl 4 (by decide) (hts (.fieldLink RX2 56 "ColourTideModel" "waves" "I") (List.mem_of_getElem? (i := 2) rfl)) (fun _ h9 => h9) rfl dX2_waves_6 ?_
  rw [← hQ]
  exact z_iret (W1 := (fun (_ : Unit) => [(m0, .inr (2, [.int 0, .int (nI wn), .int (nI hn), .int (nI q0), .int wv, .ref a1, .ref a2, .ref a3, .ref a4, .ref a5, .ref a6, .ref a7, .ref a8, .int mn])), (a1, .inl (cI, 25, .inl (kI K0))), (a2, .inl (cI, 25, .inl NX)), (a3, .inl (cZ, 25, .inl (zB T0))), (a4, .inl (cI, 100, .inl (bI wn hn))), (a5, .inl (cI, 25, .inl KP)), (a6, .inl (cI, 25, .inl RG)), (a7, .inl (cI, 26, .inl SZ)), (a8, .inl (cI, 25, .inl LN))])) hx hb hr hlocks hP hS () (rfl) (rfl) dX2_waves_9
abbrev rmX2_stubbornCells : Room := { frames := 2, cells := 0, slots := 0, locals := 42 }
set_option maxRecDepth 20000 in
theorem iX2_stubbornCells_X2 : ∀ w ∈ wsX20, w ∈ wsX2_stubbornCells := fun w h => (goodIn_r (big := wsX2_stubbornCells) wsX20 [14, 15, 16, 17, 18, 19, 20, 21, 22, 23, 24, 25, 26, 27] (by decide +kernel) (by decide +kernel) w h).1
set_option maxHeartbeats 4000000 in
set_option maxRecDepth 100000 in
theorem m_X2_stubbornCells_ok (l : Launch) (dC : Nat → ClassId) (dI : Nat → Nat → Nat) (cI cZ cJ cD : ClassId) (m0 : Nat) (a1 : Nat) (a2 : Nat) (a3 : Nat) (a4 : Nat) (a5 : Nat) (a6 : Nat) (a7 : Nat) (a8 : Nat) (th : Int32) (wn : Nat) (hn : Nat) (q0 : Nat) (wv : Int32) (K0 : Nat → Nat) (NX : Nat → Int32) (T0 : Nat → Bool) (KP : Nat → Int32) (RG : Nat → Int32) (SZ : Nat → Int32) (LN : Nat → Int32) (mn : Int32) (g : gok wn hn) : zI l (dC, dI) (wT cI cZ cJ cD) yX2_stubbornCells wsX2_stubbornCells rmX2_stubbornCells [(m0, .inr (2, [.int th, .int (nI wn), .int (nI hn), .int (nI q0), .int wv, .ref a1, .ref a2, .ref a3, .ref a4, .ref a5, .ref a6, .ref a7, .ref a8, .int mn])), (a1, .inl (cI, 25, .inl (kI K0))), (a2, .inl (cI, 25, .inl NX)), (a3, .inl (cZ, 25, .inl (zB T0))), (a4, .inl (cI, 100, .inl (bI wn hn))), (a5, .inl (cI, 25, .inl KP)), (a6, .inl (cI, 25, .inl RG)), (a7, .inl (cI, 26, .inl SZ)), (a8, .inl (cI, 25, .inl LN))] [.ref m0] (fun (_ : Unit) => [(m0, .inr (2, [.int 0, .int (nI wn), .int (nI hn), .int (nI q0), .int wv, .ref a1, .ref a2, .ref a3, .ref a4, .ref a5, .ref a6, .ref a7, .ref a8, .int mn])), (a1, .inl (cI, 25, .inl (kI K0))), (a2, .inl (cI, 25, .inl NX)), (a3, .inl (cZ, 25, .inl (zB T0))), (a4, .inl (cI, 100, .inl (bI wn hn))), (a5, .inl (cI, 25, .inl KP)), (a6, .inl (cI, 25, .inl RG)), (a7, .inl (cI, 26, .inl SZ)), (a8, .inl (cI, 25, .inl LN))]) (fun (r : Int32) (_ : Unit) => r = nI (ct T0 (wn * hn))) := by
  intro sz
  refine Met.ofW (cc := cX2_stubbornCells) (maxL := 1) (ret := (some .int)) (by decide) rfl ?_
  intro p e s m args below meth c s₁ B hml hv
  obtain ⟨ha, hsz, hP, hK, hD0, hN⟩ := hv
  have hx := B.exec
  have hb := B.bytes
  have hr := B.returns
  have hts := atoms_spec (ws := wsX2_stubbornCells) B.pre
  have hown : s.vm.findClass RX2 = some m.cls := findClass_of_methodNamed B.named
  have hlocks := B.notSynchronized
  subst hsz
  have hD := hD0.self (sz := s.heap.size)
  generalize hAe : va_A [(m0, .inr (2, [.int th, .int (nI wn), .int (nI hn), .int (nI q0), .int wv, .ref a1, .ref a2, .ref a3, .ref a4, .ref a5, .ref a6, .ref a7, .ref a8, .int mn])), (a1, .inl (cI, 25, .inl (kI K0))), (a2, .inl (cI, 25, .inl NX)), (a3, .inl (cZ, 25, .inl (zB T0))), (a4, .inl (cI, 100, .inl (bI wn hn))), (a5, .inl (cI, 25, .inl KP)), (a6, .inl (cI, 25, .inl RG)), (a7, .inl (cI, 26, .inl SZ)), (a8, .inl (cI, 25, .inl LN))] s.heap.size = A at hD ⊢
  have hA : ∀ q : Nat, s.heap.size ≤ q → A q := fun q h => by rw [← hAe]; exact Or.inr h
  have hS : va_S A s.heap s.heap [] := va_S.rf
  generalize hQ : MQ below (va_Qi (fun (r : Int32) (_ : Unit) => r = nI (ct T0 (wn * hn))) (fun u t => va_P (dC, dI) vwCl ((fun (_ : Unit) => [(m0, .inr (2, [.int 0, .int (nI wn), .int (nI hn), .int (nI q0), .int wv, .ref a1, .ref a2, .ref a3, .ref a4, .ref a5, .ref a6, .ref a7, .ref a8, .int mn])), (a1, .inl (cI, 25, .inl (kI K0))), (a2, .inl (cI, 25, .inl NX)), (a3, .inl (cZ, 25, .inl (zB T0))), (a4, .inl (cI, 100, .inl (bI wn hn))), (a5, .inl (cI, 25, .inl KP)), (a6, .inl (cI, 25, .inl RG)), (a7, .inl (cI, 26, .inl SZ)), (a8, .inl (cI, 25, .inl LN))]) u) t.heap) A) args s 0 0 A = Q
  have F9 : CallFix p m c cX2_stubbornCells 1 s args wsX2_stubbornCells RX2 := ⟨hx, hb, hml, hown, hts⟩
  obtain ⟨g1, g2, g3, g4⟩ := id g
  have g5 := wh_le g
  have g6 := wh_pos g
  refine z_entry (R := rmX2_stubbornCells) ha (Nat.le_of_ble_eq_true rfl) (fun ls hl => ?_)
  have hl : lv_has ls 1 [(0, .ref m0)] := hl
  refine lv_aload_n hx hb dX2_stubbornCells_0 rfl (lv_at hl 0 rfl) ?_
  refine lv_iconst (v := 0) hx hb dX2_stubbornCells_1 (by decide) ?_
  refine va_put (D := (dC, dI)) (ci := 2) (v := .int 0) (ty := .int) (C := RX2) (T := TX2) (N := 14) hx hb hts iX2_stubbornCells_X2 tyX2 tyX2_ok nmX2 hown hK hP hD hS 0 rfl rfl 0 (by decide) (hts (.fieldLink RX2 43 "ColourTideModel" "thrown" "I") (List.mem_of_getElem? (i := 1) rfl)) (fun _ h9 => h9) rfl (by decide +kernel) rfl rfl (Nat.le_of_ble_eq_true rfl) dX2_stubbornCells_2 (fun H locs hP hD hS => ?_)
  have hP : va_P (dC, dI) vwCl [(m0, .inr (2, [.int 0, .int (nI wn), .int (nI hn), .int (nI q0), .int wv, .ref a1, .ref a2, .ref a3, .ref a4, .ref a5, .ref a6, .ref a7, .ref a8, .int mn])), (a1, .inl (cI, 25, .inl (kI K0))), (a2, .inl (cI, 25, .inl NX)), (a3, .inl (cZ, 25, .inl (zB T0))), (a4, .inl (cI, 100, .inl (bI wn hn))), (a5, .inl (cI, 25, .inl KP)), (a6, .inl (cI, 25, .inl RG)), (a7, .inl (cI, 26, .inl SZ)), (a8, .inl (cI, 25, .inl LN))] H := hP
  have hD : va_D A [(m0, .inr (2, [.int 0, .int (nI wn), .int (nI hn), .int (nI q0), .int wv, .ref a1, .ref a2, .ref a3, .ref a4, .ref a5, .ref a6, .ref a7, .ref a8, .int mn])), (a1, .inl (cI, 25, .inl (kI K0))), (a2, .inl (cI, 25, .inl NX)), (a3, .inl (cZ, 25, .inl (zB T0))), (a4, .inl (cI, 100, .inl (bI wn hn))), (a5, .inl (cI, 25, .inl KP)), (a6, .inl (cI, 25, .inl RG)), (a7, .inl (cI, 26, .inl SZ)), (a8, .inl (cI, 25, .inl LN))] := hD
  refine lv_aload_n hx hb dX2_stubbornCells_5 rfl (lv_at hl 0 rfl) ?_
  refine z_callVi (As := []) (rest := []) F9 (m_X2_stubbornOnes l dC dI cI cZ cJ cD m0 a1 a2 a3 a4 a5 a6 a7 a8 0 wn hn q0 wv K0 NX T0 KP RG SZ LN mn (g)) (cwV 0 hts gX2_stubbornCells_X2_stubbornOnes rfl rfl rfl (by decide +kernel) ⟨Nat.le_of_ble_eq_true rfl, Nat.le_of_ble_eq_true rfl⟩) hK hN hP hD hS hA [0, 1, 2, 3, 4, 5, 6, 7, 8] rfl rfl (fun _ => rfl) 0 (ci := 2) rfl rfl rfl rfl hl.1 rfl (Nat.le_of_ble_eq_true rfl) dX2_stubbornCells_6 ⟨Nat.zero_le _, Nat.zero_le _⟩ (fun r_1 u H locs hp_6 hP hD hS => ?_)
  have hP : va_P (dC, dI) vwCl [(m0, .inr (2, [.int 0, .int (nI wn), .int (nI hn), .int (nI q0), .int wv, .ref a1, .ref a2, .ref a3, .ref a4, .ref a5, .ref a6, .ref a7, .ref a8, .int mn])), (a1, .inl (cI, 25, .inl (kI K0))), (a2, .inl (cI, 25, .inl NX)), (a3, .inl (cZ, 25, .inl (zB T0))), (a4, .inl (cI, 100, .inl (bI wn hn))), (a5, .inl (cI, 25, .inl KP)), (a6, .inl (cI, 25, .inl RG)), (a7, .inl (cI, 26, .inl SZ)), (a8, .inl (cI, 25, .inl LN))] H := hP
  have hD : va_D A [(m0, .inr (2, [.int 0, .int (nI wn), .int (nI hn), .int (nI q0), .int wv, .ref a1, .ref a2, .ref a3, .ref a4, .ref a5, .ref a6, .ref a7, .ref a8, .int mn])), (a1, .inl (cI, 25, .inl (kI K0))), (a2, .inl (cI, 25, .inl NX)), (a3, .inl (cZ, 25, .inl (zB T0))), (a4, .inl (cI, 100, .inl (bI wn hn))), (a5, .inl (cI, 25, .inl KP)), (a6, .inl (cI, 25, .inl RG)), (a7, .inl (cI, 26, .inl SZ)), (a8, .inl (cI, 25, .inl LN))] := hD
  have hp_6 : r_1 = nI (ct T0 (wn * hn)) := hp_6
  refine z_topi (y := nI (ct T0 (wn * hn))) hp_6 ?_
  rw [← hQ]
  exact z_iret (W1 := (fun (_ : Unit) => [(m0, .inr (2, [.int 0, .int (nI wn), .int (nI hn), .int (nI q0), .int wv, .ref a1, .ref a2, .ref a3, .ref a4, .ref a5, .ref a6, .ref a7, .ref a8, .int mn])), (a1, .inl (cI, 25, .inl (kI K0))), (a2, .inl (cI, 25, .inl NX)), (a3, .inl (cZ, 25, .inl (zB T0))), (a4, .inl (cI, 100, .inl (bI wn hn))), (a5, .inl (cI, 25, .inl KP)), (a6, .inl (cI, 25, .inl RG)), (a7, .inl (cI, 26, .inl SZ)), (a8, .inl (cI, 25, .inl LN))])) hx hb hr hlocks hP hS () (rfl) (rfl) dX2_stubbornCells_9
abbrev rmX2_borders : Room := { frames := 2, cells := 0, slots := 0, locals := 44 }
set_option maxRecDepth 20000 in
theorem iX2_borders_X2 : ∀ w ∈ wsX20, w ∈ wsX2_borders := fun w h => (goodIn_r (big := wsX2_borders) wsX20 [15, 16, 17, 18, 19, 20, 21, 22, 23, 24, 25, 26, 27, 28] (by decide +kernel) (by decide +kernel) w h).1
set_option maxHeartbeats 4000000 in
set_option maxRecDepth 100000 in
theorem m_X2_borders_ok (l : Launch) (dC : Nat → ClassId) (dI : Nat → Nat → Nat) (cI cZ cJ cD : ClassId) (m0 : Nat) (a1 : Nat) (a2 : Nat) (a3 : Nat) (a4 : Nat) (a5 : Nat) (a6 : Nat) (a7 : Nat) (a8 : Nat) (th : Int32) (wn : Nat) (hn : Nat) (q0 : Nat) (wv : Int32) (K0 : Nat → Nat) (NX : Nat → Int32) (T0 : Nat → Bool) (KP : Nat → Int32) (RG : Nat → Int32) (SZ : Nat → Int32) (LN : Nat → Int32) (mn : Int32) (g : gok wn hn) (hK4 : ∀ c, K0 c ≤ 4) : zI l (dC, dI) (wT cI cZ cJ cD) yX2_borders wsX2_borders rmX2_borders [(m0, .inr (2, [.int th, .int (nI wn), .int (nI hn), .int (nI q0), .int wv, .ref a1, .ref a2, .ref a3, .ref a4, .ref a5, .ref a6, .ref a7, .ref a8, .int mn])), (a1, .inl (cI, 25, .inl (kI K0))), (a2, .inl (cI, 25, .inl NX)), (a3, .inl (cZ, 25, .inl (zB T0))), (a4, .inl (cI, 100, .inl (bI wn hn))), (a5, .inl (cI, 25, .inl KP)), (a6, .inl (cI, 25, .inl RG)), (a7, .inl (cI, 26, .inl SZ)), (a8, .inl (cI, 25, .inl LN))] [.ref m0] (fun (_ : Unit) => [(m0, .inr (2, [.int 0, .int (nI wn), .int (nI hn), .int (nI q0), .int wv, .ref a1, .ref a2, .ref a3, .ref a4, .ref a5, .ref a6, .ref a7, .ref a8, .int mn])), (a1, .inl (cI, 25, .inl (kI K0))), (a2, .inl (cI, 25, .inl NX)), (a3, .inl (cZ, 25, .inl (zB T0))), (a4, .inl (cI, 100, .inl (bI wn hn))), (a5, .inl (cI, 25, .inl KP)), (a6, .inl (cI, 25, .inl RG)), (a7, .inl (cI, 26, .inl SZ)), (a8, .inl (cI, 25, .inl LN))]) (fun (r : Int32) (_ : Unit) => r = nI (boN wn hn K0 (wn * hn))) := by
  intro sz
  refine Met.ofW (cc := cX2_borders) (maxL := 1) (ret := (some .int)) (by decide) rfl ?_
  intro p e s m args below meth c s₁ B hml hv
  obtain ⟨ha, hsz, hP, hK, hD0, hN⟩ := hv
  have hx := B.exec
  have hb := B.bytes
  have hr := B.returns
  have hts := atoms_spec (ws := wsX2_borders) B.pre
  have hown : s.vm.findClass RX2 = some m.cls := findClass_of_methodNamed B.named
  have hlocks := B.notSynchronized
  subst hsz
  have hD := hD0.self (sz := s.heap.size)
  generalize hAe : va_A [(m0, .inr (2, [.int th, .int (nI wn), .int (nI hn), .int (nI q0), .int wv, .ref a1, .ref a2, .ref a3, .ref a4, .ref a5, .ref a6, .ref a7, .ref a8, .int mn])), (a1, .inl (cI, 25, .inl (kI K0))), (a2, .inl (cI, 25, .inl NX)), (a3, .inl (cZ, 25, .inl (zB T0))), (a4, .inl (cI, 100, .inl (bI wn hn))), (a5, .inl (cI, 25, .inl KP)), (a6, .inl (cI, 25, .inl RG)), (a7, .inl (cI, 26, .inl SZ)), (a8, .inl (cI, 25, .inl LN))] s.heap.size = A at hD ⊢
  have hA : ∀ q : Nat, s.heap.size ≤ q → A q := fun q h => by rw [← hAe]; exact Or.inr h
  have hS : va_S A s.heap s.heap [] := va_S.rf
  generalize hQ : MQ below (va_Qi (fun (r : Int32) (_ : Unit) => r = nI (boN wn hn K0 (wn * hn))) (fun u t => va_P (dC, dI) vwCl ((fun (_ : Unit) => [(m0, .inr (2, [.int 0, .int (nI wn), .int (nI hn), .int (nI q0), .int wv, .ref a1, .ref a2, .ref a3, .ref a4, .ref a5, .ref a6, .ref a7, .ref a8, .int mn])), (a1, .inl (cI, 25, .inl (kI K0))), (a2, .inl (cI, 25, .inl NX)), (a3, .inl (cZ, 25, .inl (zB T0))), (a4, .inl (cI, 100, .inl (bI wn hn))), (a5, .inl (cI, 25, .inl KP)), (a6, .inl (cI, 25, .inl RG)), (a7, .inl (cI, 26, .inl SZ)), (a8, .inl (cI, 25, .inl LN))]) u) t.heap) A) args s 0 0 A = Q
  have F9 : CallFix p m c cX2_borders 1 s args wsX2_borders RX2 := ⟨hx, hb, hml, hown, hts⟩
  obtain ⟨g1, g2, g3, g4⟩ := id g
  have g5 := wh_le g
  have g6 := wh_pos g
  refine z_entry (R := rmX2_borders) ha (Nat.le_of_ble_eq_true rfl) (fun ls hl => ?_)
  have hl : lv_has ls 1 [(0, .ref m0)] := hl
  refine lv_aload_n hx hb dX2_borders_0 rfl (lv_at hl 0 rfl) ?_
  refine lv_iconst (v := 0) hx hb dX2_borders_1 (by decide) ?_
  refine va_put (D := (dC, dI)) (ci := 2) (v := .int 0) (ty := .int) (C := RX2) (T := TX2) (N := 14) hx hb hts iX2_borders_X2 tyX2 tyX2_ok nmX2 hown hK hP hD hS 0 rfl rfl 0 (by decide) (hts (.fieldLink RX2 43 "ColourTideModel" "thrown" "I") (List.mem_of_getElem? (i := 1) rfl)) (fun _ h9 => h9) rfl (by decide +kernel) rfl rfl (Nat.le_of_ble_eq_true rfl) dX2_borders_2 (fun H locs hP hD hS => ?_)
  have hP : va_P (dC, dI) vwCl [(m0, .inr (2, [.int 0, .int (nI wn), .int (nI hn), .int (nI q0), .int wv, .ref a1, .ref a2, .ref a3, .ref a4, .ref a5, .ref a6, .ref a7, .ref a8, .int mn])), (a1, .inl (cI, 25, .inl (kI K0))), (a2, .inl (cI, 25, .inl NX)), (a3, .inl (cZ, 25, .inl (zB T0))), (a4, .inl (cI, 100, .inl (bI wn hn))), (a5, .inl (cI, 25, .inl KP)), (a6, .inl (cI, 25, .inl RG)), (a7, .inl (cI, 26, .inl SZ)), (a8, .inl (cI, 25, .inl LN))] H := hP
  have hD : va_D A [(m0, .inr (2, [.int 0, .int (nI wn), .int (nI hn), .int (nI q0), .int wv, .ref a1, .ref a2, .ref a3, .ref a4, .ref a5, .ref a6, .ref a7, .ref a8, .int mn])), (a1, .inl (cI, 25, .inl (kI K0))), (a2, .inl (cI, 25, .inl NX)), (a3, .inl (cZ, 25, .inl (zB T0))), (a4, .inl (cI, 100, .inl (bI wn hn))), (a5, .inl (cI, 25, .inl KP)), (a6, .inl (cI, 25, .inl RG)), (a7, .inl (cI, 26, .inl SZ)), (a8, .inl (cI, 25, .inl LN))] := hD
  refine lv_aload_n hx hb dX2_borders_5 rfl (lv_at hl 0 rfl) ?_
  refine z_callVi (As := []) (rest := []) F9 (m_X2_between l dC dI cI cZ cJ cD m0 a1 a2 a3 a4 a5 a6 a7 a8 0 wn hn q0 wv K0 NX T0 KP RG SZ LN mn (g) (hK4)) (cwV 0 hts gX2_borders_X2_between rfl rfl rfl (by decide +kernel) ⟨Nat.le_of_ble_eq_true rfl, Nat.le_of_ble_eq_true rfl⟩) hK hN hP hD hS hA [0, 1, 2, 3, 4, 5, 6, 7, 8] rfl rfl (fun _ => rfl) 0 (ci := 2) rfl rfl rfl rfl hl.1 rfl (Nat.le_of_ble_eq_true rfl) dX2_borders_6 ⟨Nat.zero_le _, Nat.zero_le _⟩ (fun r_1 u H locs hp_6 hP hD hS => ?_)
  have hP : va_P (dC, dI) vwCl [(m0, .inr (2, [.int 0, .int (nI wn), .int (nI hn), .int (nI q0), .int wv, .ref a1, .ref a2, .ref a3, .ref a4, .ref a5, .ref a6, .ref a7, .ref a8, .int mn])), (a1, .inl (cI, 25, .inl (kI K0))), (a2, .inl (cI, 25, .inl NX)), (a3, .inl (cZ, 25, .inl (zB T0))), (a4, .inl (cI, 100, .inl (bI wn hn))), (a5, .inl (cI, 25, .inl KP)), (a6, .inl (cI, 25, .inl RG)), (a7, .inl (cI, 26, .inl SZ)), (a8, .inl (cI, 25, .inl LN))] H := hP
  have hD : va_D A [(m0, .inr (2, [.int 0, .int (nI wn), .int (nI hn), .int (nI q0), .int wv, .ref a1, .ref a2, .ref a3, .ref a4, .ref a5, .ref a6, .ref a7, .ref a8, .int mn])), (a1, .inl (cI, 25, .inl (kI K0))), (a2, .inl (cI, 25, .inl NX)), (a3, .inl (cZ, 25, .inl (zB T0))), (a4, .inl (cI, 100, .inl (bI wn hn))), (a5, .inl (cI, 25, .inl KP)), (a6, .inl (cI, 25, .inl RG)), (a7, .inl (cI, 26, .inl SZ)), (a8, .inl (cI, 25, .inl LN))] := hD
  have hp_6 : r_1 = nI (boN wn hn K0 (wn * hn)) := hp_6
  refine z_topi (y := nI (boN wn hn K0 (wn * hn))) hp_6 ?_
  rw [← hQ]
  exact z_iret (W1 := (fun (_ : Unit) => [(m0, .inr (2, [.int 0, .int (nI wn), .int (nI hn), .int (nI q0), .int wv, .ref a1, .ref a2, .ref a3, .ref a4, .ref a5, .ref a6, .ref a7, .ref a8, .int mn])), (a1, .inl (cI, 25, .inl (kI K0))), (a2, .inl (cI, 25, .inl NX)), (a3, .inl (cZ, 25, .inl (zB T0))), (a4, .inl (cI, 100, .inl (bI wn hn))), (a5, .inl (cI, 25, .inl KP)), (a6, .inl (cI, 25, .inl RG)), (a7, .inl (cI, 26, .inl SZ)), (a8, .inl (cI, 25, .inl LN))])) hx hb hr hlocks hP hS () (rfl) (rfl) dX2_borders_9
abbrev rmX2_leader : Room := { frames := 3, cells := 0, slots := 0, locals := 67 }
set_option maxRecDepth 20000 in
theorem iX2_leader_X2 : ∀ w ∈ wsX20, w ∈ wsX2_leader := fun w h => (goodIn_r (big := wsX2_leader) wsX20 [18, 19, 20, 21, 22, 23, 24, 25, 26, 27, 28, 29, 30, 31] (by decide +kernel) (by decide +kernel) w h).1
set_option maxHeartbeats 4000000 in
set_option maxRecDepth 100000 in
theorem m_X2_leader_ok (l : Launch) (dC : Nat → ClassId) (dI : Nat → Nat → Nat) (cI cZ cJ cD : ClassId) (m0 : Nat) (a1 : Nat) (a2 : Nat) (a3 : Nat) (a4 : Nat) (a5 : Nat) (a6 : Nat) (a7 : Nat) (a8 : Nat) (th : Int32) (wn : Nat) (hn : Nat) (q0 : Nat) (wv : Int32) (K0 : Nat → Nat) (NX : Nat → Int32) (T0 : Nat → Bool) (KP : Nat → Int32) (RG : Nat → Int32) (SZ : Nat → Int32) (LN : Nat → Int32) (mn : Int32) (g : gok wn hn) (hK4 : ∀ c, K0 c ≤ 4) : zI l (dC, dI) (wT cI cZ cJ cD) yX2_leader wsX2_leader rmX2_leader [(m0, .inr (2, [.int th, .int (nI wn), .int (nI hn), .int (nI q0), .int wv, .ref a1, .ref a2, .ref a3, .ref a4, .ref a5, .ref a6, .ref a7, .ref a8, .int mn])), (a1, .inl (cI, 25, .inl (kI K0))), (a2, .inl (cI, 25, .inl NX)), (a3, .inl (cZ, 25, .inl (zB T0))), (a4, .inl (cI, 100, .inl (bI wn hn))), (a5, .inl (cI, 25, .inl KP)), (a6, .inl (cI, 25, .inl RG)), (a7, .inl (cI, 26, .inl SZ)), (a8, .inl (cI, 25, .inl LN))] [.ref m0] (fun (_ : Unit) => [(m0, .inr (2, [.int 0, .int (nI wn), .int (nI hn), .int (nI q0), .int wv, .ref a1, .ref a2, .ref a3, .ref a4, .ref a5, .ref a6, .ref a7, .ref a8, .int mn])), (a1, .inl (cI, 25, .inl (kI K0))), (a2, .inl (cI, 25, .inl NX)), (a3, .inl (cZ, 25, .inl (zB T0))), (a4, .inl (cI, 100, .inl (bI wn hn))), (a5, .inl (cI, 25, .inl KP)), (a6, .inl (cI, 25, .inl RG)), (a7, .inl (cI, 26, .inl SZ)), (a8, .inl (cI, 25, .inl LN))]) (fun (r : Int32) (_ : Unit) => r = nI (bestL (ccF K0 (wn * hn)) 1 4)) := by
  intro sz
  refine Met.ofW (cc := cX2_leader) (maxL := 1) (ret := (some .int)) (by decide) rfl ?_
  intro p e s m args below meth c s₁ B hml hv
  obtain ⟨ha, hsz, hP, hK, hD0, hN⟩ := hv
  have hx := B.exec
  have hb := B.bytes
  have hr := B.returns
  have hts := atoms_spec (ws := wsX2_leader) B.pre
  have hown : s.vm.findClass RX2 = some m.cls := findClass_of_methodNamed B.named
  have hlocks := B.notSynchronized
  subst hsz
  have hD := hD0.self (sz := s.heap.size)
  generalize hAe : va_A [(m0, .inr (2, [.int th, .int (nI wn), .int (nI hn), .int (nI q0), .int wv, .ref a1, .ref a2, .ref a3, .ref a4, .ref a5, .ref a6, .ref a7, .ref a8, .int mn])), (a1, .inl (cI, 25, .inl (kI K0))), (a2, .inl (cI, 25, .inl NX)), (a3, .inl (cZ, 25, .inl (zB T0))), (a4, .inl (cI, 100, .inl (bI wn hn))), (a5, .inl (cI, 25, .inl KP)), (a6, .inl (cI, 25, .inl RG)), (a7, .inl (cI, 26, .inl SZ)), (a8, .inl (cI, 25, .inl LN))] s.heap.size = A at hD ⊢
  have hA : ∀ q : Nat, s.heap.size ≤ q → A q := fun q h => by rw [← hAe]; exact Or.inr h
  have hS : va_S A s.heap s.heap [] := va_S.rf
  generalize hQ : MQ below (va_Qi (fun (r : Int32) (_ : Unit) => r = nI (bestL (ccF K0 (wn * hn)) 1 4)) (fun u t => va_P (dC, dI) vwCl ((fun (_ : Unit) => [(m0, .inr (2, [.int 0, .int (nI wn), .int (nI hn), .int (nI q0), .int wv, .ref a1, .ref a2, .ref a3, .ref a4, .ref a5, .ref a6, .ref a7, .ref a8, .int mn])), (a1, .inl (cI, 25, .inl (kI K0))), (a2, .inl (cI, 25, .inl NX)), (a3, .inl (cZ, 25, .inl (zB T0))), (a4, .inl (cI, 100, .inl (bI wn hn))), (a5, .inl (cI, 25, .inl KP)), (a6, .inl (cI, 25, .inl RG)), (a7, .inl (cI, 26, .inl SZ)), (a8, .inl (cI, 25, .inl LN))]) u) t.heap) A) args s 0 0 A = Q
  have F9 : CallFix p m c cX2_leader 1 s args wsX2_leader RX2 := ⟨hx, hb, hml, hown, hts⟩
  obtain ⟨g1, g2, g3, g4⟩ := id g
  have g5 := wh_le g
  have g6 := wh_pos g
  refine z_entry (R := rmX2_leader) ha (Nat.le_of_ble_eq_true rfl) (fun ls hl => ?_)
  have hl : lv_has ls 1 [(0, .ref m0)] := hl
  refine lv_aload_n hx hb dX2_leader_0 rfl (lv_at hl 0 rfl) ?_
  refine lv_iconst (v := 0) hx hb dX2_leader_1 (by decide) ?_
  refine va_put (D := (dC, dI)) (ci := 2) (v := .int 0) (ty := .int) (C := RX2) (T := TX2) (N := 14) hx hb hts iX2_leader_X2 tyX2 tyX2_ok nmX2 hown hK hP hD hS 0 rfl rfl 0 (by decide) (hts (.fieldLink RX2 43 "ColourTideModel" "thrown" "I") (List.mem_of_getElem? (i := 1) rfl)) (fun _ h9 => h9) rfl (by decide +kernel) rfl rfl (Nat.le_of_ble_eq_true rfl) dX2_leader_2 (fun H locs hP hD hS => ?_)
  have hP : va_P (dC, dI) vwCl [(m0, .inr (2, [.int 0, .int (nI wn), .int (nI hn), .int (nI q0), .int wv, .ref a1, .ref a2, .ref a3, .ref a4, .ref a5, .ref a6, .ref a7, .ref a8, .int mn])), (a1, .inl (cI, 25, .inl (kI K0))), (a2, .inl (cI, 25, .inl NX)), (a3, .inl (cZ, 25, .inl (zB T0))), (a4, .inl (cI, 100, .inl (bI wn hn))), (a5, .inl (cI, 25, .inl KP)), (a6, .inl (cI, 25, .inl RG)), (a7, .inl (cI, 26, .inl SZ)), (a8, .inl (cI, 25, .inl LN))] H := hP
  have hD : va_D A [(m0, .inr (2, [.int 0, .int (nI wn), .int (nI hn), .int (nI q0), .int wv, .ref a1, .ref a2, .ref a3, .ref a4, .ref a5, .ref a6, .ref a7, .ref a8, .int mn])), (a1, .inl (cI, 25, .inl (kI K0))), (a2, .inl (cI, 25, .inl NX)), (a3, .inl (cZ, 25, .inl (zB T0))), (a4, .inl (cI, 100, .inl (bI wn hn))), (a5, .inl (cI, 25, .inl KP)), (a6, .inl (cI, 25, .inl RG)), (a7, .inl (cI, 26, .inl SZ)), (a8, .inl (cI, 25, .inl LN))] := hD
  refine lv_aload_n hx hb dX2_leader_5 rfl (lv_at hl 0 rfl) ?_
  refine z_callVi (As := []) (rest := []) F9 (m_X2_first l dC dI cI cZ cJ cD m0 a1 a2 a3 a4 a5 a6 a7 a8 0 wn hn q0 wv K0 NX T0 KP RG SZ LN mn (g) (hK4)) (cwV 0 hts gX2_leader_X2_first rfl rfl rfl (by decide +kernel) ⟨Nat.le_of_ble_eq_true rfl, Nat.le_of_ble_eq_true rfl⟩) hK hN hP hD hS hA [0, 1, 2, 3, 4, 5, 6, 7, 8] rfl rfl (fun _ => rfl) 0 (ci := 2) rfl rfl rfl rfl hl.1 rfl (Nat.le_of_ble_eq_true rfl) dX2_leader_6 ⟨Nat.zero_le _, Nat.zero_le _⟩ (fun r_1 u H locs hp_6 hP hD hS => ?_)
  have hP : va_P (dC, dI) vwCl [(m0, .inr (2, [.int 0, .int (nI wn), .int (nI hn), .int (nI q0), .int wv, .ref a1, .ref a2, .ref a3, .ref a4, .ref a5, .ref a6, .ref a7, .ref a8, .int mn])), (a1, .inl (cI, 25, .inl (kI K0))), (a2, .inl (cI, 25, .inl NX)), (a3, .inl (cZ, 25, .inl (zB T0))), (a4, .inl (cI, 100, .inl (bI wn hn))), (a5, .inl (cI, 25, .inl KP)), (a6, .inl (cI, 25, .inl RG)), (a7, .inl (cI, 26, .inl SZ)), (a8, .inl (cI, 25, .inl LN))] H := hP
  have hD : va_D A [(m0, .inr (2, [.int 0, .int (nI wn), .int (nI hn), .int (nI q0), .int wv, .ref a1, .ref a2, .ref a3, .ref a4, .ref a5, .ref a6, .ref a7, .ref a8, .int mn])), (a1, .inl (cI, 25, .inl (kI K0))), (a2, .inl (cI, 25, .inl NX)), (a3, .inl (cZ, 25, .inl (zB T0))), (a4, .inl (cI, 100, .inl (bI wn hn))), (a5, .inl (cI, 25, .inl KP)), (a6, .inl (cI, 25, .inl RG)), (a7, .inl (cI, 26, .inl SZ)), (a8, .inl (cI, 25, .inl LN))] := hD
  have hp_6 : r_1 = nI (bestL (ccF K0 (wn * hn)) 1 4) := hp_6
  refine z_topi (y := nI (bestL (ccF K0 (wn * hn)) 1 4)) hp_6 ?_
  rw [← hQ]
  exact z_iret (W1 := (fun (_ : Unit) => [(m0, .inr (2, [.int 0, .int (nI wn), .int (nI hn), .int (nI q0), .int wv, .ref a1, .ref a2, .ref a3, .ref a4, .ref a5, .ref a6, .ref a7, .ref a8, .int mn])), (a1, .inl (cI, 25, .inl (kI K0))), (a2, .inl (cI, 25, .inl NX)), (a3, .inl (cZ, 25, .inl (zB T0))), (a4, .inl (cI, 100, .inl (bI wn hn))), (a5, .inl (cI, 25, .inl KP)), (a6, .inl (cI, 25, .inl RG)), (a7, .inl (cI, 26, .inl SZ)), (a8, .inl (cI, 25, .inl LN))])) hx hb hr hlocks hP hS () (rfl) (rfl) dX2_leader_9
abbrev rmX2_isStill : Room := { frames := 3, cells := 0, slots := 0, locals := 71 }
set_option maxRecDepth 20000 in
theorem iX2_isStill_X2 : ∀ w ∈ wsX20, w ∈ wsX2_isStill := fun w h => (goodIn_r (big := wsX2_isStill) wsX20 [25, 26, 27, 28, 29, 30, 31, 32, 33, 34, 35, 36, 37, 38] (by decide +kernel) (by decide +kernel) w h).1
set_option maxHeartbeats 4000000 in
set_option maxRecDepth 100000 in
theorem m_X2_isStill_ok (l : Launch) (dC : Nat → ClassId) (dI : Nat → Nat → Nat) (cI cZ cJ cD : ClassId) (m0 : Nat) (a1 : Nat) (a2 : Nat) (a3 : Nat) (a4 : Nat) (a5 : Nat) (a6 : Nat) (a7 : Nat) (a8 : Nat) (th : Int32) (wn : Nat) (hn : Nat) (q0 : Nat) (wv : Int32) (K0 : Nat → Nat) (NX : Nat → Int32) (T0 : Nat → Bool) (KP : Nat → Int32) (RG : Nat → Int32) (SZ : Nat → Int32) (LN : Nat → Int32) (mn : Int32) (g : gok wn hn) (hK4 : ∀ c, K0 c ≤ 4) (hq : 1 ≤ q0 ∧ q0 ≤ 4) : zI l (dC, dI) (wT cI cZ cJ cD) yX2_isStill wsX2_isStill rmX2_isStill [(m0, .inr (2, [.int th, .int (nI wn), .int (nI hn), .int (nI q0), .int wv, .ref a1, .ref a2, .ref a3, .ref a4, .ref a5, .ref a6, .ref a7, .ref a8, .int mn])), (a1, .inl (cI, 25, .inl (kI K0))), (a2, .inl (cI, 25, .inl NX)), (a3, .inl (cZ, 25, .inl (zB T0))), (a4, .inl (cI, 100, .inl (bI wn hn))), (a5, .inl (cI, 25, .inl KP)), (a6, .inl (cI, 25, .inl RG)), (a7, .inl (cI, 26, .inl SZ)), (a8, .inl (cI, 25, .inl LN))] [.ref m0] (fun (_ : Unit) => [(m0, .inr (2, [.int 0, .int (nI wn), .int (nI hn), .int (nI q0), .int wv, .ref a1, .ref a2, .ref a3, .ref a4, .ref a5, .ref a6, .ref a7, .ref a8, .int mn])), (a1, .inl (cI, 25, .inl (kI K0))), (a2, .inl (cI, 25, .inl NX)), (a3, .inl (cZ, 25, .inl (zB T0))), (a4, .inl (cI, 100, .inl (bI wn hn))), (a5, .inl (cI, 25, .inl KP)), (a6, .inl (cI, 25, .inl RG)), (a7, .inl (cI, 26, .inl SZ)), (a8, .inl (cI, 25, .inl LN))]) (fun (r : Int32) (_ : Unit) => r = bz (stN wn hn q0 T0 K0 (wn * hn))) := by
  intro sz
  refine Met.ofW (cc := cX2_isStill) (maxL := 1) (ret := (some .boolean)) (by decide) rfl ?_
  intro p e s m args below meth c s₁ B hml hv
  obtain ⟨ha, hsz, hP, hK, hD0, hN⟩ := hv
  have hx := B.exec
  have hb := B.bytes
  have hr := B.returns
  have hts := atoms_spec (ws := wsX2_isStill) B.pre
  have hown : s.vm.findClass RX2 = some m.cls := findClass_of_methodNamed B.named
  have hlocks := B.notSynchronized
  subst hsz
  have hD := hD0.self (sz := s.heap.size)
  generalize hAe : va_A [(m0, .inr (2, [.int th, .int (nI wn), .int (nI hn), .int (nI q0), .int wv, .ref a1, .ref a2, .ref a3, .ref a4, .ref a5, .ref a6, .ref a7, .ref a8, .int mn])), (a1, .inl (cI, 25, .inl (kI K0))), (a2, .inl (cI, 25, .inl NX)), (a3, .inl (cZ, 25, .inl (zB T0))), (a4, .inl (cI, 100, .inl (bI wn hn))), (a5, .inl (cI, 25, .inl KP)), (a6, .inl (cI, 25, .inl RG)), (a7, .inl (cI, 26, .inl SZ)), (a8, .inl (cI, 25, .inl LN))] s.heap.size = A at hD ⊢
  have hA : ∀ q : Nat, s.heap.size ≤ q → A q := fun q h => by rw [← hAe]; exact Or.inr h
  have hS : va_S A s.heap s.heap [] := va_S.rf
  generalize hQ : MQ below (va_Qi (fun (r : Int32) (_ : Unit) => r = bz (stN wn hn q0 T0 K0 (wn * hn))) (fun u t => va_P (dC, dI) vwCl ((fun (_ : Unit) => [(m0, .inr (2, [.int 0, .int (nI wn), .int (nI hn), .int (nI q0), .int wv, .ref a1, .ref a2, .ref a3, .ref a4, .ref a5, .ref a6, .ref a7, .ref a8, .int mn])), (a1, .inl (cI, 25, .inl (kI K0))), (a2, .inl (cI, 25, .inl NX)), (a3, .inl (cZ, 25, .inl (zB T0))), (a4, .inl (cI, 100, .inl (bI wn hn))), (a5, .inl (cI, 25, .inl KP)), (a6, .inl (cI, 25, .inl RG)), (a7, .inl (cI, 26, .inl SZ)), (a8, .inl (cI, 25, .inl LN))]) u) t.heap) A) args s 0 0 A = Q
  have F9 : CallFix p m c cX2_isStill 1 s args wsX2_isStill RX2 := ⟨hx, hb, hml, hown, hts⟩
  obtain ⟨g1, g2, g3, g4⟩ := id g
  have g5 := wh_le g
  have g6 := wh_pos g
  refine z_entry (R := rmX2_isStill) ha (Nat.le_of_ble_eq_true rfl) (fun ls hl => ?_)
  have hl : lv_has ls 1 [(0, .ref m0)] := hl
  refine lv_aload_n hx hb dX2_isStill_0 rfl (lv_at hl 0 rfl) ?_
  refine lv_iconst (v := 0) hx hb dX2_isStill_1 (by decide) ?_
  refine va_put (D := (dC, dI)) (ci := 2) (v := .int 0) (ty := .int) (C := RX2) (T := TX2) (N := 14) hx hb hts iX2_isStill_X2 tyX2 tyX2_ok nmX2 hown hK hP hD hS 0 rfl rfl 0 (by decide) (hts (.fieldLink RX2 43 "ColourTideModel" "thrown" "I") (List.mem_of_getElem? (i := 1) rfl)) (fun _ h9 => h9) rfl (by decide +kernel) rfl rfl (Nat.le_of_ble_eq_true rfl) dX2_isStill_2 (fun H locs hP hD hS => ?_)
  have hP : va_P (dC, dI) vwCl [(m0, .inr (2, [.int 0, .int (nI wn), .int (nI hn), .int (nI q0), .int wv, .ref a1, .ref a2, .ref a3, .ref a4, .ref a5, .ref a6, .ref a7, .ref a8, .int mn])), (a1, .inl (cI, 25, .inl (kI K0))), (a2, .inl (cI, 25, .inl NX)), (a3, .inl (cZ, 25, .inl (zB T0))), (a4, .inl (cI, 100, .inl (bI wn hn))), (a5, .inl (cI, 25, .inl KP)), (a6, .inl (cI, 25, .inl RG)), (a7, .inl (cI, 26, .inl SZ)), (a8, .inl (cI, 25, .inl LN))] H := hP
  have hD : va_D A [(m0, .inr (2, [.int 0, .int (nI wn), .int (nI hn), .int (nI q0), .int wv, .ref a1, .ref a2, .ref a3, .ref a4, .ref a5, .ref a6, .ref a7, .ref a8, .int mn])), (a1, .inl (cI, 25, .inl (kI K0))), (a2, .inl (cI, 25, .inl NX)), (a3, .inl (cZ, 25, .inl (zB T0))), (a4, .inl (cI, 100, .inl (bI wn hn))), (a5, .inl (cI, 25, .inl KP)), (a6, .inl (cI, 25, .inl RG)), (a7, .inl (cI, 26, .inl SZ)), (a8, .inl (cI, 25, .inl LN))] := hD
  refine lv_aload_n hx hb dX2_isStill_5 rfl (lv_at hl 0 rfl) ?_
  refine z_callVi (As := []) (rest := []) F9 (m_X2_still l dC dI cI cZ cJ cD m0 a1 a2 a3 a4 a5 a6 a7 a8 0 wn hn q0 wv K0 NX T0 KP RG SZ LN mn (g) (hK4) (hq)) (cwV 0 hts gX2_isStill_X2_still rfl rfl rfl (by decide +kernel) ⟨Nat.le_of_ble_eq_true rfl, Nat.le_of_ble_eq_true rfl⟩) hK hN hP hD hS hA [0, 1, 2, 3, 4, 5, 6, 7, 8] rfl rfl (fun _ => rfl) 0 (ci := 2) rfl rfl rfl rfl hl.1 rfl (Nat.le_of_ble_eq_true rfl) dX2_isStill_6 ⟨Nat.zero_le _, Nat.zero_le _⟩ (fun r_1 u H locs hp_6 hP hD hS => ?_)
  have hP : va_P (dC, dI) vwCl [(m0, .inr (2, [.int 0, .int (nI wn), .int (nI hn), .int (nI q0), .int wv, .ref a1, .ref a2, .ref a3, .ref a4, .ref a5, .ref a6, .ref a7, .ref a8, .int mn])), (a1, .inl (cI, 25, .inl (kI K0))), (a2, .inl (cI, 25, .inl NX)), (a3, .inl (cZ, 25, .inl (zB T0))), (a4, .inl (cI, 100, .inl (bI wn hn))), (a5, .inl (cI, 25, .inl KP)), (a6, .inl (cI, 25, .inl RG)), (a7, .inl (cI, 26, .inl SZ)), (a8, .inl (cI, 25, .inl LN))] H := hP
  have hD : va_D A [(m0, .inr (2, [.int 0, .int (nI wn), .int (nI hn), .int (nI q0), .int wv, .ref a1, .ref a2, .ref a3, .ref a4, .ref a5, .ref a6, .ref a7, .ref a8, .int mn])), (a1, .inl (cI, 25, .inl (kI K0))), (a2, .inl (cI, 25, .inl NX)), (a3, .inl (cZ, 25, .inl (zB T0))), (a4, .inl (cI, 100, .inl (bI wn hn))), (a5, .inl (cI, 25, .inl KP)), (a6, .inl (cI, 25, .inl RG)), (a7, .inl (cI, 26, .inl SZ)), (a8, .inl (cI, 25, .inl LN))] := hD
  have hp_6 : r_1 = bz (stN wn hn q0 T0 K0 (wn * hn)) := hp_6
  refine z_topi (y := bz (stN wn hn q0 T0 K0 (wn * hn))) hp_6 ?_
  rw [← hQ]
  exact z_zret (W1 := (fun (_ : Unit) => [(m0, .inr (2, [.int 0, .int (nI wn), .int (nI hn), .int (nI q0), .int wv, .ref a1, .ref a2, .ref a3, .ref a4, .ref a5, .ref a6, .ref a7, .ref a8, .int mn])), (a1, .inl (cI, 25, .inl (kI K0))), (a2, .inl (cI, 25, .inl NX)), (a3, .inl (cZ, 25, .inl (zB T0))), (a4, .inl (cI, 100, .inl (bI wn hn))), (a5, .inl (cI, 25, .inl KP)), (a6, .inl (cI, 25, .inl RG)), (a7, .inl (cI, 26, .inl SZ)), (a8, .inl (cI, 25, .inl LN))])) hx hb hr hlocks (bz_ret _) hP hS () (rfl) (rfl) dX2_isStill_9
abbrev rmX2_winner : Room := { frames := 3, cells := 0, slots := 0, locals := 63 }
set_option maxRecDepth 20000 in
theorem iX2_winner_X2 : ∀ w ∈ wsX20, w ∈ wsX2_winner := fun w h => (goodIn_r (big := wsX2_winner) wsX20 [18, 19, 20, 21, 22, 23, 24, 25, 26, 27, 28, 29, 30, 31] (by decide +kernel) (by decide +kernel) w h).1
set_option maxHeartbeats 4000000 in
set_option maxRecDepth 100000 in
theorem m_X2_winner_ok (l : Launch) (dC : Nat → ClassId) (dI : Nat → Nat → Nat) (cI cZ cJ cD : ClassId) (m0 : Nat) (a1 : Nat) (a2 : Nat) (a3 : Nat) (a4 : Nat) (a5 : Nat) (a6 : Nat) (a7 : Nat) (a8 : Nat) (th : Int32) (wn : Nat) (hn : Nat) (q0 : Nat) (wv : Int32) (K0 : Nat → Nat) (NX : Nat → Int32) (T0 : Nat → Bool) (KP : Nat → Int32) (RG : Nat → Int32) (SZ : Nat → Int32) (LN : Nat → Int32) (mn : Int32) (g : gok wn hn) (hK4 : ∀ c, K0 c ≤ 4) : zI l (dC, dI) (wT cI cZ cJ cD) yX2_winner wsX2_winner rmX2_winner [(m0, .inr (2, [.int th, .int (nI wn), .int (nI hn), .int (nI q0), .int wv, .ref a1, .ref a2, .ref a3, .ref a4, .ref a5, .ref a6, .ref a7, .ref a8, .int mn])), (a1, .inl (cI, 25, .inl (kI K0))), (a2, .inl (cI, 25, .inl NX)), (a3, .inl (cZ, 25, .inl (zB T0))), (a4, .inl (cI, 100, .inl (bI wn hn))), (a5, .inl (cI, 25, .inl KP)), (a6, .inl (cI, 25, .inl RG)), (a7, .inl (cI, 26, .inl SZ)), (a8, .inl (cI, 25, .inl LN))] [.ref m0] (fun (_ : Unit) => [(m0, .inr (2, [.int 0, .int (nI wn), .int (nI hn), .int (nI q0), .int wv, .ref a1, .ref a2, .ref a3, .ref a4, .ref a5, .ref a6, .ref a7, .ref a8, .int mn])), (a1, .inl (cI, 25, .inl (kI K0))), (a2, .inl (cI, 25, .inl NX)), (a3, .inl (cZ, 25, .inl (zB T0))), (a4, .inl (cI, 100, .inl (bI wn hn))), (a5, .inl (cI, 25, .inl KP)), (a6, .inl (cI, 25, .inl RG)), (a7, .inl (cI, 26, .inl SZ)), (a8, .inl (cI, 25, .inl LN))]) (fun (r : Int32) (_ : Unit) => r = nI (allN K0 (wn * hn))) := by
  intro sz
  refine Met.ofW (cc := cX2_winner) (maxL := 1) (ret := (some .int)) (by decide) rfl ?_
  intro p e s m args below meth c s₁ B hml hv
  obtain ⟨ha, hsz, hP, hK, hD0, hN⟩ := hv
  have hx := B.exec
  have hb := B.bytes
  have hr := B.returns
  have hts := atoms_spec (ws := wsX2_winner) B.pre
  have hown : s.vm.findClass RX2 = some m.cls := findClass_of_methodNamed B.named
  have hlocks := B.notSynchronized
  subst hsz
  have hD := hD0.self (sz := s.heap.size)
  generalize hAe : va_A [(m0, .inr (2, [.int th, .int (nI wn), .int (nI hn), .int (nI q0), .int wv, .ref a1, .ref a2, .ref a3, .ref a4, .ref a5, .ref a6, .ref a7, .ref a8, .int mn])), (a1, .inl (cI, 25, .inl (kI K0))), (a2, .inl (cI, 25, .inl NX)), (a3, .inl (cZ, 25, .inl (zB T0))), (a4, .inl (cI, 100, .inl (bI wn hn))), (a5, .inl (cI, 25, .inl KP)), (a6, .inl (cI, 25, .inl RG)), (a7, .inl (cI, 26, .inl SZ)), (a8, .inl (cI, 25, .inl LN))] s.heap.size = A at hD ⊢
  have hA : ∀ q : Nat, s.heap.size ≤ q → A q := fun q h => by rw [← hAe]; exact Or.inr h
  have hS : va_S A s.heap s.heap [] := va_S.rf
  generalize hQ : MQ below (va_Qi (fun (r : Int32) (_ : Unit) => r = nI (allN K0 (wn * hn))) (fun u t => va_P (dC, dI) vwCl ((fun (_ : Unit) => [(m0, .inr (2, [.int 0, .int (nI wn), .int (nI hn), .int (nI q0), .int wv, .ref a1, .ref a2, .ref a3, .ref a4, .ref a5, .ref a6, .ref a7, .ref a8, .int mn])), (a1, .inl (cI, 25, .inl (kI K0))), (a2, .inl (cI, 25, .inl NX)), (a3, .inl (cZ, 25, .inl (zB T0))), (a4, .inl (cI, 100, .inl (bI wn hn))), (a5, .inl (cI, 25, .inl KP)), (a6, .inl (cI, 25, .inl RG)), (a7, .inl (cI, 26, .inl SZ)), (a8, .inl (cI, 25, .inl LN))]) u) t.heap) A) args s 0 0 A = Q
  have F9 : CallFix p m c cX2_winner 1 s args wsX2_winner RX2 := ⟨hx, hb, hml, hown, hts⟩
  obtain ⟨g1, g2, g3, g4⟩ := id g
  have g5 := wh_le g
  have g6 := wh_pos g
  refine z_entry (R := rmX2_winner) ha (Nat.le_of_ble_eq_true rfl) (fun ls hl => ?_)
  have hl : lv_has ls 1 [(0, .ref m0)] := hl
  refine lv_aload_n hx hb dX2_winner_0 rfl (lv_at hl 0 rfl) ?_
  refine lv_iconst (v := 0) hx hb dX2_winner_1 (by decide) ?_
  refine va_put (D := (dC, dI)) (ci := 2) (v := .int 0) (ty := .int) (C := RX2) (T := TX2) (N := 14) hx hb hts iX2_winner_X2 tyX2 tyX2_ok nmX2 hown hK hP hD hS 0 rfl rfl 0 (by decide) (hts (.fieldLink RX2 43 "ColourTideModel" "thrown" "I") (List.mem_of_getElem? (i := 1) rfl)) (fun _ h9 => h9) rfl (by decide +kernel) rfl rfl (Nat.le_of_ble_eq_true rfl) dX2_winner_2 (fun H locs hP hD hS => ?_)
  have hP : va_P (dC, dI) vwCl [(m0, .inr (2, [.int 0, .int (nI wn), .int (nI hn), .int (nI q0), .int wv, .ref a1, .ref a2, .ref a3, .ref a4, .ref a5, .ref a6, .ref a7, .ref a8, .int mn])), (a1, .inl (cI, 25, .inl (kI K0))), (a2, .inl (cI, 25, .inl NX)), (a3, .inl (cZ, 25, .inl (zB T0))), (a4, .inl (cI, 100, .inl (bI wn hn))), (a5, .inl (cI, 25, .inl KP)), (a6, .inl (cI, 25, .inl RG)), (a7, .inl (cI, 26, .inl SZ)), (a8, .inl (cI, 25, .inl LN))] H := hP
  have hD : va_D A [(m0, .inr (2, [.int 0, .int (nI wn), .int (nI hn), .int (nI q0), .int wv, .ref a1, .ref a2, .ref a3, .ref a4, .ref a5, .ref a6, .ref a7, .ref a8, .int mn])), (a1, .inl (cI, 25, .inl (kI K0))), (a2, .inl (cI, 25, .inl NX)), (a3, .inl (cZ, 25, .inl (zB T0))), (a4, .inl (cI, 100, .inl (bI wn hn))), (a5, .inl (cI, 25, .inl KP)), (a6, .inl (cI, 25, .inl RG)), (a7, .inl (cI, 26, .inl SZ)), (a8, .inl (cI, 25, .inl LN))] := hD
  refine lv_aload_n hx hb dX2_winner_5 rfl (lv_at hl 0 rfl) ?_
  refine z_callVi (As := []) (rest := []) F9 (m_X2_all l dC dI cI cZ cJ cD m0 a1 a2 a3 a4 a5 a6 a7 a8 0 wn hn q0 wv K0 NX T0 KP RG SZ LN mn (g) (hK4)) (cwV 0 hts gX2_winner_X2_all rfl rfl rfl (by decide +kernel) ⟨Nat.le_of_ble_eq_true rfl, Nat.le_of_ble_eq_true rfl⟩) hK hN hP hD hS hA [0, 1, 2, 3, 4, 5, 6, 7, 8] rfl rfl (fun _ => rfl) 0 (ci := 2) rfl rfl rfl rfl hl.1 rfl (Nat.le_of_ble_eq_true rfl) dX2_winner_6 ⟨Nat.zero_le _, Nat.zero_le _⟩ (fun r_1 u H locs hp_6 hP hD hS => ?_)
  have hP : va_P (dC, dI) vwCl [(m0, .inr (2, [.int 0, .int (nI wn), .int (nI hn), .int (nI q0), .int wv, .ref a1, .ref a2, .ref a3, .ref a4, .ref a5, .ref a6, .ref a7, .ref a8, .int mn])), (a1, .inl (cI, 25, .inl (kI K0))), (a2, .inl (cI, 25, .inl NX)), (a3, .inl (cZ, 25, .inl (zB T0))), (a4, .inl (cI, 100, .inl (bI wn hn))), (a5, .inl (cI, 25, .inl KP)), (a6, .inl (cI, 25, .inl RG)), (a7, .inl (cI, 26, .inl SZ)), (a8, .inl (cI, 25, .inl LN))] H := hP
  have hD : va_D A [(m0, .inr (2, [.int 0, .int (nI wn), .int (nI hn), .int (nI q0), .int wv, .ref a1, .ref a2, .ref a3, .ref a4, .ref a5, .ref a6, .ref a7, .ref a8, .int mn])), (a1, .inl (cI, 25, .inl (kI K0))), (a2, .inl (cI, 25, .inl NX)), (a3, .inl (cZ, 25, .inl (zB T0))), (a4, .inl (cI, 100, .inl (bI wn hn))), (a5, .inl (cI, 25, .inl KP)), (a6, .inl (cI, 25, .inl RG)), (a7, .inl (cI, 26, .inl SZ)), (a8, .inl (cI, 25, .inl LN))] := hD
  have hp_6 : r_1 = nI (allN K0 (wn * hn)) := hp_6
  refine z_topi (y := nI (allN K0 (wn * hn))) hp_6 ?_
  rw [← hQ]
  exact z_iret (W1 := (fun (_ : Unit) => [(m0, .inr (2, [.int 0, .int (nI wn), .int (nI hn), .int (nI q0), .int wv, .ref a1, .ref a2, .ref a3, .ref a4, .ref a5, .ref a6, .ref a7, .ref a8, .int mn])), (a1, .inl (cI, 25, .inl (kI K0))), (a2, .inl (cI, 25, .inl NX)), (a3, .inl (cZ, 25, .inl (zB T0))), (a4, .inl (cI, 100, .inl (bI wn hn))), (a5, .inl (cI, 25, .inl KP)), (a6, .inl (cI, 25, .inl RG)), (a7, .inl (cI, 26, .inl SZ)), (a8, .inl (cI, 25, .inl LN))])) hx hb hr hlocks hP hS () (rfl) (rfl) dX2_winner_9
abbrev rmX2_cellsOf : Room := { frames := 2, cells := 0, slots := 0, locals := 43 }
set_option maxRecDepth 20000 in
theorem iX2_cellsOf_X2 : ∀ w ∈ wsX20, w ∈ wsX2_cellsOf := fun w h => (goodIn_r (big := wsX2_cellsOf) wsX20 [24, 25, 26, 27, 28, 29, 30, 31, 32, 33, 34, 35, 36, 37] (by decide +kernel) (by decide +kernel) w h).1
set_option maxHeartbeats 4000000 in
set_option maxRecDepth 100000 in
theorem m_X2_cellsOf_ok (l : Launch) (dC : Nat → ClassId) (dI : Nat → Nat → Nat) (cI cZ cJ cD : ClassId) (m0 : Nat) (a1 : Nat) (a2 : Nat) (a3 : Nat) (a4 : Nat) (a5 : Nat) (a6 : Nat) (a7 : Nat) (a8 : Nat) (th : Int32) (wn : Nat) (hn : Nat) (q0 : Nat) (wv : Int32) (K0 : Nat → Nat) (NX : Nat → Int32) (T0 : Nat → Bool) (KP : Nat → Int32) (RG : Nat → Int32) (SZ : Nat → Int32) (LN : Nat → Int32) (mn : Int32) (j0 : Nat) (g : gok wn hn) (hK4 : ∀ c, K0 c ≤ 4) (hj0 : j0 < 5) : zI l (dC, dI) (wT cI cZ cJ cD) yX2_cellsOf wsX2_cellsOf rmX2_cellsOf [(m0, .inr (2, [.int th, .int (nI wn), .int (nI hn), .int (nI q0), .int wv, .ref a1, .ref a2, .ref a3, .ref a4, .ref a5, .ref a6, .ref a7, .ref a8, .int mn])), (a1, .inl (cI, 25, .inl (kI K0))), (a2, .inl (cI, 25, .inl NX)), (a3, .inl (cZ, 25, .inl (zB T0))), (a4, .inl (cI, 100, .inl (bI wn hn))), (a5, .inl (cI, 25, .inl KP)), (a6, .inl (cI, 25, .inl RG)), (a7, .inl (cI, 26, .inl SZ)), (a8, .inl (cI, 25, .inl LN))] [.ref m0, .int (nI j0)] (fun (_ : Unit) => [(m0, .inr (2, [.int 0, .int (nI wn), .int (nI hn), .int (nI q0), .int wv, .ref a1, .ref a2, .ref a3, .ref a4, .ref a5, .ref a6, .ref a7, .ref a8, .int mn])), (a1, .inl (cI, 25, .inl (kI K0))), (a2, .inl (cI, 25, .inl NX)), (a3, .inl (cZ, 25, .inl (zB T0))), (a4, .inl (cI, 100, .inl (bI wn hn))), (a5, .inl (cI, 25, .inl KP)), (a6, .inl (cI, 25, .inl RG)), (a7, .inl (cI, 26, .inl SZ)), (a8, .inl (cI, 25, .inl LN))]) (fun (r : Int32) (_ : Unit) => r = nI (ccN K0 j0 (wn * hn))) := by
  intro sz
  refine Met.ofW (cc := cX2_cellsOf) (maxL := 2) (ret := (some .int)) (by decide) rfl ?_
  intro p e s m args below meth c s₁ B hml hv
  obtain ⟨ha, hsz, hP, hK, hD0, hN⟩ := hv
  have hx := B.exec
  have hb := B.bytes
  have hr := B.returns
  have hts := atoms_spec (ws := wsX2_cellsOf) B.pre
  have hown : s.vm.findClass RX2 = some m.cls := findClass_of_methodNamed B.named
  have hlocks := B.notSynchronized
  subst hsz
  have hD := hD0.self (sz := s.heap.size)
  generalize hAe : va_A [(m0, .inr (2, [.int th, .int (nI wn), .int (nI hn), .int (nI q0), .int wv, .ref a1, .ref a2, .ref a3, .ref a4, .ref a5, .ref a6, .ref a7, .ref a8, .int mn])), (a1, .inl (cI, 25, .inl (kI K0))), (a2, .inl (cI, 25, .inl NX)), (a3, .inl (cZ, 25, .inl (zB T0))), (a4, .inl (cI, 100, .inl (bI wn hn))), (a5, .inl (cI, 25, .inl KP)), (a6, .inl (cI, 25, .inl RG)), (a7, .inl (cI, 26, .inl SZ)), (a8, .inl (cI, 25, .inl LN))] s.heap.size = A at hD ⊢
  have hA : ∀ q : Nat, s.heap.size ≤ q → A q := fun q h => by rw [← hAe]; exact Or.inr h
  have hS : va_S A s.heap s.heap [] := va_S.rf
  generalize hQ : MQ below (va_Qi (fun (r : Int32) (_ : Unit) => r = nI (ccN K0 j0 (wn * hn))) (fun u t => va_P (dC, dI) vwCl ((fun (_ : Unit) => [(m0, .inr (2, [.int 0, .int (nI wn), .int (nI hn), .int (nI q0), .int wv, .ref a1, .ref a2, .ref a3, .ref a4, .ref a5, .ref a6, .ref a7, .ref a8, .int mn])), (a1, .inl (cI, 25, .inl (kI K0))), (a2, .inl (cI, 25, .inl NX)), (a3, .inl (cZ, 25, .inl (zB T0))), (a4, .inl (cI, 100, .inl (bI wn hn))), (a5, .inl (cI, 25, .inl KP)), (a6, .inl (cI, 25, .inl RG)), (a7, .inl (cI, 26, .inl SZ)), (a8, .inl (cI, 25, .inl LN))]) u) t.heap) A) args s 0 0 A = Q
  have F9 : CallFix p m c cX2_cellsOf 2 s args wsX2_cellsOf RX2 := ⟨hx, hb, hml, hown, hts⟩
  obtain ⟨g1, g2, g3, g4⟩ := id g
  have g5 := wh_le g
  have g6 := wh_pos g
  refine z_entry (R := rmX2_cellsOf) ha (Nat.le_of_ble_eq_true rfl) (fun ls hl => ?_)
  have hl : lv_has ls 2 [(0, .ref m0), (1, .int (nI j0))] := hl
  refine lv_aload_n hx hb dX2_cellsOf_0 rfl (lv_at hl 0 rfl) ?_
  refine lv_iconst (v := 0) hx hb dX2_cellsOf_1 (by decide) ?_
  refine va_put (D := (dC, dI)) (ci := 2) (v := .int 0) (ty := .int) (C := RX2) (T := TX2) (N := 14) hx hb hts iX2_cellsOf_X2 tyX2 tyX2_ok nmX2 hown hK hP hD hS 0 rfl rfl 0 (by decide) (hts (.fieldLink RX2 43 "ColourTideModel" "thrown" "I") (List.mem_of_getElem? (i := 1) rfl)) (fun _ h9 => h9) rfl (by decide +kernel) rfl rfl (Nat.le_of_ble_eq_true rfl) dX2_cellsOf_2 (fun H locs hP hD hS => ?_)
  have hP : va_P (dC, dI) vwCl [(m0, .inr (2, [.int 0, .int (nI wn), .int (nI hn), .int (nI q0), .int wv, .ref a1, .ref a2, .ref a3, .ref a4, .ref a5, .ref a6, .ref a7, .ref a8, .int mn])), (a1, .inl (cI, 25, .inl (kI K0))), (a2, .inl (cI, 25, .inl NX)), (a3, .inl (cZ, 25, .inl (zB T0))), (a4, .inl (cI, 100, .inl (bI wn hn))), (a5, .inl (cI, 25, .inl KP)), (a6, .inl (cI, 25, .inl RG)), (a7, .inl (cI, 26, .inl SZ)), (a8, .inl (cI, 25, .inl LN))] H := hP
  have hD : va_D A [(m0, .inr (2, [.int 0, .int (nI wn), .int (nI hn), .int (nI q0), .int wv, .ref a1, .ref a2, .ref a3, .ref a4, .ref a5, .ref a6, .ref a7, .ref a8, .int mn])), (a1, .inl (cI, 25, .inl (kI K0))), (a2, .inl (cI, 25, .inl NX)), (a3, .inl (cZ, 25, .inl (zB T0))), (a4, .inl (cI, 100, .inl (bI wn hn))), (a5, .inl (cI, 25, .inl KP)), (a6, .inl (cI, 25, .inl RG)), (a7, .inl (cI, 26, .inl SZ)), (a8, .inl (cI, 25, .inl LN))] := hD
  refine lv_iload_n hx hb dX2_cellsOf_5 rfl (lv_at hl 1 rfl) ?_
  refine z_callSi (As := [.int (nI j0)]) (rest := []) F9 (m_X2_isAny l dC dI cI cZ cJ cD (nI j0) ) (va_cwS 1 hts gX2_cellsOf_X2_isAny rfl rfl rfl (by decide +kernel) ⟨Nat.le_of_ble_eq_true rfl, Nat.le_of_ble_eq_true rfl⟩) hK hN hP hD hS hA rfl hl.1 rfl (Nat.le_of_ble_eq_true rfl) dX2_cellsOf_6 ⟨Nat.zero_le _, Nat.zero_le _⟩ (fun r_1 H locs hp_6 hP hS => ?_)
  have hp_6 : r_1 = if pAny (nI j0) then 1 else 0 := hp_6
  refine z_topi (y := if pAny (nI j0) then 1 else 0) hp_6 ?_
  refine lv_if_eq (tgt := 20) hx hb dX2_cellsOf_9 (by decide) (fun c_9 => ?_) (fun c_9 => ?_)
  · skip
    exact absurd (any_ok hj0) (z_if0 c_9)
  · skip
    refine lv_aload_n hx hb dX2_cellsOf_12 rfl (lv_at hl 0 rfl) ?_
    refine lv_iload_n hx hb dX2_cellsOf_13 rfl (lv_at hl 1 rfl) ?_
    refine z_callVi (As := [.int (nI j0)]) (rest := []) F9 (m_X2_cellsWith l dC dI cI cZ cJ cD m0 a1 a2 a3 a4 a5 a6 a7 a8 0 wn hn q0 wv K0 NX T0 KP RG SZ LN mn j0 (g) (hK4) (by omega)) (cwV 1 hts gX2_cellsOf_X2_cellsWith rfl rfl rfl (by decide +kernel) ⟨Nat.le_of_ble_eq_true rfl, Nat.le_of_ble_eq_true rfl⟩) hK hN hP hD hS hA [0, 1, 2, 3, 4, 5, 6, 7, 8] rfl rfl (fun _ => rfl) 0 (ci := 2) rfl rfl rfl rfl hl.1 rfl (Nat.le_of_ble_eq_true rfl) dX2_cellsOf_14 ⟨Nat.zero_le _, Nat.zero_le _⟩ (fun r_2 u H locs hp_14 hP hD hS => ?_)
    have hP : va_P (dC, dI) vwCl [(m0, .inr (2, [.int 0, .int (nI wn), .int (nI hn), .int (nI q0), .int wv, .ref a1, .ref a2, .ref a3, .ref a4, .ref a5, .ref a6, .ref a7, .ref a8, .int mn])), (a1, .inl (cI, 25, .inl (kI K0))), (a2, .inl (cI, 25, .inl NX)), (a3, .inl (cZ, 25, .inl (zB T0))), (a4, .inl (cI, 100, .inl (bI wn hn))), (a5, .inl (cI, 25, .inl KP)), (a6, .inl (cI, 25, .inl RG)), (a7, .inl (cI, 26, .inl SZ)), (a8, .inl (cI, 25, .inl LN))] H := hP
    have hD : va_D A [(m0, .inr (2, [.int 0, .int (nI wn), .int (nI hn), .int (nI q0), .int wv, .ref a1, .ref a2, .ref a3, .ref a4, .ref a5, .ref a6, .ref a7, .ref a8, .int mn])), (a1, .inl (cI, 25, .inl (kI K0))), (a2, .inl (cI, 25, .inl NX)), (a3, .inl (cZ, 25, .inl (zB T0))), (a4, .inl (cI, 100, .inl (bI wn hn))), (a5, .inl (cI, 25, .inl KP)), (a6, .inl (cI, 25, .inl RG)), (a7, .inl (cI, 26, .inl SZ)), (a8, .inl (cI, 25, .inl LN))] := hD
    have hp_14 : r_2 = nI (ccN K0 j0 (wn * hn)) := hp_14
    refine z_topi (y := nI (ccN K0 j0 (wn * hn))) hp_14 ?_
    refine lv_goto (tgt := 25) hx hb dX2_cellsOf_17 (by decide) ?_
    rw [← hQ]
    exact z_iret (W1 := (fun (_ : Unit) => [(m0, .inr (2, [.int 0, .int (nI wn), .int (nI hn), .int (nI q0), .int wv, .ref a1, .ref a2, .ref a3, .ref a4, .ref a5, .ref a6, .ref a7, .ref a8, .int mn])), (a1, .inl (cI, 25, .inl (kI K0))), (a2, .inl (cI, 25, .inl NX)), (a3, .inl (cZ, 25, .inl (zB T0))), (a4, .inl (cI, 100, .inl (bI wn hn))), (a5, .inl (cI, 25, .inl KP)), (a6, .inl (cI, 25, .inl RG)), (a7, .inl (cI, 26, .inl SZ)), (a8, .inl (cI, 25, .inl LN))])) hx hb hr hlocks hP hS () (rfl) (rfl) dX2_cellsOf_25
set_option maxHeartbeats 4000000 in
set_option maxRecDepth 100000 in
theorem m_X2_cellsOf_no (l : Launch) (dC : Nat → ClassId) (dI : Nat → Nat → Nat) (cI cZ cJ cD : ClassId) (m0 : Nat) (a1 : Nat) (a2 : Nat) (a3 : Nat) (a4 : Nat) (a5 : Nat) (a6 : Nat) (a7 : Nat) (a8 : Nat) (th : Int32) (wn : Nat) (hn : Nat) (q0 : Nat) (wv : Int32) (K0 : Nat → Nat) (NX : Nat → Int32) (T0 : Nat → Bool) (KP : Nat → Int32) (RG : Nat → Int32) (SZ : Nat → Int32) (LN : Nat → Int32) (mn : Int32) (col : Int32) (g : gok wn hn) (hK4 : ∀ c, K0 c ≤ 4) (hno : ¬ pAny col) : zI l (dC, dI) (wT cI cZ cJ cD) yX2_cellsOf wsX2_cellsOf rmX2_cellsOf [(m0, .inr (2, [.int th, .int (nI wn), .int (nI hn), .int (nI q0), .int wv, .ref a1, .ref a2, .ref a3, .ref a4, .ref a5, .ref a6, .ref a7, .ref a8, .int mn])), (a1, .inl (cI, 25, .inl (kI K0))), (a2, .inl (cI, 25, .inl NX)), (a3, .inl (cZ, 25, .inl (zB T0))), (a4, .inl (cI, 100, .inl (bI wn hn))), (a5, .inl (cI, 25, .inl KP)), (a6, .inl (cI, 25, .inl RG)), (a7, .inl (cI, 26, .inl SZ)), (a8, .inl (cI, 25, .inl LN))] [.ref m0, .int col] (fun (_ : Unit) => [(m0, .inr (2, [.int 1, .int (nI wn), .int (nI hn), .int (nI q0), .int wv, .ref a1, .ref a2, .ref a3, .ref a4, .ref a5, .ref a6, .ref a7, .ref a8, .int mn])), (a1, .inl (cI, 25, .inl (kI K0))), (a2, .inl (cI, 25, .inl NX)), (a3, .inl (cZ, 25, .inl (zB T0))), (a4, .inl (cI, 100, .inl (bI wn hn))), (a5, .inl (cI, 25, .inl KP)), (a6, .inl (cI, 25, .inl RG)), (a7, .inl (cI, 26, .inl SZ)), (a8, .inl (cI, 25, .inl LN))]) (fun (r : Int32) (_ : Unit) => True) := by
  intro sz
  refine Met.ofW (cc := cX2_cellsOf) (maxL := 2) (ret := (some .int)) (by decide) rfl ?_
  intro p e s m args below meth c s₁ B hml hv
  obtain ⟨ha, hsz, hP, hK, hD0, hN⟩ := hv
  have hx := B.exec
  have hb := B.bytes
  have hr := B.returns
  have hts := atoms_spec (ws := wsX2_cellsOf) B.pre
  have hown : s.vm.findClass RX2 = some m.cls := findClass_of_methodNamed B.named
  have hlocks := B.notSynchronized
  subst hsz
  have hD := hD0.self (sz := s.heap.size)
  generalize hAe : va_A [(m0, .inr (2, [.int th, .int (nI wn), .int (nI hn), .int (nI q0), .int wv, .ref a1, .ref a2, .ref a3, .ref a4, .ref a5, .ref a6, .ref a7, .ref a8, .int mn])), (a1, .inl (cI, 25, .inl (kI K0))), (a2, .inl (cI, 25, .inl NX)), (a3, .inl (cZ, 25, .inl (zB T0))), (a4, .inl (cI, 100, .inl (bI wn hn))), (a5, .inl (cI, 25, .inl KP)), (a6, .inl (cI, 25, .inl RG)), (a7, .inl (cI, 26, .inl SZ)), (a8, .inl (cI, 25, .inl LN))] s.heap.size = A at hD ⊢
  have hA : ∀ q : Nat, s.heap.size ≤ q → A q := fun q h => by rw [← hAe]; exact Or.inr h
  have hS : va_S A s.heap s.heap [] := va_S.rf
  generalize hQ : MQ below (va_Qi (fun (r : Int32) (_ : Unit) => True) (fun u t => va_P (dC, dI) vwCl ((fun (_ : Unit) => [(m0, .inr (2, [.int 1, .int (nI wn), .int (nI hn), .int (nI q0), .int wv, .ref a1, .ref a2, .ref a3, .ref a4, .ref a5, .ref a6, .ref a7, .ref a8, .int mn])), (a1, .inl (cI, 25, .inl (kI K0))), (a2, .inl (cI, 25, .inl NX)), (a3, .inl (cZ, 25, .inl (zB T0))), (a4, .inl (cI, 100, .inl (bI wn hn))), (a5, .inl (cI, 25, .inl KP)), (a6, .inl (cI, 25, .inl RG)), (a7, .inl (cI, 26, .inl SZ)), (a8, .inl (cI, 25, .inl LN))]) u) t.heap) A) args s 0 0 A = Q
  have F9 : CallFix p m c cX2_cellsOf 2 s args wsX2_cellsOf RX2 := ⟨hx, hb, hml, hown, hts⟩
  obtain ⟨g1, g2, g3, g4⟩ := id g
  have g5 := wh_le g
  have g6 := wh_pos g
  refine z_entry (R := rmX2_cellsOf) ha (Nat.le_of_ble_eq_true rfl) (fun ls hl => ?_)
  have hl : lv_has ls 2 [(0, .ref m0), (1, .int col)] := hl
  refine lv_aload_n hx hb dX2_cellsOf_0 rfl (lv_at hl 0 rfl) ?_
  refine lv_iconst (v := 0) hx hb dX2_cellsOf_1 (by decide) ?_
  refine va_put (D := (dC, dI)) (ci := 2) (v := .int 0) (ty := .int) (C := RX2) (T := TX2) (N := 14) hx hb hts iX2_cellsOf_X2 tyX2 tyX2_ok nmX2 hown hK hP hD hS 0 rfl rfl 0 (by decide) (hts (.fieldLink RX2 43 "ColourTideModel" "thrown" "I") (List.mem_of_getElem? (i := 1) rfl)) (fun _ h9 => h9) rfl (by decide +kernel) rfl rfl (Nat.le_of_ble_eq_true rfl) dX2_cellsOf_2 (fun H locs hP hD hS => ?_)
  have hP : va_P (dC, dI) vwCl [(m0, .inr (2, [.int 0, .int (nI wn), .int (nI hn), .int (nI q0), .int wv, .ref a1, .ref a2, .ref a3, .ref a4, .ref a5, .ref a6, .ref a7, .ref a8, .int mn])), (a1, .inl (cI, 25, .inl (kI K0))), (a2, .inl (cI, 25, .inl NX)), (a3, .inl (cZ, 25, .inl (zB T0))), (a4, .inl (cI, 100, .inl (bI wn hn))), (a5, .inl (cI, 25, .inl KP)), (a6, .inl (cI, 25, .inl RG)), (a7, .inl (cI, 26, .inl SZ)), (a8, .inl (cI, 25, .inl LN))] H := hP
  have hD : va_D A [(m0, .inr (2, [.int 0, .int (nI wn), .int (nI hn), .int (nI q0), .int wv, .ref a1, .ref a2, .ref a3, .ref a4, .ref a5, .ref a6, .ref a7, .ref a8, .int mn])), (a1, .inl (cI, 25, .inl (kI K0))), (a2, .inl (cI, 25, .inl NX)), (a3, .inl (cZ, 25, .inl (zB T0))), (a4, .inl (cI, 100, .inl (bI wn hn))), (a5, .inl (cI, 25, .inl KP)), (a6, .inl (cI, 25, .inl RG)), (a7, .inl (cI, 26, .inl SZ)), (a8, .inl (cI, 25, .inl LN))] := hD
  refine lv_iload_n hx hb dX2_cellsOf_5 rfl (lv_at hl 1 rfl) ?_
  refine z_callSi (As := [.int col]) (rest := []) F9 (m_X2_isAny l dC dI cI cZ cJ cD col ) (va_cwS 1 hts gX2_cellsOf_X2_isAny rfl rfl rfl (by decide +kernel) ⟨Nat.le_of_ble_eq_true rfl, Nat.le_of_ble_eq_true rfl⟩) hK hN hP hD hS hA rfl hl.1 rfl (Nat.le_of_ble_eq_true rfl) dX2_cellsOf_6 ⟨Nat.zero_le _, Nat.zero_le _⟩ (fun r_1 H locs hp_6 hP hS => ?_)
  have hp_6 : r_1 = if pAny col then 1 else 0 := hp_6
  refine z_topi (y := if pAny col then 1 else 0) hp_6 ?_
  refine lv_if_eq (tgt := 20) hx hb dX2_cellsOf_9 (by decide) (fun c_9 => ?_) (fun c_9 => ?_)
  · skip
    refine lv_aload_n hx hb dX2_cellsOf_20 rfl (lv_at hl 0 rfl) ?_
    refine lv_iconst (v := 1) hx hb dX2_cellsOf_21 (by decide) ?_
    refine z_callVi (As := [.int 1]) (rest := []) F9 (m_X2_fail l dC dI cI cZ cJ cD m0 a1 a2 a3 a4 a5 a6 a7 a8 0 wn hn q0 wv K0 NX T0 KP RG SZ LN mn 1 ) (cwV 1 hts gX2_cellsOf_X2_fail rfl rfl rfl (by decide +kernel) ⟨Nat.le_of_ble_eq_true rfl, Nat.le_of_ble_eq_true rfl⟩) hK hN hP hD hS hA [0, 1, 2, 3, 4, 5, 6, 7, 8] rfl rfl (fun _ => rfl) 0 (ci := 2) rfl rfl rfl rfl hl.1 rfl (Nat.le_of_ble_eq_true rfl) dX2_cellsOf_22 ⟨Nat.zero_le _, Nat.zero_le _⟩ (fun r_2 u H locs hp_22 hP hD hS => ?_)
    have hP : va_P (dC, dI) vwCl [(m0, .inr (2, [.int 1, .int (nI wn), .int (nI hn), .int (nI q0), .int wv, .ref a1, .ref a2, .ref a3, .ref a4, .ref a5, .ref a6, .ref a7, .ref a8, .int mn])), (a1, .inl (cI, 25, .inl (kI K0))), (a2, .inl (cI, 25, .inl NX)), (a3, .inl (cZ, 25, .inl (zB T0))), (a4, .inl (cI, 100, .inl (bI wn hn))), (a5, .inl (cI, 25, .inl KP)), (a6, .inl (cI, 25, .inl RG)), (a7, .inl (cI, 26, .inl SZ)), (a8, .inl (cI, 25, .inl LN))] H := hP
    have hD : va_D A [(m0, .inr (2, [.int 1, .int (nI wn), .int (nI hn), .int (nI q0), .int wv, .ref a1, .ref a2, .ref a3, .ref a4, .ref a5, .ref a6, .ref a7, .ref a8, .int mn])), (a1, .inl (cI, 25, .inl (kI K0))), (a2, .inl (cI, 25, .inl NX)), (a3, .inl (cZ, 25, .inl (zB T0))), (a4, .inl (cI, 100, .inl (bI wn hn))), (a5, .inl (cI, 25, .inl KP)), (a6, .inl (cI, 25, .inl RG)), (a7, .inl (cI, 26, .inl SZ)), (a8, .inl (cI, 25, .inl LN))] := hD
    have hp_22 : r_2 = 0 := hp_22
    refine z_topi (y := 0) hp_22 ?_
    rw [← hQ]
    exact z_iret (W1 := (fun (_ : Unit) => [(m0, .inr (2, [.int 1, .int (nI wn), .int (nI hn), .int (nI q0), .int wv, .ref a1, .ref a2, .ref a3, .ref a4, .ref a5, .ref a6, .ref a7, .ref a8, .int mn])), (a1, .inl (cI, 25, .inl (kI K0))), (a2, .inl (cI, 25, .inl NX)), (a3, .inl (cZ, 25, .inl (zB T0))), (a4, .inl (cI, 100, .inl (bI wn hn))), (a5, .inl (cI, 25, .inl KP)), (a6, .inl (cI, 25, .inl RG)), (a7, .inl (cI, 26, .inl SZ)), (a8, .inl (cI, 25, .inl LN))])) hx hb hr hlocks hP hS () (rfl) (trivial) dX2_cellsOf_25
  · skip
    exact absurd (z_if1 c_9) hno
abbrev rmX2_regionsOf : Room := { frames := 2, cells := 0, slots := 0, locals := 56 }
set_option maxRecDepth 20000 in
theorem iX2_regionsOf_X2 : ∀ w ∈ wsX20, w ∈ wsX2_regionsOf := fun w h => (goodIn_r (big := wsX2_regionsOf) wsX20 [45, 46, 47, 48, 49, 50, 51, 52, 53, 54, 55, 56, 57, 58] (by decide +kernel) (by decide +kernel) w h).1
set_option maxHeartbeats 4000000 in
set_option maxRecDepth 100000 in
theorem m_X2_regionsOf_ok (l : Launch) (dC : Nat → ClassId) (dI : Nat → Nat → Nat) (cI cZ cJ cD : ClassId) (m0 : Nat) (a1 : Nat) (a2 : Nat) (a3 : Nat) (a4 : Nat) (a5 : Nat) (a6 : Nat) (a7 : Nat) (a8 : Nat) (th : Int32) (wn : Nat) (hn : Nat) (q0 : Nat) (wv : Int32) (K0 : Nat → Nat) (NX : Nat → Int32) (T0 : Nat → Bool) (KP : Nat → Int32) (RG : Nat → Int32) (SZ : Nat → Int32) (LN : Nat → Int32) (mn : Int32) (j0 : Nat) (g : gok wn hn) (hK4 : ∀ c, K0 c ≤ 4) (hj0 : j0 < 5) (hj1 : j0 ≠ 0) : zI l (dC, dI) (wT cI cZ cJ cD) yX2_regionsOf wsX2_regionsOf rmX2_regionsOf [(m0, .inr (2, [.int th, .int (nI wn), .int (nI hn), .int (nI q0), .int wv, .ref a1, .ref a2, .ref a3, .ref a4, .ref a5, .ref a6, .ref a7, .ref a8, .int mn])), (a1, .inl (cI, 25, .inl (kI K0))), (a2, .inl (cI, 25, .inl NX)), (a3, .inl (cZ, 25, .inl (zB T0))), (a4, .inl (cI, 100, .inl (bI wn hn))), (a5, .inl (cI, 25, .inl KP)), (a6, .inl (cI, 25, .inl RG)), (a7, .inl (cI, 26, .inl SZ)), (a8, .inl (cI, 25, .inl LN))] [.ref m0, .int (nI j0)] (fun (u : (Nat → Int32) × (Nat → Int32) × (Nat → Int32) × Int32) => [(m0, .inr (2, [.int 0, .int (nI wn), .int (nI hn), .int (nI q0), .int wv, .ref a1, .ref a2, .ref a3, .ref a4, .ref a5, .ref a6, .ref a7, .ref a8, .int u.2.2.2])), (a1, .inl (cI, 25, .inl (kI K0))), (a2, .inl (cI, 25, .inl NX)), (a3, .inl (cZ, 25, .inl (zB T0))), (a4, .inl (cI, 100, .inl (bI wn hn))), (a5, .inl (cI, 25, .inl KP)), (a6, .inl (cI, 25, .inl u.1)), (a7, .inl (cI, 26, .inl u.2.1)), (a8, .inl (cI, 25, .inl u.2.2.1))]) (fun (r : Int32) (u : (Nat → Int32) × (Nat → Int32) × (Nat → Int32) × Int32) => r = nI (rsm wn hn K0 j0 (wn * hn))) := by
  intro sz
  refine Met.ofW (cc := cX2_regionsOf) (maxL := 2) (ret := (some .int)) (by decide) rfl ?_
  intro p e s m args below meth c s₁ B hml hv
  obtain ⟨ha, hsz, hP, hK, hD0, hN⟩ := hv
  have hx := B.exec
  have hb := B.bytes
  have hr := B.returns
  have hts := atoms_spec (ws := wsX2_regionsOf) B.pre
  have hown : s.vm.findClass RX2 = some m.cls := findClass_of_methodNamed B.named
  have hlocks := B.notSynchronized
  subst hsz
  have hD := hD0.self (sz := s.heap.size)
  generalize hAe : va_A [(m0, .inr (2, [.int th, .int (nI wn), .int (nI hn), .int (nI q0), .int wv, .ref a1, .ref a2, .ref a3, .ref a4, .ref a5, .ref a6, .ref a7, .ref a8, .int mn])), (a1, .inl (cI, 25, .inl (kI K0))), (a2, .inl (cI, 25, .inl NX)), (a3, .inl (cZ, 25, .inl (zB T0))), (a4, .inl (cI, 100, .inl (bI wn hn))), (a5, .inl (cI, 25, .inl KP)), (a6, .inl (cI, 25, .inl RG)), (a7, .inl (cI, 26, .inl SZ)), (a8, .inl (cI, 25, .inl LN))] s.heap.size = A at hD ⊢
  have hA : ∀ q : Nat, s.heap.size ≤ q → A q := fun q h => by rw [← hAe]; exact Or.inr h
  have hS : va_S A s.heap s.heap [] := va_S.rf
  generalize hQ : MQ below (va_Qi (fun (r : Int32) (u : (Nat → Int32) × (Nat → Int32) × (Nat → Int32) × Int32) => r = nI (rsm wn hn K0 j0 (wn * hn))) (fun u t => va_P (dC, dI) vwCl ((fun (u : (Nat → Int32) × (Nat → Int32) × (Nat → Int32) × Int32) => [(m0, .inr (2, [.int 0, .int (nI wn), .int (nI hn), .int (nI q0), .int wv, .ref a1, .ref a2, .ref a3, .ref a4, .ref a5, .ref a6, .ref a7, .ref a8, .int u.2.2.2])), (a1, .inl (cI, 25, .inl (kI K0))), (a2, .inl (cI, 25, .inl NX)), (a3, .inl (cZ, 25, .inl (zB T0))), (a4, .inl (cI, 100, .inl (bI wn hn))), (a5, .inl (cI, 25, .inl KP)), (a6, .inl (cI, 25, .inl u.1)), (a7, .inl (cI, 26, .inl u.2.1)), (a8, .inl (cI, 25, .inl u.2.2.1))]) u) t.heap) A) args s 0 0 A = Q
  have F9 : CallFix p m c cX2_regionsOf 2 s args wsX2_regionsOf RX2 := ⟨hx, hb, hml, hown, hts⟩
  obtain ⟨g1, g2, g3, g4⟩ := id g
  have g5 := wh_le g
  have g6 := wh_pos g
  refine z_entry (R := rmX2_regionsOf) ha (Nat.le_of_ble_eq_true rfl) (fun ls hl => ?_)
  have hl : lv_has ls 2 [(0, .ref m0), (1, .int (nI j0))] := hl
  refine lv_aload_n hx hb dX2_regionsOf_0 rfl (lv_at hl 0 rfl) ?_
  refine lv_iconst (v := 0) hx hb dX2_regionsOf_1 (by decide) ?_
  refine va_put (D := (dC, dI)) (ci := 2) (v := .int 0) (ty := .int) (C := RX2) (T := TX2) (N := 14) hx hb hts iX2_regionsOf_X2 tyX2 tyX2_ok nmX2 hown hK hP hD hS 0 rfl rfl 0 (by decide) (hts (.fieldLink RX2 43 "ColourTideModel" "thrown" "I") (List.mem_of_getElem? (i := 1) rfl)) (fun _ h9 => h9) rfl (by decide +kernel) rfl rfl (Nat.le_of_ble_eq_true rfl) dX2_regionsOf_2 (fun H locs hP hD hS => ?_)
  have hP : va_P (dC, dI) vwCl [(m0, .inr (2, [.int 0, .int (nI wn), .int (nI hn), .int (nI q0), .int wv, .ref a1, .ref a2, .ref a3, .ref a4, .ref a5, .ref a6, .ref a7, .ref a8, .int mn])), (a1, .inl (cI, 25, .inl (kI K0))), (a2, .inl (cI, 25, .inl NX)), (a3, .inl (cZ, 25, .inl (zB T0))), (a4, .inl (cI, 100, .inl (bI wn hn))), (a5, .inl (cI, 25, .inl KP)), (a6, .inl (cI, 25, .inl RG)), (a7, .inl (cI, 26, .inl SZ)), (a8, .inl (cI, 25, .inl LN))] H := hP
  have hD : va_D A [(m0, .inr (2, [.int 0, .int (nI wn), .int (nI hn), .int (nI q0), .int wv, .ref a1, .ref a2, .ref a3, .ref a4, .ref a5, .ref a6, .ref a7, .ref a8, .int mn])), (a1, .inl (cI, 25, .inl (kI K0))), (a2, .inl (cI, 25, .inl NX)), (a3, .inl (cZ, 25, .inl (zB T0))), (a4, .inl (cI, 100, .inl (bI wn hn))), (a5, .inl (cI, 25, .inl KP)), (a6, .inl (cI, 25, .inl RG)), (a7, .inl (cI, 26, .inl SZ)), (a8, .inl (cI, 25, .inl LN))] := hD
  refine lv_iload_n hx hb dX2_regionsOf_5 rfl (lv_at hl 1 rfl) ?_
  refine z_callSi (As := [.int (nI j0)]) (rest := []) F9 (m_X2_isColour l dC dI cI cZ cJ cD (nI j0) ) (va_cwS 1 hts gX2_regionsOf_X2_isColour rfl rfl rfl (by decide +kernel) ⟨Nat.le_of_ble_eq_true rfl, Nat.le_of_ble_eq_true rfl⟩) hK hN hP hD hS hA rfl hl.1 rfl (Nat.le_of_ble_eq_true rfl) dX2_regionsOf_6 ⟨Nat.zero_le _, Nat.zero_le _⟩ (fun r_1 H locs hp_6 hP hS => ?_)
  have hp_6 : r_1 = if pCol (nI j0) then 1 else 0 := hp_6
  refine z_topi (y := if pCol (nI j0) then 1 else 0) hp_6 ?_
  refine lv_if_ne (tgt := 18) hx hb dX2_regionsOf_9 (by decide) (fun c_9 => ?_) (fun c_9 => ?_)
  · skip
    refine lv_aload_n hx hb dX2_regionsOf_18 rfl (lv_at hl 0 rfl) ?_
    refine z_callVv (As := []) (rest := []) F9 (m_X2_hang l dC dI cI cZ cJ cD m0 a1 a2 a3 a4 a5 a6 a7 a8 0 wn hn q0 wv K0 NX T0 KP RG SZ LN mn (g) (hK4)) (cwV 0 hts gX2_regionsOf_X2_hang rfl rfl rfl (by decide +kernel) ⟨Nat.le_of_ble_eq_true rfl, Nat.le_of_ble_eq_true rfl⟩) hK hN hP hD hS hA [0, 1, 2, 3, 4, 5, 6, 7, 8] rfl rfl (fun _ => rfl) 0 (ci := 2) rfl rfl rfl rfl hl.1 rfl (Nat.le_of_ble_eq_true rfl) dX2_regionsOf_19 ⟨Nat.zero_le _, Nat.zero_le _⟩ (fun u H locs hp_19 hP hD hS => ?_)
    obtain ⟨Rq_3, SZq_4, LNq_5, mnq_6⟩ := u
    have hP : va_P (dC, dI) vwCl [(m0, .inr (2, [.int 0, .int (nI wn), .int (nI hn), .int (nI q0), .int wv, .ref a1, .ref a2, .ref a3, .ref a4, .ref a5, .ref a6, .ref a7, .ref a8, .int mnq_6])), (a1, .inl (cI, 25, .inl (kI K0))), (a2, .inl (cI, 25, .inl NX)), (a3, .inl (cZ, 25, .inl (zB T0))), (a4, .inl (cI, 100, .inl (bI wn hn))), (a5, .inl (cI, 25, .inl KP)), (a6, .inl (cI, 25, .inl (zfill (kI Rq_3) RG (wn * hn)))), (a7, .inl (cI, 26, .inl SZq_4)), (a8, .inl (cI, 25, .inl LNq_5))] H := hP
    have hD : va_D A [(m0, .inr (2, [.int 0, .int (nI wn), .int (nI hn), .int (nI q0), .int wv, .ref a1, .ref a2, .ref a3, .ref a4, .ref a5, .ref a6, .ref a7, .ref a8, .int mnq_6])), (a1, .inl (cI, 25, .inl (kI K0))), (a2, .inl (cI, 25, .inl NX)), (a3, .inl (cZ, 25, .inl (zB T0))), (a4, .inl (cI, 100, .inl (bI wn hn))), (a5, .inl (cI, 25, .inl KP)), (a6, .inl (cI, 25, .inl (zfill (kI Rq_3) RG (wn * hn)))), (a7, .inl (cI, 26, .inl SZq_4)), (a8, .inl (cI, 25, .inl LNq_5))] := hD
    have hp_19 : HgP wn hn K0 Rq_3 SZq_4 := hp_19
    refine lv_aload_n hx hb dX2_regionsOf_22 rfl (lv_at hl 0 rfl) ?_
    refine lv_iload_n hx hb dX2_regionsOf_23 rfl (lv_at hl 1 rfl) ?_
    refine lv_iconst (v := 0) hx hb dX2_regionsOf_24 (by decide) ?_
    refine z_callVi (As := [.int (nI j0), .int 0]) (rest := []) F9 (m_X2_regions l dC dI cI cZ cJ cD m0 a1 a2 a3 a4 a5 a6 a7 a8 0 wn hn q0 wv K0 NX T0 KP RG SZq_4 LNq_5 mnq_6 Rq_3 j0 false (g) (hK4) (hj0) (hj1) (hp_19)) (cwV 2 hts gX2_regionsOf_X2_regions rfl rfl rfl (by decide +kernel) ⟨Nat.le_of_ble_eq_true rfl, Nat.le_of_ble_eq_true rfl⟩) hK hN hP hD hS hA [0, 1, 2, 3, 4, 5, 6, 7, 8] rfl rfl (fun _ => rfl) 0 (ci := 2) rfl rfl rfl rfl hl.1 rfl (Nat.le_of_ble_eq_true rfl) dX2_regionsOf_25 ⟨Nat.zero_le _, Nat.zero_le _⟩ (fun r_7 u H locs hp_25 hP hD hS => ?_)
    have hP : va_P (dC, dI) vwCl [(m0, .inr (2, [.int 0, .int (nI wn), .int (nI hn), .int (nI q0), .int wv, .ref a1, .ref a2, .ref a3, .ref a4, .ref a5, .ref a6, .ref a7, .ref a8, .int mnq_6])), (a1, .inl (cI, 25, .inl (kI K0))), (a2, .inl (cI, 25, .inl NX)), (a3, .inl (cZ, 25, .inl (zB T0))), (a4, .inl (cI, 100, .inl (bI wn hn))), (a5, .inl (cI, 25, .inl KP)), (a6, .inl (cI, 25, .inl (zfill (kI Rq_3) RG (wn * hn)))), (a7, .inl (cI, 26, .inl SZq_4)), (a8, .inl (cI, 25, .inl LNq_5))] H := hP
    have hD : va_D A [(m0, .inr (2, [.int 0, .int (nI wn), .int (nI hn), .int (nI q0), .int wv, .ref a1, .ref a2, .ref a3, .ref a4, .ref a5, .ref a6, .ref a7, .ref a8, .int mnq_6])), (a1, .inl (cI, 25, .inl (kI K0))), (a2, .inl (cI, 25, .inl NX)), (a3, .inl (cZ, 25, .inl (zB T0))), (a4, .inl (cI, 100, .inl (bI wn hn))), (a5, .inl (cI, 25, .inl KP)), (a6, .inl (cI, 25, .inl (zfill (kI Rq_3) RG (wn * hn)))), (a7, .inl (cI, 26, .inl SZq_4)), (a8, .inl (cI, 25, .inl LNq_5))] := hD
    have hp_25 : r_7 = nI (if false = true then rmx wn hn K0 j0 (wn * hn) else rsm wn hn K0 j0 (wn * hn)) := hp_25
    refine z_topi (y := nI (if false = true then rmx wn hn K0 j0 (wn * hn) else rsm wn hn K0 j0 (wn * hn))) hp_25 ?_
    refine z_topi (y := nI (rsm wn hn K0 j0 (wn * hn))) (rfl) ?_
    rw [← hQ]
    exact z_iret (W1 := (fun (u : (Nat → Int32) × (Nat → Int32) × (Nat → Int32) × Int32) => [(m0, .inr (2, [.int 0, .int (nI wn), .int (nI hn), .int (nI q0), .int wv, .ref a1, .ref a2, .ref a3, .ref a4, .ref a5, .ref a6, .ref a7, .ref a8, .int u.2.2.2])), (a1, .inl (cI, 25, .inl (kI K0))), (a2, .inl (cI, 25, .inl NX)), (a3, .inl (cZ, 25, .inl (zB T0))), (a4, .inl (cI, 100, .inl (bI wn hn))), (a5, .inl (cI, 25, .inl KP)), (a6, .inl (cI, 25, .inl u.1)), (a7, .inl (cI, 26, .inl u.2.1)), (a8, .inl (cI, 25, .inl u.2.2.1))])) hx hb hr hlocks hP hS (zfill (kI Rq_3) RG (wn * hn), SZq_4, LNq_5, mnq_6) (rfl) (rfl) dX2_regionsOf_28
  · skip
    exact absurd (col_ok hj1 hj0) (z_if0 c_9)
set_option maxHeartbeats 4000000 in
set_option maxRecDepth 100000 in
theorem m_X2_regionsOf_no (l : Launch) (dC : Nat → ClassId) (dI : Nat → Nat → Nat) (cI cZ cJ cD : ClassId) (m0 : Nat) (a1 : Nat) (a2 : Nat) (a3 : Nat) (a4 : Nat) (a5 : Nat) (a6 : Nat) (a7 : Nat) (a8 : Nat) (th : Int32) (wn : Nat) (hn : Nat) (q0 : Nat) (wv : Int32) (K0 : Nat → Nat) (NX : Nat → Int32) (T0 : Nat → Bool) (KP : Nat → Int32) (RG : Nat → Int32) (SZ : Nat → Int32) (LN : Nat → Int32) (mn : Int32) (col : Int32) (g : gok wn hn) (hK4 : ∀ c, K0 c ≤ 4) (hno : ¬ pCol col) : zI l (dC, dI) (wT cI cZ cJ cD) yX2_regionsOf wsX2_regionsOf rmX2_regionsOf [(m0, .inr (2, [.int th, .int (nI wn), .int (nI hn), .int (nI q0), .int wv, .ref a1, .ref a2, .ref a3, .ref a4, .ref a5, .ref a6, .ref a7, .ref a8, .int mn])), (a1, .inl (cI, 25, .inl (kI K0))), (a2, .inl (cI, 25, .inl NX)), (a3, .inl (cZ, 25, .inl (zB T0))), (a4, .inl (cI, 100, .inl (bI wn hn))), (a5, .inl (cI, 25, .inl KP)), (a6, .inl (cI, 25, .inl RG)), (a7, .inl (cI, 26, .inl SZ)), (a8, .inl (cI, 25, .inl LN))] [.ref m0, .int col] (fun (_ : Unit) => [(m0, .inr (2, [.int 1, .int (nI wn), .int (nI hn), .int (nI q0), .int wv, .ref a1, .ref a2, .ref a3, .ref a4, .ref a5, .ref a6, .ref a7, .ref a8, .int mn])), (a1, .inl (cI, 25, .inl (kI K0))), (a2, .inl (cI, 25, .inl NX)), (a3, .inl (cZ, 25, .inl (zB T0))), (a4, .inl (cI, 100, .inl (bI wn hn))), (a5, .inl (cI, 25, .inl KP)), (a6, .inl (cI, 25, .inl RG)), (a7, .inl (cI, 26, .inl SZ)), (a8, .inl (cI, 25, .inl LN))]) (fun (r : Int32) (_ : Unit) => True) := by
  intro sz
  refine Met.ofW (cc := cX2_regionsOf) (maxL := 2) (ret := (some .int)) (by decide) rfl ?_
  intro p e s m args below meth c s₁ B hml hv
  obtain ⟨ha, hsz, hP, hK, hD0, hN⟩ := hv
  have hx := B.exec
  have hb := B.bytes
  have hr := B.returns
  have hts := atoms_spec (ws := wsX2_regionsOf) B.pre
  have hown : s.vm.findClass RX2 = some m.cls := findClass_of_methodNamed B.named
  have hlocks := B.notSynchronized
  subst hsz
  have hD := hD0.self (sz := s.heap.size)
  generalize hAe : va_A [(m0, .inr (2, [.int th, .int (nI wn), .int (nI hn), .int (nI q0), .int wv, .ref a1, .ref a2, .ref a3, .ref a4, .ref a5, .ref a6, .ref a7, .ref a8, .int mn])), (a1, .inl (cI, 25, .inl (kI K0))), (a2, .inl (cI, 25, .inl NX)), (a3, .inl (cZ, 25, .inl (zB T0))), (a4, .inl (cI, 100, .inl (bI wn hn))), (a5, .inl (cI, 25, .inl KP)), (a6, .inl (cI, 25, .inl RG)), (a7, .inl (cI, 26, .inl SZ)), (a8, .inl (cI, 25, .inl LN))] s.heap.size = A at hD ⊢
  have hA : ∀ q : Nat, s.heap.size ≤ q → A q := fun q h => by rw [← hAe]; exact Or.inr h
  have hS : va_S A s.heap s.heap [] := va_S.rf
  generalize hQ : MQ below (va_Qi (fun (r : Int32) (_ : Unit) => True) (fun u t => va_P (dC, dI) vwCl ((fun (_ : Unit) => [(m0, .inr (2, [.int 1, .int (nI wn), .int (nI hn), .int (nI q0), .int wv, .ref a1, .ref a2, .ref a3, .ref a4, .ref a5, .ref a6, .ref a7, .ref a8, .int mn])), (a1, .inl (cI, 25, .inl (kI K0))), (a2, .inl (cI, 25, .inl NX)), (a3, .inl (cZ, 25, .inl (zB T0))), (a4, .inl (cI, 100, .inl (bI wn hn))), (a5, .inl (cI, 25, .inl KP)), (a6, .inl (cI, 25, .inl RG)), (a7, .inl (cI, 26, .inl SZ)), (a8, .inl (cI, 25, .inl LN))]) u) t.heap) A) args s 0 0 A = Q
  have F9 : CallFix p m c cX2_regionsOf 2 s args wsX2_regionsOf RX2 := ⟨hx, hb, hml, hown, hts⟩
  obtain ⟨g1, g2, g3, g4⟩ := id g
  have g5 := wh_le g
  have g6 := wh_pos g
  refine z_entry (R := rmX2_regionsOf) ha (Nat.le_of_ble_eq_true rfl) (fun ls hl => ?_)
  have hl : lv_has ls 2 [(0, .ref m0), (1, .int col)] := hl
  refine lv_aload_n hx hb dX2_regionsOf_0 rfl (lv_at hl 0 rfl) ?_
  refine lv_iconst (v := 0) hx hb dX2_regionsOf_1 (by decide) ?_
  refine va_put (D := (dC, dI)) (ci := 2) (v := .int 0) (ty := .int) (C := RX2) (T := TX2) (N := 14) hx hb hts iX2_regionsOf_X2 tyX2 tyX2_ok nmX2 hown hK hP hD hS 0 rfl rfl 0 (by decide) (hts (.fieldLink RX2 43 "ColourTideModel" "thrown" "I") (List.mem_of_getElem? (i := 1) rfl)) (fun _ h9 => h9) rfl (by decide +kernel) rfl rfl (Nat.le_of_ble_eq_true rfl) dX2_regionsOf_2 (fun H locs hP hD hS => ?_)
  have hP : va_P (dC, dI) vwCl [(m0, .inr (2, [.int 0, .int (nI wn), .int (nI hn), .int (nI q0), .int wv, .ref a1, .ref a2, .ref a3, .ref a4, .ref a5, .ref a6, .ref a7, .ref a8, .int mn])), (a1, .inl (cI, 25, .inl (kI K0))), (a2, .inl (cI, 25, .inl NX)), (a3, .inl (cZ, 25, .inl (zB T0))), (a4, .inl (cI, 100, .inl (bI wn hn))), (a5, .inl (cI, 25, .inl KP)), (a6, .inl (cI, 25, .inl RG)), (a7, .inl (cI, 26, .inl SZ)), (a8, .inl (cI, 25, .inl LN))] H := hP
  have hD : va_D A [(m0, .inr (2, [.int 0, .int (nI wn), .int (nI hn), .int (nI q0), .int wv, .ref a1, .ref a2, .ref a3, .ref a4, .ref a5, .ref a6, .ref a7, .ref a8, .int mn])), (a1, .inl (cI, 25, .inl (kI K0))), (a2, .inl (cI, 25, .inl NX)), (a3, .inl (cZ, 25, .inl (zB T0))), (a4, .inl (cI, 100, .inl (bI wn hn))), (a5, .inl (cI, 25, .inl KP)), (a6, .inl (cI, 25, .inl RG)), (a7, .inl (cI, 26, .inl SZ)), (a8, .inl (cI, 25, .inl LN))] := hD
  refine lv_iload_n hx hb dX2_regionsOf_5 rfl (lv_at hl 1 rfl) ?_
  refine z_callSi (As := [.int col]) (rest := []) F9 (m_X2_isColour l dC dI cI cZ cJ cD col ) (va_cwS 1 hts gX2_regionsOf_X2_isColour rfl rfl rfl (by decide +kernel) ⟨Nat.le_of_ble_eq_true rfl, Nat.le_of_ble_eq_true rfl⟩) hK hN hP hD hS hA rfl hl.1 rfl (Nat.le_of_ble_eq_true rfl) dX2_regionsOf_6 ⟨Nat.zero_le _, Nat.zero_le _⟩ (fun r_1 H locs hp_6 hP hS => ?_)
  have hp_6 : r_1 = if pCol col then 1 else 0 := hp_6
  refine z_topi (y := if pCol col then 1 else 0) hp_6 ?_
  refine lv_if_ne (tgt := 18) hx hb dX2_regionsOf_9 (by decide) (fun c_9 => ?_) (fun c_9 => ?_)
  · skip
    exact absurd (z_if1 c_9) hno
  · skip
    refine lv_aload_n hx hb dX2_regionsOf_12 rfl (lv_at hl 0 rfl) ?_
    refine lv_iconst (v := 1) hx hb dX2_regionsOf_13 (by decide) ?_
    refine z_callVi (As := [.int 1]) (rest := []) F9 (m_X2_fail l dC dI cI cZ cJ cD m0 a1 a2 a3 a4 a5 a6 a7 a8 0 wn hn q0 wv K0 NX T0 KP RG SZ LN mn 1 ) (cwV 1 hts gX2_regionsOf_X2_fail rfl rfl rfl (by decide +kernel) ⟨Nat.le_of_ble_eq_true rfl, Nat.le_of_ble_eq_true rfl⟩) hK hN hP hD hS hA [0, 1, 2, 3, 4, 5, 6, 7, 8] rfl rfl (fun _ => rfl) 0 (ci := 2) rfl rfl rfl rfl hl.1 rfl (Nat.le_of_ble_eq_true rfl) dX2_regionsOf_14 ⟨Nat.zero_le _, Nat.zero_le _⟩ (fun r_2 u H locs hp_14 hP hD hS => ?_)
    have hP : va_P (dC, dI) vwCl [(m0, .inr (2, [.int 1, .int (nI wn), .int (nI hn), .int (nI q0), .int wv, .ref a1, .ref a2, .ref a3, .ref a4, .ref a5, .ref a6, .ref a7, .ref a8, .int mn])), (a1, .inl (cI, 25, .inl (kI K0))), (a2, .inl (cI, 25, .inl NX)), (a3, .inl (cZ, 25, .inl (zB T0))), (a4, .inl (cI, 100, .inl (bI wn hn))), (a5, .inl (cI, 25, .inl KP)), (a6, .inl (cI, 25, .inl RG)), (a7, .inl (cI, 26, .inl SZ)), (a8, .inl (cI, 25, .inl LN))] H := hP
    have hD : va_D A [(m0, .inr (2, [.int 1, .int (nI wn), .int (nI hn), .int (nI q0), .int wv, .ref a1, .ref a2, .ref a3, .ref a4, .ref a5, .ref a6, .ref a7, .ref a8, .int mn])), (a1, .inl (cI, 25, .inl (kI K0))), (a2, .inl (cI, 25, .inl NX)), (a3, .inl (cZ, 25, .inl (zB T0))), (a4, .inl (cI, 100, .inl (bI wn hn))), (a5, .inl (cI, 25, .inl KP)), (a6, .inl (cI, 25, .inl RG)), (a7, .inl (cI, 26, .inl SZ)), (a8, .inl (cI, 25, .inl LN))] := hD
    have hp_14 : r_2 = 0 := hp_14
    refine z_topi (y := 0) hp_14 ?_
    rw [← hQ]
    exact z_iret (W1 := (fun (_ : Unit) => [(m0, .inr (2, [.int 1, .int (nI wn), .int (nI hn), .int (nI q0), .int wv, .ref a1, .ref a2, .ref a3, .ref a4, .ref a5, .ref a6, .ref a7, .ref a8, .int mn])), (a1, .inl (cI, 25, .inl (kI K0))), (a2, .inl (cI, 25, .inl NX)), (a3, .inl (cZ, 25, .inl (zB T0))), (a4, .inl (cI, 100, .inl (bI wn hn))), (a5, .inl (cI, 25, .inl KP)), (a6, .inl (cI, 25, .inl RG)), (a7, .inl (cI, 26, .inl SZ)), (a8, .inl (cI, 25, .inl LN))])) hx hb hr hlocks hP hS () (rfl) (trivial) dX2_regionsOf_17
abbrev rmX2_greatestRegion : Room := { frames := 2, cells := 0, slots := 0, locals := 56 }
set_option maxRecDepth 20000 in
theorem iX2_greatestRegion_X2 : ∀ w ∈ wsX20, w ∈ wsX2_greatestRegion := fun w h => (goodIn_r (big := wsX2_greatestRegion) wsX20 [45, 46, 47, 48, 49, 50, 51, 52, 53, 54, 55, 56, 57, 58] (by decide +kernel) (by decide +kernel) w h).1
set_option maxHeartbeats 4000000 in
set_option maxRecDepth 100000 in
theorem m_X2_greatestRegion_ok (l : Launch) (dC : Nat → ClassId) (dI : Nat → Nat → Nat) (cI cZ cJ cD : ClassId) (m0 : Nat) (a1 : Nat) (a2 : Nat) (a3 : Nat) (a4 : Nat) (a5 : Nat) (a6 : Nat) (a7 : Nat) (a8 : Nat) (th : Int32) (wn : Nat) (hn : Nat) (q0 : Nat) (wv : Int32) (K0 : Nat → Nat) (NX : Nat → Int32) (T0 : Nat → Bool) (KP : Nat → Int32) (RG : Nat → Int32) (SZ : Nat → Int32) (LN : Nat → Int32) (mn : Int32) (j0 : Nat) (g : gok wn hn) (hK4 : ∀ c, K0 c ≤ 4) (hj0 : j0 < 5) (hj1 : j0 ≠ 0) : zI l (dC, dI) (wT cI cZ cJ cD) yX2_greatestRegion wsX2_greatestRegion rmX2_greatestRegion [(m0, .inr (2, [.int th, .int (nI wn), .int (nI hn), .int (nI q0), .int wv, .ref a1, .ref a2, .ref a3, .ref a4, .ref a5, .ref a6, .ref a7, .ref a8, .int mn])), (a1, .inl (cI, 25, .inl (kI K0))), (a2, .inl (cI, 25, .inl NX)), (a3, .inl (cZ, 25, .inl (zB T0))), (a4, .inl (cI, 100, .inl (bI wn hn))), (a5, .inl (cI, 25, .inl KP)), (a6, .inl (cI, 25, .inl RG)), (a7, .inl (cI, 26, .inl SZ)), (a8, .inl (cI, 25, .inl LN))] [.ref m0, .int (nI j0)] (fun (u : (Nat → Int32) × (Nat → Int32) × (Nat → Int32) × Int32) => [(m0, .inr (2, [.int 0, .int (nI wn), .int (nI hn), .int (nI q0), .int wv, .ref a1, .ref a2, .ref a3, .ref a4, .ref a5, .ref a6, .ref a7, .ref a8, .int u.2.2.2])), (a1, .inl (cI, 25, .inl (kI K0))), (a2, .inl (cI, 25, .inl NX)), (a3, .inl (cZ, 25, .inl (zB T0))), (a4, .inl (cI, 100, .inl (bI wn hn))), (a5, .inl (cI, 25, .inl KP)), (a6, .inl (cI, 25, .inl u.1)), (a7, .inl (cI, 26, .inl u.2.1)), (a8, .inl (cI, 25, .inl u.2.2.1))]) (fun (r : Int32) (u : (Nat → Int32) × (Nat → Int32) × (Nat → Int32) × Int32) => r = nI (rmx wn hn K0 j0 (wn * hn))) := by
  intro sz
  refine Met.ofW (cc := cX2_greatestRegion) (maxL := 2) (ret := (some .int)) (by decide) rfl ?_
  intro p e s m args below meth c s₁ B hml hv
  obtain ⟨ha, hsz, hP, hK, hD0, hN⟩ := hv
  have hx := B.exec
  have hb := B.bytes
  have hr := B.returns
  have hts := atoms_spec (ws := wsX2_greatestRegion) B.pre
  have hown : s.vm.findClass RX2 = some m.cls := findClass_of_methodNamed B.named
  have hlocks := B.notSynchronized
  subst hsz
  have hD := hD0.self (sz := s.heap.size)
  generalize hAe : va_A [(m0, .inr (2, [.int th, .int (nI wn), .int (nI hn), .int (nI q0), .int wv, .ref a1, .ref a2, .ref a3, .ref a4, .ref a5, .ref a6, .ref a7, .ref a8, .int mn])), (a1, .inl (cI, 25, .inl (kI K0))), (a2, .inl (cI, 25, .inl NX)), (a3, .inl (cZ, 25, .inl (zB T0))), (a4, .inl (cI, 100, .inl (bI wn hn))), (a5, .inl (cI, 25, .inl KP)), (a6, .inl (cI, 25, .inl RG)), (a7, .inl (cI, 26, .inl SZ)), (a8, .inl (cI, 25, .inl LN))] s.heap.size = A at hD ⊢
  have hA : ∀ q : Nat, s.heap.size ≤ q → A q := fun q h => by rw [← hAe]; exact Or.inr h
  have hS : va_S A s.heap s.heap [] := va_S.rf
  generalize hQ : MQ below (va_Qi (fun (r : Int32) (u : (Nat → Int32) × (Nat → Int32) × (Nat → Int32) × Int32) => r = nI (rmx wn hn K0 j0 (wn * hn))) (fun u t => va_P (dC, dI) vwCl ((fun (u : (Nat → Int32) × (Nat → Int32) × (Nat → Int32) × Int32) => [(m0, .inr (2, [.int 0, .int (nI wn), .int (nI hn), .int (nI q0), .int wv, .ref a1, .ref a2, .ref a3, .ref a4, .ref a5, .ref a6, .ref a7, .ref a8, .int u.2.2.2])), (a1, .inl (cI, 25, .inl (kI K0))), (a2, .inl (cI, 25, .inl NX)), (a3, .inl (cZ, 25, .inl (zB T0))), (a4, .inl (cI, 100, .inl (bI wn hn))), (a5, .inl (cI, 25, .inl KP)), (a6, .inl (cI, 25, .inl u.1)), (a7, .inl (cI, 26, .inl u.2.1)), (a8, .inl (cI, 25, .inl u.2.2.1))]) u) t.heap) A) args s 0 0 A = Q
  have F9 : CallFix p m c cX2_greatestRegion 2 s args wsX2_greatestRegion RX2 := ⟨hx, hb, hml, hown, hts⟩
  obtain ⟨g1, g2, g3, g4⟩ := id g
  have g5 := wh_le g
  have g6 := wh_pos g
  refine z_entry (R := rmX2_greatestRegion) ha (Nat.le_of_ble_eq_true rfl) (fun ls hl => ?_)
  have hl : lv_has ls 2 [(0, .ref m0), (1, .int (nI j0))] := hl
  refine lv_aload_n hx hb dX2_greatestRegion_0 rfl (lv_at hl 0 rfl) ?_
  refine lv_iconst (v := 0) hx hb dX2_greatestRegion_1 (by decide) ?_
  refine va_put (D := (dC, dI)) (ci := 2) (v := .int 0) (ty := .int) (C := RX2) (T := TX2) (N := 14) hx hb hts iX2_greatestRegion_X2 tyX2 tyX2_ok nmX2 hown hK hP hD hS 0 rfl rfl 0 (by decide) (hts (.fieldLink RX2 43 "ColourTideModel" "thrown" "I") (List.mem_of_getElem? (i := 1) rfl)) (fun _ h9 => h9) rfl (by decide +kernel) rfl rfl (Nat.le_of_ble_eq_true rfl) dX2_greatestRegion_2 (fun H locs hP hD hS => ?_)
  have hP : va_P (dC, dI) vwCl [(m0, .inr (2, [.int 0, .int (nI wn), .int (nI hn), .int (nI q0), .int wv, .ref a1, .ref a2, .ref a3, .ref a4, .ref a5, .ref a6, .ref a7, .ref a8, .int mn])), (a1, .inl (cI, 25, .inl (kI K0))), (a2, .inl (cI, 25, .inl NX)), (a3, .inl (cZ, 25, .inl (zB T0))), (a4, .inl (cI, 100, .inl (bI wn hn))), (a5, .inl (cI, 25, .inl KP)), (a6, .inl (cI, 25, .inl RG)), (a7, .inl (cI, 26, .inl SZ)), (a8, .inl (cI, 25, .inl LN))] H := hP
  have hD : va_D A [(m0, .inr (2, [.int 0, .int (nI wn), .int (nI hn), .int (nI q0), .int wv, .ref a1, .ref a2, .ref a3, .ref a4, .ref a5, .ref a6, .ref a7, .ref a8, .int mn])), (a1, .inl (cI, 25, .inl (kI K0))), (a2, .inl (cI, 25, .inl NX)), (a3, .inl (cZ, 25, .inl (zB T0))), (a4, .inl (cI, 100, .inl (bI wn hn))), (a5, .inl (cI, 25, .inl KP)), (a6, .inl (cI, 25, .inl RG)), (a7, .inl (cI, 26, .inl SZ)), (a8, .inl (cI, 25, .inl LN))] := hD
  refine lv_iload_n hx hb dX2_greatestRegion_5 rfl (lv_at hl 1 rfl) ?_
  refine z_callSi (As := [.int (nI j0)]) (rest := []) F9 (m_X2_isColour l dC dI cI cZ cJ cD (nI j0) ) (va_cwS 1 hts gX2_greatestRegion_X2_isColour rfl rfl rfl (by decide +kernel) ⟨Nat.le_of_ble_eq_true rfl, Nat.le_of_ble_eq_true rfl⟩) hK hN hP hD hS hA rfl hl.1 rfl (Nat.le_of_ble_eq_true rfl) dX2_greatestRegion_6 ⟨Nat.zero_le _, Nat.zero_le _⟩ (fun r_1 H locs hp_6 hP hS => ?_)
  have hp_6 : r_1 = if pCol (nI j0) then 1 else 0 := hp_6
  refine z_topi (y := if pCol (nI j0) then 1 else 0) hp_6 ?_
  refine lv_if_ne (tgt := 18) hx hb dX2_greatestRegion_9 (by decide) (fun c_9 => ?_) (fun c_9 => ?_)
  · skip
    refine lv_aload_n hx hb dX2_greatestRegion_18 rfl (lv_at hl 0 rfl) ?_
    refine z_callVv (As := []) (rest := []) F9 (m_X2_hang l dC dI cI cZ cJ cD m0 a1 a2 a3 a4 a5 a6 a7 a8 0 wn hn q0 wv K0 NX T0 KP RG SZ LN mn (g) (hK4)) (cwV 0 hts gX2_greatestRegion_X2_hang rfl rfl rfl (by decide +kernel) ⟨Nat.le_of_ble_eq_true rfl, Nat.le_of_ble_eq_true rfl⟩) hK hN hP hD hS hA [0, 1, 2, 3, 4, 5, 6, 7, 8] rfl rfl (fun _ => rfl) 0 (ci := 2) rfl rfl rfl rfl hl.1 rfl (Nat.le_of_ble_eq_true rfl) dX2_greatestRegion_19 ⟨Nat.zero_le _, Nat.zero_le _⟩ (fun u H locs hp_19 hP hD hS => ?_)
    obtain ⟨Rq_3, SZq_4, LNq_5, mnq_6⟩ := u
    have hP : va_P (dC, dI) vwCl [(m0, .inr (2, [.int 0, .int (nI wn), .int (nI hn), .int (nI q0), .int wv, .ref a1, .ref a2, .ref a3, .ref a4, .ref a5, .ref a6, .ref a7, .ref a8, .int mnq_6])), (a1, .inl (cI, 25, .inl (kI K0))), (a2, .inl (cI, 25, .inl NX)), (a3, .inl (cZ, 25, .inl (zB T0))), (a4, .inl (cI, 100, .inl (bI wn hn))), (a5, .inl (cI, 25, .inl KP)), (a6, .inl (cI, 25, .inl (zfill (kI Rq_3) RG (wn * hn)))), (a7, .inl (cI, 26, .inl SZq_4)), (a8, .inl (cI, 25, .inl LNq_5))] H := hP
    have hD : va_D A [(m0, .inr (2, [.int 0, .int (nI wn), .int (nI hn), .int (nI q0), .int wv, .ref a1, .ref a2, .ref a3, .ref a4, .ref a5, .ref a6, .ref a7, .ref a8, .int mnq_6])), (a1, .inl (cI, 25, .inl (kI K0))), (a2, .inl (cI, 25, .inl NX)), (a3, .inl (cZ, 25, .inl (zB T0))), (a4, .inl (cI, 100, .inl (bI wn hn))), (a5, .inl (cI, 25, .inl KP)), (a6, .inl (cI, 25, .inl (zfill (kI Rq_3) RG (wn * hn)))), (a7, .inl (cI, 26, .inl SZq_4)), (a8, .inl (cI, 25, .inl LNq_5))] := hD
    have hp_19 : HgP wn hn K0 Rq_3 SZq_4 := hp_19
    refine lv_aload_n hx hb dX2_greatestRegion_22 rfl (lv_at hl 0 rfl) ?_
    refine lv_iload_n hx hb dX2_greatestRegion_23 rfl (lv_at hl 1 rfl) ?_
    refine lv_iconst (v := 1) hx hb dX2_greatestRegion_24 (by decide) ?_
    refine z_callVi (As := [.int (nI j0), .int 1]) (rest := []) F9 (m_X2_regions l dC dI cI cZ cJ cD m0 a1 a2 a3 a4 a5 a6 a7 a8 0 wn hn q0 wv K0 NX T0 KP RG SZq_4 LNq_5 mnq_6 Rq_3 j0 true (g) (hK4) (hj0) (hj1) (hp_19)) (cwV 2 hts gX2_greatestRegion_X2_regions rfl rfl rfl (by decide +kernel) ⟨Nat.le_of_ble_eq_true rfl, Nat.le_of_ble_eq_true rfl⟩) hK hN hP hD hS hA [0, 1, 2, 3, 4, 5, 6, 7, 8] rfl rfl (fun _ => rfl) 0 (ci := 2) rfl rfl rfl rfl hl.1 rfl (Nat.le_of_ble_eq_true rfl) dX2_greatestRegion_25 ⟨Nat.zero_le _, Nat.zero_le _⟩ (fun r_7 u H locs hp_25 hP hD hS => ?_)
    have hP : va_P (dC, dI) vwCl [(m0, .inr (2, [.int 0, .int (nI wn), .int (nI hn), .int (nI q0), .int wv, .ref a1, .ref a2, .ref a3, .ref a4, .ref a5, .ref a6, .ref a7, .ref a8, .int mnq_6])), (a1, .inl (cI, 25, .inl (kI K0))), (a2, .inl (cI, 25, .inl NX)), (a3, .inl (cZ, 25, .inl (zB T0))), (a4, .inl (cI, 100, .inl (bI wn hn))), (a5, .inl (cI, 25, .inl KP)), (a6, .inl (cI, 25, .inl (zfill (kI Rq_3) RG (wn * hn)))), (a7, .inl (cI, 26, .inl SZq_4)), (a8, .inl (cI, 25, .inl LNq_5))] H := hP
    have hD : va_D A [(m0, .inr (2, [.int 0, .int (nI wn), .int (nI hn), .int (nI q0), .int wv, .ref a1, .ref a2, .ref a3, .ref a4, .ref a5, .ref a6, .ref a7, .ref a8, .int mnq_6])), (a1, .inl (cI, 25, .inl (kI K0))), (a2, .inl (cI, 25, .inl NX)), (a3, .inl (cZ, 25, .inl (zB T0))), (a4, .inl (cI, 100, .inl (bI wn hn))), (a5, .inl (cI, 25, .inl KP)), (a6, .inl (cI, 25, .inl (zfill (kI Rq_3) RG (wn * hn)))), (a7, .inl (cI, 26, .inl SZq_4)), (a8, .inl (cI, 25, .inl LNq_5))] := hD
    have hp_25 : r_7 = nI (if true = true then rmx wn hn K0 j0 (wn * hn) else rsm wn hn K0 j0 (wn * hn)) := hp_25
    refine z_topi (y := nI (if true = true then rmx wn hn K0 j0 (wn * hn) else rsm wn hn K0 j0 (wn * hn))) hp_25 ?_
    refine z_topi (y := nI (rmx wn hn K0 j0 (wn * hn))) (rfl) ?_
    rw [← hQ]
    exact z_iret (W1 := (fun (u : (Nat → Int32) × (Nat → Int32) × (Nat → Int32) × Int32) => [(m0, .inr (2, [.int 0, .int (nI wn), .int (nI hn), .int (nI q0), .int wv, .ref a1, .ref a2, .ref a3, .ref a4, .ref a5, .ref a6, .ref a7, .ref a8, .int u.2.2.2])), (a1, .inl (cI, 25, .inl (kI K0))), (a2, .inl (cI, 25, .inl NX)), (a3, .inl (cZ, 25, .inl (zB T0))), (a4, .inl (cI, 100, .inl (bI wn hn))), (a5, .inl (cI, 25, .inl KP)), (a6, .inl (cI, 25, .inl u.1)), (a7, .inl (cI, 26, .inl u.2.1)), (a8, .inl (cI, 25, .inl u.2.2.1))])) hx hb hr hlocks hP hS (zfill (kI Rq_3) RG (wn * hn), SZq_4, LNq_5, mnq_6) (rfl) (rfl) dX2_greatestRegion_28
  · skip
    exact absurd (col_ok hj1 hj0) (z_if0 c_9)
set_option maxHeartbeats 4000000 in
set_option maxRecDepth 100000 in
theorem m_X2_greatestRegion_no (l : Launch) (dC : Nat → ClassId) (dI : Nat → Nat → Nat) (cI cZ cJ cD : ClassId) (m0 : Nat) (a1 : Nat) (a2 : Nat) (a3 : Nat) (a4 : Nat) (a5 : Nat) (a6 : Nat) (a7 : Nat) (a8 : Nat) (th : Int32) (wn : Nat) (hn : Nat) (q0 : Nat) (wv : Int32) (K0 : Nat → Nat) (NX : Nat → Int32) (T0 : Nat → Bool) (KP : Nat → Int32) (RG : Nat → Int32) (SZ : Nat → Int32) (LN : Nat → Int32) (mn : Int32) (col : Int32) (g : gok wn hn) (hK4 : ∀ c, K0 c ≤ 4) (hno : ¬ pCol col) : zI l (dC, dI) (wT cI cZ cJ cD) yX2_greatestRegion wsX2_greatestRegion rmX2_greatestRegion [(m0, .inr (2, [.int th, .int (nI wn), .int (nI hn), .int (nI q0), .int wv, .ref a1, .ref a2, .ref a3, .ref a4, .ref a5, .ref a6, .ref a7, .ref a8, .int mn])), (a1, .inl (cI, 25, .inl (kI K0))), (a2, .inl (cI, 25, .inl NX)), (a3, .inl (cZ, 25, .inl (zB T0))), (a4, .inl (cI, 100, .inl (bI wn hn))), (a5, .inl (cI, 25, .inl KP)), (a6, .inl (cI, 25, .inl RG)), (a7, .inl (cI, 26, .inl SZ)), (a8, .inl (cI, 25, .inl LN))] [.ref m0, .int col] (fun (_ : Unit) => [(m0, .inr (2, [.int 1, .int (nI wn), .int (nI hn), .int (nI q0), .int wv, .ref a1, .ref a2, .ref a3, .ref a4, .ref a5, .ref a6, .ref a7, .ref a8, .int mn])), (a1, .inl (cI, 25, .inl (kI K0))), (a2, .inl (cI, 25, .inl NX)), (a3, .inl (cZ, 25, .inl (zB T0))), (a4, .inl (cI, 100, .inl (bI wn hn))), (a5, .inl (cI, 25, .inl KP)), (a6, .inl (cI, 25, .inl RG)), (a7, .inl (cI, 26, .inl SZ)), (a8, .inl (cI, 25, .inl LN))]) (fun (r : Int32) (_ : Unit) => True) := by
  intro sz
  refine Met.ofW (cc := cX2_greatestRegion) (maxL := 2) (ret := (some .int)) (by decide) rfl ?_
  intro p e s m args below meth c s₁ B hml hv
  obtain ⟨ha, hsz, hP, hK, hD0, hN⟩ := hv
  have hx := B.exec
  have hb := B.bytes
  have hr := B.returns
  have hts := atoms_spec (ws := wsX2_greatestRegion) B.pre
  have hown : s.vm.findClass RX2 = some m.cls := findClass_of_methodNamed B.named
  have hlocks := B.notSynchronized
  subst hsz
  have hD := hD0.self (sz := s.heap.size)
  generalize hAe : va_A [(m0, .inr (2, [.int th, .int (nI wn), .int (nI hn), .int (nI q0), .int wv, .ref a1, .ref a2, .ref a3, .ref a4, .ref a5, .ref a6, .ref a7, .ref a8, .int mn])), (a1, .inl (cI, 25, .inl (kI K0))), (a2, .inl (cI, 25, .inl NX)), (a3, .inl (cZ, 25, .inl (zB T0))), (a4, .inl (cI, 100, .inl (bI wn hn))), (a5, .inl (cI, 25, .inl KP)), (a6, .inl (cI, 25, .inl RG)), (a7, .inl (cI, 26, .inl SZ)), (a8, .inl (cI, 25, .inl LN))] s.heap.size = A at hD ⊢
  have hA : ∀ q : Nat, s.heap.size ≤ q → A q := fun q h => by rw [← hAe]; exact Or.inr h
  have hS : va_S A s.heap s.heap [] := va_S.rf
  generalize hQ : MQ below (va_Qi (fun (r : Int32) (_ : Unit) => True) (fun u t => va_P (dC, dI) vwCl ((fun (_ : Unit) => [(m0, .inr (2, [.int 1, .int (nI wn), .int (nI hn), .int (nI q0), .int wv, .ref a1, .ref a2, .ref a3, .ref a4, .ref a5, .ref a6, .ref a7, .ref a8, .int mn])), (a1, .inl (cI, 25, .inl (kI K0))), (a2, .inl (cI, 25, .inl NX)), (a3, .inl (cZ, 25, .inl (zB T0))), (a4, .inl (cI, 100, .inl (bI wn hn))), (a5, .inl (cI, 25, .inl KP)), (a6, .inl (cI, 25, .inl RG)), (a7, .inl (cI, 26, .inl SZ)), (a8, .inl (cI, 25, .inl LN))]) u) t.heap) A) args s 0 0 A = Q
  have F9 : CallFix p m c cX2_greatestRegion 2 s args wsX2_greatestRegion RX2 := ⟨hx, hb, hml, hown, hts⟩
  obtain ⟨g1, g2, g3, g4⟩ := id g
  have g5 := wh_le g
  have g6 := wh_pos g
  refine z_entry (R := rmX2_greatestRegion) ha (Nat.le_of_ble_eq_true rfl) (fun ls hl => ?_)
  have hl : lv_has ls 2 [(0, .ref m0), (1, .int col)] := hl
  refine lv_aload_n hx hb dX2_greatestRegion_0 rfl (lv_at hl 0 rfl) ?_
  refine lv_iconst (v := 0) hx hb dX2_greatestRegion_1 (by decide) ?_
  refine va_put (D := (dC, dI)) (ci := 2) (v := .int 0) (ty := .int) (C := RX2) (T := TX2) (N := 14) hx hb hts iX2_greatestRegion_X2 tyX2 tyX2_ok nmX2 hown hK hP hD hS 0 rfl rfl 0 (by decide) (hts (.fieldLink RX2 43 "ColourTideModel" "thrown" "I") (List.mem_of_getElem? (i := 1) rfl)) (fun _ h9 => h9) rfl (by decide +kernel) rfl rfl (Nat.le_of_ble_eq_true rfl) dX2_greatestRegion_2 (fun H locs hP hD hS => ?_)
  have hP : va_P (dC, dI) vwCl [(m0, .inr (2, [.int 0, .int (nI wn), .int (nI hn), .int (nI q0), .int wv, .ref a1, .ref a2, .ref a3, .ref a4, .ref a5, .ref a6, .ref a7, .ref a8, .int mn])), (a1, .inl (cI, 25, .inl (kI K0))), (a2, .inl (cI, 25, .inl NX)), (a3, .inl (cZ, 25, .inl (zB T0))), (a4, .inl (cI, 100, .inl (bI wn hn))), (a5, .inl (cI, 25, .inl KP)), (a6, .inl (cI, 25, .inl RG)), (a7, .inl (cI, 26, .inl SZ)), (a8, .inl (cI, 25, .inl LN))] H := hP
  have hD : va_D A [(m0, .inr (2, [.int 0, .int (nI wn), .int (nI hn), .int (nI q0), .int wv, .ref a1, .ref a2, .ref a3, .ref a4, .ref a5, .ref a6, .ref a7, .ref a8, .int mn])), (a1, .inl (cI, 25, .inl (kI K0))), (a2, .inl (cI, 25, .inl NX)), (a3, .inl (cZ, 25, .inl (zB T0))), (a4, .inl (cI, 100, .inl (bI wn hn))), (a5, .inl (cI, 25, .inl KP)), (a6, .inl (cI, 25, .inl RG)), (a7, .inl (cI, 26, .inl SZ)), (a8, .inl (cI, 25, .inl LN))] := hD
  refine lv_iload_n hx hb dX2_greatestRegion_5 rfl (lv_at hl 1 rfl) ?_
  refine z_callSi (As := [.int col]) (rest := []) F9 (m_X2_isColour l dC dI cI cZ cJ cD col ) (va_cwS 1 hts gX2_greatestRegion_X2_isColour rfl rfl rfl (by decide +kernel) ⟨Nat.le_of_ble_eq_true rfl, Nat.le_of_ble_eq_true rfl⟩) hK hN hP hD hS hA rfl hl.1 rfl (Nat.le_of_ble_eq_true rfl) dX2_greatestRegion_6 ⟨Nat.zero_le _, Nat.zero_le _⟩ (fun r_1 H locs hp_6 hP hS => ?_)
  have hp_6 : r_1 = if pCol col then 1 else 0 := hp_6
  refine z_topi (y := if pCol col then 1 else 0) hp_6 ?_
  refine lv_if_ne (tgt := 18) hx hb dX2_greatestRegion_9 (by decide) (fun c_9 => ?_) (fun c_9 => ?_)
  · skip
    exact absurd (z_if1 c_9) hno
  · skip
    refine lv_aload_n hx hb dX2_greatestRegion_12 rfl (lv_at hl 0 rfl) ?_
    refine lv_iconst (v := 1) hx hb dX2_greatestRegion_13 (by decide) ?_
    refine z_callVi (As := [.int 1]) (rest := []) F9 (m_X2_fail l dC dI cI cZ cJ cD m0 a1 a2 a3 a4 a5 a6 a7 a8 0 wn hn q0 wv K0 NX T0 KP RG SZ LN mn 1 ) (cwV 1 hts gX2_greatestRegion_X2_fail rfl rfl rfl (by decide +kernel) ⟨Nat.le_of_ble_eq_true rfl, Nat.le_of_ble_eq_true rfl⟩) hK hN hP hD hS hA [0, 1, 2, 3, 4, 5, 6, 7, 8] rfl rfl (fun _ => rfl) 0 (ci := 2) rfl rfl rfl rfl hl.1 rfl (Nat.le_of_ble_eq_true rfl) dX2_greatestRegion_14 ⟨Nat.zero_le _, Nat.zero_le _⟩ (fun r_2 u H locs hp_14 hP hD hS => ?_)
    have hP : va_P (dC, dI) vwCl [(m0, .inr (2, [.int 1, .int (nI wn), .int (nI hn), .int (nI q0), .int wv, .ref a1, .ref a2, .ref a3, .ref a4, .ref a5, .ref a6, .ref a7, .ref a8, .int mn])), (a1, .inl (cI, 25, .inl (kI K0))), (a2, .inl (cI, 25, .inl NX)), (a3, .inl (cZ, 25, .inl (zB T0))), (a4, .inl (cI, 100, .inl (bI wn hn))), (a5, .inl (cI, 25, .inl KP)), (a6, .inl (cI, 25, .inl RG)), (a7, .inl (cI, 26, .inl SZ)), (a8, .inl (cI, 25, .inl LN))] H := hP
    have hD : va_D A [(m0, .inr (2, [.int 1, .int (nI wn), .int (nI hn), .int (nI q0), .int wv, .ref a1, .ref a2, .ref a3, .ref a4, .ref a5, .ref a6, .ref a7, .ref a8, .int mn])), (a1, .inl (cI, 25, .inl (kI K0))), (a2, .inl (cI, 25, .inl NX)), (a3, .inl (cZ, 25, .inl (zB T0))), (a4, .inl (cI, 100, .inl (bI wn hn))), (a5, .inl (cI, 25, .inl KP)), (a6, .inl (cI, 25, .inl RG)), (a7, .inl (cI, 26, .inl SZ)), (a8, .inl (cI, 25, .inl LN))] := hD
    have hp_14 : r_2 = 0 := hp_14
    refine z_topi (y := 0) hp_14 ?_
    rw [← hQ]
    exact z_iret (W1 := (fun (_ : Unit) => [(m0, .inr (2, [.int 1, .int (nI wn), .int (nI hn), .int (nI q0), .int wv, .ref a1, .ref a2, .ref a3, .ref a4, .ref a5, .ref a6, .ref a7, .ref a8, .int mn])), (a1, .inl (cI, 25, .inl (kI K0))), (a2, .inl (cI, 25, .inl NX)), (a3, .inl (cZ, 25, .inl (zB T0))), (a4, .inl (cI, 100, .inl (bI wn hn))), (a5, .inl (cI, 25, .inl KP)), (a6, .inl (cI, 25, .inl RG)), (a7, .inl (cI, 26, .inl SZ)), (a8, .inl (cI, 25, .inl LN))])) hx hb hr hlocks hP hS () (rfl) (trivial) dX2_greatestRegion_17
abbrev rmX2_wavesUntilStill : Room := { frames := 3, cells := 0, slots := 0, locals := 72 }
set_option maxRecDepth 20000 in
theorem iX2_wavesUntilStill_X2 : ∀ w ∈ wsX20, w ∈ wsX2_wavesUntilStill := fun w h => (goodIn_r (big := wsX2_wavesUntilStill) wsX20 [39, 40, 41, 42, 43, 44, 45, 46, 47, 48, 49, 50, 51, 52] (by decide +kernel) (by decide +kernel) w h).1
set_option maxHeartbeats 4000000 in
set_option maxRecDepth 100000 in
theorem m_X2_wavesUntilStill_ok (l : Launch) (dC : Nat → ClassId) (dI : Nat → Nat → Nat) (cI cZ cJ cD : ClassId) (m0 : Nat) (a1 : Nat) (a2 : Nat) (a3 : Nat) (a4 : Nat) (a5 : Nat) (a6 : Nat) (a7 : Nat) (a8 : Nat) (th : Int32) (wn : Nat) (hn : Nat) (q0 : Nat) (wv : Int32) (K0 : Nat → Nat) (NX : Nat → Int32) (T0 : Nat → Bool) (KP : Nat → Int32) (RG : Nat → Int32) (SZ : Nat → Int32) (LN : Nat → Int32) (mn : Int32) (g : gok wn hn) (hK4 : ∀ c, K0 c ≤ 4) (hq : 1 ≤ q0 ∧ q0 ≤ 4) : zI l (dC, dI) (wT cI cZ cJ cD) yX2_wavesUntilStill wsX2_wavesUntilStill rmX2_wavesUntilStill [(m0, .inr (2, [.int th, .int (nI wn), .int (nI hn), .int (nI q0), .int wv, .ref a1, .ref a2, .ref a3, .ref a4, .ref a5, .ref a6, .ref a7, .ref a8, .int mn])), (a1, .inl (cI, 25, .inl (kI K0))), (a2, .inl (cI, 25, .inl NX)), (a3, .inl (cZ, 25, .inl (zB T0))), (a4, .inl (cI, 100, .inl (bI wn hn))), (a5, .inl (cI, 25, .inl KP)), (a6, .inl (cI, 25, .inl RG)), (a7, .inl (cI, 26, .inl SZ)), (a8, .inl (cI, 25, .inl LN))] [.ref m0] (fun (u : (Nat → Int32)) => [(m0, .inr (2, [.int 0, .int (nI wn), .int (nI hn), .int (nI q0), .int wv, .ref a1, .ref a2, .ref a3, .ref a4, .ref a5, .ref a6, .ref a7, .ref a8, .int mn])), (a1, .inl (cI, 25, .inl (kI K0))), (a2, .inl (cI, 25, .inl u)), (a3, .inl (cZ, 25, .inl (zB T0))), (a4, .inl (cI, 100, .inl (bI wn hn))), (a5, .inl (cI, 25, .inl (kI K0))), (a6, .inl (cI, 25, .inl RG)), (a7, .inl (cI, 26, .inl SZ)), (a8, .inl (cI, 25, .inl LN))]) (fun (r : Int32) (u : (Nat → Int32)) => (r = -1 ∧ ∀ j, j < 41 → 0 < chg wn hn q0 T0 (wavN wn hn q0 T0 K0 j)) ∨ (∃ k, k ≤ 40 ∧ r = nI k ∧ chg wn hn q0 T0 (wavN wn hn q0 T0 K0 k) = 0 ∧ ∀ j, j < k → 0 < chg wn hn q0 T0 (wavN wn hn q0 T0 K0 j))) := by
  intro sz
  refine Met.ofW (cc := cX2_wavesUntilStill) (maxL := 2) (ret := (some .int)) (by decide) rfl ?_
  intro p e s m args below meth c s₁ B hml hv
  obtain ⟨ha, hsz, hP, hK, hD0, hN⟩ := hv
  have hx := B.exec
  have hb := B.bytes
  have hr := B.returns
  have hts := atoms_spec (ws := wsX2_wavesUntilStill) B.pre
  have hown : s.vm.findClass RX2 = some m.cls := findClass_of_methodNamed B.named
  have hlocks := B.notSynchronized
  subst hsz
  have hD := hD0.self (sz := s.heap.size)
  generalize hAe : va_A [(m0, .inr (2, [.int th, .int (nI wn), .int (nI hn), .int (nI q0), .int wv, .ref a1, .ref a2, .ref a3, .ref a4, .ref a5, .ref a6, .ref a7, .ref a8, .int mn])), (a1, .inl (cI, 25, .inl (kI K0))), (a2, .inl (cI, 25, .inl NX)), (a3, .inl (cZ, 25, .inl (zB T0))), (a4, .inl (cI, 100, .inl (bI wn hn))), (a5, .inl (cI, 25, .inl KP)), (a6, .inl (cI, 25, .inl RG)), (a7, .inl (cI, 26, .inl SZ)), (a8, .inl (cI, 25, .inl LN))] s.heap.size = A at hD ⊢
  have hA : ∀ q : Nat, s.heap.size ≤ q → A q := fun q h => by rw [← hAe]; exact Or.inr h
  have hS : va_S A s.heap s.heap [] := va_S.rf
  generalize hQ : MQ below (va_Qi (fun (r : Int32) (u : (Nat → Int32)) => (r = -1 ∧ ∀ j, j < 41 → 0 < chg wn hn q0 T0 (wavN wn hn q0 T0 K0 j)) ∨ (∃ k, k ≤ 40 ∧ r = nI k ∧ chg wn hn q0 T0 (wavN wn hn q0 T0 K0 k) = 0 ∧ ∀ j, j < k → 0 < chg wn hn q0 T0 (wavN wn hn q0 T0 K0 j))) (fun u t => va_P (dC, dI) vwCl ((fun (u : (Nat → Int32)) => [(m0, .inr (2, [.int 0, .int (nI wn), .int (nI hn), .int (nI q0), .int wv, .ref a1, .ref a2, .ref a3, .ref a4, .ref a5, .ref a6, .ref a7, .ref a8, .int mn])), (a1, .inl (cI, 25, .inl (kI K0))), (a2, .inl (cI, 25, .inl u)), (a3, .inl (cZ, 25, .inl (zB T0))), (a4, .inl (cI, 100, .inl (bI wn hn))), (a5, .inl (cI, 25, .inl (kI K0))), (a6, .inl (cI, 25, .inl RG)), (a7, .inl (cI, 26, .inl SZ)), (a8, .inl (cI, 25, .inl LN))]) u) t.heap) A) args s 0 0 A = Q
  have F9 : CallFix p m c cX2_wavesUntilStill 2 s args wsX2_wavesUntilStill RX2 := ⟨hx, hb, hml, hown, hts⟩
  obtain ⟨g1, g2, g3, g4⟩ := id g
  have g5 := wh_le g
  have g6 := wh_pos g
  refine z_entry (R := rmX2_wavesUntilStill) ha (Nat.le_of_ble_eq_true rfl) (fun ls hl => ?_)
  have hl : lv_has ls 2 [(0, .ref m0)] := hl
  refine lv_aload_n hx hb dX2_wavesUntilStill_0 rfl (lv_at hl 0 rfl) ?_
  refine lv_iconst (v := 0) hx hb dX2_wavesUntilStill_1 (by decide) ?_
  refine va_put (D := (dC, dI)) (ci := 2) (v := .int 0) (ty := .int) (C := RX2) (T := TX2) (N := 14) hx hb hts iX2_wavesUntilStill_X2 tyX2 tyX2_ok nmX2 hown hK hP hD hS 0 rfl rfl 0 (by decide) (hts (.fieldLink RX2 43 "ColourTideModel" "thrown" "I") (List.mem_of_getElem? (i := 1) rfl)) (fun _ h9 => h9) rfl (by decide +kernel) rfl rfl (Nat.le_of_ble_eq_true rfl) dX2_wavesUntilStill_2 (fun H locs hP hD hS => ?_)
  have hP : va_P (dC, dI) vwCl [(m0, .inr (2, [.int 0, .int (nI wn), .int (nI hn), .int (nI q0), .int wv, .ref a1, .ref a2, .ref a3, .ref a4, .ref a5, .ref a6, .ref a7, .ref a8, .int mn])), (a1, .inl (cI, 25, .inl (kI K0))), (a2, .inl (cI, 25, .inl NX)), (a3, .inl (cZ, 25, .inl (zB T0))), (a4, .inl (cI, 100, .inl (bI wn hn))), (a5, .inl (cI, 25, .inl KP)), (a6, .inl (cI, 25, .inl RG)), (a7, .inl (cI, 26, .inl SZ)), (a8, .inl (cI, 25, .inl LN))] H := hP
  have hD : va_D A [(m0, .inr (2, [.int 0, .int (nI wn), .int (nI hn), .int (nI q0), .int wv, .ref a1, .ref a2, .ref a3, .ref a4, .ref a5, .ref a6, .ref a7, .ref a8, .int mn])), (a1, .inl (cI, 25, .inl (kI K0))), (a2, .inl (cI, 25, .inl NX)), (a3, .inl (cZ, 25, .inl (zB T0))), (a4, .inl (cI, 100, .inl (bI wn hn))), (a5, .inl (cI, 25, .inl KP)), (a6, .inl (cI, 25, .inl RG)), (a7, .inl (cI, 26, .inl SZ)), (a8, .inl (cI, 25, .inl LN))] := hD
  refine lv_aload_n hx hb dX2_wavesUntilStill_5 rfl (lv_at hl 0 rfl) ?_
  refine z_callVv (As := []) (rest := []) F9 (m_X2_keep l dC dI cI cZ cJ cD m0 a1 a2 a3 a4 a5 a6 a7 a8 0 wn hn q0 wv K0 NX T0 KP RG SZ LN mn ) (cwV 0 hts gX2_wavesUntilStill_X2_keep rfl rfl rfl (by decide +kernel) ⟨Nat.le_of_ble_eq_true rfl, Nat.le_of_ble_eq_true rfl⟩) hK hN hP hD hS hA [0, 1, 2, 3, 4, 5, 6, 7, 8] rfl rfl (fun _ => rfl) 0 (ci := 2) rfl rfl rfl rfl hl.1 rfl (Nat.le_of_ble_eq_true rfl) dX2_wavesUntilStill_6 ⟨Nat.zero_le _, Nat.zero_le _⟩ (fun u H locs hp_6 hP hD hS => ?_)
  have hP : va_P (dC, dI) vwCl [(m0, .inr (2, [.int 0, .int (nI wn), .int (nI hn), .int (nI q0), .int wv, .ref a1, .ref a2, .ref a3, .ref a4, .ref a5, .ref a6, .ref a7, .ref a8, .int mn])), (a1, .inl (cI, 25, .inl (kI K0))), (a2, .inl (cI, 25, .inl NX)), (a3, .inl (cZ, 25, .inl (zB T0))), (a4, .inl (cI, 100, .inl (bI wn hn))), (a5, .inl (cI, 25, .inl (kI K0))), (a6, .inl (cI, 25, .inl RG)), (a7, .inl (cI, 26, .inl SZ)), (a8, .inl (cI, 25, .inl LN))] H := hP
  have hD : va_D A [(m0, .inr (2, [.int 0, .int (nI wn), .int (nI hn), .int (nI q0), .int wv, .ref a1, .ref a2, .ref a3, .ref a4, .ref a5, .ref a6, .ref a7, .ref a8, .int mn])), (a1, .inl (cI, 25, .inl (kI K0))), (a2, .inl (cI, 25, .inl NX)), (a3, .inl (cZ, 25, .inl (zB T0))), (a4, .inl (cI, 100, .inl (bI wn hn))), (a5, .inl (cI, 25, .inl (kI K0))), (a6, .inl (cI, 25, .inl RG)), (a7, .inl (cI, 26, .inl SZ)), (a8, .inl (cI, 25, .inl LN))] := hD
  refine lv_iconst (v := 0) hx hb dX2_wavesUntilStill_9 (by decide) ?_
  refine lv_istore_n (lv' := [(1, .int 0), (0, .ref m0)]) hx hb dX2_wavesUntilStill_10 rfl hl (by decide) rfl (fun ls hl => ?_)
  have loop_11 : ∀ (n : Nat) (i : Nat) (NX1 : Nat → Int32) (hkn : i + n = 41) (e1 : ∀ j, j < i → 0 < chg wn hn q0 T0 (wavN wn hn q0 T0 K0 j)) (H : Heap) (locs : List Loc) (ls : Array Slot) (hP : va_P (dC, dI) vwCl [(m0, .inr (2, [.int 0, .int (nI wn), .int (nI hn), .int (nI q0), .int wv, .ref a1, .ref a2, .ref a3, .ref a4, .ref a5, .ref a6, .ref a7, .ref a8, .int mn])), (a1, .inl (cI, 25, .inl (kI (wavN wn hn q0 T0 K0 i)))), (a2, .inl (cI, 25, .inl NX1)), (a3, .inl (cZ, 25, .inl (zB T0))), (a4, .inl (cI, 100, .inl (bI wn hn))), (a5, .inl (cI, 25, .inl (kI K0))), (a6, .inl (cI, 25, .inl RG)), (a7, .inl (cI, 26, .inl SZ)), (a8, .inl (cI, 25, .inl LN))] H) (hD : va_D A [(m0, .inr (2, [.int 0, .int (nI wn), .int (nI hn), .int (nI q0), .int wv, .ref a1, .ref a2, .ref a3, .ref a4, .ref a5, .ref a6, .ref a7, .ref a8, .int mn])), (a1, .inl (cI, 25, .inl (kI (wavN wn hn q0 T0 K0 i)))), (a2, .inl (cI, 25, .inl NX1)), (a3, .inl (cZ, 25, .inl (zB T0))), (a4, .inl (cI, 100, .inl (bI wn hn))), (a5, .inl (cI, 25, .inl (kI K0))), (a6, .inl (cI, 25, .inl RG)), (a7, .inl (cI, 26, .inl SZ)), (a8, .inl (cI, 25, .inl LN))]) (hS : va_S A s.heap H locs) (hl : lv_has ls 2 [(0, .ref m0), (1, .int (nI i))]), W p l e rmX2_wavesUntilStill s m args below meth c H locs 0 0 Q (F0 m 11 ls []) := by
    intro n
    induction n with
    | zero =>
      intro i NX1 hkn e1 H locs ls hP hD hS hl
      refine lv_iload_n hx hb dX2_wavesUntilStill_11 rfl (lv_at hl 1 rfl) ?_
      refine lv_bipush (v := 40) hx hb dX2_wavesUntilStill_12 (by decide +kernel) ?_
      refine lv_icmp_gt (tgt := 30) hx hb dX2_wavesUntilStill_14 (by decide) (fun c_14 => ?_) (fun c_14 => ?_)
      · skip
        have n_14 := zc_lt_t (a := 40) (b := i) (by omega) (by omega) c_14
        refine lv_aload_n hx hb dX2_wavesUntilStill_30 rfl (lv_at hl 0 rfl) ?_
        refine z_callVv (As := []) (rest := []) F9 (m_X2_bringBack l dC dI cI cZ cJ cD m0 a1 a2 a3 a4 a5 a6 a7 a8 0 wn hn q0 wv (wavN wn hn q0 T0 K0 i) NX1 T0 RG SZ LN mn K0 ) (cwV 0 hts gX2_wavesUntilStill_X2_bringBack rfl rfl rfl (by decide +kernel) ⟨Nat.le_of_ble_eq_true rfl, Nat.le_of_ble_eq_true rfl⟩) hK hN hP hD hS hA [0, 1, 2, 3, 4, 5, 6, 7, 8] rfl rfl (fun _ => rfl) 0 (ci := 2) rfl rfl rfl rfl hl.1 rfl (Nat.le_of_ble_eq_true rfl) dX2_wavesUntilStill_31 ⟨Nat.zero_le _, Nat.zero_le _⟩ (fun u H locs hp_31 hP hD hS => ?_)
        have hP : va_P (dC, dI) vwCl [(m0, .inr (2, [.int 0, .int (nI wn), .int (nI hn), .int (nI q0), .int wv, .ref a1, .ref a2, .ref a3, .ref a4, .ref a5, .ref a6, .ref a7, .ref a8, .int mn])), (a1, .inl (cI, 25, .inl (kI K0))), (a2, .inl (cI, 25, .inl NX1)), (a3, .inl (cZ, 25, .inl (zB T0))), (a4, .inl (cI, 100, .inl (bI wn hn))), (a5, .inl (cI, 25, .inl (kI K0))), (a6, .inl (cI, 25, .inl RG)), (a7, .inl (cI, 26, .inl SZ)), (a8, .inl (cI, 25, .inl LN))] H := hP
        have hD : va_D A [(m0, .inr (2, [.int 0, .int (nI wn), .int (nI hn), .int (nI q0), .int wv, .ref a1, .ref a2, .ref a3, .ref a4, .ref a5, .ref a6, .ref a7, .ref a8, .int mn])), (a1, .inl (cI, 25, .inl (kI K0))), (a2, .inl (cI, 25, .inl NX1)), (a3, .inl (cZ, 25, .inl (zB T0))), (a4, .inl (cI, 100, .inl (bI wn hn))), (a5, .inl (cI, 25, .inl (kI K0))), (a6, .inl (cI, 25, .inl RG)), (a7, .inl (cI, 26, .inl SZ)), (a8, .inl (cI, 25, .inl LN))] := hD
        refine lv_iload_n hx hb dX2_wavesUntilStill_34 rfl (lv_at hl 1 rfl) ?_
        refine lv_bipush (v := 40) hx hb dX2_wavesUntilStill_35 (by decide +kernel) ?_
        refine lv_icmp_le (tgt := 44) hx hb dX2_wavesUntilStill_37 (by decide) (fun c_37 => ?_) (fun c_37 => ?_)
        · skip
          have n_37 := zc_le_t (a := i) (b := 40) (by omega) (by omega) c_37
          refine lv_iload_n hx hb dX2_wavesUntilStill_44 rfl (lv_at hl 1 rfl) ?_
          rw [← hQ]
          exact z_iret (W1 := (fun (u : (Nat → Int32)) => [(m0, .inr (2, [.int 0, .int (nI wn), .int (nI hn), .int (nI q0), .int wv, .ref a1, .ref a2, .ref a3, .ref a4, .ref a5, .ref a6, .ref a7, .ref a8, .int mn])), (a1, .inl (cI, 25, .inl (kI K0))), (a2, .inl (cI, 25, .inl u)), (a3, .inl (cZ, 25, .inl (zB T0))), (a4, .inl (cI, 100, .inl (bI wn hn))), (a5, .inl (cI, 25, .inl (kI K0))), (a6, .inl (cI, 25, .inl RG)), (a7, .inl (cI, 26, .inl SZ)), (a8, .inl (cI, 25, .inl LN))])) hx hb hr hlocks hP hS NX1 (rfl) (Or.inr ⟨i, by omega, rfl, by omega, e1⟩) dX2_wavesUntilStill_45
        · skip
          have n_37 := zc_le_f (a := i) (b := 40) (by omega) (by omega) c_37
          refine lv_iconst (v := (-1)) hx hb dX2_wavesUntilStill_40 (by decide) ?_
          refine lv_goto (tgt := 45) hx hb dX2_wavesUntilStill_41 (by decide) ?_
          rw [← hQ]
          exact z_iret (W1 := (fun (u : (Nat → Int32)) => [(m0, .inr (2, [.int 0, .int (nI wn), .int (nI hn), .int (nI q0), .int wv, .ref a1, .ref a2, .ref a3, .ref a4, .ref a5, .ref a6, .ref a7, .ref a8, .int mn])), (a1, .inl (cI, 25, .inl (kI K0))), (a2, .inl (cI, 25, .inl u)), (a3, .inl (cZ, 25, .inl (zB T0))), (a4, .inl (cI, 100, .inl (bI wn hn))), (a5, .inl (cI, 25, .inl (kI K0))), (a6, .inl (cI, 25, .inl RG)), (a7, .inl (cI, 26, .inl SZ)), (a8, .inl (cI, 25, .inl LN))])) hx hb hr hlocks hP hS NX1 (rfl) (Or.inl ⟨rfl, fun j hj => e1 j (by omega)⟩) dX2_wavesUntilStill_45
      · skip
        have n_14 := zc_lt_f (a := 40) (b := i) (by omega) (by omega) c_14
        exact absurd n_14 (by omega)
    | succ n ih_11 =>
      intro i NX1 hkn e1 H locs ls hP hD hS hl
      refine lv_iload_n hx hb dX2_wavesUntilStill_11 rfl (lv_at hl 1 rfl) ?_
      refine lv_bipush (v := 40) hx hb dX2_wavesUntilStill_12 (by decide +kernel) ?_
      refine lv_icmp_gt (tgt := 30) hx hb dX2_wavesUntilStill_14 (by decide) (fun c_14 => ?_) (fun c_14 => ?_)
      · skip
        have n_14 := zc_lt_t (a := 40) (b := i) (by omega) (by omega) c_14
        exact absurd n_14 (by omega)
      · skip
        have n_14 := zc_lt_f (a := 40) (b := i) (by omega) (by omega) c_14
        refine lv_aload_n hx hb dX2_wavesUntilStill_17 rfl (lv_at hl 0 rfl) ?_
        refine z_callVi (As := []) (rest := []) F9 (m_X2_wave l dC dI cI cZ cJ cD m0 a1 a2 a3 a4 a5 a6 a7 a8 0 wn hn q0 wv (wavN wn hn q0 T0 K0 i) NX1 T0 (kI K0) RG SZ LN mn (g) (wavN_le hq.1 hK4 i) (hq)) (cwV 0 hts gX2_wavesUntilStill_X2_wave rfl rfl rfl (by decide +kernel) ⟨Nat.le_of_ble_eq_true rfl, Nat.le_of_ble_eq_true rfl⟩) hK hN hP hD hS hA [0, 1, 2, 3, 4, 5, 6, 7, 8] rfl rfl (fun _ => rfl) 0 (ci := 2) rfl rfl rfl rfl hl.1 rfl (Nat.le_of_ble_eq_true rfl) dX2_wavesUntilStill_18 ⟨Nat.zero_le _, Nat.zero_le _⟩ (fun r_3 u H locs hp_18 hP hD hS => ?_)
        obtain ⟨NXq_4, rfl⟩ : ∃ z, z = u := ⟨_, rfl⟩
        have hP : va_P (dC, dI) vwCl [(m0, .inr (2, [.int 0, .int (nI wn), .int (nI hn), .int (nI q0), .int wv, .ref a1, .ref a2, .ref a3, .ref a4, .ref a5, .ref a6, .ref a7, .ref a8, .int mn])), (a1, .inl (cI, 25, .inl (kI (wav wn hn q0 T0 (wavN wn hn q0 T0 K0 i))))), (a2, .inl (cI, 25, .inl NXq_4)), (a3, .inl (cZ, 25, .inl (zB T0))), (a4, .inl (cI, 100, .inl (bI wn hn))), (a5, .inl (cI, 25, .inl (kI K0))), (a6, .inl (cI, 25, .inl RG)), (a7, .inl (cI, 26, .inl SZ)), (a8, .inl (cI, 25, .inl LN))] H := hP
        have hD : va_D A [(m0, .inr (2, [.int 0, .int (nI wn), .int (nI hn), .int (nI q0), .int wv, .ref a1, .ref a2, .ref a3, .ref a4, .ref a5, .ref a6, .ref a7, .ref a8, .int mn])), (a1, .inl (cI, 25, .inl (kI (wav wn hn q0 T0 (wavN wn hn q0 T0 K0 i))))), (a2, .inl (cI, 25, .inl NXq_4)), (a3, .inl (cZ, 25, .inl (zB T0))), (a4, .inl (cI, 100, .inl (bI wn hn))), (a5, .inl (cI, 25, .inl (kI K0))), (a6, .inl (cI, 25, .inl RG)), (a7, .inl (cI, 26, .inl SZ)), (a8, .inl (cI, 25, .inl LN))] := hD
        have hp_18 : r_3 = nI (chg wn hn q0 T0 (wavN wn hn q0 T0 K0 i)) := hp_18
        refine z_topi (y := nI (chg wn hn q0 T0 (wavN wn hn q0 T0 K0 i))) hp_18 ?_
        refine lv_if_le (tgt := 30) hx hb dX2_wavesUntilStill_21 (by decide) (fun c_21 => ?_) (fun c_21 => ?_)
        · skip
          have n_21 := zc_le_t (a := (chg wn hn q0 T0 (wavN wn hn q0 T0 K0 i))) (b := 0) (by have := chg_le wn hn q0 T0 (wavN wn hn q0 T0 K0 i); omega) (by have := chg_le wn hn q0 T0 (wavN wn hn q0 T0 K0 i); omega) c_21
          refine lv_aload_n hx hb dX2_wavesUntilStill_30 rfl (lv_at hl 0 rfl) ?_
          refine z_callVv (As := []) (rest := []) F9 (m_X2_bringBack l dC dI cI cZ cJ cD m0 a1 a2 a3 a4 a5 a6 a7 a8 0 wn hn q0 wv (wav wn hn q0 T0 (wavN wn hn q0 T0 K0 i)) NXq_4 T0 RG SZ LN mn K0 ) (cwV 0 hts gX2_wavesUntilStill_X2_bringBack rfl rfl rfl (by decide +kernel) ⟨Nat.le_of_ble_eq_true rfl, Nat.le_of_ble_eq_true rfl⟩) hK hN hP hD hS hA [0, 1, 2, 3, 4, 5, 6, 7, 8] rfl rfl (fun _ => rfl) 0 (ci := 2) rfl rfl rfl rfl hl.1 rfl (Nat.le_of_ble_eq_true rfl) dX2_wavesUntilStill_31 ⟨Nat.zero_le _, Nat.zero_le _⟩ (fun u H locs hp_31 hP hD hS => ?_)
          have hP : va_P (dC, dI) vwCl [(m0, .inr (2, [.int 0, .int (nI wn), .int (nI hn), .int (nI q0), .int wv, .ref a1, .ref a2, .ref a3, .ref a4, .ref a5, .ref a6, .ref a7, .ref a8, .int mn])), (a1, .inl (cI, 25, .inl (kI K0))), (a2, .inl (cI, 25, .inl NXq_4)), (a3, .inl (cZ, 25, .inl (zB T0))), (a4, .inl (cI, 100, .inl (bI wn hn))), (a5, .inl (cI, 25, .inl (kI K0))), (a6, .inl (cI, 25, .inl RG)), (a7, .inl (cI, 26, .inl SZ)), (a8, .inl (cI, 25, .inl LN))] H := hP
          have hD : va_D A [(m0, .inr (2, [.int 0, .int (nI wn), .int (nI hn), .int (nI q0), .int wv, .ref a1, .ref a2, .ref a3, .ref a4, .ref a5, .ref a6, .ref a7, .ref a8, .int mn])), (a1, .inl (cI, 25, .inl (kI K0))), (a2, .inl (cI, 25, .inl NXq_4)), (a3, .inl (cZ, 25, .inl (zB T0))), (a4, .inl (cI, 100, .inl (bI wn hn))), (a5, .inl (cI, 25, .inl (kI K0))), (a6, .inl (cI, 25, .inl RG)), (a7, .inl (cI, 26, .inl SZ)), (a8, .inl (cI, 25, .inl LN))] := hD
          refine lv_iload_n hx hb dX2_wavesUntilStill_34 rfl (lv_at hl 1 rfl) ?_
          refine lv_bipush (v := 40) hx hb dX2_wavesUntilStill_35 (by decide +kernel) ?_
          refine lv_icmp_le (tgt := 44) hx hb dX2_wavesUntilStill_37 (by decide) (fun c_37 => ?_) (fun c_37 => ?_)
          · skip
            have n_37 := zc_le_t (a := i) (b := 40) (by omega) (by omega) c_37
            refine lv_iload_n hx hb dX2_wavesUntilStill_44 rfl (lv_at hl 1 rfl) ?_
            rw [← hQ]
            exact z_iret (W1 := (fun (u : (Nat → Int32)) => [(m0, .inr (2, [.int 0, .int (nI wn), .int (nI hn), .int (nI q0), .int wv, .ref a1, .ref a2, .ref a3, .ref a4, .ref a5, .ref a6, .ref a7, .ref a8, .int mn])), (a1, .inl (cI, 25, .inl (kI K0))), (a2, .inl (cI, 25, .inl u)), (a3, .inl (cZ, 25, .inl (zB T0))), (a4, .inl (cI, 100, .inl (bI wn hn))), (a5, .inl (cI, 25, .inl (kI K0))), (a6, .inl (cI, 25, .inl RG)), (a7, .inl (cI, 26, .inl SZ)), (a8, .inl (cI, 25, .inl LN))])) hx hb hr hlocks hP hS NXq_4 (rfl) (Or.inr ⟨i, by omega, rfl, by omega, e1⟩) dX2_wavesUntilStill_45
          · skip
            have n_37 := zc_le_f (a := i) (b := 40) (by omega) (by omega) c_37
            refine lv_iconst (v := (-1)) hx hb dX2_wavesUntilStill_40 (by decide) ?_
            refine lv_goto (tgt := 45) hx hb dX2_wavesUntilStill_41 (by decide) ?_
            rw [← hQ]
            exact z_iret (W1 := (fun (u : (Nat → Int32)) => [(m0, .inr (2, [.int 0, .int (nI wn), .int (nI hn), .int (nI q0), .int wv, .ref a1, .ref a2, .ref a3, .ref a4, .ref a5, .ref a6, .ref a7, .ref a8, .int mn])), (a1, .inl (cI, 25, .inl (kI K0))), (a2, .inl (cI, 25, .inl u)), (a3, .inl (cZ, 25, .inl (zB T0))), (a4, .inl (cI, 100, .inl (bI wn hn))), (a5, .inl (cI, 25, .inl (kI K0))), (a6, .inl (cI, 25, .inl RG)), (a7, .inl (cI, 26, .inl SZ)), (a8, .inl (cI, 25, .inl LN))])) hx hb hr hlocks hP hS NXq_4 (rfl) (Or.inl ⟨rfl, fun j hj => e1 j (by omega)⟩) dX2_wavesUntilStill_45
        · skip
          have n_21 := zc_le_f (a := (chg wn hn q0 T0 (wavN wn hn q0 T0 K0 i))) (b := 0) (by have := chg_le wn hn q0 T0 (wavN wn hn q0 T0 K0 i); omega) (by have := chg_le wn hn q0 T0 (wavN wn hn q0 T0 K0 i); omega) c_21
          refine lv_iinc (v := nI (i + 1)) (lv' := [(1, .int (nI (i + 1))), (0, .ref m0)]) hx hb dX2_wavesUntilStill_24 hl (k := 1) rfl (nI_1 i) (by decide) rfl (fun ls hl => ?_)
          refine lv_goto (tgt := 11) hx hb dX2_wavesUntilStill_27 (by decide) ?_
          exact ih_11 (i + 1) NXq_4 (by omega) (z_lts e1 n_21) _ _ _ hP hD hS (lv_sub hl [1, 0] rfl)
  exact loop_11 41 0 NX (by omega) (fun j hj => absurd hj (Nat.not_lt_zero j)) _ _ _ hP hD hS (lv_sub hl [1, 0] rfl)
abbrev rmX2_cellsAfter : Room := { frames := 4, cells := 0, slots := 0, locals := 95 }
set_option maxRecDepth 20000 in
theorem iX2_cellsAfter_X2 : ∀ w ∈ wsX20, w ∈ wsX2_cellsAfter := fun w h => (goodIn_r (big := wsX2_cellsAfter) wsX20 [57, 58, 59, 60, 61, 62, 63, 64, 65, 66, 67, 68, 69, 70] (by decide +kernel) (by decide +kernel) w h).1
set_option maxHeartbeats 4000000 in
set_option maxRecDepth 100000 in
theorem m_X2_cellsAfter_ok (l : Launch) (dC : Nat → ClassId) (dI : Nat → Nat → Nat) (cI cZ cJ cD : ClassId) (m0 : Nat) (a1 : Nat) (a2 : Nat) (a3 : Nat) (a4 : Nat) (a5 : Nat) (a6 : Nat) (a7 : Nat) (a8 : Nat) (th : Int32) (wn : Nat) (hn : Nat) (q0 : Nat) (wv : Int32) (K0 : Nat → Nat) (NX : Nat → Int32) (T0 : Nat → Bool) (KP : Nat → Int32) (RG : Nat → Int32) (SZ : Nat → Int32) (LN : Nat → Int32) (mn : Int32) (n9 : Nat) (j0 : Nat) (g : gok wn hn) (hK4 : ∀ c, K0 c ≤ 4) (hq : 1 ≤ q0 ∧ q0 ≤ 4) (hn9 : 1 ≤ n9 ∧ n9 ≤ 40) (hj0 : j0 < 5) : zI l (dC, dI) (wT cI cZ cJ cD) yX2_cellsAfter wsX2_cellsAfter rmX2_cellsAfter [(m0, .inr (2, [.int th, .int (nI wn), .int (nI hn), .int (nI q0), .int wv, .ref a1, .ref a2, .ref a3, .ref a4, .ref a5, .ref a6, .ref a7, .ref a8, .int mn])), (a1, .inl (cI, 25, .inl (kI K0))), (a2, .inl (cI, 25, .inl NX)), (a3, .inl (cZ, 25, .inl (zB T0))), (a4, .inl (cI, 100, .inl (bI wn hn))), (a5, .inl (cI, 25, .inl KP)), (a6, .inl (cI, 25, .inl RG)), (a7, .inl (cI, 26, .inl SZ)), (a8, .inl (cI, 25, .inl LN))] [.ref m0, .int (nI n9), .int (nI j0)] (fun (u : (Nat → Int32)) => [(m0, .inr (2, [.int 0, .int (nI wn), .int (nI hn), .int (nI q0), .int wv, .ref a1, .ref a2, .ref a3, .ref a4, .ref a5, .ref a6, .ref a7, .ref a8, .int mn])), (a1, .inl (cI, 25, .inl (kI K0))), (a2, .inl (cI, 25, .inl u)), (a3, .inl (cZ, 25, .inl (zB T0))), (a4, .inl (cI, 100, .inl (bI wn hn))), (a5, .inl (cI, 25, .inl (kI K0))), (a6, .inl (cI, 25, .inl RG)), (a7, .inl (cI, 26, .inl SZ)), (a8, .inl (cI, 25, .inl LN))]) (fun (r : Int32) (u : (Nat → Int32)) => r = nI (ccN (wavN wn hn q0 T0 K0 n9) j0 (wn * hn))) := by
  intro sz
  refine Met.ofW (cc := cX2_cellsAfter) (maxL := 3) (ret := (some .int)) (by decide) rfl ?_
  intro p e s m args below meth c s₁ B hml hv
  obtain ⟨ha, hsz, hP, hK, hD0, hN⟩ := hv
  have hx := B.exec
  have hb := B.bytes
  have hr := B.returns
  have hts := atoms_spec (ws := wsX2_cellsAfter) B.pre
  have hown : s.vm.findClass RX2 = some m.cls := findClass_of_methodNamed B.named
  have hlocks := B.notSynchronized
  subst hsz
  have hD := hD0.self (sz := s.heap.size)
  generalize hAe : va_A [(m0, .inr (2, [.int th, .int (nI wn), .int (nI hn), .int (nI q0), .int wv, .ref a1, .ref a2, .ref a3, .ref a4, .ref a5, .ref a6, .ref a7, .ref a8, .int mn])), (a1, .inl (cI, 25, .inl (kI K0))), (a2, .inl (cI, 25, .inl NX)), (a3, .inl (cZ, 25, .inl (zB T0))), (a4, .inl (cI, 100, .inl (bI wn hn))), (a5, .inl (cI, 25, .inl KP)), (a6, .inl (cI, 25, .inl RG)), (a7, .inl (cI, 26, .inl SZ)), (a8, .inl (cI, 25, .inl LN))] s.heap.size = A at hD ⊢
  have hA : ∀ q : Nat, s.heap.size ≤ q → A q := fun q h => by rw [← hAe]; exact Or.inr h
  have hS : va_S A s.heap s.heap [] := va_S.rf
  generalize hQ : MQ below (va_Qi (fun (r : Int32) (u : (Nat → Int32)) => r = nI (ccN (wavN wn hn q0 T0 K0 n9) j0 (wn * hn))) (fun u t => va_P (dC, dI) vwCl ((fun (u : (Nat → Int32)) => [(m0, .inr (2, [.int 0, .int (nI wn), .int (nI hn), .int (nI q0), .int wv, .ref a1, .ref a2, .ref a3, .ref a4, .ref a5, .ref a6, .ref a7, .ref a8, .int mn])), (a1, .inl (cI, 25, .inl (kI K0))), (a2, .inl (cI, 25, .inl u)), (a3, .inl (cZ, 25, .inl (zB T0))), (a4, .inl (cI, 100, .inl (bI wn hn))), (a5, .inl (cI, 25, .inl (kI K0))), (a6, .inl (cI, 25, .inl RG)), (a7, .inl (cI, 26, .inl SZ)), (a8, .inl (cI, 25, .inl LN))]) u) t.heap) A) args s 0 0 A = Q
  have F9 : CallFix p m c cX2_cellsAfter 3 s args wsX2_cellsAfter RX2 := ⟨hx, hb, hml, hown, hts⟩
  obtain ⟨g1, g2, g3, g4⟩ := id g
  have g5 := wh_le g
  have g6 := wh_pos g
  refine z_entry (R := rmX2_cellsAfter) ha (Nat.le_of_ble_eq_true rfl) (fun ls hl => ?_)
  have hl : lv_has ls 3 [(0, .ref m0), (1, .int (nI n9)), (2, .int (nI j0))] := hl
  refine lv_aload_n hx hb dX2_cellsAfter_0 rfl (lv_at hl 0 rfl) ?_
  refine lv_iconst (v := 0) hx hb dX2_cellsAfter_1 (by decide) ?_
  refine va_put (D := (dC, dI)) (ci := 2) (v := .int 0) (ty := .int) (C := RX2) (T := TX2) (N := 14) hx hb hts iX2_cellsAfter_X2 tyX2 tyX2_ok nmX2 hown hK hP hD hS 0 rfl rfl 0 (by decide) (hts (.fieldLink RX2 43 "ColourTideModel" "thrown" "I") (List.mem_of_getElem? (i := 1) rfl)) (fun _ h9 => h9) rfl (by decide +kernel) rfl rfl (Nat.le_of_ble_eq_true rfl) dX2_cellsAfter_2 (fun H locs hP hD hS => ?_)
  have hP : va_P (dC, dI) vwCl [(m0, .inr (2, [.int 0, .int (nI wn), .int (nI hn), .int (nI q0), .int wv, .ref a1, .ref a2, .ref a3, .ref a4, .ref a5, .ref a6, .ref a7, .ref a8, .int mn])), (a1, .inl (cI, 25, .inl (kI K0))), (a2, .inl (cI, 25, .inl NX)), (a3, .inl (cZ, 25, .inl (zB T0))), (a4, .inl (cI, 100, .inl (bI wn hn))), (a5, .inl (cI, 25, .inl KP)), (a6, .inl (cI, 25, .inl RG)), (a7, .inl (cI, 26, .inl SZ)), (a8, .inl (cI, 25, .inl LN))] H := hP
  have hD : va_D A [(m0, .inr (2, [.int 0, .int (nI wn), .int (nI hn), .int (nI q0), .int wv, .ref a1, .ref a2, .ref a3, .ref a4, .ref a5, .ref a6, .ref a7, .ref a8, .int mn])), (a1, .inl (cI, 25, .inl (kI K0))), (a2, .inl (cI, 25, .inl NX)), (a3, .inl (cZ, 25, .inl (zB T0))), (a4, .inl (cI, 100, .inl (bI wn hn))), (a5, .inl (cI, 25, .inl KP)), (a6, .inl (cI, 25, .inl RG)), (a7, .inl (cI, 26, .inl SZ)), (a8, .inl (cI, 25, .inl LN))] := hD
  refine lv_iload_n hx hb dX2_cellsAfter_5 rfl (lv_at hl 1 rfl) ?_
  refine lv_iconst (v := 1) hx hb dX2_cellsAfter_6 (by decide) ?_
  refine lv_bipush (v := 40) hx hb dX2_cellsAfter_7 (by decide +kernel) ?_
  refine z_callSi (As := [.int (nI n9), .int 1, .int 40]) (rest := []) F9 (m_X2_isIn l dC dI cI cZ cJ cD (nI n9) 1 40 ) (va_cwS 3 hts gX2_cellsAfter_X2_isIn rfl rfl rfl (by decide +kernel) ⟨Nat.le_of_ble_eq_true rfl, Nat.le_of_ble_eq_true rfl⟩) hK hN hP hD hS hA rfl hl.1 rfl (Nat.le_of_ble_eq_true rfl) dX2_cellsAfter_9 ⟨Nat.zero_le _, Nat.zero_le _⟩ (fun r_1 H locs hp_9 hP hS => ?_)
  have hp_9 : r_1 = if pIn (nI n9) 1 40 then 1 else 0 := hp_9
  refine z_topi (y := if pIn (nI n9) 1 40 then 1 else 0) hp_9 ?_
  refine lv_if_ne (tgt := 21) hx hb dX2_cellsAfter_12 (by decide) (fun c_12 => ?_) (fun c_12 => ?_)
  · skip
    refine lv_iload_n hx hb dX2_cellsAfter_21 rfl (lv_at hl 2 rfl) ?_
    refine z_callSi (As := [.int (nI j0)]) (rest := []) F9 (m_X2_isAny l dC dI cI cZ cJ cD (nI j0) ) (va_cwS 1 hts gX2_cellsAfter_X2_isAny rfl rfl rfl (by decide +kernel) ⟨Nat.le_of_ble_eq_true rfl, Nat.le_of_ble_eq_true rfl⟩) hK hN hP hD hS hA rfl hl.1 rfl (Nat.le_of_ble_eq_true rfl) dX2_cellsAfter_22 ⟨Nat.zero_le _, Nat.zero_le _⟩ (fun r_2 H locs hp_22 hP hS => ?_)
    have hp_22 : r_2 = if pAny (nI j0) then 1 else 0 := hp_22
    refine z_topi (y := if pAny (nI j0) then 1 else 0) hp_22 ?_
    refine lv_if_ne (tgt := 34) hx hb dX2_cellsAfter_25 (by decide) (fun c_25 => ?_) (fun c_25 => ?_)
    · skip
      refine lv_aload_n hx hb dX2_cellsAfter_34 rfl (lv_at hl 0 rfl) ?_
      refine z_callVv (As := []) (rest := []) F9 (m_X2_keep l dC dI cI cZ cJ cD m0 a1 a2 a3 a4 a5 a6 a7 a8 0 wn hn q0 wv K0 NX T0 KP RG SZ LN mn ) (cwV 0 hts gX2_cellsAfter_X2_keep rfl rfl rfl (by decide +kernel) ⟨Nat.le_of_ble_eq_true rfl, Nat.le_of_ble_eq_true rfl⟩) hK hN hP hD hS hA [0, 1, 2, 3, 4, 5, 6, 7, 8] rfl rfl (fun _ => rfl) 0 (ci := 2) rfl rfl rfl rfl hl.1 rfl (Nat.le_of_ble_eq_true rfl) dX2_cellsAfter_35 ⟨Nat.zero_le _, Nat.zero_le _⟩ (fun u H locs hp_35 hP hD hS => ?_)
      have hP : va_P (dC, dI) vwCl [(m0, .inr (2, [.int 0, .int (nI wn), .int (nI hn), .int (nI q0), .int wv, .ref a1, .ref a2, .ref a3, .ref a4, .ref a5, .ref a6, .ref a7, .ref a8, .int mn])), (a1, .inl (cI, 25, .inl (kI K0))), (a2, .inl (cI, 25, .inl NX)), (a3, .inl (cZ, 25, .inl (zB T0))), (a4, .inl (cI, 100, .inl (bI wn hn))), (a5, .inl (cI, 25, .inl (kI K0))), (a6, .inl (cI, 25, .inl RG)), (a7, .inl (cI, 26, .inl SZ)), (a8, .inl (cI, 25, .inl LN))] H := hP
      have hD : va_D A [(m0, .inr (2, [.int 0, .int (nI wn), .int (nI hn), .int (nI q0), .int wv, .ref a1, .ref a2, .ref a3, .ref a4, .ref a5, .ref a6, .ref a7, .ref a8, .int mn])), (a1, .inl (cI, 25, .inl (kI K0))), (a2, .inl (cI, 25, .inl NX)), (a3, .inl (cZ, 25, .inl (zB T0))), (a4, .inl (cI, 100, .inl (bI wn hn))), (a5, .inl (cI, 25, .inl (kI K0))), (a6, .inl (cI, 25, .inl RG)), (a7, .inl (cI, 26, .inl SZ)), (a8, .inl (cI, 25, .inl LN))] := hD
      refine lv_aload_n hx hb dX2_cellsAfter_38 rfl (lv_at hl 0 rfl) ?_
      refine lv_iload_n hx hb dX2_cellsAfter_39 rfl (lv_at hl 1 rfl) ?_
      refine lv_iload_n hx hb dX2_cellsAfter_40 rfl (lv_at hl 2 rfl) ?_
      refine z_callVi (As := [.int (nI n9), .int (nI j0)]) (rest := []) F9 (m_X2_after l dC dI cI cZ cJ cD m0 a1 a2 a3 a4 a5 a6 a7 a8 0 wn hn q0 wv K0 NX T0 RG SZ LN mn n9 j0 K0 (g) (hK4) (hq) (hj0) (by omega)) (cwV 2 hts gX2_cellsAfter_X2_after rfl rfl rfl (by decide +kernel) ⟨Nat.le_of_ble_eq_true rfl, Nat.le_of_ble_eq_true rfl⟩) hK hN hP hD hS hA [0, 1, 2, 3, 4, 5, 6, 7, 8] rfl rfl (fun _ => rfl) 0 (ci := 2) rfl rfl rfl rfl hl.1 rfl (Nat.le_of_ble_eq_true rfl) dX2_cellsAfter_41 ⟨Nat.zero_le _, Nat.zero_le _⟩ (fun r_4 u H locs hp_41 hP hD hS => ?_)
      obtain ⟨NXq_5, rfl⟩ : ∃ z, z = u := ⟨_, rfl⟩
      have hP : va_P (dC, dI) vwCl [(m0, .inr (2, [.int 0, .int (nI wn), .int (nI hn), .int (nI q0), .int wv, .ref a1, .ref a2, .ref a3, .ref a4, .ref a5, .ref a6, .ref a7, .ref a8, .int mn])), (a1, .inl (cI, 25, .inl (kI K0))), (a2, .inl (cI, 25, .inl NXq_5)), (a3, .inl (cZ, 25, .inl (zB T0))), (a4, .inl (cI, 100, .inl (bI wn hn))), (a5, .inl (cI, 25, .inl (kI K0))), (a6, .inl (cI, 25, .inl RG)), (a7, .inl (cI, 26, .inl SZ)), (a8, .inl (cI, 25, .inl LN))] H := hP
      have hD : va_D A [(m0, .inr (2, [.int 0, .int (nI wn), .int (nI hn), .int (nI q0), .int wv, .ref a1, .ref a2, .ref a3, .ref a4, .ref a5, .ref a6, .ref a7, .ref a8, .int mn])), (a1, .inl (cI, 25, .inl (kI K0))), (a2, .inl (cI, 25, .inl NXq_5)), (a3, .inl (cZ, 25, .inl (zB T0))), (a4, .inl (cI, 100, .inl (bI wn hn))), (a5, .inl (cI, 25, .inl (kI K0))), (a6, .inl (cI, 25, .inl RG)), (a7, .inl (cI, 26, .inl SZ)), (a8, .inl (cI, 25, .inl LN))] := hD
      have hp_41 : r_4 = nI (ccN (wavN wn hn q0 T0 K0 n9) j0 (wn * hn)) := hp_41
      refine z_topi (y := nI (ccN (wavN wn hn q0 T0 K0 n9) j0 (wn * hn))) hp_41 ?_
      rw [← hQ]
      exact z_iret (W1 := (fun (u : (Nat → Int32)) => [(m0, .inr (2, [.int 0, .int (nI wn), .int (nI hn), .int (nI q0), .int wv, .ref a1, .ref a2, .ref a3, .ref a4, .ref a5, .ref a6, .ref a7, .ref a8, .int mn])), (a1, .inl (cI, 25, .inl (kI K0))), (a2, .inl (cI, 25, .inl u)), (a3, .inl (cZ, 25, .inl (zB T0))), (a4, .inl (cI, 100, .inl (bI wn hn))), (a5, .inl (cI, 25, .inl (kI K0))), (a6, .inl (cI, 25, .inl RG)), (a7, .inl (cI, 26, .inl SZ)), (a8, .inl (cI, 25, .inl LN))])) hx hb hr hlocks hP hS NXq_5 (rfl) (rfl) dX2_cellsAfter_44
    · skip
      exact absurd (any_ok hj0) (z_if0 c_25)
  · skip
    exact absurd (pin_ok (lo := 1) (hi := 40) hn9.1 hn9.2 (by omega)) (z_if0 c_12)
set_option maxHeartbeats 4000000 in
set_option maxRecDepth 100000 in
theorem m_X2_cellsAfter_no (l : Launch) (dC : Nat → ClassId) (dI : Nat → Nat → Nat) (cI cZ cJ cD : ClassId) (m0 : Nat) (a1 : Nat) (a2 : Nat) (a3 : Nat) (a4 : Nat) (a5 : Nat) (a6 : Nat) (a7 : Nat) (a8 : Nat) (th : Int32) (wn : Nat) (hn : Nat) (q0 : Nat) (wv : Int32) (K0 : Nat → Nat) (NX : Nat → Int32) (T0 : Nat → Bool) (KP : Nat → Int32) (RG : Nat → Int32) (SZ : Nat → Int32) (LN : Nat → Int32) (mn : Int32) (x0 : Int32) (col : Int32) (g : gok wn hn) (hK4 : ∀ c, K0 c ≤ 4) (hno : ¬ pIn x0 1 40) : zI l (dC, dI) (wT cI cZ cJ cD) yX2_cellsAfter wsX2_cellsAfter rmX2_cellsAfter [(m0, .inr (2, [.int th, .int (nI wn), .int (nI hn), .int (nI q0), .int wv, .ref a1, .ref a2, .ref a3, .ref a4, .ref a5, .ref a6, .ref a7, .ref a8, .int mn])), (a1, .inl (cI, 25, .inl (kI K0))), (a2, .inl (cI, 25, .inl NX)), (a3, .inl (cZ, 25, .inl (zB T0))), (a4, .inl (cI, 100, .inl (bI wn hn))), (a5, .inl (cI, 25, .inl KP)), (a6, .inl (cI, 25, .inl RG)), (a7, .inl (cI, 26, .inl SZ)), (a8, .inl (cI, 25, .inl LN))] [.ref m0, .int x0, .int col] (fun (_ : Unit) => [(m0, .inr (2, [.int 1, .int (nI wn), .int (nI hn), .int (nI q0), .int wv, .ref a1, .ref a2, .ref a3, .ref a4, .ref a5, .ref a6, .ref a7, .ref a8, .int mn])), (a1, .inl (cI, 25, .inl (kI K0))), (a2, .inl (cI, 25, .inl NX)), (a3, .inl (cZ, 25, .inl (zB T0))), (a4, .inl (cI, 100, .inl (bI wn hn))), (a5, .inl (cI, 25, .inl KP)), (a6, .inl (cI, 25, .inl RG)), (a7, .inl (cI, 26, .inl SZ)), (a8, .inl (cI, 25, .inl LN))]) (fun (r : Int32) (_ : Unit) => True) := by
  intro sz
  refine Met.ofW (cc := cX2_cellsAfter) (maxL := 3) (ret := (some .int)) (by decide) rfl ?_
  intro p e s m args below meth c s₁ B hml hv
  obtain ⟨ha, hsz, hP, hK, hD0, hN⟩ := hv
  have hx := B.exec
  have hb := B.bytes
  have hr := B.returns
  have hts := atoms_spec (ws := wsX2_cellsAfter) B.pre
  have hown : s.vm.findClass RX2 = some m.cls := findClass_of_methodNamed B.named
  have hlocks := B.notSynchronized
  subst hsz
  have hD := hD0.self (sz := s.heap.size)
  generalize hAe : va_A [(m0, .inr (2, [.int th, .int (nI wn), .int (nI hn), .int (nI q0), .int wv, .ref a1, .ref a2, .ref a3, .ref a4, .ref a5, .ref a6, .ref a7, .ref a8, .int mn])), (a1, .inl (cI, 25, .inl (kI K0))), (a2, .inl (cI, 25, .inl NX)), (a3, .inl (cZ, 25, .inl (zB T0))), (a4, .inl (cI, 100, .inl (bI wn hn))), (a5, .inl (cI, 25, .inl KP)), (a6, .inl (cI, 25, .inl RG)), (a7, .inl (cI, 26, .inl SZ)), (a8, .inl (cI, 25, .inl LN))] s.heap.size = A at hD ⊢
  have hA : ∀ q : Nat, s.heap.size ≤ q → A q := fun q h => by rw [← hAe]; exact Or.inr h
  have hS : va_S A s.heap s.heap [] := va_S.rf
  generalize hQ : MQ below (va_Qi (fun (r : Int32) (_ : Unit) => True) (fun u t => va_P (dC, dI) vwCl ((fun (_ : Unit) => [(m0, .inr (2, [.int 1, .int (nI wn), .int (nI hn), .int (nI q0), .int wv, .ref a1, .ref a2, .ref a3, .ref a4, .ref a5, .ref a6, .ref a7, .ref a8, .int mn])), (a1, .inl (cI, 25, .inl (kI K0))), (a2, .inl (cI, 25, .inl NX)), (a3, .inl (cZ, 25, .inl (zB T0))), (a4, .inl (cI, 100, .inl (bI wn hn))), (a5, .inl (cI, 25, .inl KP)), (a6, .inl (cI, 25, .inl RG)), (a7, .inl (cI, 26, .inl SZ)), (a8, .inl (cI, 25, .inl LN))]) u) t.heap) A) args s 0 0 A = Q
  have F9 : CallFix p m c cX2_cellsAfter 3 s args wsX2_cellsAfter RX2 := ⟨hx, hb, hml, hown, hts⟩
  obtain ⟨g1, g2, g3, g4⟩ := id g
  have g5 := wh_le g
  have g6 := wh_pos g
  refine z_entry (R := rmX2_cellsAfter) ha (Nat.le_of_ble_eq_true rfl) (fun ls hl => ?_)
  have hl : lv_has ls 3 [(0, .ref m0), (1, .int x0), (2, .int col)] := hl
  refine lv_aload_n hx hb dX2_cellsAfter_0 rfl (lv_at hl 0 rfl) ?_
  refine lv_iconst (v := 0) hx hb dX2_cellsAfter_1 (by decide) ?_
  refine va_put (D := (dC, dI)) (ci := 2) (v := .int 0) (ty := .int) (C := RX2) (T := TX2) (N := 14) hx hb hts iX2_cellsAfter_X2 tyX2 tyX2_ok nmX2 hown hK hP hD hS 0 rfl rfl 0 (by decide) (hts (.fieldLink RX2 43 "ColourTideModel" "thrown" "I") (List.mem_of_getElem? (i := 1) rfl)) (fun _ h9 => h9) rfl (by decide +kernel) rfl rfl (Nat.le_of_ble_eq_true rfl) dX2_cellsAfter_2 (fun H locs hP hD hS => ?_)
  have hP : va_P (dC, dI) vwCl [(m0, .inr (2, [.int 0, .int (nI wn), .int (nI hn), .int (nI q0), .int wv, .ref a1, .ref a2, .ref a3, .ref a4, .ref a5, .ref a6, .ref a7, .ref a8, .int mn])), (a1, .inl (cI, 25, .inl (kI K0))), (a2, .inl (cI, 25, .inl NX)), (a3, .inl (cZ, 25, .inl (zB T0))), (a4, .inl (cI, 100, .inl (bI wn hn))), (a5, .inl (cI, 25, .inl KP)), (a6, .inl (cI, 25, .inl RG)), (a7, .inl (cI, 26, .inl SZ)), (a8, .inl (cI, 25, .inl LN))] H := hP
  have hD : va_D A [(m0, .inr (2, [.int 0, .int (nI wn), .int (nI hn), .int (nI q0), .int wv, .ref a1, .ref a2, .ref a3, .ref a4, .ref a5, .ref a6, .ref a7, .ref a8, .int mn])), (a1, .inl (cI, 25, .inl (kI K0))), (a2, .inl (cI, 25, .inl NX)), (a3, .inl (cZ, 25, .inl (zB T0))), (a4, .inl (cI, 100, .inl (bI wn hn))), (a5, .inl (cI, 25, .inl KP)), (a6, .inl (cI, 25, .inl RG)), (a7, .inl (cI, 26, .inl SZ)), (a8, .inl (cI, 25, .inl LN))] := hD
  refine lv_iload_n hx hb dX2_cellsAfter_5 rfl (lv_at hl 1 rfl) ?_
  refine lv_iconst (v := 1) hx hb dX2_cellsAfter_6 (by decide) ?_
  refine lv_bipush (v := 40) hx hb dX2_cellsAfter_7 (by decide +kernel) ?_
  refine z_callSi (As := [.int x0, .int 1, .int 40]) (rest := []) F9 (m_X2_isIn l dC dI cI cZ cJ cD x0 1 40 ) (va_cwS 3 hts gX2_cellsAfter_X2_isIn rfl rfl rfl (by decide +kernel) ⟨Nat.le_of_ble_eq_true rfl, Nat.le_of_ble_eq_true rfl⟩) hK hN hP hD hS hA rfl hl.1 rfl (Nat.le_of_ble_eq_true rfl) dX2_cellsAfter_9 ⟨Nat.zero_le _, Nat.zero_le _⟩ (fun r_1 H locs hp_9 hP hS => ?_)
  have hp_9 : r_1 = if pIn x0 1 40 then 1 else 0 := hp_9
  refine z_topi (y := if pIn x0 1 40 then 1 else 0) hp_9 ?_
  refine lv_if_ne (tgt := 21) hx hb dX2_cellsAfter_12 (by decide) (fun c_12 => ?_) (fun c_12 => ?_)
  · skip
    exact absurd (z_if1 c_12) hno
  · skip
    refine lv_aload_n hx hb dX2_cellsAfter_15 rfl (lv_at hl 0 rfl) ?_
    refine lv_iconst (v := 1) hx hb dX2_cellsAfter_16 (by decide) ?_
    refine z_callVi (As := [.int 1]) (rest := []) F9 (m_X2_fail l dC dI cI cZ cJ cD m0 a1 a2 a3 a4 a5 a6 a7 a8 0 wn hn q0 wv K0 NX T0 KP RG SZ LN mn 1 ) (cwV 1 hts gX2_cellsAfter_X2_fail rfl rfl rfl (by decide +kernel) ⟨Nat.le_of_ble_eq_true rfl, Nat.le_of_ble_eq_true rfl⟩) hK hN hP hD hS hA [0, 1, 2, 3, 4, 5, 6, 7, 8] rfl rfl (fun _ => rfl) 0 (ci := 2) rfl rfl rfl rfl hl.1 rfl (Nat.le_of_ble_eq_true rfl) dX2_cellsAfter_17 ⟨Nat.zero_le _, Nat.zero_le _⟩ (fun r_2 u H locs hp_17 hP hD hS => ?_)
    have hP : va_P (dC, dI) vwCl [(m0, .inr (2, [.int 1, .int (nI wn), .int (nI hn), .int (nI q0), .int wv, .ref a1, .ref a2, .ref a3, .ref a4, .ref a5, .ref a6, .ref a7, .ref a8, .int mn])), (a1, .inl (cI, 25, .inl (kI K0))), (a2, .inl (cI, 25, .inl NX)), (a3, .inl (cZ, 25, .inl (zB T0))), (a4, .inl (cI, 100, .inl (bI wn hn))), (a5, .inl (cI, 25, .inl KP)), (a6, .inl (cI, 25, .inl RG)), (a7, .inl (cI, 26, .inl SZ)), (a8, .inl (cI, 25, .inl LN))] H := hP
    have hD : va_D A [(m0, .inr (2, [.int 1, .int (nI wn), .int (nI hn), .int (nI q0), .int wv, .ref a1, .ref a2, .ref a3, .ref a4, .ref a5, .ref a6, .ref a7, .ref a8, .int mn])), (a1, .inl (cI, 25, .inl (kI K0))), (a2, .inl (cI, 25, .inl NX)), (a3, .inl (cZ, 25, .inl (zB T0))), (a4, .inl (cI, 100, .inl (bI wn hn))), (a5, .inl (cI, 25, .inl KP)), (a6, .inl (cI, 25, .inl RG)), (a7, .inl (cI, 26, .inl SZ)), (a8, .inl (cI, 25, .inl LN))] := hD
    have hp_17 : r_2 = 0 := hp_17
    refine z_topi (y := 0) hp_17 ?_
    rw [← hQ]
    exact z_iret (W1 := (fun (_ : Unit) => [(m0, .inr (2, [.int 1, .int (nI wn), .int (nI hn), .int (nI q0), .int wv, .ref a1, .ref a2, .ref a3, .ref a4, .ref a5, .ref a6, .ref a7, .ref a8, .int mn])), (a1, .inl (cI, 25, .inl (kI K0))), (a2, .inl (cI, 25, .inl NX)), (a3, .inl (cZ, 25, .inl (zB T0))), (a4, .inl (cI, 100, .inl (bI wn hn))), (a5, .inl (cI, 25, .inl KP)), (a6, .inl (cI, 25, .inl RG)), (a7, .inl (cI, 26, .inl SZ)), (a8, .inl (cI, 25, .inl LN))])) hx hb hr hlocks hP hS () (rfl) (trivial) dX2_cellsAfter_20
set_option maxHeartbeats 4000000 in
set_option maxRecDepth 100000 in
theorem m_X2_cellsAfter_no2 (l : Launch) (dC : Nat → ClassId) (dI : Nat → Nat → Nat) (cI cZ cJ cD : ClassId) (m0 : Nat) (a1 : Nat) (a2 : Nat) (a3 : Nat) (a4 : Nat) (a5 : Nat) (a6 : Nat) (a7 : Nat) (a8 : Nat) (th : Int32) (wn : Nat) (hn : Nat) (q0 : Nat) (wv : Int32) (K0 : Nat → Nat) (NX : Nat → Int32) (T0 : Nat → Bool) (KP : Nat → Int32) (RG : Nat → Int32) (SZ : Nat → Int32) (LN : Nat → Int32) (mn : Int32) (x0 : Int32) (col : Int32) (g : gok wn hn) (hK4 : ∀ c, K0 c ≤ 4) (hin : pIn x0 1 40) (hno : ¬ pAny col) : zI l (dC, dI) (wT cI cZ cJ cD) yX2_cellsAfter wsX2_cellsAfter rmX2_cellsAfter [(m0, .inr (2, [.int th, .int (nI wn), .int (nI hn), .int (nI q0), .int wv, .ref a1, .ref a2, .ref a3, .ref a4, .ref a5, .ref a6, .ref a7, .ref a8, .int mn])), (a1, .inl (cI, 25, .inl (kI K0))), (a2, .inl (cI, 25, .inl NX)), (a3, .inl (cZ, 25, .inl (zB T0))), (a4, .inl (cI, 100, .inl (bI wn hn))), (a5, .inl (cI, 25, .inl KP)), (a6, .inl (cI, 25, .inl RG)), (a7, .inl (cI, 26, .inl SZ)), (a8, .inl (cI, 25, .inl LN))] [.ref m0, .int x0, .int col] (fun (_ : Unit) => [(m0, .inr (2, [.int 2, .int (nI wn), .int (nI hn), .int (nI q0), .int wv, .ref a1, .ref a2, .ref a3, .ref a4, .ref a5, .ref a6, .ref a7, .ref a8, .int mn])), (a1, .inl (cI, 25, .inl (kI K0))), (a2, .inl (cI, 25, .inl NX)), (a3, .inl (cZ, 25, .inl (zB T0))), (a4, .inl (cI, 100, .inl (bI wn hn))), (a5, .inl (cI, 25, .inl KP)), (a6, .inl (cI, 25, .inl RG)), (a7, .inl (cI, 26, .inl SZ)), (a8, .inl (cI, 25, .inl LN))]) (fun (r : Int32) (_ : Unit) => True) := by
  intro sz
  refine Met.ofW (cc := cX2_cellsAfter) (maxL := 3) (ret := (some .int)) (by decide) rfl ?_
  intro p e s m args below meth c s₁ B hml hv
  obtain ⟨ha, hsz, hP, hK, hD0, hN⟩ := hv
  have hx := B.exec
  have hb := B.bytes
  have hr := B.returns
  have hts := atoms_spec (ws := wsX2_cellsAfter) B.pre
  have hown : s.vm.findClass RX2 = some m.cls := findClass_of_methodNamed B.named
  have hlocks := B.notSynchronized
  subst hsz
  have hD := hD0.self (sz := s.heap.size)
  generalize hAe : va_A [(m0, .inr (2, [.int th, .int (nI wn), .int (nI hn), .int (nI q0), .int wv, .ref a1, .ref a2, .ref a3, .ref a4, .ref a5, .ref a6, .ref a7, .ref a8, .int mn])), (a1, .inl (cI, 25, .inl (kI K0))), (a2, .inl (cI, 25, .inl NX)), (a3, .inl (cZ, 25, .inl (zB T0))), (a4, .inl (cI, 100, .inl (bI wn hn))), (a5, .inl (cI, 25, .inl KP)), (a6, .inl (cI, 25, .inl RG)), (a7, .inl (cI, 26, .inl SZ)), (a8, .inl (cI, 25, .inl LN))] s.heap.size = A at hD ⊢
  have hA : ∀ q : Nat, s.heap.size ≤ q → A q := fun q h => by rw [← hAe]; exact Or.inr h
  have hS : va_S A s.heap s.heap [] := va_S.rf
  generalize hQ : MQ below (va_Qi (fun (r : Int32) (_ : Unit) => True) (fun u t => va_P (dC, dI) vwCl ((fun (_ : Unit) => [(m0, .inr (2, [.int 2, .int (nI wn), .int (nI hn), .int (nI q0), .int wv, .ref a1, .ref a2, .ref a3, .ref a4, .ref a5, .ref a6, .ref a7, .ref a8, .int mn])), (a1, .inl (cI, 25, .inl (kI K0))), (a2, .inl (cI, 25, .inl NX)), (a3, .inl (cZ, 25, .inl (zB T0))), (a4, .inl (cI, 100, .inl (bI wn hn))), (a5, .inl (cI, 25, .inl KP)), (a6, .inl (cI, 25, .inl RG)), (a7, .inl (cI, 26, .inl SZ)), (a8, .inl (cI, 25, .inl LN))]) u) t.heap) A) args s 0 0 A = Q
  have F9 : CallFix p m c cX2_cellsAfter 3 s args wsX2_cellsAfter RX2 := ⟨hx, hb, hml, hown, hts⟩
  obtain ⟨g1, g2, g3, g4⟩ := id g
  have g5 := wh_le g
  have g6 := wh_pos g
  refine z_entry (R := rmX2_cellsAfter) ha (Nat.le_of_ble_eq_true rfl) (fun ls hl => ?_)
  have hl : lv_has ls 3 [(0, .ref m0), (1, .int x0), (2, .int col)] := hl
  refine lv_aload_n hx hb dX2_cellsAfter_0 rfl (lv_at hl 0 rfl) ?_
  refine lv_iconst (v := 0) hx hb dX2_cellsAfter_1 (by decide) ?_
  refine va_put (D := (dC, dI)) (ci := 2) (v := .int 0) (ty := .int) (C := RX2) (T := TX2) (N := 14) hx hb hts iX2_cellsAfter_X2 tyX2 tyX2_ok nmX2 hown hK hP hD hS 0 rfl rfl 0 (by decide) (hts (.fieldLink RX2 43 "ColourTideModel" "thrown" "I") (List.mem_of_getElem? (i := 1) rfl)) (fun _ h9 => h9) rfl (by decide +kernel) rfl rfl (Nat.le_of_ble_eq_true rfl) dX2_cellsAfter_2 (fun H locs hP hD hS => ?_)
  have hP : va_P (dC, dI) vwCl [(m0, .inr (2, [.int 0, .int (nI wn), .int (nI hn), .int (nI q0), .int wv, .ref a1, .ref a2, .ref a3, .ref a4, .ref a5, .ref a6, .ref a7, .ref a8, .int mn])), (a1, .inl (cI, 25, .inl (kI K0))), (a2, .inl (cI, 25, .inl NX)), (a3, .inl (cZ, 25, .inl (zB T0))), (a4, .inl (cI, 100, .inl (bI wn hn))), (a5, .inl (cI, 25, .inl KP)), (a6, .inl (cI, 25, .inl RG)), (a7, .inl (cI, 26, .inl SZ)), (a8, .inl (cI, 25, .inl LN))] H := hP
  have hD : va_D A [(m0, .inr (2, [.int 0, .int (nI wn), .int (nI hn), .int (nI q0), .int wv, .ref a1, .ref a2, .ref a3, .ref a4, .ref a5, .ref a6, .ref a7, .ref a8, .int mn])), (a1, .inl (cI, 25, .inl (kI K0))), (a2, .inl (cI, 25, .inl NX)), (a3, .inl (cZ, 25, .inl (zB T0))), (a4, .inl (cI, 100, .inl (bI wn hn))), (a5, .inl (cI, 25, .inl KP)), (a6, .inl (cI, 25, .inl RG)), (a7, .inl (cI, 26, .inl SZ)), (a8, .inl (cI, 25, .inl LN))] := hD
  refine lv_iload_n hx hb dX2_cellsAfter_5 rfl (lv_at hl 1 rfl) ?_
  refine lv_iconst (v := 1) hx hb dX2_cellsAfter_6 (by decide) ?_
  refine lv_bipush (v := 40) hx hb dX2_cellsAfter_7 (by decide +kernel) ?_
  refine z_callSi (As := [.int x0, .int 1, .int 40]) (rest := []) F9 (m_X2_isIn l dC dI cI cZ cJ cD x0 1 40 ) (va_cwS 3 hts gX2_cellsAfter_X2_isIn rfl rfl rfl (by decide +kernel) ⟨Nat.le_of_ble_eq_true rfl, Nat.le_of_ble_eq_true rfl⟩) hK hN hP hD hS hA rfl hl.1 rfl (Nat.le_of_ble_eq_true rfl) dX2_cellsAfter_9 ⟨Nat.zero_le _, Nat.zero_le _⟩ (fun r_1 H locs hp_9 hP hS => ?_)
  have hp_9 : r_1 = if pIn x0 1 40 then 1 else 0 := hp_9
  refine z_topi (y := if pIn x0 1 40 then 1 else 0) hp_9 ?_
  refine lv_if_ne (tgt := 21) hx hb dX2_cellsAfter_12 (by decide) (fun c_12 => ?_) (fun c_12 => ?_)
  · skip
    refine lv_iload_n hx hb dX2_cellsAfter_21 rfl (lv_at hl 2 rfl) ?_
    refine z_callSi (As := [.int col]) (rest := []) F9 (m_X2_isAny l dC dI cI cZ cJ cD col ) (va_cwS 1 hts gX2_cellsAfter_X2_isAny rfl rfl rfl (by decide +kernel) ⟨Nat.le_of_ble_eq_true rfl, Nat.le_of_ble_eq_true rfl⟩) hK hN hP hD hS hA rfl hl.1 rfl (Nat.le_of_ble_eq_true rfl) dX2_cellsAfter_22 ⟨Nat.zero_le _, Nat.zero_le _⟩ (fun r_2 H locs hp_22 hP hS => ?_)
    have hp_22 : r_2 = if pAny col then 1 else 0 := hp_22
    refine z_topi (y := if pAny col then 1 else 0) hp_22 ?_
    refine lv_if_ne (tgt := 34) hx hb dX2_cellsAfter_25 (by decide) (fun c_25 => ?_) (fun c_25 => ?_)
    · skip
      exact absurd (z_if1 c_25) hno
    · skip
      refine lv_aload_n hx hb dX2_cellsAfter_28 rfl (lv_at hl 0 rfl) ?_
      refine lv_iconst (v := 2) hx hb dX2_cellsAfter_29 (by decide) ?_
      refine z_callVi (As := [.int 2]) (rest := []) F9 (m_X2_fail l dC dI cI cZ cJ cD m0 a1 a2 a3 a4 a5 a6 a7 a8 0 wn hn q0 wv K0 NX T0 KP RG SZ LN mn 2 ) (cwV 1 hts gX2_cellsAfter_X2_fail rfl rfl rfl (by decide +kernel) ⟨Nat.le_of_ble_eq_true rfl, Nat.le_of_ble_eq_true rfl⟩) hK hN hP hD hS hA [0, 1, 2, 3, 4, 5, 6, 7, 8] rfl rfl (fun _ => rfl) 0 (ci := 2) rfl rfl rfl rfl hl.1 rfl (Nat.le_of_ble_eq_true rfl) dX2_cellsAfter_30 ⟨Nat.zero_le _, Nat.zero_le _⟩ (fun r_3 u H locs hp_30 hP hD hS => ?_)
      have hP : va_P (dC, dI) vwCl [(m0, .inr (2, [.int 2, .int (nI wn), .int (nI hn), .int (nI q0), .int wv, .ref a1, .ref a2, .ref a3, .ref a4, .ref a5, .ref a6, .ref a7, .ref a8, .int mn])), (a1, .inl (cI, 25, .inl (kI K0))), (a2, .inl (cI, 25, .inl NX)), (a3, .inl (cZ, 25, .inl (zB T0))), (a4, .inl (cI, 100, .inl (bI wn hn))), (a5, .inl (cI, 25, .inl KP)), (a6, .inl (cI, 25, .inl RG)), (a7, .inl (cI, 26, .inl SZ)), (a8, .inl (cI, 25, .inl LN))] H := hP
      have hD : va_D A [(m0, .inr (2, [.int 2, .int (nI wn), .int (nI hn), .int (nI q0), .int wv, .ref a1, .ref a2, .ref a3, .ref a4, .ref a5, .ref a6, .ref a7, .ref a8, .int mn])), (a1, .inl (cI, 25, .inl (kI K0))), (a2, .inl (cI, 25, .inl NX)), (a3, .inl (cZ, 25, .inl (zB T0))), (a4, .inl (cI, 100, .inl (bI wn hn))), (a5, .inl (cI, 25, .inl KP)), (a6, .inl (cI, 25, .inl RG)), (a7, .inl (cI, 26, .inl SZ)), (a8, .inl (cI, 25, .inl LN))] := hD
      have hp_30 : r_3 = 0 := hp_30
      refine z_topi (y := 0) hp_30 ?_
      rw [← hQ]
      exact z_iret (W1 := (fun (_ : Unit) => [(m0, .inr (2, [.int 2, .int (nI wn), .int (nI hn), .int (nI q0), .int wv, .ref a1, .ref a2, .ref a3, .ref a4, .ref a5, .ref a6, .ref a7, .ref a8, .int mn])), (a1, .inl (cI, 25, .inl (kI K0))), (a2, .inl (cI, 25, .inl NX)), (a3, .inl (cZ, 25, .inl (zB T0))), (a4, .inl (cI, 100, .inl (bI wn hn))), (a5, .inl (cI, 25, .inl KP)), (a6, .inl (cI, 25, .inl RG)), (a7, .inl (cI, 26, .inl SZ)), (a8, .inl (cI, 25, .inl LN))])) hx hb hr hlocks hP hS () (rfl) (trivial) dX2_cellsAfter_33
  · skip
    exact absurd hin (z_if0 c_12)
abbrev rmX2_wins : Room := { frames := 5, cells := 0, slots := 0, locals := 118 }
set_option maxRecDepth 20000 in
theorem iX2_wins_X2 : ∀ w ∈ wsX20, w ∈ wsX2_wins := fun w h => (goodIn_r (big := wsX2_wins) wsX20 [61, 62, 63, 64, 65, 66, 67, 68, 69, 70, 71, 72, 73, 74] (by decide +kernel) (by decide +kernel) w h).1
set_option maxHeartbeats 4000000 in
set_option maxRecDepth 100000 in
theorem m_X2_wins_ok (l : Launch) (dC : Nat → ClassId) (dI : Nat → Nat → Nat) (cI cZ cJ cD : ClassId) (m0 : Nat) (a1 : Nat) (a2 : Nat) (a3 : Nat) (a4 : Nat) (a5 : Nat) (a6 : Nat) (a7 : Nat) (a8 : Nat) (th : Int32) (wn : Nat) (hn : Nat) (q0 : Nat) (wv : Int32) (K0 : Nat → Nat) (NX : Nat → Int32) (T0 : Nat → Bool) (KP : Nat → Int32) (RG : Nat → Int32) (SZ : Nat → Int32) (LN : Nat → Int32) (mn : Int32) (j0 : Nat) (g : gok wn hn) (hK4 : ∀ c, K0 c ≤ 4) (hq : 1 ≤ q0 ∧ q0 ≤ 4) (hj0 : j0 < 5) (hj1 : j0 ≠ 0) : zI l (dC, dI) (wT cI cZ cJ cD) yX2_wins wsX2_wins rmX2_wins [(m0, .inr (2, [.int th, .int (nI wn), .int (nI hn), .int (nI q0), .int wv, .ref a1, .ref a2, .ref a3, .ref a4, .ref a5, .ref a6, .ref a7, .ref a8, .int mn])), (a1, .inl (cI, 25, .inl (kI K0))), (a2, .inl (cI, 25, .inl NX)), (a3, .inl (cZ, 25, .inl (zB T0))), (a4, .inl (cI, 100, .inl (bI wn hn))), (a5, .inl (cI, 25, .inl KP)), (a6, .inl (cI, 25, .inl RG)), (a7, .inl (cI, 26, .inl SZ)), (a8, .inl (cI, 25, .inl LN))] [.ref m0, .int (nI j0)] (fun (u : (Nat → Int32)) => [(m0, .inr (2, [.int 0, .int (nI wn), .int (nI hn), .int (nI q0), .int wv, .ref a1, .ref a2, .ref a3, .ref a4, .ref a5, .ref a6, .ref a7, .ref a8, .int mn])), (a1, .inl (cI, 25, .inl (kI K0))), (a2, .inl (cI, 25, .inl u)), (a3, .inl (cZ, 25, .inl (zB T0))), (a4, .inl (cI, 100, .inl (bI wn hn))), (a5, .inl (cI, 25, .inl (kI K0))), (a6, .inl (cI, 25, .inl RG)), (a7, .inl (cI, 26, .inl SZ)), (a8, .inl (cI, 25, .inl LN))]) (fun (r : Int32) (u : (Nat → Int32)) => r = bz (sW wn hn q0 T0 j0 K0 none none)) := by
  intro sz
  refine Met.ofW (cc := cX2_wins) (maxL := 2) (ret := (some .boolean)) (by decide) rfl ?_
  intro p e s m args below meth c s₁ B hml hv
  obtain ⟨ha, hsz, hP, hK, hD0, hN⟩ := hv
  have hx := B.exec
  have hb := B.bytes
  have hr := B.returns
  have hts := atoms_spec (ws := wsX2_wins) B.pre
  have hown : s.vm.findClass RX2 = some m.cls := findClass_of_methodNamed B.named
  have hlocks := B.notSynchronized
  subst hsz
  have hD := hD0.self (sz := s.heap.size)
  generalize hAe : va_A [(m0, .inr (2, [.int th, .int (nI wn), .int (nI hn), .int (nI q0), .int wv, .ref a1, .ref a2, .ref a3, .ref a4, .ref a5, .ref a6, .ref a7, .ref a8, .int mn])), (a1, .inl (cI, 25, .inl (kI K0))), (a2, .inl (cI, 25, .inl NX)), (a3, .inl (cZ, 25, .inl (zB T0))), (a4, .inl (cI, 100, .inl (bI wn hn))), (a5, .inl (cI, 25, .inl KP)), (a6, .inl (cI, 25, .inl RG)), (a7, .inl (cI, 26, .inl SZ)), (a8, .inl (cI, 25, .inl LN))] s.heap.size = A at hD ⊢
  have hA : ∀ q : Nat, s.heap.size ≤ q → A q := fun q h => by rw [← hAe]; exact Or.inr h
  have hS : va_S A s.heap s.heap [] := va_S.rf
  generalize hQ : MQ below (va_Qi (fun (r : Int32) (u : (Nat → Int32)) => r = bz (sW wn hn q0 T0 j0 K0 none none)) (fun u t => va_P (dC, dI) vwCl ((fun (u : (Nat → Int32)) => [(m0, .inr (2, [.int 0, .int (nI wn), .int (nI hn), .int (nI q0), .int wv, .ref a1, .ref a2, .ref a3, .ref a4, .ref a5, .ref a6, .ref a7, .ref a8, .int mn])), (a1, .inl (cI, 25, .inl (kI K0))), (a2, .inl (cI, 25, .inl u)), (a3, .inl (cZ, 25, .inl (zB T0))), (a4, .inl (cI, 100, .inl (bI wn hn))), (a5, .inl (cI, 25, .inl (kI K0))), (a6, .inl (cI, 25, .inl RG)), (a7, .inl (cI, 26, .inl SZ)), (a8, .inl (cI, 25, .inl LN))]) u) t.heap) A) args s 0 0 A = Q
  have F9 : CallFix p m c cX2_wins 2 s args wsX2_wins RX2 := ⟨hx, hb, hml, hown, hts⟩
  obtain ⟨g1, g2, g3, g4⟩ := id g
  have g5 := wh_le g
  have g6 := wh_pos g
  refine z_entry (R := rmX2_wins) ha (Nat.le_of_ble_eq_true rfl) (fun ls hl => ?_)
  have hl : lv_has ls 2 [(0, .ref m0), (1, .int (nI j0))] := hl
  refine lv_aload_n hx hb dX2_wins_0 rfl (lv_at hl 0 rfl) ?_
  refine lv_iload_n hx hb dX2_wins_1 rfl (lv_at hl 1 rfl) ?_
  refine z_callSi (As := [.int (nI j0)]) (rest := [.ref m0]) F9 (m_X2_isColour l dC dI cI cZ cJ cD (nI j0) ) (va_cwS 1 hts gX2_wins_X2_isColour rfl rfl rfl (by decide +kernel) ⟨Nat.le_of_ble_eq_true rfl, Nat.le_of_ble_eq_true rfl⟩) hK hN hP hD hS hA rfl hl.1 rfl (Nat.le_of_ble_eq_true rfl) dX2_wins_2 ⟨Nat.zero_le _, Nat.zero_le _⟩ (fun r_1 H locs hp_2 hP hS => ?_)
  have hp_2 : r_1 = if pCol (nI j0) then 1 else 0 := hp_2
  refine z_topi (y := if pCol (nI j0) then 1 else 0) hp_2 ?_
  refine lv_if_eq (tgt := 12) hx hb dX2_wins_5 (by decide) (fun c_5 => ?_) (fun c_5 => ?_)
  · skip
    exact absurd (col_ok hj1 hj0) (z_if0 c_5)
  · skip
    refine lv_iconst (v := 0) hx hb dX2_wins_8 (by decide) ?_
    refine lv_goto (tgt := 13) hx hb dX2_wins_9 (by decide) ?_
    refine va_put (D := (dC, dI)) (ci := 2) (v := .int 0) (ty := .int) (C := RX2) (T := TX2) (N := 14) hx hb hts iX2_wins_X2 tyX2 tyX2_ok nmX2 hown hK hP hD hS 0 rfl rfl 0 (by decide) (hts (.fieldLink RX2 43 "ColourTideModel" "thrown" "I") (List.mem_of_getElem? (i := 1) rfl)) (fun _ h9 => h9) rfl (by decide +kernel) rfl rfl (Nat.le_of_ble_eq_true rfl) dX2_wins_13 (fun H locs hP hD hS => ?_)
    have hP : va_P (dC, dI) vwCl [(m0, .inr (2, [.int 0, .int (nI wn), .int (nI hn), .int (nI q0), .int wv, .ref a1, .ref a2, .ref a3, .ref a4, .ref a5, .ref a6, .ref a7, .ref a8, .int mn])), (a1, .inl (cI, 25, .inl (kI K0))), (a2, .inl (cI, 25, .inl NX)), (a3, .inl (cZ, 25, .inl (zB T0))), (a4, .inl (cI, 100, .inl (bI wn hn))), (a5, .inl (cI, 25, .inl KP)), (a6, .inl (cI, 25, .inl RG)), (a7, .inl (cI, 26, .inl SZ)), (a8, .inl (cI, 25, .inl LN))] H := hP
    have hD : va_D A [(m0, .inr (2, [.int 0, .int (nI wn), .int (nI hn), .int (nI q0), .int wv, .ref a1, .ref a2, .ref a3, .ref a4, .ref a5, .ref a6, .ref a7, .ref a8, .int mn])), (a1, .inl (cI, 25, .inl (kI K0))), (a2, .inl (cI, 25, .inl NX)), (a3, .inl (cZ, 25, .inl (zB T0))), (a4, .inl (cI, 100, .inl (bI wn hn))), (a5, .inl (cI, 25, .inl KP)), (a6, .inl (cI, 25, .inl RG)), (a7, .inl (cI, 26, .inl SZ)), (a8, .inl (cI, 25, .inl LN))] := hD
    refine lv_aload_n hx hb dX2_wins_16 rfl (lv_at hl 0 rfl) ?_
    refine va_get (D := (dC, dI)) (ci := 2) (v := .int 0) (C := RX2) (T := TX2) (N := 14) hx hb hts iX2_wins_X2 hown hK hP 0 rfl rfl 0 (by decide) (hts (.fieldLink RX2 43 "ColourTideModel" "thrown" "I") (List.mem_of_getElem? (i := 1) rfl)) (fun _ h9 => h9) rfl dX2_wins_17 ?_
    refine lv_if_eq (tgt := 25) hx hb dX2_wins_20 (by decide) (fun c_20 => ?_) (fun c_20 => ?_)
    · skip
      have n_20 := zc_eq_t (a := 0) (b := 0) (by omega) (by omega) c_20
      refine lv_aload_n hx hb dX2_wins_25 rfl (lv_at hl 0 rfl) ?_
      refine z_callVv (As := []) (rest := []) F9 (m_X2_keep l dC dI cI cZ cJ cD m0 a1 a2 a3 a4 a5 a6 a7 a8 0 wn hn q0 wv K0 NX T0 KP RG SZ LN mn ) (cwV 0 hts gX2_wins_X2_keep rfl rfl rfl (by decide +kernel) ⟨Nat.le_of_ble_eq_true rfl, Nat.le_of_ble_eq_true rfl⟩) hK hN hP hD hS hA [0, 1, 2, 3, 4, 5, 6, 7, 8] rfl rfl (fun _ => rfl) 0 (ci := 2) rfl rfl rfl rfl hl.1 rfl (Nat.le_of_ble_eq_true rfl) dX2_wins_26 ⟨Nat.zero_le _, Nat.zero_le _⟩ (fun u H locs hp_26 hP hD hS => ?_)
      have hP : va_P (dC, dI) vwCl [(m0, .inr (2, [.int 0, .int (nI wn), .int (nI hn), .int (nI q0), .int wv, .ref a1, .ref a2, .ref a3, .ref a4, .ref a5, .ref a6, .ref a7, .ref a8, .int mn])), (a1, .inl (cI, 25, .inl (kI K0))), (a2, .inl (cI, 25, .inl NX)), (a3, .inl (cZ, 25, .inl (zB T0))), (a4, .inl (cI, 100, .inl (bI wn hn))), (a5, .inl (cI, 25, .inl (kI K0))), (a6, .inl (cI, 25, .inl RG)), (a7, .inl (cI, 26, .inl SZ)), (a8, .inl (cI, 25, .inl LN))] H := hP
      have hD : va_D A [(m0, .inr (2, [.int 0, .int (nI wn), .int (nI hn), .int (nI q0), .int wv, .ref a1, .ref a2, .ref a3, .ref a4, .ref a5, .ref a6, .ref a7, .ref a8, .int mn])), (a1, .inl (cI, 25, .inl (kI K0))), (a2, .inl (cI, 25, .inl NX)), (a3, .inl (cZ, 25, .inl (zB T0))), (a4, .inl (cI, 100, .inl (bI wn hn))), (a5, .inl (cI, 25, .inl (kI K0))), (a6, .inl (cI, 25, .inl RG)), (a7, .inl (cI, 26, .inl SZ)), (a8, .inl (cI, 25, .inl LN))] := hD
      refine lv_aload_n hx hb dX2_wins_29 rfl (lv_at hl 0 rfl) ?_
      refine lv_iload_n hx hb dX2_wins_30 rfl (lv_at hl 1 rfl) ?_
      refine lv_iconst (v := (-1)) hx hb dX2_wins_31 (by decide) ?_
      refine lv_iconst (v := (-1)) hx hb dX2_wins_32 (by decide) ?_
      refine z_callVi (As := [.int (nI j0), .int (-1), .int (-1)]) (rest := []) F9 (m_X2_winsWith l dC dI cI cZ cJ cD m0 a1 a2 a3 a4 a5 a6 a7 a8 0 wn hn q0 wv K0 NX T0 RG SZ LN mn j0 none none K0 (g) (hK4) (hq) (hj0) (fun d e9 => by cases e9) (fun d e9 => by cases e9)) (cwV 3 hts gX2_wins_X2_winsWith rfl rfl rfl (by decide +kernel) ⟨Nat.le_of_ble_eq_true rfl, Nat.le_of_ble_eq_true rfl⟩) hK hN hP hD hS hA [0, 1, 2, 3, 4, 5, 6, 7, 8] rfl rfl (fun _ => rfl) 0 (ci := 2) rfl rfl rfl rfl hl.1 rfl (Nat.le_of_ble_eq_true rfl) dX2_wins_33 ⟨Nat.zero_le _, Nat.zero_le _⟩ (fun r_3 u H locs hp_33 hP hD hS => ?_)
      obtain ⟨NXq_4, rfl⟩ : ∃ z, z = u := ⟨_, rfl⟩
      have hP : va_P (dC, dI) vwCl [(m0, .inr (2, [.int 0, .int (nI wn), .int (nI hn), .int (nI q0), .int wv, .ref a1, .ref a2, .ref a3, .ref a4, .ref a5, .ref a6, .ref a7, .ref a8, .int mn])), (a1, .inl (cI, 25, .inl (kI K0))), (a2, .inl (cI, 25, .inl NXq_4)), (a3, .inl (cZ, 25, .inl (zB T0))), (a4, .inl (cI, 100, .inl (bI wn hn))), (a5, .inl (cI, 25, .inl (kI K0))), (a6, .inl (cI, 25, .inl RG)), (a7, .inl (cI, 26, .inl SZ)), (a8, .inl (cI, 25, .inl LN))] H := hP
      have hD : va_D A [(m0, .inr (2, [.int 0, .int (nI wn), .int (nI hn), .int (nI q0), .int wv, .ref a1, .ref a2, .ref a3, .ref a4, .ref a5, .ref a6, .ref a7, .ref a8, .int mn])), (a1, .inl (cI, 25, .inl (kI K0))), (a2, .inl (cI, 25, .inl NXq_4)), (a3, .inl (cZ, 25, .inl (zB T0))), (a4, .inl (cI, 100, .inl (bI wn hn))), (a5, .inl (cI, 25, .inl (kI K0))), (a6, .inl (cI, 25, .inl RG)), (a7, .inl (cI, 26, .inl SZ)), (a8, .inl (cI, 25, .inl LN))] := hD
      have hp_33 : r_3 = bz (winF wn hn q0 T0 j0 8 (put (put K0 none j0) none j0)) := hp_33
      refine z_topi (y := bz (winF wn hn q0 T0 j0 8 (put (put K0 none j0) none j0))) hp_33 ?_
      refine z_topi (y := bz (sW wn hn q0 T0 j0 K0 none none)) (rfl) ?_
      rw [← hQ]
      exact z_zret (W1 := (fun (u : (Nat → Int32)) => [(m0, .inr (2, [.int 0, .int (nI wn), .int (nI hn), .int (nI q0), .int wv, .ref a1, .ref a2, .ref a3, .ref a4, .ref a5, .ref a6, .ref a7, .ref a8, .int mn])), (a1, .inl (cI, 25, .inl (kI K0))), (a2, .inl (cI, 25, .inl u)), (a3, .inl (cZ, 25, .inl (zB T0))), (a4, .inl (cI, 100, .inl (bI wn hn))), (a5, .inl (cI, 25, .inl (kI K0))), (a6, .inl (cI, 25, .inl RG)), (a7, .inl (cI, 26, .inl SZ)), (a8, .inl (cI, 25, .inl LN))])) hx hb hr hlocks (bz_ret _) hP hS NXq_4 (rfl) (rfl) dX2_wins_36
    · skip
      have n_20 := zc_eq_f (a := 0) (b := 0) (by omega) (by omega) c_20
      exact absurd n_20 (by omega)
set_option maxHeartbeats 4000000 in
set_option maxRecDepth 100000 in
theorem m_X2_wins_no (l : Launch) (dC : Nat → ClassId) (dI : Nat → Nat → Nat) (cI cZ cJ cD : ClassId) (m0 : Nat) (a1 : Nat) (a2 : Nat) (a3 : Nat) (a4 : Nat) (a5 : Nat) (a6 : Nat) (a7 : Nat) (a8 : Nat) (th : Int32) (wn : Nat) (hn : Nat) (q0 : Nat) (wv : Int32) (K0 : Nat → Nat) (NX : Nat → Int32) (T0 : Nat → Bool) (KP : Nat → Int32) (RG : Nat → Int32) (SZ : Nat → Int32) (LN : Nat → Int32) (mn : Int32) (col : Int32) (g : gok wn hn) (hK4 : ∀ c, K0 c ≤ 4) (hno : ¬ pCol col) : zI l (dC, dI) (wT cI cZ cJ cD) yX2_wins wsX2_wins rmX2_wins [(m0, .inr (2, [.int th, .int (nI wn), .int (nI hn), .int (nI q0), .int wv, .ref a1, .ref a2, .ref a3, .ref a4, .ref a5, .ref a6, .ref a7, .ref a8, .int mn])), (a1, .inl (cI, 25, .inl (kI K0))), (a2, .inl (cI, 25, .inl NX)), (a3, .inl (cZ, 25, .inl (zB T0))), (a4, .inl (cI, 100, .inl (bI wn hn))), (a5, .inl (cI, 25, .inl KP)), (a6, .inl (cI, 25, .inl RG)), (a7, .inl (cI, 26, .inl SZ)), (a8, .inl (cI, 25, .inl LN))] [.ref m0, .int col] (fun (_ : Unit) => [(m0, .inr (2, [.int 1, .int (nI wn), .int (nI hn), .int (nI q0), .int wv, .ref a1, .ref a2, .ref a3, .ref a4, .ref a5, .ref a6, .ref a7, .ref a8, .int mn])), (a1, .inl (cI, 25, .inl (kI K0))), (a2, .inl (cI, 25, .inl NX)), (a3, .inl (cZ, 25, .inl (zB T0))), (a4, .inl (cI, 100, .inl (bI wn hn))), (a5, .inl (cI, 25, .inl KP)), (a6, .inl (cI, 25, .inl RG)), (a7, .inl (cI, 26, .inl SZ)), (a8, .inl (cI, 25, .inl LN))]) (fun (r : Int32) (_ : Unit) => True) := by
  intro sz
  refine Met.ofW (cc := cX2_wins) (maxL := 2) (ret := (some .boolean)) (by decide) rfl ?_
  intro p e s m args below meth c s₁ B hml hv
  obtain ⟨ha, hsz, hP, hK, hD0, hN⟩ := hv
  have hx := B.exec
  have hb := B.bytes
  have hr := B.returns
  have hts := atoms_spec (ws := wsX2_wins) B.pre
  have hown : s.vm.findClass RX2 = some m.cls := findClass_of_methodNamed B.named
  have hlocks := B.notSynchronized
  subst hsz
  have hD := hD0.self (sz := s.heap.size)
  generalize hAe : va_A [(m0, .inr (2, [.int th, .int (nI wn), .int (nI hn), .int (nI q0), .int wv, .ref a1, .ref a2, .ref a3, .ref a4, .ref a5, .ref a6, .ref a7, .ref a8, .int mn])), (a1, .inl (cI, 25, .inl (kI K0))), (a2, .inl (cI, 25, .inl NX)), (a3, .inl (cZ, 25, .inl (zB T0))), (a4, .inl (cI, 100, .inl (bI wn hn))), (a5, .inl (cI, 25, .inl KP)), (a6, .inl (cI, 25, .inl RG)), (a7, .inl (cI, 26, .inl SZ)), (a8, .inl (cI, 25, .inl LN))] s.heap.size = A at hD ⊢
  have hA : ∀ q : Nat, s.heap.size ≤ q → A q := fun q h => by rw [← hAe]; exact Or.inr h
  have hS : va_S A s.heap s.heap [] := va_S.rf
  generalize hQ : MQ below (va_Qi (fun (r : Int32) (_ : Unit) => True) (fun u t => va_P (dC, dI) vwCl ((fun (_ : Unit) => [(m0, .inr (2, [.int 1, .int (nI wn), .int (nI hn), .int (nI q0), .int wv, .ref a1, .ref a2, .ref a3, .ref a4, .ref a5, .ref a6, .ref a7, .ref a8, .int mn])), (a1, .inl (cI, 25, .inl (kI K0))), (a2, .inl (cI, 25, .inl NX)), (a3, .inl (cZ, 25, .inl (zB T0))), (a4, .inl (cI, 100, .inl (bI wn hn))), (a5, .inl (cI, 25, .inl KP)), (a6, .inl (cI, 25, .inl RG)), (a7, .inl (cI, 26, .inl SZ)), (a8, .inl (cI, 25, .inl LN))]) u) t.heap) A) args s 0 0 A = Q
  have F9 : CallFix p m c cX2_wins 2 s args wsX2_wins RX2 := ⟨hx, hb, hml, hown, hts⟩
  obtain ⟨g1, g2, g3, g4⟩ := id g
  have g5 := wh_le g
  have g6 := wh_pos g
  refine z_entry (R := rmX2_wins) ha (Nat.le_of_ble_eq_true rfl) (fun ls hl => ?_)
  have hl : lv_has ls 2 [(0, .ref m0), (1, .int col)] := hl
  refine lv_aload_n hx hb dX2_wins_0 rfl (lv_at hl 0 rfl) ?_
  refine lv_iload_n hx hb dX2_wins_1 rfl (lv_at hl 1 rfl) ?_
  refine z_callSi (As := [.int col]) (rest := [.ref m0]) F9 (m_X2_isColour l dC dI cI cZ cJ cD col ) (va_cwS 1 hts gX2_wins_X2_isColour rfl rfl rfl (by decide +kernel) ⟨Nat.le_of_ble_eq_true rfl, Nat.le_of_ble_eq_true rfl⟩) hK hN hP hD hS hA rfl hl.1 rfl (Nat.le_of_ble_eq_true rfl) dX2_wins_2 ⟨Nat.zero_le _, Nat.zero_le _⟩ (fun r_1 H locs hp_2 hP hS => ?_)
  have hp_2 : r_1 = if pCol col then 1 else 0 := hp_2
  refine z_topi (y := if pCol col then 1 else 0) hp_2 ?_
  refine lv_if_eq (tgt := 12) hx hb dX2_wins_5 (by decide) (fun c_5 => ?_) (fun c_5 => ?_)
  · skip
    refine lv_iconst (v := 1) hx hb dX2_wins_12 (by decide) ?_
    refine va_put (D := (dC, dI)) (ci := 2) (v := .int 1) (ty := .int) (C := RX2) (T := TX2) (N := 14) hx hb hts iX2_wins_X2 tyX2 tyX2_ok nmX2 hown hK hP hD hS 0 rfl rfl 0 (by decide) (hts (.fieldLink RX2 43 "ColourTideModel" "thrown" "I") (List.mem_of_getElem? (i := 1) rfl)) (fun _ h9 => h9) rfl (by decide +kernel) rfl rfl (Nat.le_of_ble_eq_true rfl) dX2_wins_13 (fun H locs hP hD hS => ?_)
    have hP : va_P (dC, dI) vwCl [(m0, .inr (2, [.int 1, .int (nI wn), .int (nI hn), .int (nI q0), .int wv, .ref a1, .ref a2, .ref a3, .ref a4, .ref a5, .ref a6, .ref a7, .ref a8, .int mn])), (a1, .inl (cI, 25, .inl (kI K0))), (a2, .inl (cI, 25, .inl NX)), (a3, .inl (cZ, 25, .inl (zB T0))), (a4, .inl (cI, 100, .inl (bI wn hn))), (a5, .inl (cI, 25, .inl KP)), (a6, .inl (cI, 25, .inl RG)), (a7, .inl (cI, 26, .inl SZ)), (a8, .inl (cI, 25, .inl LN))] H := hP
    have hD : va_D A [(m0, .inr (2, [.int 1, .int (nI wn), .int (nI hn), .int (nI q0), .int wv, .ref a1, .ref a2, .ref a3, .ref a4, .ref a5, .ref a6, .ref a7, .ref a8, .int mn])), (a1, .inl (cI, 25, .inl (kI K0))), (a2, .inl (cI, 25, .inl NX)), (a3, .inl (cZ, 25, .inl (zB T0))), (a4, .inl (cI, 100, .inl (bI wn hn))), (a5, .inl (cI, 25, .inl KP)), (a6, .inl (cI, 25, .inl RG)), (a7, .inl (cI, 26, .inl SZ)), (a8, .inl (cI, 25, .inl LN))] := hD
    refine lv_aload_n hx hb dX2_wins_16 rfl (lv_at hl 0 rfl) ?_
    refine va_get (D := (dC, dI)) (ci := 2) (v := .int 1) (C := RX2) (T := TX2) (N := 14) hx hb hts iX2_wins_X2 hown hK hP 0 rfl rfl 0 (by decide) (hts (.fieldLink RX2 43 "ColourTideModel" "thrown" "I") (List.mem_of_getElem? (i := 1) rfl)) (fun _ h9 => h9) rfl dX2_wins_17 ?_
    refine lv_if_eq (tgt := 25) hx hb dX2_wins_20 (by decide) (fun c_20 => ?_) (fun c_20 => ?_)
    · skip
      have n_20 := zc_eq_t (a := 1) (b := 0) (by omega) (by omega) c_20
      exact absurd n_20 (by omega)
    · skip
      have n_20 := zc_eq_f (a := 1) (b := 0) (by omega) (by omega) c_20
      refine lv_iconst (v := 0) hx hb dX2_wins_23 (by decide) ?_
      rw [← hQ]
      exact z_zret (W1 := (fun (_ : Unit) => [(m0, .inr (2, [.int 1, .int (nI wn), .int (nI hn), .int (nI q0), .int wv, .ref a1, .ref a2, .ref a3, .ref a4, .ref a5, .ref a6, .ref a7, .ref a8, .int mn])), (a1, .inl (cI, 25, .inl (kI K0))), (a2, .inl (cI, 25, .inl NX)), (a3, .inl (cZ, 25, .inl (zB T0))), (a4, .inl (cI, 100, .inl (bI wn hn))), (a5, .inl (cI, 25, .inl KP)), (a6, .inl (cI, 25, .inl RG)), (a7, .inl (cI, 26, .inl SZ)), (a8, .inl (cI, 25, .inl LN))])) hx hb hr hlocks (by decide +kernel) hP hS () (rfl) (trivial) dX2_wins_24
  · skip
    exact absurd (z_if1 c_5) hno
abbrev rmX2_fewestSeeds : Room := { frames := 5, cells := 0, slots := 0, locals := 118 }
set_option maxRecDepth 20000 in
theorem iX2_fewestSeeds_X2 : ∀ w ∈ wsX20, w ∈ wsX2_fewestSeeds := fun w h => (goodIn_r (big := wsX2_fewestSeeds) wsX20 [65, 66, 67, 68, 69, 70, 71, 72, 73, 74, 75, 76, 77, 78] (by decide +kernel) (by decide +kernel) w h).1
set_option maxHeartbeats 4000000 in
set_option maxRecDepth 100000 in
theorem m_X2_fewestSeeds_ok (l : Launch) (dC : Nat → ClassId) (dI : Nat → Nat → Nat) (cI cZ cJ cD : ClassId) (m0 : Nat) (a1 : Nat) (a2 : Nat) (a3 : Nat) (a4 : Nat) (a5 : Nat) (a6 : Nat) (a7 : Nat) (a8 : Nat) (th : Int32) (wn : Nat) (hn : Nat) (q0 : Nat) (wv : Int32) (K0 : Nat → Nat) (NX : Nat → Int32) (T0 : Nat → Bool) (KP : Nat → Int32) (RG : Nat → Int32) (SZ : Nat → Int32) (LN : Nat → Int32) (mn : Int32) (j0 : Nat) (g : gok wn hn) (hK4 : ∀ c, K0 c ≤ 4) (hq : 1 ≤ q0 ∧ q0 ≤ 4) (hj0 : j0 < 5) (hj1 : j0 ≠ 0) : zI l (dC, dI) (wT cI cZ cJ cD) yX2_fewestSeeds wsX2_fewestSeeds rmX2_fewestSeeds [(m0, .inr (2, [.int th, .int (nI wn), .int (nI hn), .int (nI q0), .int wv, .ref a1, .ref a2, .ref a3, .ref a4, .ref a5, .ref a6, .ref a7, .ref a8, .int mn])), (a1, .inl (cI, 25, .inl (kI K0))), (a2, .inl (cI, 25, .inl NX)), (a3, .inl (cZ, 25, .inl (zB T0))), (a4, .inl (cI, 100, .inl (bI wn hn))), (a5, .inl (cI, 25, .inl KP)), (a6, .inl (cI, 25, .inl RG)), (a7, .inl (cI, 26, .inl SZ)), (a8, .inl (cI, 25, .inl LN))] [.ref m0, .int (nI j0)] (fun (u : (Nat → Int32)) => [(m0, .inr (2, [.int 0, .int (nI wn), .int (nI hn), .int (nI q0), .int wv, .ref a1, .ref a2, .ref a3, .ref a4, .ref a5, .ref a6, .ref a7, .ref a8, .int mn])), (a1, .inl (cI, 25, .inl (kI K0))), (a2, .inl (cI, 25, .inl u)), (a3, .inl (cZ, 25, .inl (zB T0))), (a4, .inl (cI, 100, .inl (bI wn hn))), (a5, .inl (cI, 25, .inl (kI K0))), (a6, .inl (cI, 25, .inl RG)), (a7, .inl (cI, 26, .inl SZ)), (a8, .inl (cI, 25, .inl LN))]) (fun (r : Int32) (u : (Nat → Int32)) => (r = 0 ∧ sW wn hn q0 T0 j0 K0 none none = true) ∨ (r = 1 ∧ sW wn hn q0 T0 j0 K0 none none = false ∧ ∃ d, d < wn * hn ∧ sW wn hn q0 T0 j0 K0 (some d) none = true) ∨ (r = 2 ∧ sW wn hn q0 T0 j0 K0 none none = false ∧ (∀ d, d < wn * hn → sW wn hn q0 T0 j0 K0 (some d) none = false) ∧ ∃ d k, k < d ∧ d < wn * hn ∧ sW wn hn q0 T0 j0 K0 (some d) (some k) = true) ∨ (r = -1 ∧ sW wn hn q0 T0 j0 K0 none none = false ∧ (∀ d, d < wn * hn → sW wn hn q0 T0 j0 K0 (some d) none = false) ∧ ∀ d, d < wn * hn → ∀ k, k < d → sW wn hn q0 T0 j0 K0 (some d) (some k) = false)) := by
  intro sz
  refine Met.ofW (cc := cX2_fewestSeeds) (maxL := 4) (ret := (some .int)) (by decide) rfl ?_
  intro p e s m args below meth c s₁ B hml hv
  obtain ⟨ha, hsz, hP, hK, hD0, hN⟩ := hv
  have hx := B.exec
  have hb := B.bytes
  have hr := B.returns
  have hts := atoms_spec (ws := wsX2_fewestSeeds) B.pre
  have hown : s.vm.findClass RX2 = some m.cls := findClass_of_methodNamed B.named
  have hlocks := B.notSynchronized
  subst hsz
  have hD := hD0.self (sz := s.heap.size)
  generalize hAe : va_A [(m0, .inr (2, [.int th, .int (nI wn), .int (nI hn), .int (nI q0), .int wv, .ref a1, .ref a2, .ref a3, .ref a4, .ref a5, .ref a6, .ref a7, .ref a8, .int mn])), (a1, .inl (cI, 25, .inl (kI K0))), (a2, .inl (cI, 25, .inl NX)), (a3, .inl (cZ, 25, .inl (zB T0))), (a4, .inl (cI, 100, .inl (bI wn hn))), (a5, .inl (cI, 25, .inl KP)), (a6, .inl (cI, 25, .inl RG)), (a7, .inl (cI, 26, .inl SZ)), (a8, .inl (cI, 25, .inl LN))] s.heap.size = A at hD ⊢
  have hA : ∀ q : Nat, s.heap.size ≤ q → A q := fun q h => by rw [← hAe]; exact Or.inr h
  have hS : va_S A s.heap s.heap [] := va_S.rf
  generalize hQ : MQ below (va_Qi (fun (r : Int32) (u : (Nat → Int32)) => (r = 0 ∧ sW wn hn q0 T0 j0 K0 none none = true) ∨ (r = 1 ∧ sW wn hn q0 T0 j0 K0 none none = false ∧ ∃ d, d < wn * hn ∧ sW wn hn q0 T0 j0 K0 (some d) none = true) ∨ (r = 2 ∧ sW wn hn q0 T0 j0 K0 none none = false ∧ (∀ d, d < wn * hn → sW wn hn q0 T0 j0 K0 (some d) none = false) ∧ ∃ d k, k < d ∧ d < wn * hn ∧ sW wn hn q0 T0 j0 K0 (some d) (some k) = true) ∨ (r = -1 ∧ sW wn hn q0 T0 j0 K0 none none = false ∧ (∀ d, d < wn * hn → sW wn hn q0 T0 j0 K0 (some d) none = false) ∧ ∀ d, d < wn * hn → ∀ k, k < d → sW wn hn q0 T0 j0 K0 (some d) (some k) = false)) (fun u t => va_P (dC, dI) vwCl ((fun (u : (Nat → Int32)) => [(m0, .inr (2, [.int 0, .int (nI wn), .int (nI hn), .int (nI q0), .int wv, .ref a1, .ref a2, .ref a3, .ref a4, .ref a5, .ref a6, .ref a7, .ref a8, .int mn])), (a1, .inl (cI, 25, .inl (kI K0))), (a2, .inl (cI, 25, .inl u)), (a3, .inl (cZ, 25, .inl (zB T0))), (a4, .inl (cI, 100, .inl (bI wn hn))), (a5, .inl (cI, 25, .inl (kI K0))), (a6, .inl (cI, 25, .inl RG)), (a7, .inl (cI, 26, .inl SZ)), (a8, .inl (cI, 25, .inl LN))]) u) t.heap) A) args s 0 0 A = Q
  have F9 : CallFix p m c cX2_fewestSeeds 4 s args wsX2_fewestSeeds RX2 := ⟨hx, hb, hml, hown, hts⟩
  obtain ⟨g1, g2, g3, g4⟩ := id g
  have g5 := wh_le g
  have g6 := wh_pos g
  refine z_entry (R := rmX2_fewestSeeds) ha (Nat.le_of_ble_eq_true rfl) (fun ls hl => ?_)
  have hl : lv_has ls 4 [(0, .ref m0), (1, .int (nI j0))] := hl
  refine lv_aload_n hx hb dX2_fewestSeeds_0 rfl (lv_at hl 0 rfl) ?_
  refine lv_iconst (v := 0) hx hb dX2_fewestSeeds_1 (by decide) ?_
  refine va_put (D := (dC, dI)) (ci := 2) (v := .int 0) (ty := .int) (C := RX2) (T := TX2) (N := 14) hx hb hts iX2_fewestSeeds_X2 tyX2 tyX2_ok nmX2 hown hK hP hD hS 0 rfl rfl 0 (by decide) (hts (.fieldLink RX2 43 "ColourTideModel" "thrown" "I") (List.mem_of_getElem? (i := 1) rfl)) (fun _ h9 => h9) rfl (by decide +kernel) rfl rfl (Nat.le_of_ble_eq_true rfl) dX2_fewestSeeds_2 (fun H locs hP hD hS => ?_)
  have hP : va_P (dC, dI) vwCl [(m0, .inr (2, [.int 0, .int (nI wn), .int (nI hn), .int (nI q0), .int wv, .ref a1, .ref a2, .ref a3, .ref a4, .ref a5, .ref a6, .ref a7, .ref a8, .int mn])), (a1, .inl (cI, 25, .inl (kI K0))), (a2, .inl (cI, 25, .inl NX)), (a3, .inl (cZ, 25, .inl (zB T0))), (a4, .inl (cI, 100, .inl (bI wn hn))), (a5, .inl (cI, 25, .inl KP)), (a6, .inl (cI, 25, .inl RG)), (a7, .inl (cI, 26, .inl SZ)), (a8, .inl (cI, 25, .inl LN))] H := hP
  have hD : va_D A [(m0, .inr (2, [.int 0, .int (nI wn), .int (nI hn), .int (nI q0), .int wv, .ref a1, .ref a2, .ref a3, .ref a4, .ref a5, .ref a6, .ref a7, .ref a8, .int mn])), (a1, .inl (cI, 25, .inl (kI K0))), (a2, .inl (cI, 25, .inl NX)), (a3, .inl (cZ, 25, .inl (zB T0))), (a4, .inl (cI, 100, .inl (bI wn hn))), (a5, .inl (cI, 25, .inl KP)), (a6, .inl (cI, 25, .inl RG)), (a7, .inl (cI, 26, .inl SZ)), (a8, .inl (cI, 25, .inl LN))] := hD
  refine lv_iload_n hx hb dX2_fewestSeeds_5 rfl (lv_at hl 1 rfl) ?_
  refine z_callSi (As := [.int (nI j0)]) (rest := []) F9 (m_X2_isColour l dC dI cI cZ cJ cD (nI j0) ) (va_cwS 1 hts gX2_fewestSeeds_X2_isColour rfl rfl rfl (by decide +kernel) ⟨Nat.le_of_ble_eq_true rfl, Nat.le_of_ble_eq_true rfl⟩) hK hN hP hD hS hA rfl hl.1 rfl (Nat.le_of_ble_eq_true rfl) dX2_fewestSeeds_6 ⟨Nat.zero_le _, Nat.zero_le _⟩ (fun r_1 H locs hp_6 hP hS => ?_)
  have hp_6 : r_1 = if pCol (nI j0) then 1 else 0 := hp_6
  refine z_topi (y := if pCol (nI j0) then 1 else 0) hp_6 ?_
  refine lv_if_ne (tgt := 18) hx hb dX2_fewestSeeds_9 (by decide) (fun c_9 => ?_) (fun c_9 => ?_)
  · skip
    refine lv_aload_n hx hb dX2_fewestSeeds_18 rfl (lv_at hl 0 rfl) ?_
    refine z_callVv (As := []) (rest := []) F9 (m_X2_keep l dC dI cI cZ cJ cD m0 a1 a2 a3 a4 a5 a6 a7 a8 0 wn hn q0 wv K0 NX T0 KP RG SZ LN mn ) (cwV 0 hts gX2_fewestSeeds_X2_keep rfl rfl rfl (by decide +kernel) ⟨Nat.le_of_ble_eq_true rfl, Nat.le_of_ble_eq_true rfl⟩) hK hN hP hD hS hA [0, 1, 2, 3, 4, 5, 6, 7, 8] rfl rfl (fun _ => rfl) 0 (ci := 2) rfl rfl rfl rfl hl.1 rfl (Nat.le_of_ble_eq_true rfl) dX2_fewestSeeds_19 ⟨Nat.zero_le _, Nat.zero_le _⟩ (fun u H locs hp_19 hP hD hS => ?_)
    have hP : va_P (dC, dI) vwCl [(m0, .inr (2, [.int 0, .int (nI wn), .int (nI hn), .int (nI q0), .int wv, .ref a1, .ref a2, .ref a3, .ref a4, .ref a5, .ref a6, .ref a7, .ref a8, .int mn])), (a1, .inl (cI, 25, .inl (kI K0))), (a2, .inl (cI, 25, .inl NX)), (a3, .inl (cZ, 25, .inl (zB T0))), (a4, .inl (cI, 100, .inl (bI wn hn))), (a5, .inl (cI, 25, .inl (kI K0))), (a6, .inl (cI, 25, .inl RG)), (a7, .inl (cI, 26, .inl SZ)), (a8, .inl (cI, 25, .inl LN))] H := hP
    have hD : va_D A [(m0, .inr (2, [.int 0, .int (nI wn), .int (nI hn), .int (nI q0), .int wv, .ref a1, .ref a2, .ref a3, .ref a4, .ref a5, .ref a6, .ref a7, .ref a8, .int mn])), (a1, .inl (cI, 25, .inl (kI K0))), (a2, .inl (cI, 25, .inl NX)), (a3, .inl (cZ, 25, .inl (zB T0))), (a4, .inl (cI, 100, .inl (bI wn hn))), (a5, .inl (cI, 25, .inl (kI K0))), (a6, .inl (cI, 25, .inl RG)), (a7, .inl (cI, 26, .inl SZ)), (a8, .inl (cI, 25, .inl LN))] := hD
    refine lv_aload_n hx hb dX2_fewestSeeds_22 rfl (lv_at hl 0 rfl) ?_
    refine lv_iload_n hx hb dX2_fewestSeeds_23 rfl (lv_at hl 1 rfl) ?_
    refine lv_iconst (v := (-1)) hx hb dX2_fewestSeeds_24 (by decide) ?_
    refine lv_iconst (v := (-1)) hx hb dX2_fewestSeeds_25 (by decide) ?_
    refine z_callVi (As := [.int (nI j0), .int (-1), .int (-1)]) (rest := []) F9 (m_X2_winsWith l dC dI cI cZ cJ cD m0 a1 a2 a3 a4 a5 a6 a7 a8 0 wn hn q0 wv K0 NX T0 RG SZ LN mn j0 none none K0 (g) (hK4) (hq) (hj0) (fun d e9 => by cases e9) (fun d e9 => by cases e9)) (cwV 3 hts gX2_fewestSeeds_X2_winsWith rfl rfl rfl (by decide +kernel) ⟨Nat.le_of_ble_eq_true rfl, Nat.le_of_ble_eq_true rfl⟩) hK hN hP hD hS hA [0, 1, 2, 3, 4, 5, 6, 7, 8] rfl rfl (fun _ => rfl) 0 (ci := 2) rfl rfl rfl rfl hl.1 rfl (Nat.le_of_ble_eq_true rfl) dX2_fewestSeeds_26 ⟨Nat.zero_le _, Nat.zero_le _⟩ (fun r_3 u H locs hp_26 hP hD hS => ?_)
    obtain ⟨NXq_4, rfl⟩ : ∃ z, z = u := ⟨_, rfl⟩
    have hP : va_P (dC, dI) vwCl [(m0, .inr (2, [.int 0, .int (nI wn), .int (nI hn), .int (nI q0), .int wv, .ref a1, .ref a2, .ref a3, .ref a4, .ref a5, .ref a6, .ref a7, .ref a8, .int mn])), (a1, .inl (cI, 25, .inl (kI K0))), (a2, .inl (cI, 25, .inl NXq_4)), (a3, .inl (cZ, 25, .inl (zB T0))), (a4, .inl (cI, 100, .inl (bI wn hn))), (a5, .inl (cI, 25, .inl (kI K0))), (a6, .inl (cI, 25, .inl RG)), (a7, .inl (cI, 26, .inl SZ)), (a8, .inl (cI, 25, .inl LN))] H := hP
    have hD : va_D A [(m0, .inr (2, [.int 0, .int (nI wn), .int (nI hn), .int (nI q0), .int wv, .ref a1, .ref a2, .ref a3, .ref a4, .ref a5, .ref a6, .ref a7, .ref a8, .int mn])), (a1, .inl (cI, 25, .inl (kI K0))), (a2, .inl (cI, 25, .inl NXq_4)), (a3, .inl (cZ, 25, .inl (zB T0))), (a4, .inl (cI, 100, .inl (bI wn hn))), (a5, .inl (cI, 25, .inl (kI K0))), (a6, .inl (cI, 25, .inl RG)), (a7, .inl (cI, 26, .inl SZ)), (a8, .inl (cI, 25, .inl LN))] := hD
    have hp_26 : r_3 = bz (winF wn hn q0 T0 j0 8 (put (put K0 none j0) none j0)) := hp_26
    refine z_topi (y := bz (winF wn hn q0 T0 j0 8 (put (put K0 none j0) none j0))) hp_26 ?_
    refine z_topi (y := bz (sW wn hn q0 T0 j0 K0 none none)) (rfl) ?_
    refine lv_if_eq (tgt := 34) hx hb dX2_fewestSeeds_29 (by decide) (fun c_29 => ?_) (fun c_29 => ?_)
    · skip
      refine lv_iconst (v := 0) hx hb dX2_fewestSeeds_34 (by decide) ?_
      refine lv_istore_n (lv' := [(2, .int 0), (0, .ref m0), (1, .int (nI j0))]) hx hb dX2_fewestSeeds_35 rfl hl (by decide) rfl (fun ls hl => ?_)
      have loop_36 : ∀ (n : Nat) (i : Nat) (NX1 : Nat → Int32) (hkn : i + n = wn * hn) (e1 : ∀ d, d < i → sW wn hn q0 T0 j0 K0 (some d) none = false) (H : Heap) (locs : List Loc) (ls : Array Slot) (hP : va_P (dC, dI) vwCl [(m0, .inr (2, [.int 0, .int (nI wn), .int (nI hn), .int (nI q0), .int wv, .ref a1, .ref a2, .ref a3, .ref a4, .ref a5, .ref a6, .ref a7, .ref a8, .int mn])), (a1, .inl (cI, 25, .inl (kI K0))), (a2, .inl (cI, 25, .inl NX1)), (a3, .inl (cZ, 25, .inl (zB T0))), (a4, .inl (cI, 100, .inl (bI wn hn))), (a5, .inl (cI, 25, .inl (kI K0))), (a6, .inl (cI, 25, .inl RG)), (a7, .inl (cI, 26, .inl SZ)), (a8, .inl (cI, 25, .inl LN))] H) (hD : va_D A [(m0, .inr (2, [.int 0, .int (nI wn), .int (nI hn), .int (nI q0), .int wv, .ref a1, .ref a2, .ref a3, .ref a4, .ref a5, .ref a6, .ref a7, .ref a8, .int mn])), (a1, .inl (cI, 25, .inl (kI K0))), (a2, .inl (cI, 25, .inl NX1)), (a3, .inl (cZ, 25, .inl (zB T0))), (a4, .inl (cI, 100, .inl (bI wn hn))), (a5, .inl (cI, 25, .inl (kI K0))), (a6, .inl (cI, 25, .inl RG)), (a7, .inl (cI, 26, .inl SZ)), (a8, .inl (cI, 25, .inl LN))]) (hS : va_S A s.heap H locs) (hl : lv_has ls 4 [(0, .ref m0), (1, .int (nI j0)), (2, .int (nI i))]), W p l e rmX2_fewestSeeds s m args below meth c H locs 0 0 Q (F0 m 36 ls []) := by
        intro n
        induction n with
        | zero =>
          intro i NX1 hkn e1 H locs ls hP hD hS hl
          refine lv_iload_n hx hb dX2_fewestSeeds_36 rfl (lv_at hl 2 rfl) ?_
          refine lv_aload_n hx hb dX2_fewestSeeds_37 rfl (lv_at hl 0 rfl) ?_
          refine z_callVi (As := []) (rest := [.int (nI i)]) F9 (m_X2_cells l dC dI cI cZ cJ cD m0 a1 a2 a3 a4 a5 a6 a7 a8 0 wn hn q0 wv K0 NX1 T0 (kI K0) RG SZ LN mn ) (cwV 0 hts gX2_fewestSeeds_X2_cells rfl rfl rfl (by decide +kernel) ⟨Nat.le_of_ble_eq_true rfl, Nat.le_of_ble_eq_true rfl⟩) hK hN hP hD hS hA [0, 1, 2, 3, 4, 5, 6, 7, 8] rfl rfl (fun _ => rfl) 0 (ci := 2) rfl rfl rfl rfl hl.1 rfl (Nat.le_of_ble_eq_true rfl) dX2_fewestSeeds_38 ⟨Nat.zero_le _, Nat.zero_le _⟩ (fun r_5 u H locs hp_38 hP hD hS => ?_)
          have hP : va_P (dC, dI) vwCl [(m0, .inr (2, [.int 0, .int (nI wn), .int (nI hn), .int (nI q0), .int wv, .ref a1, .ref a2, .ref a3, .ref a4, .ref a5, .ref a6, .ref a7, .ref a8, .int mn])), (a1, .inl (cI, 25, .inl (kI K0))), (a2, .inl (cI, 25, .inl NX1)), (a3, .inl (cZ, 25, .inl (zB T0))), (a4, .inl (cI, 100, .inl (bI wn hn))), (a5, .inl (cI, 25, .inl (kI K0))), (a6, .inl (cI, 25, .inl RG)), (a7, .inl (cI, 26, .inl SZ)), (a8, .inl (cI, 25, .inl LN))] H := hP
          have hD : va_D A [(m0, .inr (2, [.int 0, .int (nI wn), .int (nI hn), .int (nI q0), .int wv, .ref a1, .ref a2, .ref a3, .ref a4, .ref a5, .ref a6, .ref a7, .ref a8, .int mn])), (a1, .inl (cI, 25, .inl (kI K0))), (a2, .inl (cI, 25, .inl NX1)), (a3, .inl (cZ, 25, .inl (zB T0))), (a4, .inl (cI, 100, .inl (bI wn hn))), (a5, .inl (cI, 25, .inl (kI K0))), (a6, .inl (cI, 25, .inl RG)), (a7, .inl (cI, 26, .inl SZ)), (a8, .inl (cI, 25, .inl LN))] := hD
          have hp_38 : r_5 = nI (wn * hn) := hp_38
          refine z_topi (y := nI (wn * hn)) hp_38 ?_
          refine lv_icmp_ge (tgt := 62) hx hb dX2_fewestSeeds_41 (by decide) (fun c_41 => ?_) (fun c_41 => ?_)
          · skip
            have n_41 := zc_le_t (a := (wn * hn)) (b := i) (by omega) (by omega) c_41
            have f1 : ∀ d, d < wn * hn → sW wn hn q0 T0 j0 K0 (some d) none = false := fun d hd => e1 d (by omega)
            refine lv_iconst (v := 0) hx hb dX2_fewestSeeds_62 (by decide) ?_
            refine lv_istore_n (lv' := [(2, .int 0), (0, .ref m0), (1, .int (nI j0))]) hx hb dX2_fewestSeeds_63 rfl hl (by decide) rfl (fun ls hl => ?_)
            have loop_64 : ∀ (n : Nat) (i3 : Nat) (NX2 : Nat → Int32) (hkn : i3 + n = wn * hn) (e2 : ∀ d, d < i3 → ∀ k, k < d → sW wn hn q0 T0 j0 K0 (some d) (some k) = false) (H : Heap) (locs : List Loc) (ls : Array Slot) (hP : va_P (dC, dI) vwCl [(m0, .inr (2, [.int 0, .int (nI wn), .int (nI hn), .int (nI q0), .int wv, .ref a1, .ref a2, .ref a3, .ref a4, .ref a5, .ref a6, .ref a7, .ref a8, .int mn])), (a1, .inl (cI, 25, .inl (kI K0))), (a2, .inl (cI, 25, .inl NX2)), (a3, .inl (cZ, 25, .inl (zB T0))), (a4, .inl (cI, 100, .inl (bI wn hn))), (a5, .inl (cI, 25, .inl (kI K0))), (a6, .inl (cI, 25, .inl RG)), (a7, .inl (cI, 26, .inl SZ)), (a8, .inl (cI, 25, .inl LN))] H) (hD : va_D A [(m0, .inr (2, [.int 0, .int (nI wn), .int (nI hn), .int (nI q0), .int wv, .ref a1, .ref a2, .ref a3, .ref a4, .ref a5, .ref a6, .ref a7, .ref a8, .int mn])), (a1, .inl (cI, 25, .inl (kI K0))), (a2, .inl (cI, 25, .inl NX2)), (a3, .inl (cZ, 25, .inl (zB T0))), (a4, .inl (cI, 100, .inl (bI wn hn))), (a5, .inl (cI, 25, .inl (kI K0))), (a6, .inl (cI, 25, .inl RG)), (a7, .inl (cI, 26, .inl SZ)), (a8, .inl (cI, 25, .inl LN))]) (hS : va_S A s.heap H locs) (hl : lv_has ls 4 [(0, .ref m0), (1, .int (nI j0)), (2, .int (nI i3))]), W p l e rmX2_fewestSeeds s m args below meth c H locs 0 0 Q (F0 m 64 ls []) := by
              intro n
              induction n with
              | zero =>
                intro i3 NX2 hkn e2 H locs ls hP hD hS hl
                refine lv_iload_n hx hb dX2_fewestSeeds_64 rfl (lv_at hl 2 rfl) ?_
                refine lv_aload_n hx hb dX2_fewestSeeds_65 rfl (lv_at hl 0 rfl) ?_
                refine z_callVi (As := []) (rest := [.int (nI i3)]) F9 (m_X2_cells l dC dI cI cZ cJ cD m0 a1 a2 a3 a4 a5 a6 a7 a8 0 wn hn q0 wv K0 NX2 T0 (kI K0) RG SZ LN mn ) (cwV 0 hts gX2_fewestSeeds_X2_cells rfl rfl rfl (by decide +kernel) ⟨Nat.le_of_ble_eq_true rfl, Nat.le_of_ble_eq_true rfl⟩) hK hN hP hD hS hA [0, 1, 2, 3, 4, 5, 6, 7, 8] rfl rfl (fun _ => rfl) 0 (ci := 2) rfl rfl rfl rfl hl.1 rfl (Nat.le_of_ble_eq_true rfl) dX2_fewestSeeds_66 ⟨Nat.zero_le _, Nat.zero_le _⟩ (fun r_6 u H locs hp_66 hP hD hS => ?_)
                have hP : va_P (dC, dI) vwCl [(m0, .inr (2, [.int 0, .int (nI wn), .int (nI hn), .int (nI q0), .int wv, .ref a1, .ref a2, .ref a3, .ref a4, .ref a5, .ref a6, .ref a7, .ref a8, .int mn])), (a1, .inl (cI, 25, .inl (kI K0))), (a2, .inl (cI, 25, .inl NX2)), (a3, .inl (cZ, 25, .inl (zB T0))), (a4, .inl (cI, 100, .inl (bI wn hn))), (a5, .inl (cI, 25, .inl (kI K0))), (a6, .inl (cI, 25, .inl RG)), (a7, .inl (cI, 26, .inl SZ)), (a8, .inl (cI, 25, .inl LN))] H := hP
                have hD : va_D A [(m0, .inr (2, [.int 0, .int (nI wn), .int (nI hn), .int (nI q0), .int wv, .ref a1, .ref a2, .ref a3, .ref a4, .ref a5, .ref a6, .ref a7, .ref a8, .int mn])), (a1, .inl (cI, 25, .inl (kI K0))), (a2, .inl (cI, 25, .inl NX2)), (a3, .inl (cZ, 25, .inl (zB T0))), (a4, .inl (cI, 100, .inl (bI wn hn))), (a5, .inl (cI, 25, .inl (kI K0))), (a6, .inl (cI, 25, .inl RG)), (a7, .inl (cI, 26, .inl SZ)), (a8, .inl (cI, 25, .inl LN))] := hD
                have hp_66 : r_6 = nI (wn * hn) := hp_66
                refine z_topi (y := nI (wn * hn)) hp_66 ?_
                refine lv_icmp_ge (tgt := 103) hx hb dX2_fewestSeeds_69 (by decide) (fun c_69 => ?_) (fun c_69 => ?_)
                · skip
                  have n_69 := zc_le_t (a := (wn * hn)) (b := i3) (by omega) (by omega) c_69
                  refine lv_iconst (v := (-1)) hx hb dX2_fewestSeeds_103 (by decide) ?_
                  rw [← hQ]
                  exact z_iret (W1 := (fun (u : (Nat → Int32)) => [(m0, .inr (2, [.int 0, .int (nI wn), .int (nI hn), .int (nI q0), .int wv, .ref a1, .ref a2, .ref a3, .ref a4, .ref a5, .ref a6, .ref a7, .ref a8, .int mn])), (a1, .inl (cI, 25, .inl (kI K0))), (a2, .inl (cI, 25, .inl u)), (a3, .inl (cZ, 25, .inl (zB T0))), (a4, .inl (cI, 100, .inl (bI wn hn))), (a5, .inl (cI, 25, .inl (kI K0))), (a6, .inl (cI, 25, .inl RG)), (a7, .inl (cI, 26, .inl SZ)), (a8, .inl (cI, 25, .inl LN))])) hx hb hr hlocks hP hS NX2 (rfl) (Or.inr (Or.inr (Or.inr ⟨rfl, bz_0 c_29, f1, fun d hd => e2 d (by omega)⟩))) dX2_fewestSeeds_104
                · skip
                  have n_69 := zc_le_f (a := (wn * hn)) (b := i3) (by omega) (by omega) c_69
                  exact absurd n_69 (by omega)
              | succ n ih_64 =>
                intro i3 NX2 hkn e2 H locs ls hP hD hS hl
                refine lv_iload_n hx hb dX2_fewestSeeds_64 rfl (lv_at hl 2 rfl) ?_
                refine lv_aload_n hx hb dX2_fewestSeeds_65 rfl (lv_at hl 0 rfl) ?_
                refine z_callVi (As := []) (rest := [.int (nI i3)]) F9 (m_X2_cells l dC dI cI cZ cJ cD m0 a1 a2 a3 a4 a5 a6 a7 a8 0 wn hn q0 wv K0 NX2 T0 (kI K0) RG SZ LN mn ) (cwV 0 hts gX2_fewestSeeds_X2_cells rfl rfl rfl (by decide +kernel) ⟨Nat.le_of_ble_eq_true rfl, Nat.le_of_ble_eq_true rfl⟩) hK hN hP hD hS hA [0, 1, 2, 3, 4, 5, 6, 7, 8] rfl rfl (fun _ => rfl) 0 (ci := 2) rfl rfl rfl rfl hl.1 rfl (Nat.le_of_ble_eq_true rfl) dX2_fewestSeeds_66 ⟨Nat.zero_le _, Nat.zero_le _⟩ (fun r_7 u H locs hp_66 hP hD hS => ?_)
                have hP : va_P (dC, dI) vwCl [(m0, .inr (2, [.int 0, .int (nI wn), .int (nI hn), .int (nI q0), .int wv, .ref a1, .ref a2, .ref a3, .ref a4, .ref a5, .ref a6, .ref a7, .ref a8, .int mn])), (a1, .inl (cI, 25, .inl (kI K0))), (a2, .inl (cI, 25, .inl NX2)), (a3, .inl (cZ, 25, .inl (zB T0))), (a4, .inl (cI, 100, .inl (bI wn hn))), (a5, .inl (cI, 25, .inl (kI K0))), (a6, .inl (cI, 25, .inl RG)), (a7, .inl (cI, 26, .inl SZ)), (a8, .inl (cI, 25, .inl LN))] H := hP
                have hD : va_D A [(m0, .inr (2, [.int 0, .int (nI wn), .int (nI hn), .int (nI q0), .int wv, .ref a1, .ref a2, .ref a3, .ref a4, .ref a5, .ref a6, .ref a7, .ref a8, .int mn])), (a1, .inl (cI, 25, .inl (kI K0))), (a2, .inl (cI, 25, .inl NX2)), (a3, .inl (cZ, 25, .inl (zB T0))), (a4, .inl (cI, 100, .inl (bI wn hn))), (a5, .inl (cI, 25, .inl (kI K0))), (a6, .inl (cI, 25, .inl RG)), (a7, .inl (cI, 26, .inl SZ)), (a8, .inl (cI, 25, .inl LN))] := hD
                have hp_66 : r_7 = nI (wn * hn) := hp_66
                refine z_topi (y := nI (wn * hn)) hp_66 ?_
                refine lv_icmp_ge (tgt := 103) hx hb dX2_fewestSeeds_69 (by decide) (fun c_69 => ?_) (fun c_69 => ?_)
                · skip
                  have n_69 := zc_le_t (a := (wn * hn)) (b := i3) (by omega) (by omega) c_69
                  exact absurd n_69 (by omega)
                · skip
                  have n_69 := zc_le_f (a := (wn * hn)) (b := i3) (by omega) (by omega) c_69
                  refine lv_iconst (v := 0) hx hb dX2_fewestSeeds_72 (by decide) ?_
                  refine lv_istore_n (lv' := [(3, .int 0), (0, .ref m0), (1, .int (nI j0)), (2, .int (nI i3))]) hx hb dX2_fewestSeeds_73 rfl hl (by decide) rfl (fun ls hl => ?_)
                  have loop_74 : ∀ (n : Nat) (j : Nat) (NX3 : Nat → Int32) (hkn : j + n = i3) (e3 : ∀ k, k < j → sW wn hn q0 T0 j0 K0 (some i3) (some k) = false) (H : Heap) (locs : List Loc) (ls : Array Slot) (hP : va_P (dC, dI) vwCl [(m0, .inr (2, [.int 0, .int (nI wn), .int (nI hn), .int (nI q0), .int wv, .ref a1, .ref a2, .ref a3, .ref a4, .ref a5, .ref a6, .ref a7, .ref a8, .int mn])), (a1, .inl (cI, 25, .inl (kI K0))), (a2, .inl (cI, 25, .inl NX3)), (a3, .inl (cZ, 25, .inl (zB T0))), (a4, .inl (cI, 100, .inl (bI wn hn))), (a5, .inl (cI, 25, .inl (kI K0))), (a6, .inl (cI, 25, .inl RG)), (a7, .inl (cI, 26, .inl SZ)), (a8, .inl (cI, 25, .inl LN))] H) (hD : va_D A [(m0, .inr (2, [.int 0, .int (nI wn), .int (nI hn), .int (nI q0), .int wv, .ref a1, .ref a2, .ref a3, .ref a4, .ref a5, .ref a6, .ref a7, .ref a8, .int mn])), (a1, .inl (cI, 25, .inl (kI K0))), (a2, .inl (cI, 25, .inl NX3)), (a3, .inl (cZ, 25, .inl (zB T0))), (a4, .inl (cI, 100, .inl (bI wn hn))), (a5, .inl (cI, 25, .inl (kI K0))), (a6, .inl (cI, 25, .inl RG)), (a7, .inl (cI, 26, .inl SZ)), (a8, .inl (cI, 25, .inl LN))]) (hS : va_S A s.heap H locs) (hl : lv_has ls 4 [(0, .ref m0), (1, .int (nI j0)), (2, .int (nI i3)), (3, .int (nI j))]), W p l e rmX2_fewestSeeds s m args below meth c H locs 0 0 Q (F0 m 74 ls []) := by
                    intro n
                    induction n with
                    | zero =>
                      intro j NX3 hkn e3 H locs ls hP hD hS hl
                      refine lv_iload_n hx hb dX2_fewestSeeds_74 rfl (lv_at hl 3 rfl) ?_
                      refine lv_iload_n hx hb dX2_fewestSeeds_75 rfl (lv_at hl 2 rfl) ?_
                      refine lv_icmp_ge (tgt := 97) hx hb dX2_fewestSeeds_76 (by decide) (fun c_76 => ?_) (fun c_76 => ?_)
                      · skip
                        have n_76 := zc_le_t (a := i3) (b := j) (by omega) (by omega) c_76
                        refine lv_iinc (v := nI (i3 + 1)) (lv' := [(2, .int (nI (i3 + 1))), (0, .ref m0), (1, .int (nI j0)), (3, .int (nI j))]) hx hb dX2_fewestSeeds_97 hl (k := 2) rfl (nI_1 i3) (by decide) rfl (fun ls hl => ?_)
                        refine lv_goto (tgt := 64) hx hb dX2_fewestSeeds_100 (by decide) ?_
                        exact ih_64 (i3 + 1) NX3 (by omega) (z_lts e2 (fun k hk => e3 k (by omega))) _ _ _ hP hD hS (lv_sub hl [1, 2, 0] rfl)
                      · skip
                        have n_76 := zc_le_f (a := i3) (b := j) (by omega) (by omega) c_76
                        exact absurd n_76 (by omega)
                    | succ n ih_74 =>
                      intro j NX3 hkn e3 H locs ls hP hD hS hl
                      refine lv_iload_n hx hb dX2_fewestSeeds_74 rfl (lv_at hl 3 rfl) ?_
                      refine lv_iload_n hx hb dX2_fewestSeeds_75 rfl (lv_at hl 2 rfl) ?_
                      refine lv_icmp_ge (tgt := 97) hx hb dX2_fewestSeeds_76 (by decide) (fun c_76 => ?_) (fun c_76 => ?_)
                      · skip
                        have n_76 := zc_le_t (a := i3) (b := j) (by omega) (by omega) c_76
                        exact absurd n_76 (by omega)
                      · skip
                        have n_76 := zc_le_f (a := i3) (b := j) (by omega) (by omega) c_76
                        refine lv_aload_n hx hb dX2_fewestSeeds_79 rfl (lv_at hl 0 rfl) ?_
                        refine lv_iload_n hx hb dX2_fewestSeeds_80 rfl (lv_at hl 1 rfl) ?_
                        refine lv_iload_n hx hb dX2_fewestSeeds_81 rfl (lv_at hl 2 rfl) ?_
                        refine lv_iload_n hx hb dX2_fewestSeeds_82 rfl (lv_at hl 3 rfl) ?_
                        refine z_callVi (As := [.int (nI j0), .int (nI i3), .int (nI j)]) (rest := []) F9 (m_X2_winsWith l dC dI cI cZ cJ cD m0 a1 a2 a3 a4 a5 a6 a7 a8 0 wn hn q0 wv K0 NX3 T0 RG SZ LN mn j0 (some i3) (some j) K0 (g) (hK4) (hq) (hj0) (fun d e9 => by cases e9; exact n_69) (fun d e9 => by cases e9; omega)) (cwV 3 hts gX2_fewestSeeds_X2_winsWith rfl rfl rfl (by decide +kernel) ⟨Nat.le_of_ble_eq_true rfl, Nat.le_of_ble_eq_true rfl⟩) hK hN hP hD hS hA [0, 1, 2, 3, 4, 5, 6, 7, 8] rfl rfl (fun _ => rfl) 0 (ci := 2) rfl rfl rfl rfl hl.1 rfl (Nat.le_of_ble_eq_true rfl) dX2_fewestSeeds_83 ⟨Nat.zero_le _, Nat.zero_le _⟩ (fun r_8 u H locs hp_83 hP hD hS => ?_)
                        obtain ⟨NXq_9, rfl⟩ : ∃ z, z = u := ⟨_, rfl⟩
                        have hP : va_P (dC, dI) vwCl [(m0, .inr (2, [.int 0, .int (nI wn), .int (nI hn), .int (nI q0), .int wv, .ref a1, .ref a2, .ref a3, .ref a4, .ref a5, .ref a6, .ref a7, .ref a8, .int mn])), (a1, .inl (cI, 25, .inl (kI K0))), (a2, .inl (cI, 25, .inl NXq_9)), (a3, .inl (cZ, 25, .inl (zB T0))), (a4, .inl (cI, 100, .inl (bI wn hn))), (a5, .inl (cI, 25, .inl (kI K0))), (a6, .inl (cI, 25, .inl RG)), (a7, .inl (cI, 26, .inl SZ)), (a8, .inl (cI, 25, .inl LN))] H := hP
                        have hD : va_D A [(m0, .inr (2, [.int 0, .int (nI wn), .int (nI hn), .int (nI q0), .int wv, .ref a1, .ref a2, .ref a3, .ref a4, .ref a5, .ref a6, .ref a7, .ref a8, .int mn])), (a1, .inl (cI, 25, .inl (kI K0))), (a2, .inl (cI, 25, .inl NXq_9)), (a3, .inl (cZ, 25, .inl (zB T0))), (a4, .inl (cI, 100, .inl (bI wn hn))), (a5, .inl (cI, 25, .inl (kI K0))), (a6, .inl (cI, 25, .inl RG)), (a7, .inl (cI, 26, .inl SZ)), (a8, .inl (cI, 25, .inl LN))] := hD
                        have hp_83 : r_8 = bz (winF wn hn q0 T0 j0 8 (put (put K0 (some i3) j0) (some j) j0)) := hp_83
                        refine z_topi (y := bz (winF wn hn q0 T0 j0 8 (put (put K0 (some i3) j0) (some j) j0))) hp_83 ?_
                        refine z_topi (y := bz (sW wn hn q0 T0 j0 K0 (some i3) (some j))) (rfl) ?_
                        refine lv_if_eq (tgt := 91) hx hb dX2_fewestSeeds_86 (by decide) (fun c_86 => ?_) (fun c_86 => ?_)
                        · skip
                          refine lv_iinc (v := nI (j + 1)) (lv' := [(3, .int (nI (j + 1))), (0, .ref m0), (1, .int (nI j0)), (2, .int (nI i3))]) hx hb dX2_fewestSeeds_91 hl (k := 3) rfl (nI_1 j) (by decide) rfl (fun ls hl => ?_)
                          refine lv_goto (tgt := 74) hx hb dX2_fewestSeeds_94 (by decide) ?_
                          exact ih_74 (j + 1) NXq_9 (by omega) (z_lts e3 (bz_0 c_86)) _ _ _ hP hD hS (lv_sub hl [1, 2, 3, 0] rfl)
                        · skip
                          refine lv_iconst (v := 2) hx hb dX2_fewestSeeds_89 (by decide) ?_
                          rw [← hQ]
                          exact z_iret (W1 := (fun (u : (Nat → Int32)) => [(m0, .inr (2, [.int 0, .int (nI wn), .int (nI hn), .int (nI q0), .int wv, .ref a1, .ref a2, .ref a3, .ref a4, .ref a5, .ref a6, .ref a7, .ref a8, .int mn])), (a1, .inl (cI, 25, .inl (kI K0))), (a2, .inl (cI, 25, .inl u)), (a3, .inl (cZ, 25, .inl (zB T0))), (a4, .inl (cI, 100, .inl (bI wn hn))), (a5, .inl (cI, 25, .inl (kI K0))), (a6, .inl (cI, 25, .inl RG)), (a7, .inl (cI, 26, .inl SZ)), (a8, .inl (cI, 25, .inl LN))])) hx hb hr hlocks hP hS NXq_9 (rfl) (Or.inr (Or.inr (Or.inl ⟨rfl, bz_0 c_29, f1, i3, j, n_76, n_69, bz_1 c_86⟩))) dX2_fewestSeeds_90
                  exact loop_74 i3 0 NX2 (by omega) (fun d hd => absurd hd (Nat.not_lt_zero d)) _ _ _ hP hD hS (lv_sub hl [1, 2, 3, 0] rfl)
            exact loop_64 (wn * hn) 0 NX1 (by omega) (fun d hd => absurd hd (Nat.not_lt_zero d)) _ _ _ hP hD hS (lv_sub hl [1, 2, 0] rfl)
          · skip
            have n_41 := zc_le_f (a := (wn * hn)) (b := i) (by omega) (by omega) c_41
            exact absurd n_41 (by omega)
        | succ n ih_36 =>
          intro i NX1 hkn e1 H locs ls hP hD hS hl
          refine lv_iload_n hx hb dX2_fewestSeeds_36 rfl (lv_at hl 2 rfl) ?_
          refine lv_aload_n hx hb dX2_fewestSeeds_37 rfl (lv_at hl 0 rfl) ?_
          refine z_callVi (As := []) (rest := [.int (nI i)]) F9 (m_X2_cells l dC dI cI cZ cJ cD m0 a1 a2 a3 a4 a5 a6 a7 a8 0 wn hn q0 wv K0 NX1 T0 (kI K0) RG SZ LN mn ) (cwV 0 hts gX2_fewestSeeds_X2_cells rfl rfl rfl (by decide +kernel) ⟨Nat.le_of_ble_eq_true rfl, Nat.le_of_ble_eq_true rfl⟩) hK hN hP hD hS hA [0, 1, 2, 3, 4, 5, 6, 7, 8] rfl rfl (fun _ => rfl) 0 (ci := 2) rfl rfl rfl rfl hl.1 rfl (Nat.le_of_ble_eq_true rfl) dX2_fewestSeeds_38 ⟨Nat.zero_le _, Nat.zero_le _⟩ (fun r_10 u H locs hp_38 hP hD hS => ?_)
          have hP : va_P (dC, dI) vwCl [(m0, .inr (2, [.int 0, .int (nI wn), .int (nI hn), .int (nI q0), .int wv, .ref a1, .ref a2, .ref a3, .ref a4, .ref a5, .ref a6, .ref a7, .ref a8, .int mn])), (a1, .inl (cI, 25, .inl (kI K0))), (a2, .inl (cI, 25, .inl NX1)), (a3, .inl (cZ, 25, .inl (zB T0))), (a4, .inl (cI, 100, .inl (bI wn hn))), (a5, .inl (cI, 25, .inl (kI K0))), (a6, .inl (cI, 25, .inl RG)), (a7, .inl (cI, 26, .inl SZ)), (a8, .inl (cI, 25, .inl LN))] H := hP
          have hD : va_D A [(m0, .inr (2, [.int 0, .int (nI wn), .int (nI hn), .int (nI q0), .int wv, .ref a1, .ref a2, .ref a3, .ref a4, .ref a5, .ref a6, .ref a7, .ref a8, .int mn])), (a1, .inl (cI, 25, .inl (kI K0))), (a2, .inl (cI, 25, .inl NX1)), (a3, .inl (cZ, 25, .inl (zB T0))), (a4, .inl (cI, 100, .inl (bI wn hn))), (a5, .inl (cI, 25, .inl (kI K0))), (a6, .inl (cI, 25, .inl RG)), (a7, .inl (cI, 26, .inl SZ)), (a8, .inl (cI, 25, .inl LN))] := hD
          have hp_38 : r_10 = nI (wn * hn) := hp_38
          refine z_topi (y := nI (wn * hn)) hp_38 ?_
          refine lv_icmp_ge (tgt := 62) hx hb dX2_fewestSeeds_41 (by decide) (fun c_41 => ?_) (fun c_41 => ?_)
          · skip
            have n_41 := zc_le_t (a := (wn * hn)) (b := i) (by omega) (by omega) c_41
            exact absurd n_41 (by omega)
          · skip
            have n_41 := zc_le_f (a := (wn * hn)) (b := i) (by omega) (by omega) c_41
            refine lv_aload_n hx hb dX2_fewestSeeds_44 rfl (lv_at hl 0 rfl) ?_
            refine lv_iload_n hx hb dX2_fewestSeeds_45 rfl (lv_at hl 1 rfl) ?_
            refine lv_iload_n hx hb dX2_fewestSeeds_46 rfl (lv_at hl 2 rfl) ?_
            refine lv_iconst (v := (-1)) hx hb dX2_fewestSeeds_47 (by decide) ?_
            refine z_callVi (As := [.int (nI j0), .int (nI i), .int (-1)]) (rest := []) F9 (m_X2_winsWith l dC dI cI cZ cJ cD m0 a1 a2 a3 a4 a5 a6 a7 a8 0 wn hn q0 wv K0 NX1 T0 RG SZ LN mn j0 (some i) none K0 (g) (hK4) (hq) (hj0) (fun d e9 => by cases e9; exact n_41) (fun d e9 => by cases e9)) (cwV 3 hts gX2_fewestSeeds_X2_winsWith rfl rfl rfl (by decide +kernel) ⟨Nat.le_of_ble_eq_true rfl, Nat.le_of_ble_eq_true rfl⟩) hK hN hP hD hS hA [0, 1, 2, 3, 4, 5, 6, 7, 8] rfl rfl (fun _ => rfl) 0 (ci := 2) rfl rfl rfl rfl hl.1 rfl (Nat.le_of_ble_eq_true rfl) dX2_fewestSeeds_48 ⟨Nat.zero_le _, Nat.zero_le _⟩ (fun r_11 u H locs hp_48 hP hD hS => ?_)
            obtain ⟨NXq_12, rfl⟩ : ∃ z, z = u := ⟨_, rfl⟩
            have hP : va_P (dC, dI) vwCl [(m0, .inr (2, [.int 0, .int (nI wn), .int (nI hn), .int (nI q0), .int wv, .ref a1, .ref a2, .ref a3, .ref a4, .ref a5, .ref a6, .ref a7, .ref a8, .int mn])), (a1, .inl (cI, 25, .inl (kI K0))), (a2, .inl (cI, 25, .inl NXq_12)), (a3, .inl (cZ, 25, .inl (zB T0))), (a4, .inl (cI, 100, .inl (bI wn hn))), (a5, .inl (cI, 25, .inl (kI K0))), (a6, .inl (cI, 25, .inl RG)), (a7, .inl (cI, 26, .inl SZ)), (a8, .inl (cI, 25, .inl LN))] H := hP
            have hD : va_D A [(m0, .inr (2, [.int 0, .int (nI wn), .int (nI hn), .int (nI q0), .int wv, .ref a1, .ref a2, .ref a3, .ref a4, .ref a5, .ref a6, .ref a7, .ref a8, .int mn])), (a1, .inl (cI, 25, .inl (kI K0))), (a2, .inl (cI, 25, .inl NXq_12)), (a3, .inl (cZ, 25, .inl (zB T0))), (a4, .inl (cI, 100, .inl (bI wn hn))), (a5, .inl (cI, 25, .inl (kI K0))), (a6, .inl (cI, 25, .inl RG)), (a7, .inl (cI, 26, .inl SZ)), (a8, .inl (cI, 25, .inl LN))] := hD
            have hp_48 : r_11 = bz (winF wn hn q0 T0 j0 8 (put (put K0 (some i) j0) none j0)) := hp_48
            refine z_topi (y := bz (winF wn hn q0 T0 j0 8 (put (put K0 (some i) j0) none j0))) hp_48 ?_
            refine z_topi (y := bz (sW wn hn q0 T0 j0 K0 (some i) none)) (rfl) ?_
            refine lv_if_eq (tgt := 56) hx hb dX2_fewestSeeds_51 (by decide) (fun c_51 => ?_) (fun c_51 => ?_)
            · skip
              refine lv_iinc (v := nI (i + 1)) (lv' := [(2, .int (nI (i + 1))), (0, .ref m0), (1, .int (nI j0))]) hx hb dX2_fewestSeeds_56 hl (k := 2) rfl (nI_1 i) (by decide) rfl (fun ls hl => ?_)
              refine lv_goto (tgt := 36) hx hb dX2_fewestSeeds_59 (by decide) ?_
              exact ih_36 (i + 1) NXq_12 (by omega) (z_lts e1 (bz_0 c_51)) _ _ _ hP hD hS (lv_sub hl [1, 2, 0] rfl)
            · skip
              refine lv_iconst (v := 1) hx hb dX2_fewestSeeds_54 (by decide) ?_
              rw [← hQ]
              exact z_iret (W1 := (fun (u : (Nat → Int32)) => [(m0, .inr (2, [.int 0, .int (nI wn), .int (nI hn), .int (nI q0), .int wv, .ref a1, .ref a2, .ref a3, .ref a4, .ref a5, .ref a6, .ref a7, .ref a8, .int mn])), (a1, .inl (cI, 25, .inl (kI K0))), (a2, .inl (cI, 25, .inl u)), (a3, .inl (cZ, 25, .inl (zB T0))), (a4, .inl (cI, 100, .inl (bI wn hn))), (a5, .inl (cI, 25, .inl (kI K0))), (a6, .inl (cI, 25, .inl RG)), (a7, .inl (cI, 26, .inl SZ)), (a8, .inl (cI, 25, .inl LN))])) hx hb hr hlocks hP hS NXq_12 (rfl) (Or.inr (Or.inl ⟨rfl, bz_0 c_29, i, n_41, bz_1 c_51⟩)) dX2_fewestSeeds_55
      exact loop_36 (wn * hn) 0 NXq_4 (by omega) (fun d hd => absurd hd (Nat.not_lt_zero d)) _ _ _ hP hD hS (lv_sub hl [1, 2, 0] rfl)
    · skip
      refine lv_iconst (v := 0) hx hb dX2_fewestSeeds_32 (by decide) ?_
      rw [← hQ]
      exact z_iret (W1 := (fun (u : (Nat → Int32)) => [(m0, .inr (2, [.int 0, .int (nI wn), .int (nI hn), .int (nI q0), .int wv, .ref a1, .ref a2, .ref a3, .ref a4, .ref a5, .ref a6, .ref a7, .ref a8, .int mn])), (a1, .inl (cI, 25, .inl (kI K0))), (a2, .inl (cI, 25, .inl u)), (a3, .inl (cZ, 25, .inl (zB T0))), (a4, .inl (cI, 100, .inl (bI wn hn))), (a5, .inl (cI, 25, .inl (kI K0))), (a6, .inl (cI, 25, .inl RG)), (a7, .inl (cI, 26, .inl SZ)), (a8, .inl (cI, 25, .inl LN))])) hx hb hr hlocks hP hS NXq_4 (rfl) (Or.inl ⟨rfl, bz_1 c_29⟩) dX2_fewestSeeds_33
  · skip
    exact absurd (col_ok hj1 hj0) (z_if0 c_9)
set_option maxHeartbeats 4000000 in
set_option maxRecDepth 100000 in
theorem m_X2_fewestSeeds_no (l : Launch) (dC : Nat → ClassId) (dI : Nat → Nat → Nat) (cI cZ cJ cD : ClassId) (m0 : Nat) (a1 : Nat) (a2 : Nat) (a3 : Nat) (a4 : Nat) (a5 : Nat) (a6 : Nat) (a7 : Nat) (a8 : Nat) (th : Int32) (wn : Nat) (hn : Nat) (q0 : Nat) (wv : Int32) (K0 : Nat → Nat) (NX : Nat → Int32) (T0 : Nat → Bool) (KP : Nat → Int32) (RG : Nat → Int32) (SZ : Nat → Int32) (LN : Nat → Int32) (mn : Int32) (col : Int32) (g : gok wn hn) (hK4 : ∀ c, K0 c ≤ 4) (hno : ¬ pCol col) : zI l (dC, dI) (wT cI cZ cJ cD) yX2_fewestSeeds wsX2_fewestSeeds rmX2_fewestSeeds [(m0, .inr (2, [.int th, .int (nI wn), .int (nI hn), .int (nI q0), .int wv, .ref a1, .ref a2, .ref a3, .ref a4, .ref a5, .ref a6, .ref a7, .ref a8, .int mn])), (a1, .inl (cI, 25, .inl (kI K0))), (a2, .inl (cI, 25, .inl NX)), (a3, .inl (cZ, 25, .inl (zB T0))), (a4, .inl (cI, 100, .inl (bI wn hn))), (a5, .inl (cI, 25, .inl KP)), (a6, .inl (cI, 25, .inl RG)), (a7, .inl (cI, 26, .inl SZ)), (a8, .inl (cI, 25, .inl LN))] [.ref m0, .int col] (fun (_ : Unit) => [(m0, .inr (2, [.int 1, .int (nI wn), .int (nI hn), .int (nI q0), .int wv, .ref a1, .ref a2, .ref a3, .ref a4, .ref a5, .ref a6, .ref a7, .ref a8, .int mn])), (a1, .inl (cI, 25, .inl (kI K0))), (a2, .inl (cI, 25, .inl NX)), (a3, .inl (cZ, 25, .inl (zB T0))), (a4, .inl (cI, 100, .inl (bI wn hn))), (a5, .inl (cI, 25, .inl KP)), (a6, .inl (cI, 25, .inl RG)), (a7, .inl (cI, 26, .inl SZ)), (a8, .inl (cI, 25, .inl LN))]) (fun (r : Int32) (_ : Unit) => True) := by
  intro sz
  refine Met.ofW (cc := cX2_fewestSeeds) (maxL := 4) (ret := (some .int)) (by decide) rfl ?_
  intro p e s m args below meth c s₁ B hml hv
  obtain ⟨ha, hsz, hP, hK, hD0, hN⟩ := hv
  have hx := B.exec
  have hb := B.bytes
  have hr := B.returns
  have hts := atoms_spec (ws := wsX2_fewestSeeds) B.pre
  have hown : s.vm.findClass RX2 = some m.cls := findClass_of_methodNamed B.named
  have hlocks := B.notSynchronized
  subst hsz
  have hD := hD0.self (sz := s.heap.size)
  generalize hAe : va_A [(m0, .inr (2, [.int th, .int (nI wn), .int (nI hn), .int (nI q0), .int wv, .ref a1, .ref a2, .ref a3, .ref a4, .ref a5, .ref a6, .ref a7, .ref a8, .int mn])), (a1, .inl (cI, 25, .inl (kI K0))), (a2, .inl (cI, 25, .inl NX)), (a3, .inl (cZ, 25, .inl (zB T0))), (a4, .inl (cI, 100, .inl (bI wn hn))), (a5, .inl (cI, 25, .inl KP)), (a6, .inl (cI, 25, .inl RG)), (a7, .inl (cI, 26, .inl SZ)), (a8, .inl (cI, 25, .inl LN))] s.heap.size = A at hD ⊢
  have hA : ∀ q : Nat, s.heap.size ≤ q → A q := fun q h => by rw [← hAe]; exact Or.inr h
  have hS : va_S A s.heap s.heap [] := va_S.rf
  generalize hQ : MQ below (va_Qi (fun (r : Int32) (_ : Unit) => True) (fun u t => va_P (dC, dI) vwCl ((fun (_ : Unit) => [(m0, .inr (2, [.int 1, .int (nI wn), .int (nI hn), .int (nI q0), .int wv, .ref a1, .ref a2, .ref a3, .ref a4, .ref a5, .ref a6, .ref a7, .ref a8, .int mn])), (a1, .inl (cI, 25, .inl (kI K0))), (a2, .inl (cI, 25, .inl NX)), (a3, .inl (cZ, 25, .inl (zB T0))), (a4, .inl (cI, 100, .inl (bI wn hn))), (a5, .inl (cI, 25, .inl KP)), (a6, .inl (cI, 25, .inl RG)), (a7, .inl (cI, 26, .inl SZ)), (a8, .inl (cI, 25, .inl LN))]) u) t.heap) A) args s 0 0 A = Q
  have F9 : CallFix p m c cX2_fewestSeeds 4 s args wsX2_fewestSeeds RX2 := ⟨hx, hb, hml, hown, hts⟩
  obtain ⟨g1, g2, g3, g4⟩ := id g
  have g5 := wh_le g
  have g6 := wh_pos g
  refine z_entry (R := rmX2_fewestSeeds) ha (Nat.le_of_ble_eq_true rfl) (fun ls hl => ?_)
  have hl : lv_has ls 4 [(0, .ref m0), (1, .int col)] := hl
  refine lv_aload_n hx hb dX2_fewestSeeds_0 rfl (lv_at hl 0 rfl) ?_
  refine lv_iconst (v := 0) hx hb dX2_fewestSeeds_1 (by decide) ?_
  refine va_put (D := (dC, dI)) (ci := 2) (v := .int 0) (ty := .int) (C := RX2) (T := TX2) (N := 14) hx hb hts iX2_fewestSeeds_X2 tyX2 tyX2_ok nmX2 hown hK hP hD hS 0 rfl rfl 0 (by decide) (hts (.fieldLink RX2 43 "ColourTideModel" "thrown" "I") (List.mem_of_getElem? (i := 1) rfl)) (fun _ h9 => h9) rfl (by decide +kernel) rfl rfl (Nat.le_of_ble_eq_true rfl) dX2_fewestSeeds_2 (fun H locs hP hD hS => ?_)
  have hP : va_P (dC, dI) vwCl [(m0, .inr (2, [.int 0, .int (nI wn), .int (nI hn), .int (nI q0), .int wv, .ref a1, .ref a2, .ref a3, .ref a4, .ref a5, .ref a6, .ref a7, .ref a8, .int mn])), (a1, .inl (cI, 25, .inl (kI K0))), (a2, .inl (cI, 25, .inl NX)), (a3, .inl (cZ, 25, .inl (zB T0))), (a4, .inl (cI, 100, .inl (bI wn hn))), (a5, .inl (cI, 25, .inl KP)), (a6, .inl (cI, 25, .inl RG)), (a7, .inl (cI, 26, .inl SZ)), (a8, .inl (cI, 25, .inl LN))] H := hP
  have hD : va_D A [(m0, .inr (2, [.int 0, .int (nI wn), .int (nI hn), .int (nI q0), .int wv, .ref a1, .ref a2, .ref a3, .ref a4, .ref a5, .ref a6, .ref a7, .ref a8, .int mn])), (a1, .inl (cI, 25, .inl (kI K0))), (a2, .inl (cI, 25, .inl NX)), (a3, .inl (cZ, 25, .inl (zB T0))), (a4, .inl (cI, 100, .inl (bI wn hn))), (a5, .inl (cI, 25, .inl KP)), (a6, .inl (cI, 25, .inl RG)), (a7, .inl (cI, 26, .inl SZ)), (a8, .inl (cI, 25, .inl LN))] := hD
  refine lv_iload_n hx hb dX2_fewestSeeds_5 rfl (lv_at hl 1 rfl) ?_
  refine z_callSi (As := [.int col]) (rest := []) F9 (m_X2_isColour l dC dI cI cZ cJ cD col ) (va_cwS 1 hts gX2_fewestSeeds_X2_isColour rfl rfl rfl (by decide +kernel) ⟨Nat.le_of_ble_eq_true rfl, Nat.le_of_ble_eq_true rfl⟩) hK hN hP hD hS hA rfl hl.1 rfl (Nat.le_of_ble_eq_true rfl) dX2_fewestSeeds_6 ⟨Nat.zero_le _, Nat.zero_le _⟩ (fun r_1 H locs hp_6 hP hS => ?_)
  have hp_6 : r_1 = if pCol col then 1 else 0 := hp_6
  refine z_topi (y := if pCol col then 1 else 0) hp_6 ?_
  refine lv_if_ne (tgt := 18) hx hb dX2_fewestSeeds_9 (by decide) (fun c_9 => ?_) (fun c_9 => ?_)
  · skip
    exact absurd (z_if1 c_9) hno
  · skip
    refine lv_aload_n hx hb dX2_fewestSeeds_12 rfl (lv_at hl 0 rfl) ?_
    refine lv_iconst (v := 1) hx hb dX2_fewestSeeds_13 (by decide) ?_
    refine z_callVi (As := [.int 1]) (rest := []) F9 (m_X2_fail l dC dI cI cZ cJ cD m0 a1 a2 a3 a4 a5 a6 a7 a8 0 wn hn q0 wv K0 NX T0 KP RG SZ LN mn 1 ) (cwV 1 hts gX2_fewestSeeds_X2_fail rfl rfl rfl (by decide +kernel) ⟨Nat.le_of_ble_eq_true rfl, Nat.le_of_ble_eq_true rfl⟩) hK hN hP hD hS hA [0, 1, 2, 3, 4, 5, 6, 7, 8] rfl rfl (fun _ => rfl) 0 (ci := 2) rfl rfl rfl rfl hl.1 rfl (Nat.le_of_ble_eq_true rfl) dX2_fewestSeeds_14 ⟨Nat.zero_le _, Nat.zero_le _⟩ (fun r_2 u H locs hp_14 hP hD hS => ?_)
    have hP : va_P (dC, dI) vwCl [(m0, .inr (2, [.int 1, .int (nI wn), .int (nI hn), .int (nI q0), .int wv, .ref a1, .ref a2, .ref a3, .ref a4, .ref a5, .ref a6, .ref a7, .ref a8, .int mn])), (a1, .inl (cI, 25, .inl (kI K0))), (a2, .inl (cI, 25, .inl NX)), (a3, .inl (cZ, 25, .inl (zB T0))), (a4, .inl (cI, 100, .inl (bI wn hn))), (a5, .inl (cI, 25, .inl KP)), (a6, .inl (cI, 25, .inl RG)), (a7, .inl (cI, 26, .inl SZ)), (a8, .inl (cI, 25, .inl LN))] H := hP
    have hD : va_D A [(m0, .inr (2, [.int 1, .int (nI wn), .int (nI hn), .int (nI q0), .int wv, .ref a1, .ref a2, .ref a3, .ref a4, .ref a5, .ref a6, .ref a7, .ref a8, .int mn])), (a1, .inl (cI, 25, .inl (kI K0))), (a2, .inl (cI, 25, .inl NX)), (a3, .inl (cZ, 25, .inl (zB T0))), (a4, .inl (cI, 100, .inl (bI wn hn))), (a5, .inl (cI, 25, .inl KP)), (a6, .inl (cI, 25, .inl RG)), (a7, .inl (cI, 26, .inl SZ)), (a8, .inl (cI, 25, .inl LN))] := hD
    have hp_14 : r_2 = 0 := hp_14
    refine z_topi (y := 0) hp_14 ?_
    rw [← hQ]
    exact z_iret (W1 := (fun (_ : Unit) => [(m0, .inr (2, [.int 1, .int (nI wn), .int (nI hn), .int (nI q0), .int wv, .ref a1, .ref a2, .ref a3, .ref a4, .ref a5, .ref a6, .ref a7, .ref a8, .int mn])), (a1, .inl (cI, 25, .inl (kI K0))), (a2, .inl (cI, 25, .inl NX)), (a3, .inl (cZ, 25, .inl (zB T0))), (a4, .inl (cI, 100, .inl (bI wn hn))), (a5, .inl (cI, 25, .inl KP)), (a6, .inl (cI, 25, .inl RG)), (a7, .inl (cI, 26, .inl SZ)), (a8, .inl (cI, 25, .inl LN))])) hx hb hr hlocks hP hS () (rfl) (trivial) dX2_fewestSeeds_17
abbrev rmX2_bestCell : Room := { frames := 4, cells := 0, slots := 0, locals := 95 }
set_option maxRecDepth 20000 in
theorem iX2_bestCell_X2 : ∀ w ∈ wsX20, w ∈ wsX2_bestCell := fun w h => (goodIn_r (big := wsX2_bestCell) wsX20 [57, 58, 59, 60, 61, 62, 63, 64, 65, 66, 67, 68, 69, 70] (by decide +kernel) (by decide +kernel) w h).1
set_option maxHeartbeats 4000000 in
set_option maxRecDepth 100000 in
theorem m_X2_bestCell_ok (l : Launch) (dC : Nat → ClassId) (dI : Nat → Nat → Nat) (cI cZ cJ cD : ClassId) (m0 : Nat) (a1 : Nat) (a2 : Nat) (a3 : Nat) (a4 : Nat) (a5 : Nat) (a6 : Nat) (a7 : Nat) (a8 : Nat) (th : Int32) (wn : Nat) (hn : Nat) (q0 : Nat) (wv : Int32) (K0 : Nat → Nat) (NX : Nat → Int32) (T0 : Nat → Bool) (KP : Nat → Int32) (RG : Nat → Int32) (SZ : Nat → Int32) (LN : Nat → Int32) (mn : Int32) (j0 : Nat) (n9 : Nat) (g : gok wn hn) (hK4 : ∀ c, K0 c ≤ 4) (hq : 1 ≤ q0 ∧ q0 ≤ 4) (hj0 : j0 < 5) (hj1 : j0 ≠ 0) (hn9 : 1 ≤ n9 ∧ n9 ≤ 24) : zI l (dC, dI) (wT cI cZ cJ cD) yX2_bestCell wsX2_bestCell rmX2_bestCell [(m0, .inr (2, [.int th, .int (nI wn), .int (nI hn), .int (nI q0), .int wv, .ref a1, .ref a2, .ref a3, .ref a4, .ref a5, .ref a6, .ref a7, .ref a8, .int mn])), (a1, .inl (cI, 25, .inl (kI K0))), (a2, .inl (cI, 25, .inl NX)), (a3, .inl (cZ, 25, .inl (zB T0))), (a4, .inl (cI, 100, .inl (bI wn hn))), (a5, .inl (cI, 25, .inl KP)), (a6, .inl (cI, 25, .inl RG)), (a7, .inl (cI, 26, .inl SZ)), (a8, .inl (cI, 25, .inl LN))] [.ref m0, .int (nI j0), .int (nI n9)] (fun (u : (Nat → Int32)) => [(m0, .inr (2, [.int 0, .int (nI wn), .int (nI hn), .int (nI q0), .int wv, .ref a1, .ref a2, .ref a3, .ref a4, .ref a5, .ref a6, .ref a7, .ref a8, .int mn])), (a1, .inl (cI, 25, .inl (kI K0))), (a2, .inl (cI, 25, .inl u)), (a3, .inl (cZ, 25, .inl (zB T0))), (a4, .inl (cI, 100, .inl (bI wn hn))), (a5, .inl (cI, 25, .inl (kI K0))), (a6, .inl (cI, 25, .inl RG)), (a7, .inl (cI, 26, .inl SZ)), (a8, .inl (cI, 25, .inl LN))]) (fun (r : Int32) (u : (Nat → Int32)) => r = nI (bcI (bcF wn hn q0 T0 K0 j0 n9) (wn * hn))) := by
  intro sz
  refine Met.ofW (cc := cX2_bestCell) (maxL := 7) (ret := (some .int)) (by decide) rfl ?_
  intro p e s m args below meth c s₁ B hml hv
  obtain ⟨ha, hsz, hP, hK, hD0, hN⟩ := hv
  have hx := B.exec
  have hb := B.bytes
  have hr := B.returns
  have hts := atoms_spec (ws := wsX2_bestCell) B.pre
  have hown : s.vm.findClass RX2 = some m.cls := findClass_of_methodNamed B.named
  have hlocks := B.notSynchronized
  subst hsz
  have hD := hD0.self (sz := s.heap.size)
  generalize hAe : va_A [(m0, .inr (2, [.int th, .int (nI wn), .int (nI hn), .int (nI q0), .int wv, .ref a1, .ref a2, .ref a3, .ref a4, .ref a5, .ref a6, .ref a7, .ref a8, .int mn])), (a1, .inl (cI, 25, .inl (kI K0))), (a2, .inl (cI, 25, .inl NX)), (a3, .inl (cZ, 25, .inl (zB T0))), (a4, .inl (cI, 100, .inl (bI wn hn))), (a5, .inl (cI, 25, .inl KP)), (a6, .inl (cI, 25, .inl RG)), (a7, .inl (cI, 26, .inl SZ)), (a8, .inl (cI, 25, .inl LN))] s.heap.size = A at hD ⊢
  have hA : ∀ q : Nat, s.heap.size ≤ q → A q := fun q h => by rw [← hAe]; exact Or.inr h
  have hS : va_S A s.heap s.heap [] := va_S.rf
  generalize hQ : MQ below (va_Qi (fun (r : Int32) (u : (Nat → Int32)) => r = nI (bcI (bcF wn hn q0 T0 K0 j0 n9) (wn * hn))) (fun u t => va_P (dC, dI) vwCl ((fun (u : (Nat → Int32)) => [(m0, .inr (2, [.int 0, .int (nI wn), .int (nI hn), .int (nI q0), .int wv, .ref a1, .ref a2, .ref a3, .ref a4, .ref a5, .ref a6, .ref a7, .ref a8, .int mn])), (a1, .inl (cI, 25, .inl (kI K0))), (a2, .inl (cI, 25, .inl u)), (a3, .inl (cZ, 25, .inl (zB T0))), (a4, .inl (cI, 100, .inl (bI wn hn))), (a5, .inl (cI, 25, .inl (kI K0))), (a6, .inl (cI, 25, .inl RG)), (a7, .inl (cI, 26, .inl SZ)), (a8, .inl (cI, 25, .inl LN))]) u) t.heap) A) args s 0 0 A = Q
  have F9 : CallFix p m c cX2_bestCell 7 s args wsX2_bestCell RX2 := ⟨hx, hb, hml, hown, hts⟩
  obtain ⟨g1, g2, g3, g4⟩ := id g
  have g5 := wh_le g
  have g6 := wh_pos g
  have hff : ∀ d, (bcF wn hn q0 T0 K0 j0 n9) d < 1000 := fun d => by have := bcF_le wn hn q0 T0 K0 j0 n9 d; omega
  refine z_entry (R := rmX2_bestCell) ha (Nat.le_of_ble_eq_true rfl) (fun ls hl => ?_)
  have hl : lv_has ls 7 [(0, .ref m0), (1, .int (nI j0)), (2, .int (nI n9))] := hl
  refine lv_aload_n hx hb dX2_bestCell_0 rfl (lv_at hl 0 rfl) ?_
  refine lv_iconst (v := 0) hx hb dX2_bestCell_1 (by decide) ?_
  refine va_put (D := (dC, dI)) (ci := 2) (v := .int 0) (ty := .int) (C := RX2) (T := TX2) (N := 14) hx hb hts iX2_bestCell_X2 tyX2 tyX2_ok nmX2 hown hK hP hD hS 0 rfl rfl 0 (by decide) (hts (.fieldLink RX2 43 "ColourTideModel" "thrown" "I") (List.mem_of_getElem? (i := 1) rfl)) (fun _ h9 => h9) rfl (by decide +kernel) rfl rfl (Nat.le_of_ble_eq_true rfl) dX2_bestCell_2 (fun H locs hP hD hS => ?_)
  have hP : va_P (dC, dI) vwCl [(m0, .inr (2, [.int 0, .int (nI wn), .int (nI hn), .int (nI q0), .int wv, .ref a1, .ref a2, .ref a3, .ref a4, .ref a5, .ref a6, .ref a7, .ref a8, .int mn])), (a1, .inl (cI, 25, .inl (kI K0))), (a2, .inl (cI, 25, .inl NX)), (a3, .inl (cZ, 25, .inl (zB T0))), (a4, .inl (cI, 100, .inl (bI wn hn))), (a5, .inl (cI, 25, .inl KP)), (a6, .inl (cI, 25, .inl RG)), (a7, .inl (cI, 26, .inl SZ)), (a8, .inl (cI, 25, .inl LN))] H := hP
  have hD : va_D A [(m0, .inr (2, [.int 0, .int (nI wn), .int (nI hn), .int (nI q0), .int wv, .ref a1, .ref a2, .ref a3, .ref a4, .ref a5, .ref a6, .ref a7, .ref a8, .int mn])), (a1, .inl (cI, 25, .inl (kI K0))), (a2, .inl (cI, 25, .inl NX)), (a3, .inl (cZ, 25, .inl (zB T0))), (a4, .inl (cI, 100, .inl (bI wn hn))), (a5, .inl (cI, 25, .inl KP)), (a6, .inl (cI, 25, .inl RG)), (a7, .inl (cI, 26, .inl SZ)), (a8, .inl (cI, 25, .inl LN))] := hD
  refine lv_iload_n hx hb dX2_bestCell_5 rfl (lv_at hl 1 rfl) ?_
  refine z_callSi (As := [.int (nI j0)]) (rest := []) F9 (m_X2_isColour l dC dI cI cZ cJ cD (nI j0) ) (va_cwS 1 hts gX2_bestCell_X2_isColour rfl rfl rfl (by decide +kernel) ⟨Nat.le_of_ble_eq_true rfl, Nat.le_of_ble_eq_true rfl⟩) hK hN hP hD hS hA rfl hl.1 rfl (Nat.le_of_ble_eq_true rfl) dX2_bestCell_6 ⟨Nat.zero_le _, Nat.zero_le _⟩ (fun r_1 H locs hp_6 hP hS => ?_)
  have hp_6 : r_1 = if pCol (nI j0) then 1 else 0 := hp_6
  refine z_topi (y := if pCol (nI j0) then 1 else 0) hp_6 ?_
  refine lv_if_ne (tgt := 18) hx hb dX2_bestCell_9 (by decide) (fun c_9 => ?_) (fun c_9 => ?_)
  · skip
    refine lv_iload_n hx hb dX2_bestCell_18 rfl (lv_at hl 2 rfl) ?_
    refine lv_iconst (v := 1) hx hb dX2_bestCell_19 (by decide) ?_
    refine lv_bipush (v := 24) hx hb dX2_bestCell_20 (by decide +kernel) ?_
    refine z_callSi (As := [.int (nI n9), .int 1, .int 24]) (rest := []) F9 (m_X2_isIn l dC dI cI cZ cJ cD (nI n9) 1 24 ) (va_cwS 3 hts gX2_bestCell_X2_isIn rfl rfl rfl (by decide +kernel) ⟨Nat.le_of_ble_eq_true rfl, Nat.le_of_ble_eq_true rfl⟩) hK hN hP hD hS hA rfl hl.1 rfl (Nat.le_of_ble_eq_true rfl) dX2_bestCell_22 ⟨Nat.zero_le _, Nat.zero_le _⟩ (fun r_2 H locs hp_22 hP hS => ?_)
    have hp_22 : r_2 = if pIn (nI n9) 1 24 then 1 else 0 := hp_22
    refine z_topi (y := if pIn (nI n9) 1 24 then 1 else 0) hp_22 ?_
    refine lv_if_ne (tgt := 34) hx hb dX2_bestCell_25 (by decide) (fun c_25 => ?_) (fun c_25 => ?_)
    · skip
      refine lv_aload_n hx hb dX2_bestCell_34 rfl (lv_at hl 0 rfl) ?_
      refine z_callVv (As := []) (rest := []) F9 (m_X2_keep l dC dI cI cZ cJ cD m0 a1 a2 a3 a4 a5 a6 a7 a8 0 wn hn q0 wv K0 NX T0 KP RG SZ LN mn ) (cwV 0 hts gX2_bestCell_X2_keep rfl rfl rfl (by decide +kernel) ⟨Nat.le_of_ble_eq_true rfl, Nat.le_of_ble_eq_true rfl⟩) hK hN hP hD hS hA [0, 1, 2, 3, 4, 5, 6, 7, 8] rfl rfl (fun _ => rfl) 0 (ci := 2) rfl rfl rfl rfl hl.1 rfl (Nat.le_of_ble_eq_true rfl) dX2_bestCell_35 ⟨Nat.zero_le _, Nat.zero_le _⟩ (fun u H locs hp_35 hP hD hS => ?_)
      have hP : va_P (dC, dI) vwCl [(m0, .inr (2, [.int 0, .int (nI wn), .int (nI hn), .int (nI q0), .int wv, .ref a1, .ref a2, .ref a3, .ref a4, .ref a5, .ref a6, .ref a7, .ref a8, .int mn])), (a1, .inl (cI, 25, .inl (kI K0))), (a2, .inl (cI, 25, .inl NX)), (a3, .inl (cZ, 25, .inl (zB T0))), (a4, .inl (cI, 100, .inl (bI wn hn))), (a5, .inl (cI, 25, .inl (kI K0))), (a6, .inl (cI, 25, .inl RG)), (a7, .inl (cI, 26, .inl SZ)), (a8, .inl (cI, 25, .inl LN))] H := hP
      have hD : va_D A [(m0, .inr (2, [.int 0, .int (nI wn), .int (nI hn), .int (nI q0), .int wv, .ref a1, .ref a2, .ref a3, .ref a4, .ref a5, .ref a6, .ref a7, .ref a8, .int mn])), (a1, .inl (cI, 25, .inl (kI K0))), (a2, .inl (cI, 25, .inl NX)), (a3, .inl (cZ, 25, .inl (zB T0))), (a4, .inl (cI, 100, .inl (bI wn hn))), (a5, .inl (cI, 25, .inl (kI K0))), (a6, .inl (cI, 25, .inl RG)), (a7, .inl (cI, 26, .inl SZ)), (a8, .inl (cI, 25, .inl LN))] := hD
      refine lv_iconst (v := (-1)) hx hb dX2_bestCell_38 (by decide) ?_
      refine lv_istore_n (lv' := [(3, .int (-1)), (0, .ref m0), (1, .int (nI j0)), (2, .int (nI n9))]) hx hb dX2_bestCell_39 rfl hl (by decide) rfl (fun ls hl => ?_)
      refine lv_iconst (v := (-1)) hx hb dX2_bestCell_40 (by decide) ?_
      refine lv_istore (lv' := [(4, .int (-1)), (3, .int (-1)), (0, .ref m0), (1, .int (nI j0)), (2, .int (nI n9))]) hx hb dX2_bestCell_41 hl (by decide) rfl (fun ls hl => ?_)
      refine lv_iconst (v := 0) hx hb dX2_bestCell_43 (by decide) ?_
      refine lv_istore (lv' := [(5, .int 0), (4, .int (-1)), (3, .int (-1)), (0, .ref m0), (1, .int (nI j0)), (2, .int (nI n9))]) hx hb dX2_bestCell_44 hl (by decide) rfl (fun ls hl => ?_)
      have loop_46 : ∀ (n : Nat) (i : Nat) (bi : Int32) (bm : Int32) (NX1 : Nat → Int32) (hkn : i + n = wn * hn) (e1 : bi = oI i (bcI (bcF wn hn q0 T0 K0 j0 n9) i)) (e2 : bm = oI i ((bcF wn hn q0 T0 K0 j0 n9) (bcI (bcF wn hn q0 T0 K0 j0 n9) i))) (H : Heap) (locs : List Loc) (ls : Array Slot) (hP : va_P (dC, dI) vwCl [(m0, .inr (2, [.int 0, .int (nI wn), .int (nI hn), .int (nI q0), .int wv, .ref a1, .ref a2, .ref a3, .ref a4, .ref a5, .ref a6, .ref a7, .ref a8, .int mn])), (a1, .inl (cI, 25, .inl (kI K0))), (a2, .inl (cI, 25, .inl NX1)), (a3, .inl (cZ, 25, .inl (zB T0))), (a4, .inl (cI, 100, .inl (bI wn hn))), (a5, .inl (cI, 25, .inl (kI K0))), (a6, .inl (cI, 25, .inl RG)), (a7, .inl (cI, 26, .inl SZ)), (a8, .inl (cI, 25, .inl LN))] H) (hD : va_D A [(m0, .inr (2, [.int 0, .int (nI wn), .int (nI hn), .int (nI q0), .int wv, .ref a1, .ref a2, .ref a3, .ref a4, .ref a5, .ref a6, .ref a7, .ref a8, .int mn])), (a1, .inl (cI, 25, .inl (kI K0))), (a2, .inl (cI, 25, .inl NX1)), (a3, .inl (cZ, 25, .inl (zB T0))), (a4, .inl (cI, 100, .inl (bI wn hn))), (a5, .inl (cI, 25, .inl (kI K0))), (a6, .inl (cI, 25, .inl RG)), (a7, .inl (cI, 26, .inl SZ)), (a8, .inl (cI, 25, .inl LN))]) (hS : va_S A s.heap H locs) (hl : lv_has ls 7 [(0, .ref m0), (1, .int (nI j0)), (2, .int (nI n9)), (3, .int bi), (4, .int bm), (5, .int (nI i))]), W p l e rmX2_bestCell s m args below meth c H locs 0 0 Q (F0 m 46 ls []) := by
        intro n
        induction n with
        | zero =>
          intro i bi bm NX1 hkn e1 e2 H locs ls hP hD hS hl
          refine lv_iload hx hb dX2_bestCell_46 (lv_at hl 5 rfl) ?_
          refine lv_aload_n hx hb dX2_bestCell_48 rfl (lv_at hl 0 rfl) ?_
          refine z_callVi (As := []) (rest := [.int (nI i)]) F9 (m_X2_cells l dC dI cI cZ cJ cD m0 a1 a2 a3 a4 a5 a6 a7 a8 0 wn hn q0 wv K0 NX1 T0 (kI K0) RG SZ LN mn ) (cwV 0 hts gX2_bestCell_X2_cells rfl rfl rfl (by decide +kernel) ⟨Nat.le_of_ble_eq_true rfl, Nat.le_of_ble_eq_true rfl⟩) hK hN hP hD hS hA [0, 1, 2, 3, 4, 5, 6, 7, 8] rfl rfl (fun _ => rfl) 0 (ci := 2) rfl rfl rfl rfl hl.1 rfl (Nat.le_of_ble_eq_true rfl) dX2_bestCell_49 ⟨Nat.zero_le _, Nat.zero_le _⟩ (fun r_4 u H locs hp_49 hP hD hS => ?_)
          have hP : va_P (dC, dI) vwCl [(m0, .inr (2, [.int 0, .int (nI wn), .int (nI hn), .int (nI q0), .int wv, .ref a1, .ref a2, .ref a3, .ref a4, .ref a5, .ref a6, .ref a7, .ref a8, .int mn])), (a1, .inl (cI, 25, .inl (kI K0))), (a2, .inl (cI, 25, .inl NX1)), (a3, .inl (cZ, 25, .inl (zB T0))), (a4, .inl (cI, 100, .inl (bI wn hn))), (a5, .inl (cI, 25, .inl (kI K0))), (a6, .inl (cI, 25, .inl RG)), (a7, .inl (cI, 26, .inl SZ)), (a8, .inl (cI, 25, .inl LN))] H := hP
          have hD : va_D A [(m0, .inr (2, [.int 0, .int (nI wn), .int (nI hn), .int (nI q0), .int wv, .ref a1, .ref a2, .ref a3, .ref a4, .ref a5, .ref a6, .ref a7, .ref a8, .int mn])), (a1, .inl (cI, 25, .inl (kI K0))), (a2, .inl (cI, 25, .inl NX1)), (a3, .inl (cZ, 25, .inl (zB T0))), (a4, .inl (cI, 100, .inl (bI wn hn))), (a5, .inl (cI, 25, .inl (kI K0))), (a6, .inl (cI, 25, .inl RG)), (a7, .inl (cI, 26, .inl SZ)), (a8, .inl (cI, 25, .inl LN))] := hD
          have hp_49 : r_4 = nI (wn * hn) := hp_49
          refine z_topi (y := nI (wn * hn)) hp_49 ?_
          refine lv_icmp_ge (tgt := 94) hx hb dX2_bestCell_52 (by decide) (fun c_52 => ?_) (fun c_52 => ?_)
          · skip
            have n_52 := zc_le_t (a := (wn * hn)) (b := i) (by omega) (by omega) c_52
            have ei : i = wn * hn := by omega
            refine lv_iload_n hx hb dX2_bestCell_94 rfl (lv_at hl 3 rfl) ?_
            rw [← hQ]
            exact z_iret (W1 := (fun (u : (Nat → Int32)) => [(m0, .inr (2, [.int 0, .int (nI wn), .int (nI hn), .int (nI q0), .int wv, .ref a1, .ref a2, .ref a3, .ref a4, .ref a5, .ref a6, .ref a7, .ref a8, .int mn])), (a1, .inl (cI, 25, .inl (kI K0))), (a2, .inl (cI, 25, .inl u)), (a3, .inl (cZ, 25, .inl (zB T0))), (a4, .inl (cI, 100, .inl (bI wn hn))), (a5, .inl (cI, 25, .inl (kI K0))), (a6, .inl (cI, 25, .inl RG)), (a7, .inl (cI, 26, .inl SZ)), (a8, .inl (cI, 25, .inl LN))])) hx hb hr hlocks hP hS NX1 (rfl) (by rw [e1, ei]; exact if_neg (by omega)) dX2_bestCell_95
          · skip
            have n_52 := zc_le_f (a := (wn * hn)) (b := i) (by omega) (by omega) c_52
            exact absurd n_52 (by omega)
        | succ n ih_46 =>
          intro i bi bm NX1 hkn e1 e2 H locs ls hP hD hS hl
          refine lv_iload hx hb dX2_bestCell_46 (lv_at hl 5 rfl) ?_
          refine lv_aload_n hx hb dX2_bestCell_48 rfl (lv_at hl 0 rfl) ?_
          refine z_callVi (As := []) (rest := [.int (nI i)]) F9 (m_X2_cells l dC dI cI cZ cJ cD m0 a1 a2 a3 a4 a5 a6 a7 a8 0 wn hn q0 wv K0 NX1 T0 (kI K0) RG SZ LN mn ) (cwV 0 hts gX2_bestCell_X2_cells rfl rfl rfl (by decide +kernel) ⟨Nat.le_of_ble_eq_true rfl, Nat.le_of_ble_eq_true rfl⟩) hK hN hP hD hS hA [0, 1, 2, 3, 4, 5, 6, 7, 8] rfl rfl (fun _ => rfl) 0 (ci := 2) rfl rfl rfl rfl hl.1 rfl (Nat.le_of_ble_eq_true rfl) dX2_bestCell_49 ⟨Nat.zero_le _, Nat.zero_le _⟩ (fun r_5 u H locs hp_49 hP hD hS => ?_)
          have hP : va_P (dC, dI) vwCl [(m0, .inr (2, [.int 0, .int (nI wn), .int (nI hn), .int (nI q0), .int wv, .ref a1, .ref a2, .ref a3, .ref a4, .ref a5, .ref a6, .ref a7, .ref a8, .int mn])), (a1, .inl (cI, 25, .inl (kI K0))), (a2, .inl (cI, 25, .inl NX1)), (a3, .inl (cZ, 25, .inl (zB T0))), (a4, .inl (cI, 100, .inl (bI wn hn))), (a5, .inl (cI, 25, .inl (kI K0))), (a6, .inl (cI, 25, .inl RG)), (a7, .inl (cI, 26, .inl SZ)), (a8, .inl (cI, 25, .inl LN))] H := hP
          have hD : va_D A [(m0, .inr (2, [.int 0, .int (nI wn), .int (nI hn), .int (nI q0), .int wv, .ref a1, .ref a2, .ref a3, .ref a4, .ref a5, .ref a6, .ref a7, .ref a8, .int mn])), (a1, .inl (cI, 25, .inl (kI K0))), (a2, .inl (cI, 25, .inl NX1)), (a3, .inl (cZ, 25, .inl (zB T0))), (a4, .inl (cI, 100, .inl (bI wn hn))), (a5, .inl (cI, 25, .inl (kI K0))), (a6, .inl (cI, 25, .inl RG)), (a7, .inl (cI, 26, .inl SZ)), (a8, .inl (cI, 25, .inl LN))] := hD
          have hp_49 : r_5 = nI (wn * hn) := hp_49
          refine z_topi (y := nI (wn * hn)) hp_49 ?_
          refine lv_icmp_ge (tgt := 94) hx hb dX2_bestCell_52 (by decide) (fun c_52 => ?_) (fun c_52 => ?_)
          · skip
            have n_52 := zc_le_t (a := (wn * hn)) (b := i) (by omega) (by omega) c_52
            exact absurd n_52 (by omega)
          · skip
            have n_52 := zc_le_f (a := (wn * hn)) (b := i) (by omega) (by omega) c_52
            refine lv_aload_n hx hb dX2_bestCell_55 rfl (lv_at hl 0 rfl) ?_
            refine va_get (D := (dC, dI)) (ci := 2) (v := .ref a1) (C := RX2) (T := TX2) (N := 14) hx hb hts iX2_bestCell_X2 hown hK hP 0 rfl rfl 5 (by decide) (hts (.fieldLink RX2 13 "ColourTideModel" "colours" "[I") (List.mem_of_getElem? (i := 2) rfl)) (fun _ h9 => h9) rfl dX2_bestCell_56 ?_
            refine lv_iload hx hb dX2_bestCell_59 (lv_at hl 5 rfl) ?_
            refine lv_iload_n hx hb dX2_bestCell_61 rfl (lv_at hl 1 rfl) ?_
            refine z_iast hx hb hK hP hD hS 1 0 rfl rfl i (rfl) (by omega) (by decide) dX2_bestCell_62 (fun H locs hP hD hS => ?_)
            have hP : va_P (dC, dI) vwCl [(m0, .inr (2, [.int 0, .int (nI wn), .int (nI hn), .int (nI q0), .int wv, .ref a1, .ref a2, .ref a3, .ref a4, .ref a5, .ref a6, .ref a7, .ref a8, .int mn])), (a1, .inl (cI, 25, .inl (upd (kI K0) i (nI j0)))), (a2, .inl (cI, 25, .inl NX1)), (a3, .inl (cZ, 25, .inl (zB T0))), (a4, .inl (cI, 100, .inl (bI wn hn))), (a5, .inl (cI, 25, .inl (kI K0))), (a6, .inl (cI, 25, .inl RG)), (a7, .inl (cI, 26, .inl SZ)), (a8, .inl (cI, 25, .inl LN))] H := hP
            have hD : va_D A [(m0, .inr (2, [.int 0, .int (nI wn), .int (nI hn), .int (nI q0), .int wv, .ref a1, .ref a2, .ref a3, .ref a4, .ref a5, .ref a6, .ref a7, .ref a8, .int mn])), (a1, .inl (cI, 25, .inl (upd (kI K0) i (nI j0)))), (a2, .inl (cI, 25, .inl NX1)), (a3, .inl (cZ, 25, .inl (zB T0))), (a4, .inl (cI, 100, .inl (bI wn hn))), (a5, .inl (cI, 25, .inl (kI K0))), (a6, .inl (cI, 25, .inl RG)), (a7, .inl (cI, 26, .inl SZ)), (a8, .inl (cI, 25, .inl LN))] := hD
            have e_62 : upd (kI K0) i (nI j0) = kI (fun d => if d = i then j0 else K0 d) := kI_upd K0 i j0
            rw [e_62] at hP hD
            refine lv_aload_n hx hb dX2_bestCell_63 rfl (lv_at hl 0 rfl) ?_
            refine lv_iload_n hx hb dX2_bestCell_64 rfl (lv_at hl 2 rfl) ?_
            refine lv_iload_n hx hb dX2_bestCell_65 rfl (lv_at hl 1 rfl) ?_
            refine z_callVi (As := [.int (nI n9), .int (nI j0)]) (rest := []) F9 (m_X2_after l dC dI cI cZ cJ cD m0 a1 a2 a3 a4 a5 a6 a7 a8 0 wn hn q0 wv (fun d => if d = i then j0 else K0 d) NX1 T0 RG SZ LN mn n9 j0 K0 (g) (put_le (o := some i) hK4 (by omega)) (hq) (hj0) (by omega)) (cwV 2 hts gX2_bestCell_X2_after rfl rfl rfl (by decide +kernel) ⟨Nat.le_of_ble_eq_true rfl, Nat.le_of_ble_eq_true rfl⟩) hK hN hP hD hS hA [0, 1, 2, 3, 4, 5, 6, 7, 8] rfl rfl (fun _ => rfl) 0 (ci := 2) rfl rfl rfl rfl hl.1 rfl (Nat.le_of_ble_eq_true rfl) dX2_bestCell_66 ⟨Nat.zero_le _, Nat.zero_le _⟩ (fun r_6 u H locs hp_66 hP hD hS => ?_)
            obtain ⟨NXq_7, rfl⟩ : ∃ z, z = u := ⟨_, rfl⟩
            have hP : va_P (dC, dI) vwCl [(m0, .inr (2, [.int 0, .int (nI wn), .int (nI hn), .int (nI q0), .int wv, .ref a1, .ref a2, .ref a3, .ref a4, .ref a5, .ref a6, .ref a7, .ref a8, .int mn])), (a1, .inl (cI, 25, .inl (kI K0))), (a2, .inl (cI, 25, .inl NXq_7)), (a3, .inl (cZ, 25, .inl (zB T0))), (a4, .inl (cI, 100, .inl (bI wn hn))), (a5, .inl (cI, 25, .inl (kI K0))), (a6, .inl (cI, 25, .inl RG)), (a7, .inl (cI, 26, .inl SZ)), (a8, .inl (cI, 25, .inl LN))] H := hP
            have hD : va_D A [(m0, .inr (2, [.int 0, .int (nI wn), .int (nI hn), .int (nI q0), .int wv, .ref a1, .ref a2, .ref a3, .ref a4, .ref a5, .ref a6, .ref a7, .ref a8, .int mn])), (a1, .inl (cI, 25, .inl (kI K0))), (a2, .inl (cI, 25, .inl NXq_7)), (a3, .inl (cZ, 25, .inl (zB T0))), (a4, .inl (cI, 100, .inl (bI wn hn))), (a5, .inl (cI, 25, .inl (kI K0))), (a6, .inl (cI, 25, .inl RG)), (a7, .inl (cI, 26, .inl SZ)), (a8, .inl (cI, 25, .inl LN))] := hD
            have hp_66 : r_6 = nI (ccN (wavN wn hn q0 T0 (fun d => if d = i then j0 else K0 d) n9) j0 (wn * hn)) := hp_66
            refine z_topi (y := nI (ccN (wavN wn hn q0 T0 (fun d => if d = i then j0 else K0 d) n9) j0 (wn * hn))) hp_66 ?_
            refine z_topi (y := nI ((bcF wn hn q0 T0 K0 j0 n9) i)) (rfl) ?_
            refine lv_istore (lv' := [(6, .int (nI ((bcF wn hn q0 T0 K0 j0 n9) i))), (0, .ref m0), (1, .int (nI j0)), (2, .int (nI n9)), (3, .int bi), (4, .int bm), (5, .int (nI i))]) hx hb dX2_bestCell_69 hl (by decide) rfl (fun ls hl => ?_)
            refine lv_iload hx hb dX2_bestCell_71 (lv_at hl 0 rfl) ?_
            refine lv_iload hx hb dX2_bestCell_73 (lv_at hl 5 rfl) ?_
            refine lv_icmp_gt (tgt := 81) hx hb dX2_bestCell_75 (by decide) (fun c_75 => ?_) (fun c_75 => ?_)
            · skip
              rw [e2] at c_75
              refine lv_iload hx hb dX2_bestCell_81 (lv_at hl 6 rfl) ?_
              refine lv_istore_n (lv' := [(3, .int (nI i)), (6, .int (nI ((bcF wn hn q0 T0 K0 j0 n9) i))), (0, .ref m0), (1, .int (nI j0)), (2, .int (nI n9)), (4, .int bm), (5, .int (nI i))]) hx hb dX2_bestCell_83 rfl hl (by decide) rfl (fun ls hl => ?_)
              refine lv_iload hx hb dX2_bestCell_84 (lv_at hl 1 rfl) ?_
              refine lv_istore (lv' := [(4, .int (nI ((bcF wn hn q0 T0 K0 j0 n9) i))), (3, .int (nI i)), (6, .int (nI ((bcF wn hn q0 T0 K0 j0 n9) i))), (0, .ref m0), (1, .int (nI j0)), (2, .int (nI n9)), (5, .int (nI i))]) hx hb dX2_bestCell_86 hl (by decide) rfl (fun ls hl => ?_)
              refine lv_iinc (v := nI (i + 1)) (lv' := [(5, .int (nI (i + 1))), (4, .int (nI ((bcF wn hn q0 T0 K0 j0 n9) i))), (3, .int (nI i)), (6, .int (nI ((bcF wn hn q0 T0 K0 j0 n9) i))), (0, .ref m0), (1, .int (nI j0)), (2, .int (nI n9))]) hx hb dX2_bestCell_88 hl (k := 6) rfl (nI_1 i) (by decide) rfl (fun ls hl => ?_)
              refine lv_goto (tgt := 46) hx hb dX2_bestCell_91 (by decide) ?_
              have q9 := bc_y hff c_75
              exact ih_46 (i + 1) (nI i) (nI ((bcF wn hn q0 T0 K0 j0 n9) i)) NXq_7 (by omega) (by rw [q9, oI_s]) (by rw [q9, oI_s]) _ _ _ hP hD hS (lv_sub hl [4, 5, 6, 2, 1, 0] rfl)
            · skip
              rw [e2] at c_75
              refine lv_goto (tgt := 88) hx hb dX2_bestCell_78 (by decide) ?_
              refine lv_iinc (v := nI (i + 1)) (lv' := [(5, .int (nI (i + 1))), (6, .int (nI ((bcF wn hn q0 T0 K0 j0 n9) i))), (0, .ref m0), (1, .int (nI j0)), (2, .int (nI n9)), (3, .int bi), (4, .int bm)]) hx hb dX2_bestCell_88 hl (k := 6) rfl (nI_1 i) (by decide) rfl (fun ls hl => ?_)
              refine lv_goto (tgt := 46) hx hb dX2_bestCell_91 (by decide) ?_
              have q9 := bc_n hff c_75
              exact ih_46 (i + 1) bi bm NXq_7 (by omega) (by rw [e1, q9.2, oI_s]; exact if_neg q9.1) (by rw [e2, q9.2, oI_s]; exact if_neg q9.1) _ _ _ hP hD hS (lv_sub hl [2, 3, 4, 5, 6, 0] rfl)
      exact loop_46 (wn * hn) 0 (-1) (-1) NX (by omega) (rfl) (rfl) _ _ _ hP hD hS (lv_sub hl [3, 4, 5, 2, 1, 0] rfl)
    · skip
      exact absurd (pin_ok (lo := 1) (hi := 24) hn9.1 hn9.2 (by omega)) (z_if0 c_25)
  · skip
    exact absurd (col_ok hj1 hj0) (z_if0 c_9)
set_option maxHeartbeats 4000000 in
set_option maxRecDepth 100000 in
theorem m_X2_bestCell_no (l : Launch) (dC : Nat → ClassId) (dI : Nat → Nat → Nat) (cI cZ cJ cD : ClassId) (m0 : Nat) (a1 : Nat) (a2 : Nat) (a3 : Nat) (a4 : Nat) (a5 : Nat) (a6 : Nat) (a7 : Nat) (a8 : Nat) (th : Int32) (wn : Nat) (hn : Nat) (q0 : Nat) (wv : Int32) (K0 : Nat → Nat) (NX : Nat → Int32) (T0 : Nat → Bool) (KP : Nat → Int32) (RG : Nat → Int32) (SZ : Nat → Int32) (LN : Nat → Int32) (mn : Int32) (col : Int32) (x0 : Int32) (g : gok wn hn) (hK4 : ∀ c, K0 c ≤ 4) (hno : ¬ pCol col) : zI l (dC, dI) (wT cI cZ cJ cD) yX2_bestCell wsX2_bestCell rmX2_bestCell [(m0, .inr (2, [.int th, .int (nI wn), .int (nI hn), .int (nI q0), .int wv, .ref a1, .ref a2, .ref a3, .ref a4, .ref a5, .ref a6, .ref a7, .ref a8, .int mn])), (a1, .inl (cI, 25, .inl (kI K0))), (a2, .inl (cI, 25, .inl NX)), (a3, .inl (cZ, 25, .inl (zB T0))), (a4, .inl (cI, 100, .inl (bI wn hn))), (a5, .inl (cI, 25, .inl KP)), (a6, .inl (cI, 25, .inl RG)), (a7, .inl (cI, 26, .inl SZ)), (a8, .inl (cI, 25, .inl LN))] [.ref m0, .int col, .int x0] (fun (_ : Unit) => [(m0, .inr (2, [.int 1, .int (nI wn), .int (nI hn), .int (nI q0), .int wv, .ref a1, .ref a2, .ref a3, .ref a4, .ref a5, .ref a6, .ref a7, .ref a8, .int mn])), (a1, .inl (cI, 25, .inl (kI K0))), (a2, .inl (cI, 25, .inl NX)), (a3, .inl (cZ, 25, .inl (zB T0))), (a4, .inl (cI, 100, .inl (bI wn hn))), (a5, .inl (cI, 25, .inl KP)), (a6, .inl (cI, 25, .inl RG)), (a7, .inl (cI, 26, .inl SZ)), (a8, .inl (cI, 25, .inl LN))]) (fun (r : Int32) (_ : Unit) => True) := by
  intro sz
  refine Met.ofW (cc := cX2_bestCell) (maxL := 7) (ret := (some .int)) (by decide) rfl ?_
  intro p e s m args below meth c s₁ B hml hv
  obtain ⟨ha, hsz, hP, hK, hD0, hN⟩ := hv
  have hx := B.exec
  have hb := B.bytes
  have hr := B.returns
  have hts := atoms_spec (ws := wsX2_bestCell) B.pre
  have hown : s.vm.findClass RX2 = some m.cls := findClass_of_methodNamed B.named
  have hlocks := B.notSynchronized
  subst hsz
  have hD := hD0.self (sz := s.heap.size)
  generalize hAe : va_A [(m0, .inr (2, [.int th, .int (nI wn), .int (nI hn), .int (nI q0), .int wv, .ref a1, .ref a2, .ref a3, .ref a4, .ref a5, .ref a6, .ref a7, .ref a8, .int mn])), (a1, .inl (cI, 25, .inl (kI K0))), (a2, .inl (cI, 25, .inl NX)), (a3, .inl (cZ, 25, .inl (zB T0))), (a4, .inl (cI, 100, .inl (bI wn hn))), (a5, .inl (cI, 25, .inl KP)), (a6, .inl (cI, 25, .inl RG)), (a7, .inl (cI, 26, .inl SZ)), (a8, .inl (cI, 25, .inl LN))] s.heap.size = A at hD ⊢
  have hA : ∀ q : Nat, s.heap.size ≤ q → A q := fun q h => by rw [← hAe]; exact Or.inr h
  have hS : va_S A s.heap s.heap [] := va_S.rf
  generalize hQ : MQ below (va_Qi (fun (r : Int32) (_ : Unit) => True) (fun u t => va_P (dC, dI) vwCl ((fun (_ : Unit) => [(m0, .inr (2, [.int 1, .int (nI wn), .int (nI hn), .int (nI q0), .int wv, .ref a1, .ref a2, .ref a3, .ref a4, .ref a5, .ref a6, .ref a7, .ref a8, .int mn])), (a1, .inl (cI, 25, .inl (kI K0))), (a2, .inl (cI, 25, .inl NX)), (a3, .inl (cZ, 25, .inl (zB T0))), (a4, .inl (cI, 100, .inl (bI wn hn))), (a5, .inl (cI, 25, .inl KP)), (a6, .inl (cI, 25, .inl RG)), (a7, .inl (cI, 26, .inl SZ)), (a8, .inl (cI, 25, .inl LN))]) u) t.heap) A) args s 0 0 A = Q
  have F9 : CallFix p m c cX2_bestCell 7 s args wsX2_bestCell RX2 := ⟨hx, hb, hml, hown, hts⟩
  obtain ⟨g1, g2, g3, g4⟩ := id g
  have g5 := wh_le g
  have g6 := wh_pos g
  refine z_entry (R := rmX2_bestCell) ha (Nat.le_of_ble_eq_true rfl) (fun ls hl => ?_)
  have hl : lv_has ls 7 [(0, .ref m0), (1, .int col), (2, .int x0)] := hl
  refine lv_aload_n hx hb dX2_bestCell_0 rfl (lv_at hl 0 rfl) ?_
  refine lv_iconst (v := 0) hx hb dX2_bestCell_1 (by decide) ?_
  refine va_put (D := (dC, dI)) (ci := 2) (v := .int 0) (ty := .int) (C := RX2) (T := TX2) (N := 14) hx hb hts iX2_bestCell_X2 tyX2 tyX2_ok nmX2 hown hK hP hD hS 0 rfl rfl 0 (by decide) (hts (.fieldLink RX2 43 "ColourTideModel" "thrown" "I") (List.mem_of_getElem? (i := 1) rfl)) (fun _ h9 => h9) rfl (by decide +kernel) rfl rfl (Nat.le_of_ble_eq_true rfl) dX2_bestCell_2 (fun H locs hP hD hS => ?_)
  have hP : va_P (dC, dI) vwCl [(m0, .inr (2, [.int 0, .int (nI wn), .int (nI hn), .int (nI q0), .int wv, .ref a1, .ref a2, .ref a3, .ref a4, .ref a5, .ref a6, .ref a7, .ref a8, .int mn])), (a1, .inl (cI, 25, .inl (kI K0))), (a2, .inl (cI, 25, .inl NX)), (a3, .inl (cZ, 25, .inl (zB T0))), (a4, .inl (cI, 100, .inl (bI wn hn))), (a5, .inl (cI, 25, .inl KP)), (a6, .inl (cI, 25, .inl RG)), (a7, .inl (cI, 26, .inl SZ)), (a8, .inl (cI, 25, .inl LN))] H := hP
  have hD : va_D A [(m0, .inr (2, [.int 0, .int (nI wn), .int (nI hn), .int (nI q0), .int wv, .ref a1, .ref a2, .ref a3, .ref a4, .ref a5, .ref a6, .ref a7, .ref a8, .int mn])), (a1, .inl (cI, 25, .inl (kI K0))), (a2, .inl (cI, 25, .inl NX)), (a3, .inl (cZ, 25, .inl (zB T0))), (a4, .inl (cI, 100, .inl (bI wn hn))), (a5, .inl (cI, 25, .inl KP)), (a6, .inl (cI, 25, .inl RG)), (a7, .inl (cI, 26, .inl SZ)), (a8, .inl (cI, 25, .inl LN))] := hD
  refine lv_iload_n hx hb dX2_bestCell_5 rfl (lv_at hl 1 rfl) ?_
  refine z_callSi (As := [.int col]) (rest := []) F9 (m_X2_isColour l dC dI cI cZ cJ cD col ) (va_cwS 1 hts gX2_bestCell_X2_isColour rfl rfl rfl (by decide +kernel) ⟨Nat.le_of_ble_eq_true rfl, Nat.le_of_ble_eq_true rfl⟩) hK hN hP hD hS hA rfl hl.1 rfl (Nat.le_of_ble_eq_true rfl) dX2_bestCell_6 ⟨Nat.zero_le _, Nat.zero_le _⟩ (fun r_1 H locs hp_6 hP hS => ?_)
  have hp_6 : r_1 = if pCol col then 1 else 0 := hp_6
  refine z_topi (y := if pCol col then 1 else 0) hp_6 ?_
  refine lv_if_ne (tgt := 18) hx hb dX2_bestCell_9 (by decide) (fun c_9 => ?_) (fun c_9 => ?_)
  · skip
    exact absurd (z_if1 c_9) hno
  · skip
    refine lv_aload_n hx hb dX2_bestCell_12 rfl (lv_at hl 0 rfl) ?_
    refine lv_iconst (v := 1) hx hb dX2_bestCell_13 (by decide) ?_
    refine z_callVi (As := [.int 1]) (rest := []) F9 (m_X2_fail l dC dI cI cZ cJ cD m0 a1 a2 a3 a4 a5 a6 a7 a8 0 wn hn q0 wv K0 NX T0 KP RG SZ LN mn 1 ) (cwV 1 hts gX2_bestCell_X2_fail rfl rfl rfl (by decide +kernel) ⟨Nat.le_of_ble_eq_true rfl, Nat.le_of_ble_eq_true rfl⟩) hK hN hP hD hS hA [0, 1, 2, 3, 4, 5, 6, 7, 8] rfl rfl (fun _ => rfl) 0 (ci := 2) rfl rfl rfl rfl hl.1 rfl (Nat.le_of_ble_eq_true rfl) dX2_bestCell_14 ⟨Nat.zero_le _, Nat.zero_le _⟩ (fun r_2 u H locs hp_14 hP hD hS => ?_)
    have hP : va_P (dC, dI) vwCl [(m0, .inr (2, [.int 1, .int (nI wn), .int (nI hn), .int (nI q0), .int wv, .ref a1, .ref a2, .ref a3, .ref a4, .ref a5, .ref a6, .ref a7, .ref a8, .int mn])), (a1, .inl (cI, 25, .inl (kI K0))), (a2, .inl (cI, 25, .inl NX)), (a3, .inl (cZ, 25, .inl (zB T0))), (a4, .inl (cI, 100, .inl (bI wn hn))), (a5, .inl (cI, 25, .inl KP)), (a6, .inl (cI, 25, .inl RG)), (a7, .inl (cI, 26, .inl SZ)), (a8, .inl (cI, 25, .inl LN))] H := hP
    have hD : va_D A [(m0, .inr (2, [.int 1, .int (nI wn), .int (nI hn), .int (nI q0), .int wv, .ref a1, .ref a2, .ref a3, .ref a4, .ref a5, .ref a6, .ref a7, .ref a8, .int mn])), (a1, .inl (cI, 25, .inl (kI K0))), (a2, .inl (cI, 25, .inl NX)), (a3, .inl (cZ, 25, .inl (zB T0))), (a4, .inl (cI, 100, .inl (bI wn hn))), (a5, .inl (cI, 25, .inl KP)), (a6, .inl (cI, 25, .inl RG)), (a7, .inl (cI, 26, .inl SZ)), (a8, .inl (cI, 25, .inl LN))] := hD
    have hp_14 : r_2 = 0 := hp_14
    refine z_topi (y := 0) hp_14 ?_
    rw [← hQ]
    exact z_iret (W1 := (fun (_ : Unit) => [(m0, .inr (2, [.int 1, .int (nI wn), .int (nI hn), .int (nI q0), .int wv, .ref a1, .ref a2, .ref a3, .ref a4, .ref a5, .ref a6, .ref a7, .ref a8, .int mn])), (a1, .inl (cI, 25, .inl (kI K0))), (a2, .inl (cI, 25, .inl NX)), (a3, .inl (cZ, 25, .inl (zB T0))), (a4, .inl (cI, 100, .inl (bI wn hn))), (a5, .inl (cI, 25, .inl KP)), (a6, .inl (cI, 25, .inl RG)), (a7, .inl (cI, 26, .inl SZ)), (a8, .inl (cI, 25, .inl LN))])) hx hb hr hlocks hP hS () (rfl) (trivial) dX2_bestCell_17
set_option maxHeartbeats 4000000 in
set_option maxRecDepth 100000 in
theorem m_X2_bestCell_no2 (l : Launch) (dC : Nat → ClassId) (dI : Nat → Nat → Nat) (cI cZ cJ cD : ClassId) (m0 : Nat) (a1 : Nat) (a2 : Nat) (a3 : Nat) (a4 : Nat) (a5 : Nat) (a6 : Nat) (a7 : Nat) (a8 : Nat) (th : Int32) (wn : Nat) (hn : Nat) (q0 : Nat) (wv : Int32) (K0 : Nat → Nat) (NX : Nat → Int32) (T0 : Nat → Bool) (KP : Nat → Int32) (RG : Nat → Int32) (SZ : Nat → Int32) (LN : Nat → Int32) (mn : Int32) (col : Int32) (x0 : Int32) (g : gok wn hn) (hK4 : ∀ c, K0 c ≤ 4) (hin : pCol col) (hno : ¬ pIn x0 1 24) : zI l (dC, dI) (wT cI cZ cJ cD) yX2_bestCell wsX2_bestCell rmX2_bestCell [(m0, .inr (2, [.int th, .int (nI wn), .int (nI hn), .int (nI q0), .int wv, .ref a1, .ref a2, .ref a3, .ref a4, .ref a5, .ref a6, .ref a7, .ref a8, .int mn])), (a1, .inl (cI, 25, .inl (kI K0))), (a2, .inl (cI, 25, .inl NX)), (a3, .inl (cZ, 25, .inl (zB T0))), (a4, .inl (cI, 100, .inl (bI wn hn))), (a5, .inl (cI, 25, .inl KP)), (a6, .inl (cI, 25, .inl RG)), (a7, .inl (cI, 26, .inl SZ)), (a8, .inl (cI, 25, .inl LN))] [.ref m0, .int col, .int x0] (fun (_ : Unit) => [(m0, .inr (2, [.int 2, .int (nI wn), .int (nI hn), .int (nI q0), .int wv, .ref a1, .ref a2, .ref a3, .ref a4, .ref a5, .ref a6, .ref a7, .ref a8, .int mn])), (a1, .inl (cI, 25, .inl (kI K0))), (a2, .inl (cI, 25, .inl NX)), (a3, .inl (cZ, 25, .inl (zB T0))), (a4, .inl (cI, 100, .inl (bI wn hn))), (a5, .inl (cI, 25, .inl KP)), (a6, .inl (cI, 25, .inl RG)), (a7, .inl (cI, 26, .inl SZ)), (a8, .inl (cI, 25, .inl LN))]) (fun (r : Int32) (_ : Unit) => True) := by
  intro sz
  refine Met.ofW (cc := cX2_bestCell) (maxL := 7) (ret := (some .int)) (by decide) rfl ?_
  intro p e s m args below meth c s₁ B hml hv
  obtain ⟨ha, hsz, hP, hK, hD0, hN⟩ := hv
  have hx := B.exec
  have hb := B.bytes
  have hr := B.returns
  have hts := atoms_spec (ws := wsX2_bestCell) B.pre
  have hown : s.vm.findClass RX2 = some m.cls := findClass_of_methodNamed B.named
  have hlocks := B.notSynchronized
  subst hsz
  have hD := hD0.self (sz := s.heap.size)
  generalize hAe : va_A [(m0, .inr (2, [.int th, .int (nI wn), .int (nI hn), .int (nI q0), .int wv, .ref a1, .ref a2, .ref a3, .ref a4, .ref a5, .ref a6, .ref a7, .ref a8, .int mn])), (a1, .inl (cI, 25, .inl (kI K0))), (a2, .inl (cI, 25, .inl NX)), (a3, .inl (cZ, 25, .inl (zB T0))), (a4, .inl (cI, 100, .inl (bI wn hn))), (a5, .inl (cI, 25, .inl KP)), (a6, .inl (cI, 25, .inl RG)), (a7, .inl (cI, 26, .inl SZ)), (a8, .inl (cI, 25, .inl LN))] s.heap.size = A at hD ⊢
  have hA : ∀ q : Nat, s.heap.size ≤ q → A q := fun q h => by rw [← hAe]; exact Or.inr h
  have hS : va_S A s.heap s.heap [] := va_S.rf
  generalize hQ : MQ below (va_Qi (fun (r : Int32) (_ : Unit) => True) (fun u t => va_P (dC, dI) vwCl ((fun (_ : Unit) => [(m0, .inr (2, [.int 2, .int (nI wn), .int (nI hn), .int (nI q0), .int wv, .ref a1, .ref a2, .ref a3, .ref a4, .ref a5, .ref a6, .ref a7, .ref a8, .int mn])), (a1, .inl (cI, 25, .inl (kI K0))), (a2, .inl (cI, 25, .inl NX)), (a3, .inl (cZ, 25, .inl (zB T0))), (a4, .inl (cI, 100, .inl (bI wn hn))), (a5, .inl (cI, 25, .inl KP)), (a6, .inl (cI, 25, .inl RG)), (a7, .inl (cI, 26, .inl SZ)), (a8, .inl (cI, 25, .inl LN))]) u) t.heap) A) args s 0 0 A = Q
  have F9 : CallFix p m c cX2_bestCell 7 s args wsX2_bestCell RX2 := ⟨hx, hb, hml, hown, hts⟩
  obtain ⟨g1, g2, g3, g4⟩ := id g
  have g5 := wh_le g
  have g6 := wh_pos g
  refine z_entry (R := rmX2_bestCell) ha (Nat.le_of_ble_eq_true rfl) (fun ls hl => ?_)
  have hl : lv_has ls 7 [(0, .ref m0), (1, .int col), (2, .int x0)] := hl
  refine lv_aload_n hx hb dX2_bestCell_0 rfl (lv_at hl 0 rfl) ?_
  refine lv_iconst (v := 0) hx hb dX2_bestCell_1 (by decide) ?_
  refine va_put (D := (dC, dI)) (ci := 2) (v := .int 0) (ty := .int) (C := RX2) (T := TX2) (N := 14) hx hb hts iX2_bestCell_X2 tyX2 tyX2_ok nmX2 hown hK hP hD hS 0 rfl rfl 0 (by decide) (hts (.fieldLink RX2 43 "ColourTideModel" "thrown" "I") (List.mem_of_getElem? (i := 1) rfl)) (fun _ h9 => h9) rfl (by decide +kernel) rfl rfl (Nat.le_of_ble_eq_true rfl) dX2_bestCell_2 (fun H locs hP hD hS => ?_)
  have hP : va_P (dC, dI) vwCl [(m0, .inr (2, [.int 0, .int (nI wn), .int (nI hn), .int (nI q0), .int wv, .ref a1, .ref a2, .ref a3, .ref a4, .ref a5, .ref a6, .ref a7, .ref a8, .int mn])), (a1, .inl (cI, 25, .inl (kI K0))), (a2, .inl (cI, 25, .inl NX)), (a3, .inl (cZ, 25, .inl (zB T0))), (a4, .inl (cI, 100, .inl (bI wn hn))), (a5, .inl (cI, 25, .inl KP)), (a6, .inl (cI, 25, .inl RG)), (a7, .inl (cI, 26, .inl SZ)), (a8, .inl (cI, 25, .inl LN))] H := hP
  have hD : va_D A [(m0, .inr (2, [.int 0, .int (nI wn), .int (nI hn), .int (nI q0), .int wv, .ref a1, .ref a2, .ref a3, .ref a4, .ref a5, .ref a6, .ref a7, .ref a8, .int mn])), (a1, .inl (cI, 25, .inl (kI K0))), (a2, .inl (cI, 25, .inl NX)), (a3, .inl (cZ, 25, .inl (zB T0))), (a4, .inl (cI, 100, .inl (bI wn hn))), (a5, .inl (cI, 25, .inl KP)), (a6, .inl (cI, 25, .inl RG)), (a7, .inl (cI, 26, .inl SZ)), (a8, .inl (cI, 25, .inl LN))] := hD
  refine lv_iload_n hx hb dX2_bestCell_5 rfl (lv_at hl 1 rfl) ?_
  refine z_callSi (As := [.int col]) (rest := []) F9 (m_X2_isColour l dC dI cI cZ cJ cD col ) (va_cwS 1 hts gX2_bestCell_X2_isColour rfl rfl rfl (by decide +kernel) ⟨Nat.le_of_ble_eq_true rfl, Nat.le_of_ble_eq_true rfl⟩) hK hN hP hD hS hA rfl hl.1 rfl (Nat.le_of_ble_eq_true rfl) dX2_bestCell_6 ⟨Nat.zero_le _, Nat.zero_le _⟩ (fun r_1 H locs hp_6 hP hS => ?_)
  have hp_6 : r_1 = if pCol col then 1 else 0 := hp_6
  refine z_topi (y := if pCol col then 1 else 0) hp_6 ?_
  refine lv_if_ne (tgt := 18) hx hb dX2_bestCell_9 (by decide) (fun c_9 => ?_) (fun c_9 => ?_)
  · skip
    refine lv_iload_n hx hb dX2_bestCell_18 rfl (lv_at hl 2 rfl) ?_
    refine lv_iconst (v := 1) hx hb dX2_bestCell_19 (by decide) ?_
    refine lv_bipush (v := 24) hx hb dX2_bestCell_20 (by decide +kernel) ?_
    refine z_callSi (As := [.int x0, .int 1, .int 24]) (rest := []) F9 (m_X2_isIn l dC dI cI cZ cJ cD x0 1 24 ) (va_cwS 3 hts gX2_bestCell_X2_isIn rfl rfl rfl (by decide +kernel) ⟨Nat.le_of_ble_eq_true rfl, Nat.le_of_ble_eq_true rfl⟩) hK hN hP hD hS hA rfl hl.1 rfl (Nat.le_of_ble_eq_true rfl) dX2_bestCell_22 ⟨Nat.zero_le _, Nat.zero_le _⟩ (fun r_2 H locs hp_22 hP hS => ?_)
    have hp_22 : r_2 = if pIn x0 1 24 then 1 else 0 := hp_22
    refine z_topi (y := if pIn x0 1 24 then 1 else 0) hp_22 ?_
    refine lv_if_ne (tgt := 34) hx hb dX2_bestCell_25 (by decide) (fun c_25 => ?_) (fun c_25 => ?_)
    · skip
      exact absurd (z_if1 c_25) hno
    · skip
      refine lv_aload_n hx hb dX2_bestCell_28 rfl (lv_at hl 0 rfl) ?_
      refine lv_iconst (v := 2) hx hb dX2_bestCell_29 (by decide) ?_
      refine z_callVi (As := [.int 2]) (rest := []) F9 (m_X2_fail l dC dI cI cZ cJ cD m0 a1 a2 a3 a4 a5 a6 a7 a8 0 wn hn q0 wv K0 NX T0 KP RG SZ LN mn 2 ) (cwV 1 hts gX2_bestCell_X2_fail rfl rfl rfl (by decide +kernel) ⟨Nat.le_of_ble_eq_true rfl, Nat.le_of_ble_eq_true rfl⟩) hK hN hP hD hS hA [0, 1, 2, 3, 4, 5, 6, 7, 8] rfl rfl (fun _ => rfl) 0 (ci := 2) rfl rfl rfl rfl hl.1 rfl (Nat.le_of_ble_eq_true rfl) dX2_bestCell_30 ⟨Nat.zero_le _, Nat.zero_le _⟩ (fun r_3 u H locs hp_30 hP hD hS => ?_)
      have hP : va_P (dC, dI) vwCl [(m0, .inr (2, [.int 2, .int (nI wn), .int (nI hn), .int (nI q0), .int wv, .ref a1, .ref a2, .ref a3, .ref a4, .ref a5, .ref a6, .ref a7, .ref a8, .int mn])), (a1, .inl (cI, 25, .inl (kI K0))), (a2, .inl (cI, 25, .inl NX)), (a3, .inl (cZ, 25, .inl (zB T0))), (a4, .inl (cI, 100, .inl (bI wn hn))), (a5, .inl (cI, 25, .inl KP)), (a6, .inl (cI, 25, .inl RG)), (a7, .inl (cI, 26, .inl SZ)), (a8, .inl (cI, 25, .inl LN))] H := hP
      have hD : va_D A [(m0, .inr (2, [.int 2, .int (nI wn), .int (nI hn), .int (nI q0), .int wv, .ref a1, .ref a2, .ref a3, .ref a4, .ref a5, .ref a6, .ref a7, .ref a8, .int mn])), (a1, .inl (cI, 25, .inl (kI K0))), (a2, .inl (cI, 25, .inl NX)), (a3, .inl (cZ, 25, .inl (zB T0))), (a4, .inl (cI, 100, .inl (bI wn hn))), (a5, .inl (cI, 25, .inl KP)), (a6, .inl (cI, 25, .inl RG)), (a7, .inl (cI, 26, .inl SZ)), (a8, .inl (cI, 25, .inl LN))] := hD
      have hp_30 : r_3 = 0 := hp_30
      refine z_topi (y := 0) hp_30 ?_
      rw [← hQ]
      exact z_iret (W1 := (fun (_ : Unit) => [(m0, .inr (2, [.int 2, .int (nI wn), .int (nI hn), .int (nI q0), .int wv, .ref a1, .ref a2, .ref a3, .ref a4, .ref a5, .ref a6, .ref a7, .ref a8, .int mn])), (a1, .inl (cI, 25, .inl (kI K0))), (a2, .inl (cI, 25, .inl NX)), (a3, .inl (cZ, 25, .inl (zB T0))), (a4, .inl (cI, 100, .inl (bI wn hn))), (a5, .inl (cI, 25, .inl KP)), (a6, .inl (cI, 25, .inl RG)), (a7, .inl (cI, 26, .inl SZ)), (a8, .inl (cI, 25, .inl LN))])) hx hb hr hlocks hP hS () (rfl) (trivial) dX2_bestCell_33
  · skip
    exact absurd hin (z_if0 c_9)
