abbrev rmX2_share : Room := { frames := 2, cells := 0, slots := 0, locals := 43 }
set_option maxRecDepth 20000 in
theorem iX2_share_X2 : ∀ w ∈ wsX20, w ∈ wsX2_share := fun w h => (goodIn_r (big := wsX2_share) wsX20 [20, 21, 22, 23, 24, 25, 26, 27, 28, 29, 30, 31, 32, 33] (by decide +kernel) (by decide +kernel) w h).1
set_option maxHeartbeats 4000000 in
set_option maxRecDepth 100000 in
theorem m_X2_share_ok (l : Launch) (dC : Nat → ClassId) (dI : Nat → Nat → Nat) (cI cZ cJ cD : ClassId) (m0 : Nat) (a1 : Nat) (a2 : Nat) (a3 : Nat) (a4 : Nat) (a5 : Nat) (a6 : Nat) (a7 : Nat) (a8 : Nat) (th : Int32) (wn : Nat) (hn : Nat) (q0 : Nat) (wv : Int32) (K0 : Nat → Nat) (NX : Nat → Int32) (T0 : Nat → Bool) (KP : Nat → Int32) (RG : Nat → Int32) (SZ : Nat → Int32) (LN : Nat → Int32) (mn : Int32) (j0 : Nat) (g : gok wn hn) (hK4 : ∀ c, K0 c ≤ 4) (hj0 : j0 < 5) : zDb l (dC, dI) (wT cI cZ cJ cD) yX2_share wsX2_share rmX2_share [(m0, .inr (2, [.int th, .int (nI wn), .int (nI hn), .int (nI q0), .int wv, .ref a1, .ref a2, .ref a3, .ref a4, .ref a5, .ref a6, .ref a7, .ref a8, .int mn])), (a1, .inl (cI, 25, .inl (kI K0))), (a2, .inl (cI, 25, .inl NX)), (a3, .inl (cZ, 25, .inl (zB T0))), (a4, .inl (cI, 100, .inl (bI wn hn))), (a5, .inl (cI, 25, .inl KP)), (a6, .inl (cI, 25, .inl RG)), (a7, .inl (cI, 26, .inl SZ)), (a8, .inl (cI, 25, .inl LN))] [.ref m0, .int (nI j0)] (fun (_ : Unit) => [(m0, .inr (2, [.int 0, .int (nI wn), .int (nI hn), .int (nI q0), .int wv, .ref a1, .ref a2, .ref a3, .ref a4, .ref a5, .ref a6, .ref a7, .ref a8, .int mn])), (a1, .inl (cI, 25, .inl (kI K0))), (a2, .inl (cI, 25, .inl NX)), (a3, .inl (cZ, 25, .inl (zB T0))), (a4, .inl (cI, 100, .inl (bI wn hn))), (a5, .inl (cI, 25, .inl KP)), (a6, .inl (cI, 25, .inl RG)), (a7, .inl (cI, 26, .inl SZ)), (a8, .inl (cI, 25, .inl LN))]) (fun (r : UInt64) (_ : Unit) => r = FP.ddiv (FP.i2d (nI (ccN K0 j0 (wn * hn)))) (FP.i2d (nI (wn * hn)))) := by
  intro sz
  refine Met.ofW (cc := cX2_share) (maxL := 2) (ret := (some .double)) (by decide) rfl ?_
  intro p e s m args below meth c s₁ B hml hv
  obtain ⟨ha, hsz, hP, hK, hD0, hN⟩ := hv
  have hx := B.exec
  have hb := B.bytes
  have hr := B.returns
  have hts := atoms_spec (ws := wsX2_share) B.pre
  have hown : s.vm.findClass RX2 = some m.cls := findClass_of_methodNamed B.named
  have hlocks := B.notSynchronized
  subst hsz
  have hD := hD0.self (sz := s.heap.size)
  generalize hAe : va_A [(m0, .inr (2, [.int th, .int (nI wn), .int (nI hn), .int (nI q0), .int wv, .ref a1, .ref a2, .ref a3, .ref a4, .ref a5, .ref a6, .ref a7, .ref a8, .int mn])), (a1, .inl (cI, 25, .inl (kI K0))), (a2, .inl (cI, 25, .inl NX)), (a3, .inl (cZ, 25, .inl (zB T0))), (a4, .inl (cI, 100, .inl (bI wn hn))), (a5, .inl (cI, 25, .inl KP)), (a6, .inl (cI, 25, .inl RG)), (a7, .inl (cI, 26, .inl SZ)), (a8, .inl (cI, 25, .inl LN))] s.heap.size = A at hD ⊢
  have hA : ∀ q : Nat, s.heap.size ≤ q → A q := fun q h => by rw [← hAe]; exact Or.inr h
  have hS : va_S A s.heap s.heap [] := va_S.rf
  generalize hQ : MQ below (va_Qd (fun (r : UInt64) (_ : Unit) => r = FP.ddiv (FP.i2d (nI (ccN K0 j0 (wn * hn)))) (FP.i2d (nI (wn * hn)))) (fun u t => va_P (dC, dI) vwCl ((fun (_ : Unit) => [(m0, .inr (2, [.int 0, .int (nI wn), .int (nI hn), .int (nI q0), .int wv, .ref a1, .ref a2, .ref a3, .ref a4, .ref a5, .ref a6, .ref a7, .ref a8, .int mn])), (a1, .inl (cI, 25, .inl (kI K0))), (a2, .inl (cI, 25, .inl NX)), (a3, .inl (cZ, 25, .inl (zB T0))), (a4, .inl (cI, 100, .inl (bI wn hn))), (a5, .inl (cI, 25, .inl KP)), (a6, .inl (cI, 25, .inl RG)), (a7, .inl (cI, 26, .inl SZ)), (a8, .inl (cI, 25, .inl LN))]) u) t.heap) A) args s 0 0 A = Q
  have F9 : CallFix p m c cX2_share 2 s args wsX2_share RX2 := ⟨hx, hb, hml, hown, hts⟩
  obtain ⟨g1, g2, g3, g4⟩ := id g
  have g5 := wh_le g
  have g6 := wh_pos g
  refine z_entry (R := rmX2_share) ha (Nat.le_of_ble_eq_true rfl) (fun ls hl => ?_)
  have hl : lv_has ls 2 [(0, .ref m0), (1, .int (nI j0))] := hl
  refine lv_aload_n hx hb dX2_share_0 rfl (lv_at hl 0 rfl) ?_
  refine lv_iload_n hx hb dX2_share_1 rfl (lv_at hl 1 rfl) ?_
  refine z_callSi (As := [.int (nI j0)]) (rest := [.ref m0]) F9 (m_X2_isAny l dC dI cI cZ cJ cD (nI j0) ) (va_cwS 1 hts gX2_share_X2_isAny rfl rfl rfl (by decide +kernel) ⟨Nat.le_of_ble_eq_true rfl, Nat.le_of_ble_eq_true rfl⟩) hK hN hP hD hS hA rfl hl.1 rfl (Nat.le_of_ble_eq_true rfl) dX2_share_2 ⟨Nat.zero_le _, Nat.zero_le _⟩ (fun r_1 H locs hp_2 hP hS => ?_)
  have hp_2 : r_1 = if pAny (nI j0) then 1 else 0 := hp_2
  refine z_topi (y := if pAny (nI j0) then 1 else 0) hp_2 ?_
  refine lv_if_eq (tgt := 12) hx hb dX2_share_5 (by decide) (fun c_5 => ?_) (fun c_5 => ?_)
  · skip
    exact absurd (any_ok hj0) (z_if0 c_5)
  · skip
    refine lv_iconst (v := 0) hx hb dX2_share_8 (by decide) ?_
    refine lv_goto (tgt := 13) hx hb dX2_share_9 (by decide) ?_
    refine va_put (D := (dC, dI)) (ci := 2) (v := .int 0) (ty := .int) (C := RX2) (T := TX2) (N := 14) hx hb hts iX2_share_X2 tyX2 tyX2_ok nmX2 hown hK hP hD hS 0 rfl rfl 0 (by decide) (hts (.fieldLink RX2 43 "ColourTideModel" "thrown" "I") (List.mem_of_getElem? (i := 1) rfl)) (fun _ h9 => h9) rfl (by decide +kernel) rfl rfl (Nat.le_of_ble_eq_true rfl) dX2_share_13 (fun H locs hP hD hS => ?_)
    have hP : va_P (dC, dI) vwCl [(m0, .inr (2, [.int 0, .int (nI wn), .int (nI hn), .int (nI q0), .int wv, .ref a1, .ref a2, .ref a3, .ref a4, .ref a5, .ref a6, .ref a7, .ref a8, .int mn])), (a1, .inl (cI, 25, .inl (kI K0))), (a2, .inl (cI, 25, .inl NX)), (a3, .inl (cZ, 25, .inl (zB T0))), (a4, .inl (cI, 100, .inl (bI wn hn))), (a5, .inl (cI, 25, .inl KP)), (a6, .inl (cI, 25, .inl RG)), (a7, .inl (cI, 26, .inl SZ)), (a8, .inl (cI, 25, .inl LN))] H := hP
    have hD : va_D A [(m0, .inr (2, [.int 0, .int (nI wn), .int (nI hn), .int (nI q0), .int wv, .ref a1, .ref a2, .ref a3, .ref a4, .ref a5, .ref a6, .ref a7, .ref a8, .int mn])), (a1, .inl (cI, 25, .inl (kI K0))), (a2, .inl (cI, 25, .inl NX)), (a3, .inl (cZ, 25, .inl (zB T0))), (a4, .inl (cI, 100, .inl (bI wn hn))), (a5, .inl (cI, 25, .inl KP)), (a6, .inl (cI, 25, .inl RG)), (a7, .inl (cI, 26, .inl SZ)), (a8, .inl (cI, 25, .inl LN))] := hD
    refine lv_aload_n hx hb dX2_share_16 rfl (lv_at hl 0 rfl) ?_
    refine va_get (D := (dC, dI)) (ci := 2) (v := .int 0) (C := RX2) (T := TX2) (N := 14) hx hb hts iX2_share_X2 hown hK hP 0 rfl rfl 0 (by decide) (hts (.fieldLink RX2 43 "ColourTideModel" "thrown" "I") (List.mem_of_getElem? (i := 1) rfl)) (fun _ h9 => h9) rfl dX2_share_17 ?_
    refine lv_if_ne (tgt := 38) hx hb dX2_share_20 (by decide) (fun c_20 => ?_) (fun c_20 => ?_)
    · skip
      have n_20 := zc_eq_f (a := 0) (b := 0) (by omega) (by omega) c_20
      exact absurd n_20 (by omega)
    · skip
      have n_20 := zc_eq_t (a := 0) (b := 0) (by omega) (by omega) c_20
      refine lv_aload_n hx hb dX2_share_23 rfl (lv_at hl 0 rfl) ?_
      refine lv_iload_n hx hb dX2_share_24 rfl (lv_at hl 1 rfl) ?_
      refine z_callVi (As := [.int (nI j0)]) (rest := []) F9 (m_X2_cellsWith l dC dI cI cZ cJ cD m0 a1 a2 a3 a4 a5 a6 a7 a8 0 wn hn q0 wv K0 NX T0 KP RG SZ LN mn j0 (g) (hK4) (by omega)) (cwV 1 hts gX2_share_X2_cellsWith rfl rfl rfl (by decide +kernel) ⟨Nat.le_of_ble_eq_true rfl, Nat.le_of_ble_eq_true rfl⟩) hK hN hP hD hS hA [0, 1, 2, 3, 4, 5, 6, 7, 8] rfl rfl (fun _ => rfl) 0 (ci := 2) rfl rfl rfl rfl hl.1 rfl (Nat.le_of_ble_eq_true rfl) dX2_share_25 ⟨Nat.zero_le _, Nat.zero_le _⟩ (fun r_2 u H locs hp_25 hP hD hS => ?_)
      have hP : va_P (dC, dI) vwCl [(m0, .inr (2, [.int 0, .int (nI wn), .int (nI hn), .int (nI q0), .int wv, .ref a1, .ref a2, .ref a3, .ref a4, .ref a5, .ref a6, .ref a7, .ref a8, .int mn])), (a1, .inl (cI, 25, .inl (kI K0))), (a2, .inl (cI, 25, .inl NX)), (a3, .inl (cZ, 25, .inl (zB T0))), (a4, .inl (cI, 100, .inl (bI wn hn))), (a5, .inl (cI, 25, .inl KP)), (a6, .inl (cI, 25, .inl RG)), (a7, .inl (cI, 26, .inl SZ)), (a8, .inl (cI, 25, .inl LN))] H := hP
      have hD : va_D A [(m0, .inr (2, [.int 0, .int (nI wn), .int (nI hn), .int (nI q0), .int wv, .ref a1, .ref a2, .ref a3, .ref a4, .ref a5, .ref a6, .ref a7, .ref a8, .int mn])), (a1, .inl (cI, 25, .inl (kI K0))), (a2, .inl (cI, 25, .inl NX)), (a3, .inl (cZ, 25, .inl (zB T0))), (a4, .inl (cI, 100, .inl (bI wn hn))), (a5, .inl (cI, 25, .inl KP)), (a6, .inl (cI, 25, .inl RG)), (a7, .inl (cI, 26, .inl SZ)), (a8, .inl (cI, 25, .inl LN))] := hD
      have hp_25 : r_2 = nI (ccN K0 j0 (wn * hn)) := hp_25
      refine z_topi (y := nI (ccN K0 j0 (wn * hn))) hp_25 ?_
      refine lv_i2d hx hb dX2_share_28 ?_
      refine lv_aload_n hx hb dX2_share_29 rfl (lv_at hl 0 rfl) ?_
      refine z_callVi (As := []) (rest := [.double (FP.i2d (nI (ccN K0 j0 (wn * hn))))]) F9 (m_X2_cells l dC dI cI cZ cJ cD m0 a1 a2 a3 a4 a5 a6 a7 a8 0 wn hn q0 wv K0 NX T0 KP RG SZ LN mn ) (cwV 0 hts gX2_share_X2_cells rfl rfl rfl (by decide +kernel) ⟨Nat.le_of_ble_eq_true rfl, Nat.le_of_ble_eq_true rfl⟩) hK hN hP hD hS hA [0, 1, 2, 3, 4, 5, 6, 7, 8] rfl rfl (fun _ => rfl) 0 (ci := 2) rfl rfl rfl rfl hl.1 rfl (Nat.le_of_ble_eq_true rfl) dX2_share_30 ⟨Nat.zero_le _, Nat.zero_le _⟩ (fun r_3 u H locs hp_30 hP hD hS => ?_)
      have hP : va_P (dC, dI) vwCl [(m0, .inr (2, [.int 0, .int (nI wn), .int (nI hn), .int (nI q0), .int wv, .ref a1, .ref a2, .ref a3, .ref a4, .ref a5, .ref a6, .ref a7, .ref a8, .int mn])), (a1, .inl (cI, 25, .inl (kI K0))), (a2, .inl (cI, 25, .inl NX)), (a3, .inl (cZ, 25, .inl (zB T0))), (a4, .inl (cI, 100, .inl (bI wn hn))), (a5, .inl (cI, 25, .inl KP)), (a6, .inl (cI, 25, .inl RG)), (a7, .inl (cI, 26, .inl SZ)), (a8, .inl (cI, 25, .inl LN))] H := hP
      have hD : va_D A [(m0, .inr (2, [.int 0, .int (nI wn), .int (nI hn), .int (nI q0), .int wv, .ref a1, .ref a2, .ref a3, .ref a4, .ref a5, .ref a6, .ref a7, .ref a8, .int mn])), (a1, .inl (cI, 25, .inl (kI K0))), (a2, .inl (cI, 25, .inl NX)), (a3, .inl (cZ, 25, .inl (zB T0))), (a4, .inl (cI, 100, .inl (bI wn hn))), (a5, .inl (cI, 25, .inl KP)), (a6, .inl (cI, 25, .inl RG)), (a7, .inl (cI, 26, .inl SZ)), (a8, .inl (cI, 25, .inl LN))] := hD
      have hp_30 : r_3 = nI (wn * hn) := hp_30
      refine z_topi (y := nI (wn * hn)) hp_30 ?_
      refine lv_i2d hx hb dX2_share_33 ?_
      refine lv_ddiv hx hb dX2_share_34 (z_quot (ccN K0 j0 (wn * hn)) (by have := ccN_le K0 j0 (wn * hn); omega) (wn * hn) (by omega) (by omega)) ?_
      refine lv_goto (tgt := 39) hx hb dX2_share_35 (by decide) ?_
      rw [← hQ]
      exact z_dret (W1 := (fun (_ : Unit) => [(m0, .inr (2, [.int 0, .int (nI wn), .int (nI hn), .int (nI q0), .int wv, .ref a1, .ref a2, .ref a3, .ref a4, .ref a5, .ref a6, .ref a7, .ref a8, .int mn])), (a1, .inl (cI, 25, .inl (kI K0))), (a2, .inl (cI, 25, .inl NX)), (a3, .inl (cZ, 25, .inl (zB T0))), (a4, .inl (cI, 100, .inl (bI wn hn))), (a5, .inl (cI, 25, .inl KP)), (a6, .inl (cI, 25, .inl RG)), (a7, .inl (cI, 26, .inl SZ)), (a8, .inl (cI, 25, .inl LN))])) hx hb hr hlocks hP hS () (rfl) (rfl) dX2_share_39
set_option maxHeartbeats 4000000 in
set_option maxRecDepth 100000 in
theorem m_X2_share_no (l : Launch) (dC : Nat → ClassId) (dI : Nat → Nat → Nat) (cI cZ cJ cD : ClassId) (m0 : Nat) (a1 : Nat) (a2 : Nat) (a3 : Nat) (a4 : Nat) (a5 : Nat) (a6 : Nat) (a7 : Nat) (a8 : Nat) (th : Int32) (wn : Nat) (hn : Nat) (q0 : Nat) (wv : Int32) (K0 : Nat → Nat) (NX : Nat → Int32) (T0 : Nat → Bool) (KP : Nat → Int32) (RG : Nat → Int32) (SZ : Nat → Int32) (LN : Nat → Int32) (mn : Int32) (col : Int32) (g : gok wn hn) (hK4 : ∀ c, K0 c ≤ 4) (hno : ¬ pAny col) : zDb l (dC, dI) (wT cI cZ cJ cD) yX2_share wsX2_share rmX2_share [(m0, .inr (2, [.int th, .int (nI wn), .int (nI hn), .int (nI q0), .int wv, .ref a1, .ref a2, .ref a3, .ref a4, .ref a5, .ref a6, .ref a7, .ref a8, .int mn])), (a1, .inl (cI, 25, .inl (kI K0))), (a2, .inl (cI, 25, .inl NX)), (a3, .inl (cZ, 25, .inl (zB T0))), (a4, .inl (cI, 100, .inl (bI wn hn))), (a5, .inl (cI, 25, .inl KP)), (a6, .inl (cI, 25, .inl RG)), (a7, .inl (cI, 26, .inl SZ)), (a8, .inl (cI, 25, .inl LN))] [.ref m0, .int col] (fun (_ : Unit) => [(m0, .inr (2, [.int 1, .int (nI wn), .int (nI hn), .int (nI q0), .int wv, .ref a1, .ref a2, .ref a3, .ref a4, .ref a5, .ref a6, .ref a7, .ref a8, .int mn])), (a1, .inl (cI, 25, .inl (kI K0))), (a2, .inl (cI, 25, .inl NX)), (a3, .inl (cZ, 25, .inl (zB T0))), (a4, .inl (cI, 100, .inl (bI wn hn))), (a5, .inl (cI, 25, .inl KP)), (a6, .inl (cI, 25, .inl RG)), (a7, .inl (cI, 26, .inl SZ)), (a8, .inl (cI, 25, .inl LN))]) (fun (r : UInt64) (_ : Unit) => True) := by
  intro sz
  refine Met.ofW (cc := cX2_share) (maxL := 2) (ret := (some .double)) (by decide) rfl ?_
  intro p e s m args below meth c s₁ B hml hv
  obtain ⟨ha, hsz, hP, hK, hD0, hN⟩ := hv
  have hx := B.exec
  have hb := B.bytes
  have hr := B.returns
  have hts := atoms_spec (ws := wsX2_share) B.pre
  have hown : s.vm.findClass RX2 = some m.cls := findClass_of_methodNamed B.named
  have hlocks := B.notSynchronized
  subst hsz
  have hD := hD0.self (sz := s.heap.size)
  generalize hAe : va_A [(m0, .inr (2, [.int th, .int (nI wn), .int (nI hn), .int (nI q0), .int wv, .ref a1, .ref a2, .ref a3, .ref a4, .ref a5, .ref a6, .ref a7, .ref a8, .int mn])), (a1, .inl (cI, 25, .inl (kI K0))), (a2, .inl (cI, 25, .inl NX)), (a3, .inl (cZ, 25, .inl (zB T0))), (a4, .inl (cI, 100, .inl (bI wn hn))), (a5, .inl (cI, 25, .inl KP)), (a6, .inl (cI, 25, .inl RG)), (a7, .inl (cI, 26, .inl SZ)), (a8, .inl (cI, 25, .inl LN))] s.heap.size = A at hD ⊢
  have hA : ∀ q : Nat, s.heap.size ≤ q → A q := fun q h => by rw [← hAe]; exact Or.inr h
  have hS : va_S A s.heap s.heap [] := va_S.rf
  generalize hQ : MQ below (va_Qd (fun (r : UInt64) (_ : Unit) => True) (fun u t => va_P (dC, dI) vwCl ((fun (_ : Unit) => [(m0, .inr (2, [.int 1, .int (nI wn), .int (nI hn), .int (nI q0), .int wv, .ref a1, .ref a2, .ref a3, .ref a4, .ref a5, .ref a6, .ref a7, .ref a8, .int mn])), (a1, .inl (cI, 25, .inl (kI K0))), (a2, .inl (cI, 25, .inl NX)), (a3, .inl (cZ, 25, .inl (zB T0))), (a4, .inl (cI, 100, .inl (bI wn hn))), (a5, .inl (cI, 25, .inl KP)), (a6, .inl (cI, 25, .inl RG)), (a7, .inl (cI, 26, .inl SZ)), (a8, .inl (cI, 25, .inl LN))]) u) t.heap) A) args s 0 0 A = Q
  have F9 : CallFix p m c cX2_share 2 s args wsX2_share RX2 := ⟨hx, hb, hml, hown, hts⟩
  obtain ⟨g1, g2, g3, g4⟩ := id g
  have g5 := wh_le g
  have g6 := wh_pos g
  refine z_entry (R := rmX2_share) ha (Nat.le_of_ble_eq_true rfl) (fun ls hl => ?_)
  have hl : lv_has ls 2 [(0, .ref m0), (1, .int col)] := hl
  refine lv_aload_n hx hb dX2_share_0 rfl (lv_at hl 0 rfl) ?_
  refine lv_iload_n hx hb dX2_share_1 rfl (lv_at hl 1 rfl) ?_
  refine z_callSi (As := [.int col]) (rest := [.ref m0]) F9 (m_X2_isAny l dC dI cI cZ cJ cD col ) (va_cwS 1 hts gX2_share_X2_isAny rfl rfl rfl (by decide +kernel) ⟨Nat.le_of_ble_eq_true rfl, Nat.le_of_ble_eq_true rfl⟩) hK hN hP hD hS hA rfl hl.1 rfl (Nat.le_of_ble_eq_true rfl) dX2_share_2 ⟨Nat.zero_le _, Nat.zero_le _⟩ (fun r_1 H locs hp_2 hP hS => ?_)
  have hp_2 : r_1 = if pAny col then 1 else 0 := hp_2
  refine z_topi (y := if pAny col then 1 else 0) hp_2 ?_
  refine lv_if_eq (tgt := 12) hx hb dX2_share_5 (by decide) (fun c_5 => ?_) (fun c_5 => ?_)
  · skip
    refine lv_iconst (v := 1) hx hb dX2_share_12 (by decide) ?_
    refine va_put (D := (dC, dI)) (ci := 2) (v := .int 1) (ty := .int) (C := RX2) (T := TX2) (N := 14) hx hb hts iX2_share_X2 tyX2 tyX2_ok nmX2 hown hK hP hD hS 0 rfl rfl 0 (by decide) (hts (.fieldLink RX2 43 "ColourTideModel" "thrown" "I") (List.mem_of_getElem? (i := 1) rfl)) (fun _ h9 => h9) rfl (by decide +kernel) rfl rfl (Nat.le_of_ble_eq_true rfl) dX2_share_13 (fun H locs hP hD hS => ?_)
    have hP : va_P (dC, dI) vwCl [(m0, .inr (2, [.int 1, .int (nI wn), .int (nI hn), .int (nI q0), .int wv, .ref a1, .ref a2, .ref a3, .ref a4, .ref a5, .ref a6, .ref a7, .ref a8, .int mn])), (a1, .inl (cI, 25, .inl (kI K0))), (a2, .inl (cI, 25, .inl NX)), (a3, .inl (cZ, 25, .inl (zB T0))), (a4, .inl (cI, 100, .inl (bI wn hn))), (a5, .inl (cI, 25, .inl KP)), (a6, .inl (cI, 25, .inl RG)), (a7, .inl (cI, 26, .inl SZ)), (a8, .inl (cI, 25, .inl LN))] H := hP
    have hD : va_D A [(m0, .inr (2, [.int 1, .int (nI wn), .int (nI hn), .int (nI q0), .int wv, .ref a1, .ref a2, .ref a3, .ref a4, .ref a5, .ref a6, .ref a7, .ref a8, .int mn])), (a1, .inl (cI, 25, .inl (kI K0))), (a2, .inl (cI, 25, .inl NX)), (a3, .inl (cZ, 25, .inl (zB T0))), (a4, .inl (cI, 100, .inl (bI wn hn))), (a5, .inl (cI, 25, .inl KP)), (a6, .inl (cI, 25, .inl RG)), (a7, .inl (cI, 26, .inl SZ)), (a8, .inl (cI, 25, .inl LN))] := hD
    refine lv_aload_n hx hb dX2_share_16 rfl (lv_at hl 0 rfl) ?_
    refine va_get (D := (dC, dI)) (ci := 2) (v := .int 1) (C := RX2) (T := TX2) (N := 14) hx hb hts iX2_share_X2 hown hK hP 0 rfl rfl 0 (by decide) (hts (.fieldLink RX2 43 "ColourTideModel" "thrown" "I") (List.mem_of_getElem? (i := 1) rfl)) (fun _ h9 => h9) rfl dX2_share_17 ?_
    refine lv_if_ne (tgt := 38) hx hb dX2_share_20 (by decide) (fun c_20 => ?_) (fun c_20 => ?_)
    · skip
      have n_20 := zc_eq_f (a := 1) (b := 0) (by omega) (by omega) c_20
      refine lv_dconst0 hx hb dX2_share_38 ?_
      rw [← hQ]
      exact z_dret (W1 := (fun (_ : Unit) => [(m0, .inr (2, [.int 1, .int (nI wn), .int (nI hn), .int (nI q0), .int wv, .ref a1, .ref a2, .ref a3, .ref a4, .ref a5, .ref a6, .ref a7, .ref a8, .int mn])), (a1, .inl (cI, 25, .inl (kI K0))), (a2, .inl (cI, 25, .inl NX)), (a3, .inl (cZ, 25, .inl (zB T0))), (a4, .inl (cI, 100, .inl (bI wn hn))), (a5, .inl (cI, 25, .inl KP)), (a6, .inl (cI, 25, .inl RG)), (a7, .inl (cI, 26, .inl SZ)), (a8, .inl (cI, 25, .inl LN))])) hx hb hr hlocks hP hS () (rfl) (trivial) dX2_share_39
    · skip
      have n_20 := zc_eq_t (a := 1) (b := 0) (by omega) (by omega) c_20
      exact absurd n_20 (by omega)
  · skip
    exact absurd (z_if1 c_5) hno
abbrev rmX2_digest : Room := { frames := 3, cells := 1, slots := 9, locals := 71 }
set_option maxRecDepth 20000 in
theorem iX2_digest_X2 : ∀ w ∈ wsX20, w ∈ wsX2_digest := fun w h => (goodIn_r (big := wsX2_digest) wsX20 [73, 74, 75, 76, 77, 78, 79, 80, 81, 82, 83, 84, 85, 86] (by decide +kernel) (by decide +kernel) w h).1
set_option maxHeartbeats 4000000 in
set_option maxRecDepth 100000 in
theorem m_X2_digest_ok (l : Launch) (dC : Nat → ClassId) (dI : Nat → Nat → Nat) (cI cZ cJ cD : ClassId) (m0 : Nat) (a1 : Nat) (a2 : Nat) (a3 : Nat) (a4 : Nat) (a5 : Nat) (a6 : Nat) (a7 : Nat) (a8 : Nat) (th : Int32) (wn : Nat) (hn : Nat) (q0 : Nat) (wv : Int32) (K0 : Nat → Nat) (NX : Nat → Int32) (T0 : Nat → Bool) (KP : Nat → Int32) (RG : Nat → Int32) (SZ : Nat → Int32) (LN : Nat → Int32) (mn : Int32) (g : gok wn hn) (hK4 : ∀ c, K0 c ≤ 4) (hq : 1 ≤ q0 ∧ q0 ≤ 4) : zLc l (dC, dI) (wT cI cZ cJ cD) yX2_digest wsX2_digest rmX2_digest [(m0, .inr (2, [.int th, .int (nI wn), .int (nI hn), .int (nI q0), .int wv, .ref a1, .ref a2, .ref a3, .ref a4, .ref a5, .ref a6, .ref a7, .ref a8, .int mn])), (a1, .inl (cI, 25, .inl (kI K0))), (a2, .inl (cI, 25, .inl NX)), (a3, .inl (cZ, 25, .inl (zB T0))), (a4, .inl (cI, 100, .inl (bI wn hn))), (a5, .inl (cI, 25, .inl KP)), (a6, .inl (cI, 25, .inl RG)), (a7, .inl (cI, 26, .inl SZ)), (a8, .inl (cI, 25, .inl LN))] [.ref m0] (fun (u : (Nat → Int32) × (Nat → Int32) × (Nat → Int32) × Int32) => [(m0, .inr (2, [.int 0, .int (nI wn), .int (nI hn), .int (nI q0), .int wv, .ref a1, .ref a2, .ref a3, .ref a4, .ref a5, .ref a6, .ref a7, .ref a8, .int u.2.2.2])), (a1, .inl (cI, 25, .inl (kI K0))), (a2, .inl (cI, 25, .inl NX)), (a3, .inl (cZ, 25, .inl (zB T0))), (a4, .inl (cI, 100, .inl (bI wn hn))), (a5, .inl (cI, 25, .inl KP)), (a6, .inl (cI, 25, .inl u.1)), (a7, .inl (cI, 26, .inl u.2.1)), (a8, .inl (cI, 25, .inl u.2.2.1))]) (fun (r : Int64) (u : (Nat → Int32) × (Nat → Int32) × (Nat → Int32) × Int32) => r = dgD wn hn q0 T0 K0 (dgC wn hn K0 (dgL (dgA (nI wn) (nI hn) (nI q0) wv (nI (ct T0 (wn * hn))) (nI (boN wn hn K0 (wn * hn))) (nI (bestL (ccF K0 (wn * hn)) 1 4)) (bz (stN wn hn q0 T0 K0 (wn * hn))) (nI (allN K0 (wn * hn)))) 9) 4) (wn * hn)) 1 9 := by
  intro sz
  refine Met.ofW (cc := cX2_digest) (maxL := 8) (ret := (some .long)) (by decide) rfl ?_
  intro p e s m args below meth c s₁ B hml hv
  obtain ⟨ha, hsz, hP, hK, hD0, hN⟩ := hv
  have hx := B.exec
  have hb := B.bytes
  have hr := B.returns
  have hts := atoms_spec (ws := wsX2_digest) B.pre
  have hown : s.vm.findClass RX2 = some m.cls := findClass_of_methodNamed B.named
  have hlocks := B.notSynchronized
  subst hsz
  have hD := hD0.self (sz := s.heap.size)
  generalize hAe : va_A [(m0, .inr (2, [.int th, .int (nI wn), .int (nI hn), .int (nI q0), .int wv, .ref a1, .ref a2, .ref a3, .ref a4, .ref a5, .ref a6, .ref a7, .ref a8, .int mn])), (a1, .inl (cI, 25, .inl (kI K0))), (a2, .inl (cI, 25, .inl NX)), (a3, .inl (cZ, 25, .inl (zB T0))), (a4, .inl (cI, 100, .inl (bI wn hn))), (a5, .inl (cI, 25, .inl KP)), (a6, .inl (cI, 25, .inl RG)), (a7, .inl (cI, 26, .inl SZ)), (a8, .inl (cI, 25, .inl LN))] s.heap.size = A at hD ⊢
  have hA : ∀ q : Nat, s.heap.size ≤ q → A q := fun q h => by rw [← hAe]; exact Or.inr h
  have hS : va_S A s.heap s.heap [] := va_S.rf
  generalize hQ : MQ below (va_Ql (fun (r : Int64) (u : (Nat → Int32) × (Nat → Int32) × (Nat → Int32) × Int32) => r = dgD wn hn q0 T0 K0 (dgC wn hn K0 (dgL (dgA (nI wn) (nI hn) (nI q0) wv (nI (ct T0 (wn * hn))) (nI (boN wn hn K0 (wn * hn))) (nI (bestL (ccF K0 (wn * hn)) 1 4)) (bz (stN wn hn q0 T0 K0 (wn * hn))) (nI (allN K0 (wn * hn)))) 9) 4) (wn * hn)) (fun u t => va_P (dC, dI) vwCl ((fun (u : (Nat → Int32) × (Nat → Int32) × (Nat → Int32) × Int32) => [(m0, .inr (2, [.int 0, .int (nI wn), .int (nI hn), .int (nI q0), .int wv, .ref a1, .ref a2, .ref a3, .ref a4, .ref a5, .ref a6, .ref a7, .ref a8, .int u.2.2.2])), (a1, .inl (cI, 25, .inl (kI K0))), (a2, .inl (cI, 25, .inl NX)), (a3, .inl (cZ, 25, .inl (zB T0))), (a4, .inl (cI, 100, .inl (bI wn hn))), (a5, .inl (cI, 25, .inl KP)), (a6, .inl (cI, 25, .inl u.1)), (a7, .inl (cI, 26, .inl u.2.1)), (a8, .inl (cI, 25, .inl u.2.2.1))]) u) t.heap) A) args s 1 9 A = Q
  have F9 : CallFix p m c cX2_digest 8 s args wsX2_digest RX2 := ⟨hx, hb, hml, hown, hts⟩
  obtain ⟨g1, g2, g3, g4⟩ := id g
  have g5 := wh_le g
  have g6 := wh_pos g
  refine z_entry (R := rmX2_digest) ha (Nat.le_of_ble_eq_true rfl) (fun ls hl => ?_)
  have hl : lv_has ls 8 [(0, .ref m0)] := hl
  refine lv_aload_n hx hb dX2_digest_0 rfl (lv_at hl 0 rfl) ?_
  refine lv_iconst (v := 0) hx hb dX2_digest_1 (by decide) ?_
  refine va_put (D := (dC, dI)) (ci := 2) (v := .int 0) (ty := .int) (C := RX2) (T := TX2) (N := 14) hx hb hts iX2_digest_X2 tyX2 tyX2_ok nmX2 hown hK hP hD hS 0 rfl rfl 0 (by decide) (hts (.fieldLink RX2 43 "ColourTideModel" "thrown" "I") (List.mem_of_getElem? (i := 1) rfl)) (fun _ h9 => h9) rfl (by decide +kernel) rfl rfl (Nat.le_of_ble_eq_true rfl) dX2_digest_2 (fun H locs hP hD hS => ?_)
  have hP : va_P (dC, dI) vwCl [(m0, .inr (2, [.int 0, .int (nI wn), .int (nI hn), .int (nI q0), .int wv, .ref a1, .ref a2, .ref a3, .ref a4, .ref a5, .ref a6, .ref a7, .ref a8, .int mn])), (a1, .inl (cI, 25, .inl (kI K0))), (a2, .inl (cI, 25, .inl NX)), (a3, .inl (cZ, 25, .inl (zB T0))), (a4, .inl (cI, 100, .inl (bI wn hn))), (a5, .inl (cI, 25, .inl KP)), (a6, .inl (cI, 25, .inl RG)), (a7, .inl (cI, 26, .inl SZ)), (a8, .inl (cI, 25, .inl LN))] H := hP
  have hD : va_D A [(m0, .inr (2, [.int 0, .int (nI wn), .int (nI hn), .int (nI q0), .int wv, .ref a1, .ref a2, .ref a3, .ref a4, .ref a5, .ref a6, .ref a7, .ref a8, .int mn])), (a1, .inl (cI, 25, .inl (kI K0))), (a2, .inl (cI, 25, .inl NX)), (a3, .inl (cZ, 25, .inl (zB T0))), (a4, .inl (cI, 100, .inl (bI wn hn))), (a5, .inl (cI, 25, .inl KP)), (a6, .inl (cI, 25, .inl RG)), (a7, .inl (cI, 26, .inl SZ)), (a8, .inl (cI, 25, .inl LN))] := hD
  refine lv_aload_n hx hb dX2_digest_5 rfl (lv_at hl 0 rfl) ?_
  refine z_callVv (As := []) (rest := []) F9 (m_X2_hang l dC dI cI cZ cJ cD m0 a1 a2 a3 a4 a5 a6 a7 a8 0 wn hn q0 wv K0 NX T0 KP RG SZ LN mn (g) (hK4)) (cwV 0 hts gX2_digest_X2_hang rfl rfl rfl (by decide +kernel) ⟨Nat.le_of_ble_eq_true rfl, Nat.le_of_ble_eq_true rfl⟩) hK hN hP hD hS hA [0, 1, 2, 3, 4, 5, 6, 7, 8] rfl rfl (fun _ => rfl) 0 (ci := 2) rfl rfl rfl rfl hl.1 rfl (Nat.le_of_ble_eq_true rfl) dX2_digest_6 ⟨Nat.zero_le _, Nat.zero_le _⟩ (fun u H locs hp_6 hP hD hS => ?_)
  obtain ⟨Rq_2, SZq_3, LNq_4, mnq_5⟩ := u
  have hP : va_P (dC, dI) vwCl [(m0, .inr (2, [.int 0, .int (nI wn), .int (nI hn), .int (nI q0), .int wv, .ref a1, .ref a2, .ref a3, .ref a4, .ref a5, .ref a6, .ref a7, .ref a8, .int mnq_5])), (a1, .inl (cI, 25, .inl (kI K0))), (a2, .inl (cI, 25, .inl NX)), (a3, .inl (cZ, 25, .inl (zB T0))), (a4, .inl (cI, 100, .inl (bI wn hn))), (a5, .inl (cI, 25, .inl KP)), (a6, .inl (cI, 25, .inl (zfill (kI Rq_2) RG (wn * hn)))), (a7, .inl (cI, 26, .inl SZq_3)), (a8, .inl (cI, 25, .inl LNq_4))] H := hP
  have hD : va_D A [(m0, .inr (2, [.int 0, .int (nI wn), .int (nI hn), .int (nI q0), .int wv, .ref a1, .ref a2, .ref a3, .ref a4, .ref a5, .ref a6, .ref a7, .ref a8, .int mnq_5])), (a1, .inl (cI, 25, .inl (kI K0))), (a2, .inl (cI, 25, .inl NX)), (a3, .inl (cZ, 25, .inl (zB T0))), (a4, .inl (cI, 100, .inl (bI wn hn))), (a5, .inl (cI, 25, .inl KP)), (a6, .inl (cI, 25, .inl (zfill (kI Rq_2) RG (wn * hn)))), (a7, .inl (cI, 26, .inl SZq_3)), (a8, .inl (cI, 25, .inl LNq_4))] := hD
  have hp_6 : HgP wn hn K0 Rq_2 SZq_3 := hp_6
  refine lv_bipush (v := 9) hx hb dX2_digest_9 (by decide +kernel) ?_
  refine z_newa (atype := .int) (ty := .int) (N' := 9) (n := 9) (cA := cI) (a0 := (9, .inl (fun _ => 0))) hx hb (hts (.arrayClass .int) (List.mem_of_getElem? (i := 2) rfl)) rfl hK hP hD hS hA 0 rfl (fun _ => rfl) (by decide +kernel) (by decide +kernel) (by decide +kernel) (Nat.le_of_ble_eq_true rfl) (Nat.le_of_ble_eq_true rfl) dX2_digest_11 (fun q_11 H hP hD hS => ?_)
  have hP : va_P (dC, dI) vwCl [(m0, .inr (2, [.int 0, .int (nI wn), .int (nI hn), .int (nI q0), .int wv, .ref a1, .ref a2, .ref a3, .ref a4, .ref a5, .ref a6, .ref a7, .ref a8, .int mnq_5])), (a1, .inl (cI, 25, .inl (kI K0))), (a2, .inl (cI, 25, .inl NX)), (a3, .inl (cZ, 25, .inl (zB T0))), (a4, .inl (cI, 100, .inl (bI wn hn))), (a5, .inl (cI, 25, .inl KP)), (a6, .inl (cI, 25, .inl (zfill (kI Rq_2) RG (wn * hn)))), (a7, .inl (cI, 26, .inl SZq_3)), (a8, .inl (cI, 25, .inl LNq_4)), (q_11, .inl (cI, 9, .inl (fun _ => 0)))] H := hP
  have hD : va_D A [(m0, .inr (2, [.int 0, .int (nI wn), .int (nI hn), .int (nI q0), .int wv, .ref a1, .ref a2, .ref a3, .ref a4, .ref a5, .ref a6, .ref a7, .ref a8, .int mnq_5])), (a1, .inl (cI, 25, .inl (kI K0))), (a2, .inl (cI, 25, .inl NX)), (a3, .inl (cZ, 25, .inl (zB T0))), (a4, .inl (cI, 100, .inl (bI wn hn))), (a5, .inl (cI, 25, .inl KP)), (a6, .inl (cI, 25, .inl (zfill (kI Rq_2) RG (wn * hn)))), (a7, .inl (cI, 26, .inl SZq_3)), (a8, .inl (cI, 25, .inl LNq_4)), (q_11, .inl (cI, 9, .inl (fun _ => 0)))] := hD
  refine W.widen (k := 1) (n := 9) (Nat.le_of_ble_eq_true rfl) (Nat.le_of_ble_eq_true rfl) ?_
  refine lv_dup hx hb dX2_digest_13 rfl ?_
  refine lv_iconst (v := 0) hx hb dX2_digest_14 (by decide) ?_
  refine lv_aload_n hx hb dX2_digest_15 rfl (lv_at hl 0 rfl) ?_
  refine va_get (D := (dC, dI)) (ci := 2) (v := .int (nI wn)) (C := RX2) (T := TX2) (N := 14) hx hb hts iX2_digest_X2 hown hK hP 0 rfl rfl 1 (by decide) (hts (.fieldLink RX2 46 "ColourTideModel" "w" "I") (List.mem_of_getElem? (i := 3) rfl)) (fun _ h9 => h9) rfl dX2_digest_16 ?_
  refine z_iast hx hb hK hP hD hS 9 0 rfl rfl 0 (rfl) (by omega) (by decide) dX2_digest_19 (fun H locs hP hD hS => ?_)
  have hP : va_P (dC, dI) vwCl [(m0, .inr (2, [.int 0, .int (nI wn), .int (nI hn), .int (nI q0), .int wv, .ref a1, .ref a2, .ref a3, .ref a4, .ref a5, .ref a6, .ref a7, .ref a8, .int mnq_5])), (a1, .inl (cI, 25, .inl (kI K0))), (a2, .inl (cI, 25, .inl NX)), (a3, .inl (cZ, 25, .inl (zB T0))), (a4, .inl (cI, 100, .inl (bI wn hn))), (a5, .inl (cI, 25, .inl KP)), (a6, .inl (cI, 25, .inl (zfill (kI Rq_2) RG (wn * hn)))), (a7, .inl (cI, 26, .inl SZq_3)), (a8, .inl (cI, 25, .inl LNq_4)), (q_11, .inl (cI, 9, .inl (upd (fun _ => 0) 0 (nI wn))))] H := hP
  have hD : va_D A [(m0, .inr (2, [.int 0, .int (nI wn), .int (nI hn), .int (nI q0), .int wv, .ref a1, .ref a2, .ref a3, .ref a4, .ref a5, .ref a6, .ref a7, .ref a8, .int mnq_5])), (a1, .inl (cI, 25, .inl (kI K0))), (a2, .inl (cI, 25, .inl NX)), (a3, .inl (cZ, 25, .inl (zB T0))), (a4, .inl (cI, 100, .inl (bI wn hn))), (a5, .inl (cI, 25, .inl KP)), (a6, .inl (cI, 25, .inl (zfill (kI Rq_2) RG (wn * hn)))), (a7, .inl (cI, 26, .inl SZq_3)), (a8, .inl (cI, 25, .inl LNq_4)), (q_11, .inl (cI, 9, .inl (upd (fun _ => 0) 0 (nI wn))))] := hD
  refine lv_dup hx hb dX2_digest_20 rfl ?_
  refine lv_iconst (v := 1) hx hb dX2_digest_21 (by decide) ?_
  refine lv_aload_n hx hb dX2_digest_22 rfl (lv_at hl 0 rfl) ?_
  refine va_get (D := (dC, dI)) (ci := 2) (v := .int (nI hn)) (C := RX2) (T := TX2) (N := 14) hx hb hts iX2_digest_X2 hown hK hP 0 rfl rfl 2 (by decide) (hts (.fieldLink RX2 49 "ColourTideModel" "h" "I") (List.mem_of_getElem? (i := 4) rfl)) (fun _ h9 => h9) rfl dX2_digest_23 ?_
  refine z_iast hx hb hK hP hD hS 9 0 rfl rfl 1 (rfl) (by omega) (by decide) dX2_digest_26 (fun H locs hP hD hS => ?_)
  have hP : va_P (dC, dI) vwCl [(m0, .inr (2, [.int 0, .int (nI wn), .int (nI hn), .int (nI q0), .int wv, .ref a1, .ref a2, .ref a3, .ref a4, .ref a5, .ref a6, .ref a7, .ref a8, .int mnq_5])), (a1, .inl (cI, 25, .inl (kI K0))), (a2, .inl (cI, 25, .inl NX)), (a3, .inl (cZ, 25, .inl (zB T0))), (a4, .inl (cI, 100, .inl (bI wn hn))), (a5, .inl (cI, 25, .inl KP)), (a6, .inl (cI, 25, .inl (zfill (kI Rq_2) RG (wn * hn)))), (a7, .inl (cI, 26, .inl SZq_3)), (a8, .inl (cI, 25, .inl LNq_4)), (q_11, .inl (cI, 9, .inl (upd (upd (fun _ => 0) 0 (nI wn)) 1 (nI hn))))] H := hP
  have hD : va_D A [(m0, .inr (2, [.int 0, .int (nI wn), .int (nI hn), .int (nI q0), .int wv, .ref a1, .ref a2, .ref a3, .ref a4, .ref a5, .ref a6, .ref a7, .ref a8, .int mnq_5])), (a1, .inl (cI, 25, .inl (kI K0))), (a2, .inl (cI, 25, .inl NX)), (a3, .inl (cZ, 25, .inl (zB T0))), (a4, .inl (cI, 100, .inl (bI wn hn))), (a5, .inl (cI, 25, .inl KP)), (a6, .inl (cI, 25, .inl (zfill (kI Rq_2) RG (wn * hn)))), (a7, .inl (cI, 26, .inl SZq_3)), (a8, .inl (cI, 25, .inl LNq_4)), (q_11, .inl (cI, 9, .inl (upd (upd (fun _ => 0) 0 (nI wn)) 1 (nI hn))))] := hD
  refine lv_dup hx hb dX2_digest_27 rfl ?_
  refine lv_iconst (v := 2) hx hb dX2_digest_28 (by decide) ?_
  refine lv_aload_n hx hb dX2_digest_29 rfl (lv_at hl 0 rfl) ?_
  refine va_get (D := (dC, dI)) (ci := 2) (v := .int (nI q0)) (C := RX2) (T := TX2) (N := 14) hx hb hts iX2_digest_X2 hown hK hP 0 rfl rfl 3 (by decide) (hts (.fieldLink RX2 7 "ColourTideModel" "need" "I") (List.mem_of_getElem? (i := 5) rfl)) (fun _ h9 => h9) rfl dX2_digest_30 ?_
  refine z_iast hx hb hK hP hD hS 9 0 rfl rfl 2 (rfl) (by omega) (by decide) dX2_digest_33 (fun H locs hP hD hS => ?_)
  have hP : va_P (dC, dI) vwCl [(m0, .inr (2, [.int 0, .int (nI wn), .int (nI hn), .int (nI q0), .int wv, .ref a1, .ref a2, .ref a3, .ref a4, .ref a5, .ref a6, .ref a7, .ref a8, .int mnq_5])), (a1, .inl (cI, 25, .inl (kI K0))), (a2, .inl (cI, 25, .inl NX)), (a3, .inl (cZ, 25, .inl (zB T0))), (a4, .inl (cI, 100, .inl (bI wn hn))), (a5, .inl (cI, 25, .inl KP)), (a6, .inl (cI, 25, .inl (zfill (kI Rq_2) RG (wn * hn)))), (a7, .inl (cI, 26, .inl SZq_3)), (a8, .inl (cI, 25, .inl LNq_4)), (q_11, .inl (cI, 9, .inl (upd (upd (upd (fun _ => 0) 0 (nI wn)) 1 (nI hn)) 2 (nI q0))))] H := hP
  have hD : va_D A [(m0, .inr (2, [.int 0, .int (nI wn), .int (nI hn), .int (nI q0), .int wv, .ref a1, .ref a2, .ref a3, .ref a4, .ref a5, .ref a6, .ref a7, .ref a8, .int mnq_5])), (a1, .inl (cI, 25, .inl (kI K0))), (a2, .inl (cI, 25, .inl NX)), (a3, .inl (cZ, 25, .inl (zB T0))), (a4, .inl (cI, 100, .inl (bI wn hn))), (a5, .inl (cI, 25, .inl KP)), (a6, .inl (cI, 25, .inl (zfill (kI Rq_2) RG (wn * hn)))), (a7, .inl (cI, 26, .inl SZq_3)), (a8, .inl (cI, 25, .inl LNq_4)), (q_11, .inl (cI, 9, .inl (upd (upd (upd (fun _ => 0) 0 (nI wn)) 1 (nI hn)) 2 (nI q0))))] := hD
  refine lv_dup hx hb dX2_digest_34 rfl ?_
  refine lv_iconst (v := 3) hx hb dX2_digest_35 (by decide) ?_
  refine lv_aload_n hx hb dX2_digest_36 rfl (lv_at hl 0 rfl) ?_
  refine va_get (D := (dC, dI)) (ci := 2) (v := .int wv) (C := RX2) (T := TX2) (N := 14) hx hb hts iX2_digest_X2 hown hK hP 0 rfl rfl 4 (by decide) (hts (.fieldLink RX2 56 "ColourTideModel" "waves" "I") (List.mem_of_getElem? (i := 6) rfl)) (fun _ h9 => h9) rfl dX2_digest_37 ?_
  refine z_iast hx hb hK hP hD hS 9 0 rfl rfl 3 (rfl) (by omega) (by decide) dX2_digest_40 (fun H locs hP hD hS => ?_)
  have hP : va_P (dC, dI) vwCl [(m0, .inr (2, [.int 0, .int (nI wn), .int (nI hn), .int (nI q0), .int wv, .ref a1, .ref a2, .ref a3, .ref a4, .ref a5, .ref a6, .ref a7, .ref a8, .int mnq_5])), (a1, .inl (cI, 25, .inl (kI K0))), (a2, .inl (cI, 25, .inl NX)), (a3, .inl (cZ, 25, .inl (zB T0))), (a4, .inl (cI, 100, .inl (bI wn hn))), (a5, .inl (cI, 25, .inl KP)), (a6, .inl (cI, 25, .inl (zfill (kI Rq_2) RG (wn * hn)))), (a7, .inl (cI, 26, .inl SZq_3)), (a8, .inl (cI, 25, .inl LNq_4)), (q_11, .inl (cI, 9, .inl (upd (upd (upd (upd (fun _ => 0) 0 (nI wn)) 1 (nI hn)) 2 (nI q0)) 3 wv)))] H := hP
  have hD : va_D A [(m0, .inr (2, [.int 0, .int (nI wn), .int (nI hn), .int (nI q0), .int wv, .ref a1, .ref a2, .ref a3, .ref a4, .ref a5, .ref a6, .ref a7, .ref a8, .int mnq_5])), (a1, .inl (cI, 25, .inl (kI K0))), (a2, .inl (cI, 25, .inl NX)), (a3, .inl (cZ, 25, .inl (zB T0))), (a4, .inl (cI, 100, .inl (bI wn hn))), (a5, .inl (cI, 25, .inl KP)), (a6, .inl (cI, 25, .inl (zfill (kI Rq_2) RG (wn * hn)))), (a7, .inl (cI, 26, .inl SZq_3)), (a8, .inl (cI, 25, .inl LNq_4)), (q_11, .inl (cI, 9, .inl (upd (upd (upd (upd (fun _ => 0) 0 (nI wn)) 1 (nI hn)) 2 (nI q0)) 3 wv)))] := hD
  refine lv_dup hx hb dX2_digest_41 rfl ?_
  refine lv_iconst (v := 4) hx hb dX2_digest_42 (by decide) ?_
  refine lv_aload_n hx hb dX2_digest_43 rfl (lv_at hl 0 rfl) ?_
  refine z_callVi (As := []) (rest := [.int 4, .ref q_11, .ref q_11]) F9 (m_X2_stubbornOnes l dC dI cI cZ cJ cD m0 a1 a2 a3 a4 a5 a6 a7 a8 0 wn hn q0 wv K0 NX T0 KP (zfill (kI Rq_2) RG (wn * hn)) SZq_3 LNq_4 mnq_5 (g)) (cwV 0 hts gX2_digest_X2_stubbornOnes rfl rfl rfl (by decide +kernel) ⟨Nat.le_of_ble_eq_true rfl, Nat.le_of_ble_eq_true rfl⟩) hK hN hP hD hS hA [0, 1, 2, 3, 4, 5, 6, 7, 8] rfl rfl (fun _ => rfl) 0 (ci := 2) rfl rfl rfl rfl hl.1 rfl (Nat.le_of_ble_eq_true rfl) dX2_digest_44 ⟨Nat.le_of_ble_eq_true rfl, Nat.le_of_ble_eq_true rfl⟩ (fun r_6 u H locs hp_44 hP hD hS => ?_)
  have hP : va_P (dC, dI) vwCl [(m0, .inr (2, [.int 0, .int (nI wn), .int (nI hn), .int (nI q0), .int wv, .ref a1, .ref a2, .ref a3, .ref a4, .ref a5, .ref a6, .ref a7, .ref a8, .int mnq_5])), (a1, .inl (cI, 25, .inl (kI K0))), (a2, .inl (cI, 25, .inl NX)), (a3, .inl (cZ, 25, .inl (zB T0))), (a4, .inl (cI, 100, .inl (bI wn hn))), (a5, .inl (cI, 25, .inl KP)), (a6, .inl (cI, 25, .inl (zfill (kI Rq_2) RG (wn * hn)))), (a7, .inl (cI, 26, .inl SZq_3)), (a8, .inl (cI, 25, .inl LNq_4)), (q_11, .inl (cI, 9, .inl (upd (upd (upd (upd (fun _ => 0) 0 (nI wn)) 1 (nI hn)) 2 (nI q0)) 3 wv)))] H := hP
  have hD : va_D A [(m0, .inr (2, [.int 0, .int (nI wn), .int (nI hn), .int (nI q0), .int wv, .ref a1, .ref a2, .ref a3, .ref a4, .ref a5, .ref a6, .ref a7, .ref a8, .int mnq_5])), (a1, .inl (cI, 25, .inl (kI K0))), (a2, .inl (cI, 25, .inl NX)), (a3, .inl (cZ, 25, .inl (zB T0))), (a4, .inl (cI, 100, .inl (bI wn hn))), (a5, .inl (cI, 25, .inl KP)), (a6, .inl (cI, 25, .inl (zfill (kI Rq_2) RG (wn * hn)))), (a7, .inl (cI, 26, .inl SZq_3)), (a8, .inl (cI, 25, .inl LNq_4)), (q_11, .inl (cI, 9, .inl (upd (upd (upd (upd (fun _ => 0) 0 (nI wn)) 1 (nI hn)) 2 (nI q0)) 3 wv)))] := hD
  have hp_44 : r_6 = nI (ct T0 (wn * hn)) := hp_44
  refine z_topi (y := nI (ct T0 (wn * hn))) hp_44 ?_
  refine z_iast hx hb hK hP hD hS 9 0 rfl rfl 4 (rfl) (by omega) (by decide) dX2_digest_47 (fun H locs hP hD hS => ?_)
  have hP : va_P (dC, dI) vwCl [(m0, .inr (2, [.int 0, .int (nI wn), .int (nI hn), .int (nI q0), .int wv, .ref a1, .ref a2, .ref a3, .ref a4, .ref a5, .ref a6, .ref a7, .ref a8, .int mnq_5])), (a1, .inl (cI, 25, .inl (kI K0))), (a2, .inl (cI, 25, .inl NX)), (a3, .inl (cZ, 25, .inl (zB T0))), (a4, .inl (cI, 100, .inl (bI wn hn))), (a5, .inl (cI, 25, .inl KP)), (a6, .inl (cI, 25, .inl (zfill (kI Rq_2) RG (wn * hn)))), (a7, .inl (cI, 26, .inl SZq_3)), (a8, .inl (cI, 25, .inl LNq_4)), (q_11, .inl (cI, 9, .inl (upd (upd (upd (upd (upd (fun _ => 0) 0 (nI wn)) 1 (nI hn)) 2 (nI q0)) 3 wv) 4 (nI (ct T0 (wn * hn))))))] H := hP
  have hD : va_D A [(m0, .inr (2, [.int 0, .int (nI wn), .int (nI hn), .int (nI q0), .int wv, .ref a1, .ref a2, .ref a3, .ref a4, .ref a5, .ref a6, .ref a7, .ref a8, .int mnq_5])), (a1, .inl (cI, 25, .inl (kI K0))), (a2, .inl (cI, 25, .inl NX)), (a3, .inl (cZ, 25, .inl (zB T0))), (a4, .inl (cI, 100, .inl (bI wn hn))), (a5, .inl (cI, 25, .inl KP)), (a6, .inl (cI, 25, .inl (zfill (kI Rq_2) RG (wn * hn)))), (a7, .inl (cI, 26, .inl SZq_3)), (a8, .inl (cI, 25, .inl LNq_4)), (q_11, .inl (cI, 9, .inl (upd (upd (upd (upd (upd (fun _ => 0) 0 (nI wn)) 1 (nI hn)) 2 (nI q0)) 3 wv) 4 (nI (ct T0 (wn * hn))))))] := hD
  refine lv_dup hx hb dX2_digest_48 rfl ?_
  refine lv_iconst (v := 5) hx hb dX2_digest_49 (by decide) ?_
  refine lv_aload_n hx hb dX2_digest_50 rfl (lv_at hl 0 rfl) ?_
  refine z_callVi (As := []) (rest := [.int 5, .ref q_11, .ref q_11]) F9 (m_X2_between l dC dI cI cZ cJ cD m0 a1 a2 a3 a4 a5 a6 a7 a8 0 wn hn q0 wv K0 NX T0 KP (zfill (kI Rq_2) RG (wn * hn)) SZq_3 LNq_4 mnq_5 (g) (hK4)) (cwV 0 hts gX2_digest_X2_between rfl rfl rfl (by decide +kernel) ⟨Nat.le_of_ble_eq_true rfl, Nat.le_of_ble_eq_true rfl⟩) hK hN hP hD hS hA [0, 1, 2, 3, 4, 5, 6, 7, 8] rfl rfl (fun _ => rfl) 0 (ci := 2) rfl rfl rfl rfl hl.1 rfl (Nat.le_of_ble_eq_true rfl) dX2_digest_51 ⟨Nat.le_of_ble_eq_true rfl, Nat.le_of_ble_eq_true rfl⟩ (fun r_7 u H locs hp_51 hP hD hS => ?_)
  have hP : va_P (dC, dI) vwCl [(m0, .inr (2, [.int 0, .int (nI wn), .int (nI hn), .int (nI q0), .int wv, .ref a1, .ref a2, .ref a3, .ref a4, .ref a5, .ref a6, .ref a7, .ref a8, .int mnq_5])), (a1, .inl (cI, 25, .inl (kI K0))), (a2, .inl (cI, 25, .inl NX)), (a3, .inl (cZ, 25, .inl (zB T0))), (a4, .inl (cI, 100, .inl (bI wn hn))), (a5, .inl (cI, 25, .inl KP)), (a6, .inl (cI, 25, .inl (zfill (kI Rq_2) RG (wn * hn)))), (a7, .inl (cI, 26, .inl SZq_3)), (a8, .inl (cI, 25, .inl LNq_4)), (q_11, .inl (cI, 9, .inl (upd (upd (upd (upd (upd (fun _ => 0) 0 (nI wn)) 1 (nI hn)) 2 (nI q0)) 3 wv) 4 (nI (ct T0 (wn * hn))))))] H := hP
  have hD : va_D A [(m0, .inr (2, [.int 0, .int (nI wn), .int (nI hn), .int (nI q0), .int wv, .ref a1, .ref a2, .ref a3, .ref a4, .ref a5, .ref a6, .ref a7, .ref a8, .int mnq_5])), (a1, .inl (cI, 25, .inl (kI K0))), (a2, .inl (cI, 25, .inl NX)), (a3, .inl (cZ, 25, .inl (zB T0))), (a4, .inl (cI, 100, .inl (bI wn hn))), (a5, .inl (cI, 25, .inl KP)), (a6, .inl (cI, 25, .inl (zfill (kI Rq_2) RG (wn * hn)))), (a7, .inl (cI, 26, .inl SZq_3)), (a8, .inl (cI, 25, .inl LNq_4)), (q_11, .inl (cI, 9, .inl (upd (upd (upd (upd (upd (fun _ => 0) 0 (nI wn)) 1 (nI hn)) 2 (nI q0)) 3 wv) 4 (nI (ct T0 (wn * hn))))))] := hD
  have hp_51 : r_7 = nI (boN wn hn K0 (wn * hn)) := hp_51
  refine z_topi (y := nI (boN wn hn K0 (wn * hn))) hp_51 ?_
  refine z_iast hx hb hK hP hD hS 9 0 rfl rfl 5 (rfl) (by omega) (by decide) dX2_digest_54 (fun H locs hP hD hS => ?_)
  have hP : va_P (dC, dI) vwCl [(m0, .inr (2, [.int 0, .int (nI wn), .int (nI hn), .int (nI q0), .int wv, .ref a1, .ref a2, .ref a3, .ref a4, .ref a5, .ref a6, .ref a7, .ref a8, .int mnq_5])), (a1, .inl (cI, 25, .inl (kI K0))), (a2, .inl (cI, 25, .inl NX)), (a3, .inl (cZ, 25, .inl (zB T0))), (a4, .inl (cI, 100, .inl (bI wn hn))), (a5, .inl (cI, 25, .inl KP)), (a6, .inl (cI, 25, .inl (zfill (kI Rq_2) RG (wn * hn)))), (a7, .inl (cI, 26, .inl SZq_3)), (a8, .inl (cI, 25, .inl LNq_4)), (q_11, .inl (cI, 9, .inl (upd (upd (upd (upd (upd (upd (fun _ => 0) 0 (nI wn)) 1 (nI hn)) 2 (nI q0)) 3 wv) 4 (nI (ct T0 (wn * hn)))) 5 (nI (boN wn hn K0 (wn * hn))))))] H := hP
  have hD : va_D A [(m0, .inr (2, [.int 0, .int (nI wn), .int (nI hn), .int (nI q0), .int wv, .ref a1, .ref a2, .ref a3, .ref a4, .ref a5, .ref a6, .ref a7, .ref a8, .int mnq_5])), (a1, .inl (cI, 25, .inl (kI K0))), (a2, .inl (cI, 25, .inl NX)), (a3, .inl (cZ, 25, .inl (zB T0))), (a4, .inl (cI, 100, .inl (bI wn hn))), (a5, .inl (cI, 25, .inl KP)), (a6, .inl (cI, 25, .inl (zfill (kI Rq_2) RG (wn * hn)))), (a7, .inl (cI, 26, .inl SZq_3)), (a8, .inl (cI, 25, .inl LNq_4)), (q_11, .inl (cI, 9, .inl (upd (upd (upd (upd (upd (upd (fun _ => 0) 0 (nI wn)) 1 (nI hn)) 2 (nI q0)) 3 wv) 4 (nI (ct T0 (wn * hn)))) 5 (nI (boN wn hn K0 (wn * hn))))))] := hD
  refine lv_dup hx hb dX2_digest_55 rfl ?_
  refine lv_bipush (v := 6) hx hb dX2_digest_56 (by decide +kernel) ?_
  refine lv_aload_n hx hb dX2_digest_58 rfl (lv_at hl 0 rfl) ?_
  refine z_callVi (As := []) (rest := [.int 6, .ref q_11, .ref q_11]) F9 (m_X2_first l dC dI cI cZ cJ cD m0 a1 a2 a3 a4 a5 a6 a7 a8 0 wn hn q0 wv K0 NX T0 KP (zfill (kI Rq_2) RG (wn * hn)) SZq_3 LNq_4 mnq_5 (g) (hK4)) (cwV 0 hts gX2_digest_X2_first rfl rfl rfl (by decide +kernel) ⟨Nat.le_of_ble_eq_true rfl, Nat.le_of_ble_eq_true rfl⟩) hK hN hP hD hS hA [0, 1, 2, 3, 4, 5, 6, 7, 8] rfl rfl (fun _ => rfl) 0 (ci := 2) rfl rfl rfl rfl hl.1 rfl (Nat.le_of_ble_eq_true rfl) dX2_digest_59 ⟨Nat.le_of_ble_eq_true rfl, Nat.le_of_ble_eq_true rfl⟩ (fun r_8 u H locs hp_59 hP hD hS => ?_)
  have hP : va_P (dC, dI) vwCl [(m0, .inr (2, [.int 0, .int (nI wn), .int (nI hn), .int (nI q0), .int wv, .ref a1, .ref a2, .ref a3, .ref a4, .ref a5, .ref a6, .ref a7, .ref a8, .int mnq_5])), (a1, .inl (cI, 25, .inl (kI K0))), (a2, .inl (cI, 25, .inl NX)), (a3, .inl (cZ, 25, .inl (zB T0))), (a4, .inl (cI, 100, .inl (bI wn hn))), (a5, .inl (cI, 25, .inl KP)), (a6, .inl (cI, 25, .inl (zfill (kI Rq_2) RG (wn * hn)))), (a7, .inl (cI, 26, .inl SZq_3)), (a8, .inl (cI, 25, .inl LNq_4)), (q_11, .inl (cI, 9, .inl (upd (upd (upd (upd (upd (upd (fun _ => 0) 0 (nI wn)) 1 (nI hn)) 2 (nI q0)) 3 wv) 4 (nI (ct T0 (wn * hn)))) 5 (nI (boN wn hn K0 (wn * hn))))))] H := hP
  have hD : va_D A [(m0, .inr (2, [.int 0, .int (nI wn), .int (nI hn), .int (nI q0), .int wv, .ref a1, .ref a2, .ref a3, .ref a4, .ref a5, .ref a6, .ref a7, .ref a8, .int mnq_5])), (a1, .inl (cI, 25, .inl (kI K0))), (a2, .inl (cI, 25, .inl NX)), (a3, .inl (cZ, 25, .inl (zB T0))), (a4, .inl (cI, 100, .inl (bI wn hn))), (a5, .inl (cI, 25, .inl KP)), (a6, .inl (cI, 25, .inl (zfill (kI Rq_2) RG (wn * hn)))), (a7, .inl (cI, 26, .inl SZq_3)), (a8, .inl (cI, 25, .inl LNq_4)), (q_11, .inl (cI, 9, .inl (upd (upd (upd (upd (upd (upd (fun _ => 0) 0 (nI wn)) 1 (nI hn)) 2 (nI q0)) 3 wv) 4 (nI (ct T0 (wn * hn)))) 5 (nI (boN wn hn K0 (wn * hn))))))] := hD
  have hp_59 : r_8 = nI (bestL (ccF K0 (wn * hn)) 1 4) := hp_59
  refine z_topi (y := nI (bestL (ccF K0 (wn * hn)) 1 4)) hp_59 ?_
  refine z_iast hx hb hK hP hD hS 9 0 rfl rfl 6 (rfl) (by omega) (by decide) dX2_digest_62 (fun H locs hP hD hS => ?_)
  have hP : va_P (dC, dI) vwCl [(m0, .inr (2, [.int 0, .int (nI wn), .int (nI hn), .int (nI q0), .int wv, .ref a1, .ref a2, .ref a3, .ref a4, .ref a5, .ref a6, .ref a7, .ref a8, .int mnq_5])), (a1, .inl (cI, 25, .inl (kI K0))), (a2, .inl (cI, 25, .inl NX)), (a3, .inl (cZ, 25, .inl (zB T0))), (a4, .inl (cI, 100, .inl (bI wn hn))), (a5, .inl (cI, 25, .inl KP)), (a6, .inl (cI, 25, .inl (zfill (kI Rq_2) RG (wn * hn)))), (a7, .inl (cI, 26, .inl SZq_3)), (a8, .inl (cI, 25, .inl LNq_4)), (q_11, .inl (cI, 9, .inl (upd (upd (upd (upd (upd (upd (upd (fun _ => 0) 0 (nI wn)) 1 (nI hn)) 2 (nI q0)) 3 wv) 4 (nI (ct T0 (wn * hn)))) 5 (nI (boN wn hn K0 (wn * hn)))) 6 (nI (bestL (ccF K0 (wn * hn)) 1 4)))))] H := hP
  have hD : va_D A [(m0, .inr (2, [.int 0, .int (nI wn), .int (nI hn), .int (nI q0), .int wv, .ref a1, .ref a2, .ref a3, .ref a4, .ref a5, .ref a6, .ref a7, .ref a8, .int mnq_5])), (a1, .inl (cI, 25, .inl (kI K0))), (a2, .inl (cI, 25, .inl NX)), (a3, .inl (cZ, 25, .inl (zB T0))), (a4, .inl (cI, 100, .inl (bI wn hn))), (a5, .inl (cI, 25, .inl KP)), (a6, .inl (cI, 25, .inl (zfill (kI Rq_2) RG (wn * hn)))), (a7, .inl (cI, 26, .inl SZq_3)), (a8, .inl (cI, 25, .inl LNq_4)), (q_11, .inl (cI, 9, .inl (upd (upd (upd (upd (upd (upd (upd (fun _ => 0) 0 (nI wn)) 1 (nI hn)) 2 (nI q0)) 3 wv) 4 (nI (ct T0 (wn * hn)))) 5 (nI (boN wn hn K0 (wn * hn)))) 6 (nI (bestL (ccF K0 (wn * hn)) 1 4)))))] := hD
  refine lv_dup hx hb dX2_digest_63 rfl ?_
  refine lv_bipush (v := 7) hx hb dX2_digest_64 (by decide +kernel) ?_
  refine lv_aload_n hx hb dX2_digest_66 rfl (lv_at hl 0 rfl) ?_
  refine z_callVi (As := []) (rest := [.int 7, .ref q_11, .ref q_11]) F9 (m_X2_still l dC dI cI cZ cJ cD m0 a1 a2 a3 a4 a5 a6 a7 a8 0 wn hn q0 wv K0 NX T0 KP (zfill (kI Rq_2) RG (wn * hn)) SZq_3 LNq_4 mnq_5 (g) (hK4) (hq)) (cwV 0 hts gX2_digest_X2_still rfl rfl rfl (by decide +kernel) ⟨Nat.le_of_ble_eq_true rfl, Nat.le_of_ble_eq_true rfl⟩) hK hN hP hD hS hA [0, 1, 2, 3, 4, 5, 6, 7, 8] rfl rfl (fun _ => rfl) 0 (ci := 2) rfl rfl rfl rfl hl.1 rfl (Nat.le_of_ble_eq_true rfl) dX2_digest_67 ⟨Nat.le_of_ble_eq_true rfl, Nat.le_of_ble_eq_true rfl⟩ (fun r_9 u H locs hp_67 hP hD hS => ?_)
  have hP : va_P (dC, dI) vwCl [(m0, .inr (2, [.int 0, .int (nI wn), .int (nI hn), .int (nI q0), .int wv, .ref a1, .ref a2, .ref a3, .ref a4, .ref a5, .ref a6, .ref a7, .ref a8, .int mnq_5])), (a1, .inl (cI, 25, .inl (kI K0))), (a2, .inl (cI, 25, .inl NX)), (a3, .inl (cZ, 25, .inl (zB T0))), (a4, .inl (cI, 100, .inl (bI wn hn))), (a5, .inl (cI, 25, .inl KP)), (a6, .inl (cI, 25, .inl (zfill (kI Rq_2) RG (wn * hn)))), (a7, .inl (cI, 26, .inl SZq_3)), (a8, .inl (cI, 25, .inl LNq_4)), (q_11, .inl (cI, 9, .inl (upd (upd (upd (upd (upd (upd (upd (fun _ => 0) 0 (nI wn)) 1 (nI hn)) 2 (nI q0)) 3 wv) 4 (nI (ct T0 (wn * hn)))) 5 (nI (boN wn hn K0 (wn * hn)))) 6 (nI (bestL (ccF K0 (wn * hn)) 1 4)))))] H := hP
  have hD : va_D A [(m0, .inr (2, [.int 0, .int (nI wn), .int (nI hn), .int (nI q0), .int wv, .ref a1, .ref a2, .ref a3, .ref a4, .ref a5, .ref a6, .ref a7, .ref a8, .int mnq_5])), (a1, .inl (cI, 25, .inl (kI K0))), (a2, .inl (cI, 25, .inl NX)), (a3, .inl (cZ, 25, .inl (zB T0))), (a4, .inl (cI, 100, .inl (bI wn hn))), (a5, .inl (cI, 25, .inl KP)), (a6, .inl (cI, 25, .inl (zfill (kI Rq_2) RG (wn * hn)))), (a7, .inl (cI, 26, .inl SZq_3)), (a8, .inl (cI, 25, .inl LNq_4)), (q_11, .inl (cI, 9, .inl (upd (upd (upd (upd (upd (upd (upd (fun _ => 0) 0 (nI wn)) 1 (nI hn)) 2 (nI q0)) 3 wv) 4 (nI (ct T0 (wn * hn)))) 5 (nI (boN wn hn K0 (wn * hn)))) 6 (nI (bestL (ccF K0 (wn * hn)) 1 4)))))] := hD
  have hp_67 : r_9 = bz (stN wn hn q0 T0 K0 (wn * hn)) := hp_67
  refine z_topi (y := bz (stN wn hn q0 T0 K0 (wn * hn))) hp_67 ?_
  suffices j_78 : ∀ v_78 : Int32, v_78 = (bz (stN wn hn q0 T0 K0 (wn * hn))) → W p l e rmX2_digest s m args below meth c H locs 1 9 Q (F0 m 78 ls [.int v_78, .int 7, .ref q_11, .ref q_11]) by
    refine lv_if_eq (tgt := 77) hx hb dX2_digest_70 (by decide) (fun c_70 => ?_) (fun c_70 => ?_)
    · skip
      refine lv_iconst (v := 0) hx hb dX2_digest_77 (by decide) ?_
      exact j_78 _ (by rw [bz_0 c_70]; rfl)
    · skip
      refine lv_iconst (v := 1) hx hb dX2_digest_73 (by decide) ?_
      refine lv_goto (tgt := 78) hx hb dX2_digest_74 (by decide) ?_
      exact j_78 _ (by rw [bz_1 c_70]; rfl)
  intro v_78 h_v_78
  refine z_iast hx hb hK hP hD hS 9 0 rfl rfl 7 (rfl) (by omega) (by decide) dX2_digest_78 (fun H locs hP hD hS => ?_)
  have hP : va_P (dC, dI) vwCl [(m0, .inr (2, [.int 0, .int (nI wn), .int (nI hn), .int (nI q0), .int wv, .ref a1, .ref a2, .ref a3, .ref a4, .ref a5, .ref a6, .ref a7, .ref a8, .int mnq_5])), (a1, .inl (cI, 25, .inl (kI K0))), (a2, .inl (cI, 25, .inl NX)), (a3, .inl (cZ, 25, .inl (zB T0))), (a4, .inl (cI, 100, .inl (bI wn hn))), (a5, .inl (cI, 25, .inl KP)), (a6, .inl (cI, 25, .inl (zfill (kI Rq_2) RG (wn * hn)))), (a7, .inl (cI, 26, .inl SZq_3)), (a8, .inl (cI, 25, .inl LNq_4)), (q_11, .inl (cI, 9, .inl (upd (upd (upd (upd (upd (upd (upd (upd (fun _ => 0) 0 (nI wn)) 1 (nI hn)) 2 (nI q0)) 3 wv) 4 (nI (ct T0 (wn * hn)))) 5 (nI (boN wn hn K0 (wn * hn)))) 6 (nI (bestL (ccF K0 (wn * hn)) 1 4))) 7 v_78)))] H := hP
  have hD : va_D A [(m0, .inr (2, [.int 0, .int (nI wn), .int (nI hn), .int (nI q0), .int wv, .ref a1, .ref a2, .ref a3, .ref a4, .ref a5, .ref a6, .ref a7, .ref a8, .int mnq_5])), (a1, .inl (cI, 25, .inl (kI K0))), (a2, .inl (cI, 25, .inl NX)), (a3, .inl (cZ, 25, .inl (zB T0))), (a4, .inl (cI, 100, .inl (bI wn hn))), (a5, .inl (cI, 25, .inl KP)), (a6, .inl (cI, 25, .inl (zfill (kI Rq_2) RG (wn * hn)))), (a7, .inl (cI, 26, .inl SZq_3)), (a8, .inl (cI, 25, .inl LNq_4)), (q_11, .inl (cI, 9, .inl (upd (upd (upd (upd (upd (upd (upd (upd (fun _ => 0) 0 (nI wn)) 1 (nI hn)) 2 (nI q0)) 3 wv) 4 (nI (ct T0 (wn * hn)))) 5 (nI (boN wn hn K0 (wn * hn)))) 6 (nI (bestL (ccF K0 (wn * hn)) 1 4))) 7 v_78)))] := hD
  have e_78 : upd (upd (upd (upd (upd (upd (upd (upd (fun _ => 0) 0 (nI wn)) 1 (nI hn)) 2 (nI q0)) 3 wv) 4 (nI (ct T0 (wn * hn)))) 5 (nI (boN wn hn K0 (wn * hn)))) 6 (nI (bestL (ccF K0 (wn * hn)) 1 4))) 7 v_78 = upd (upd (upd (upd (upd (upd (upd (upd (fun _ => 0) 0 (nI wn)) 1 (nI hn)) 2 (nI q0)) 3 wv) 4 (nI (ct T0 (wn * hn)))) 5 (nI (boN wn hn K0 (wn * hn)))) 6 (nI (bestL (ccF K0 (wn * hn)) 1 4))) 7 (bz (stN wn hn q0 T0 K0 (wn * hn))) := by rw [h_v_78]
  rw [e_78] at hP hD
  refine lv_dup hx hb dX2_digest_79 rfl ?_
  refine lv_bipush (v := 8) hx hb dX2_digest_80 (by decide +kernel) ?_
  refine lv_aload_n hx hb dX2_digest_82 rfl (lv_at hl 0 rfl) ?_
  refine z_callVi (As := []) (rest := [.int 8, .ref q_11, .ref q_11]) F9 (m_X2_all l dC dI cI cZ cJ cD m0 a1 a2 a3 a4 a5 a6 a7 a8 0 wn hn q0 wv K0 NX T0 KP (zfill (kI Rq_2) RG (wn * hn)) SZq_3 LNq_4 mnq_5 (g) (hK4)) (cwV 0 hts gX2_digest_X2_all rfl rfl rfl (by decide +kernel) ⟨Nat.le_of_ble_eq_true rfl, Nat.le_of_ble_eq_true rfl⟩) hK hN hP hD hS hA [0, 1, 2, 3, 4, 5, 6, 7, 8] rfl rfl (fun _ => rfl) 0 (ci := 2) rfl rfl rfl rfl hl.1 rfl (Nat.le_of_ble_eq_true rfl) dX2_digest_83 ⟨Nat.le_of_ble_eq_true rfl, Nat.le_of_ble_eq_true rfl⟩ (fun r_10 u H locs hp_83 hP hD hS => ?_)
  have hP : va_P (dC, dI) vwCl [(m0, .inr (2, [.int 0, .int (nI wn), .int (nI hn), .int (nI q0), .int wv, .ref a1, .ref a2, .ref a3, .ref a4, .ref a5, .ref a6, .ref a7, .ref a8, .int mnq_5])), (a1, .inl (cI, 25, .inl (kI K0))), (a2, .inl (cI, 25, .inl NX)), (a3, .inl (cZ, 25, .inl (zB T0))), (a4, .inl (cI, 100, .inl (bI wn hn))), (a5, .inl (cI, 25, .inl KP)), (a6, .inl (cI, 25, .inl (zfill (kI Rq_2) RG (wn * hn)))), (a7, .inl (cI, 26, .inl SZq_3)), (a8, .inl (cI, 25, .inl LNq_4)), (q_11, .inl (cI, 9, .inl (upd (upd (upd (upd (upd (upd (upd (upd (fun _ => 0) 0 (nI wn)) 1 (nI hn)) 2 (nI q0)) 3 wv) 4 (nI (ct T0 (wn * hn)))) 5 (nI (boN wn hn K0 (wn * hn)))) 6 (nI (bestL (ccF K0 (wn * hn)) 1 4))) 7 (bz (stN wn hn q0 T0 K0 (wn * hn))))))] H := hP
  have hD : va_D A [(m0, .inr (2, [.int 0, .int (nI wn), .int (nI hn), .int (nI q0), .int wv, .ref a1, .ref a2, .ref a3, .ref a4, .ref a5, .ref a6, .ref a7, .ref a8, .int mnq_5])), (a1, .inl (cI, 25, .inl (kI K0))), (a2, .inl (cI, 25, .inl NX)), (a3, .inl (cZ, 25, .inl (zB T0))), (a4, .inl (cI, 100, .inl (bI wn hn))), (a5, .inl (cI, 25, .inl KP)), (a6, .inl (cI, 25, .inl (zfill (kI Rq_2) RG (wn * hn)))), (a7, .inl (cI, 26, .inl SZq_3)), (a8, .inl (cI, 25, .inl LNq_4)), (q_11, .inl (cI, 9, .inl (upd (upd (upd (upd (upd (upd (upd (upd (fun _ => 0) 0 (nI wn)) 1 (nI hn)) 2 (nI q0)) 3 wv) 4 (nI (ct T0 (wn * hn)))) 5 (nI (boN wn hn K0 (wn * hn)))) 6 (nI (bestL (ccF K0 (wn * hn)) 1 4))) 7 (bz (stN wn hn q0 T0 K0 (wn * hn))))))] := hD
  have hp_83 : r_10 = nI (allN K0 (wn * hn)) := hp_83
  refine z_topi (y := nI (allN K0 (wn * hn))) hp_83 ?_
  refine z_iast hx hb hK hP hD hS 9 0 rfl rfl 8 (rfl) (by omega) (by decide) dX2_digest_86 (fun H locs hP hD hS => ?_)
  have hP : va_P (dC, dI) vwCl [(m0, .inr (2, [.int 0, .int (nI wn), .int (nI hn), .int (nI q0), .int wv, .ref a1, .ref a2, .ref a3, .ref a4, .ref a5, .ref a6, .ref a7, .ref a8, .int mnq_5])), (a1, .inl (cI, 25, .inl (kI K0))), (a2, .inl (cI, 25, .inl NX)), (a3, .inl (cZ, 25, .inl (zB T0))), (a4, .inl (cI, 100, .inl (bI wn hn))), (a5, .inl (cI, 25, .inl KP)), (a6, .inl (cI, 25, .inl (zfill (kI Rq_2) RG (wn * hn)))), (a7, .inl (cI, 26, .inl SZq_3)), (a8, .inl (cI, 25, .inl LNq_4)), (q_11, .inl (cI, 9, .inl (upd (upd (upd (upd (upd (upd (upd (upd (upd (fun _ => 0) 0 (nI wn)) 1 (nI hn)) 2 (nI q0)) 3 wv) 4 (nI (ct T0 (wn * hn)))) 5 (nI (boN wn hn K0 (wn * hn)))) 6 (nI (bestL (ccF K0 (wn * hn)) 1 4))) 7 (bz (stN wn hn q0 T0 K0 (wn * hn)))) 8 (nI (allN K0 (wn * hn))))))] H := hP
  have hD : va_D A [(m0, .inr (2, [.int 0, .int (nI wn), .int (nI hn), .int (nI q0), .int wv, .ref a1, .ref a2, .ref a3, .ref a4, .ref a5, .ref a6, .ref a7, .ref a8, .int mnq_5])), (a1, .inl (cI, 25, .inl (kI K0))), (a2, .inl (cI, 25, .inl NX)), (a3, .inl (cZ, 25, .inl (zB T0))), (a4, .inl (cI, 100, .inl (bI wn hn))), (a5, .inl (cI, 25, .inl KP)), (a6, .inl (cI, 25, .inl (zfill (kI Rq_2) RG (wn * hn)))), (a7, .inl (cI, 26, .inl SZq_3)), (a8, .inl (cI, 25, .inl LNq_4)), (q_11, .inl (cI, 9, .inl (upd (upd (upd (upd (upd (upd (upd (upd (upd (fun _ => 0) 0 (nI wn)) 1 (nI hn)) 2 (nI q0)) 3 wv) 4 (nI (ct T0 (wn * hn)))) 5 (nI (boN wn hn K0 (wn * hn)))) 6 (nI (bestL (ccF K0 (wn * hn)) 1 4))) 7 (bz (stN wn hn q0 T0 K0 (wn * hn)))) 8 (nI (allN K0 (wn * hn))))))] := hD
  have e_86 : upd (upd (upd (upd (upd (upd (upd (upd (upd (fun _ => 0) 0 (nI wn)) 1 (nI hn)) 2 (nI q0)) 3 wv) 4 (nI (ct T0 (wn * hn)))) 5 (nI (boN wn hn K0 (wn * hn)))) 6 (nI (bestL (ccF K0 (wn * hn)) 1 4))) 7 (bz (stN wn hn q0 T0 K0 (wn * hn)))) 8 (nI (allN K0 (wn * hn))) = dgA (nI wn) (nI hn) (nI q0) wv (nI (ct T0 (wn * hn))) (nI (boN wn hn K0 (wn * hn))) (nI (bestL (ccF K0 (wn * hn)) 1 4)) (bz (stN wn hn q0 T0 K0 (wn * hn))) (nI (allN K0 (wn * hn))) := rfl
  rw [e_86] at hP hD
  refine lv_astore_n (lv' := [(1, .ref q_11), (0, .ref m0)]) hx hb dX2_digest_87 rfl hl (by decide) rfl (fun ls hl => ?_)
  refine lv_ldc2 hx hb hown (hts (.constantLong RX2 148 (1871)) (List.mem_of_getElem? (i := 7) rfl)) dX2_digest_88 ?_
  refine lv_lstore_n (lv' := [(2, .long 1871), (1, .ref q_11), (0, .ref m0)]) hx hb dX2_digest_91 rfl hl (by decide) rfl (fun ls hl => ?_)
  refine lv_aload_n hx hb dX2_digest_92 rfl (lv_at hl 1 rfl) ?_
  refine lv_astore (lv' := [(4, .ref q_11), (2, .long 1871), (1, .ref q_11), (0, .ref m0)]) hx hb dX2_digest_93 hl (by decide) rfl (fun ls hl => ?_)
  refine lv_aload hx hb dX2_digest_95 (lv_at hl 0 rfl) ?_
  refine va_alen (v := 9) hx hb hK hP 9 0 rfl rfl rfl dX2_digest_97 ?_
  refine lv_istore (lv' := [(5, .int 9), (4, .ref q_11), (2, .long 1871), (1, .ref q_11), (0, .ref m0)]) hx hb dX2_digest_98 hl (by decide) rfl (fun ls hl => ?_)
  refine lv_iconst (v := 0) hx hb dX2_digest_100 (by decide) ?_
  refine lv_istore (lv' := [(6, .int 0), (5, .int 9), (4, .ref q_11), (2, .long 1871), (1, .ref q_11), (0, .ref m0)]) hx hb dX2_digest_101 hl (by decide) rfl (fun ls hl => ?_)
  have loop_103 : ∀ (n : Nat) (i : Nat) (hkn : i + n = 9) (H : Heap) (locs : List Loc) (ls : Array Slot) (hP : va_P (dC, dI) vwCl [(m0, .inr (2, [.int 0, .int (nI wn), .int (nI hn), .int (nI q0), .int wv, .ref a1, .ref a2, .ref a3, .ref a4, .ref a5, .ref a6, .ref a7, .ref a8, .int mnq_5])), (a1, .inl (cI, 25, .inl (kI K0))), (a2, .inl (cI, 25, .inl NX)), (a3, .inl (cZ, 25, .inl (zB T0))), (a4, .inl (cI, 100, .inl (bI wn hn))), (a5, .inl (cI, 25, .inl KP)), (a6, .inl (cI, 25, .inl (zfill (kI Rq_2) RG (wn * hn)))), (a7, .inl (cI, 26, .inl SZq_3)), (a8, .inl (cI, 25, .inl LNq_4)), (q_11, .inl (cI, 9, .inl (dgA (nI wn) (nI hn) (nI q0) wv (nI (ct T0 (wn * hn))) (nI (boN wn hn K0 (wn * hn))) (nI (bestL (ccF K0 (wn * hn)) 1 4)) (bz (stN wn hn q0 T0 K0 (wn * hn))) (nI (allN K0 (wn * hn))))))] H) (hD : va_D A [(m0, .inr (2, [.int 0, .int (nI wn), .int (nI hn), .int (nI q0), .int wv, .ref a1, .ref a2, .ref a3, .ref a4, .ref a5, .ref a6, .ref a7, .ref a8, .int mnq_5])), (a1, .inl (cI, 25, .inl (kI K0))), (a2, .inl (cI, 25, .inl NX)), (a3, .inl (cZ, 25, .inl (zB T0))), (a4, .inl (cI, 100, .inl (bI wn hn))), (a5, .inl (cI, 25, .inl KP)), (a6, .inl (cI, 25, .inl (zfill (kI Rq_2) RG (wn * hn)))), (a7, .inl (cI, 26, .inl SZq_3)), (a8, .inl (cI, 25, .inl LNq_4)), (q_11, .inl (cI, 9, .inl (dgA (nI wn) (nI hn) (nI q0) wv (nI (ct T0 (wn * hn))) (nI (boN wn hn K0 (wn * hn))) (nI (bestL (ccF K0 (wn * hn)) 1 4)) (bz (stN wn hn q0 T0 K0 (wn * hn))) (nI (allN K0 (wn * hn))))))]) (hS : va_S A s.heap H locs) (hl : lv_has ls 8 [(0, .ref m0), (2, .long (dgL (dgA (nI wn) (nI hn) (nI q0) wv (nI (ct T0 (wn * hn))) (nI (boN wn hn K0 (wn * hn))) (nI (bestL (ccF K0 (wn * hn)) 1 4)) (bz (stN wn hn q0 T0 K0 (wn * hn))) (nI (allN K0 (wn * hn)))) i)), (4, .ref q_11), (5, .int 9), (6, .int (nI i))]), W p l e rmX2_digest s m args below meth c H locs 1 9 Q (F0 m 103 ls []) := by
    intro n
    induction n with
    | zero =>
      intro i hkn  H locs ls hP hD hS hl
      refine lv_iload hx hb dX2_digest_103 (lv_at hl 4 rfl) ?_
      refine lv_iload hx hb dX2_digest_105 (lv_at hl 3 rfl) ?_
      refine lv_icmp_ge (tgt := 133) hx hb dX2_digest_107 (by decide) (fun c_107 => ?_) (fun c_107 => ?_)
      · skip
        have n_107 := zc_le_t (a := 9) (b := i) (by omega) (by omega) c_107
        refine lv_iconst (v := 1) hx hb dX2_digest_133 (by decide) ?_
        refine lv_istore (lv' := [(4, .int 1), (0, .ref m0), (2, .long (dgL (dgA (nI wn) (nI hn) (nI q0) wv (nI (ct T0 (wn * hn))) (nI (boN wn hn K0 (wn * hn))) (nI (bestL (ccF K0 (wn * hn)) 1 4)) (bz (stN wn hn q0 T0 K0 (wn * hn))) (nI (allN K0 (wn * hn)))) i)), (5, .int 9), (6, .int (nI i))]) hx hb dX2_digest_134 hl (by decide) rfl (fun ls hl => ?_)
        have loop_136 : ∀ (n : Nat) (i : Nat) (hkn : i + n = 4) (H : Heap) (locs : List Loc) (ls : Array Slot) (hP : va_P (dC, dI) vwCl [(m0, .inr (2, [.int 0, .int (nI wn), .int (nI hn), .int (nI q0), .int wv, .ref a1, .ref a2, .ref a3, .ref a4, .ref a5, .ref a6, .ref a7, .ref a8, .int mnq_5])), (a1, .inl (cI, 25, .inl (kI K0))), (a2, .inl (cI, 25, .inl NX)), (a3, .inl (cZ, 25, .inl (zB T0))), (a4, .inl (cI, 100, .inl (bI wn hn))), (a5, .inl (cI, 25, .inl KP)), (a6, .inl (cI, 25, .inl (zfill (kI Rq_2) RG (wn * hn)))), (a7, .inl (cI, 26, .inl SZq_3)), (a8, .inl (cI, 25, .inl LNq_4)), (q_11, .inl (cI, 9, .inl (dgA (nI wn) (nI hn) (nI q0) wv (nI (ct T0 (wn * hn))) (nI (boN wn hn K0 (wn * hn))) (nI (bestL (ccF K0 (wn * hn)) 1 4)) (bz (stN wn hn q0 T0 K0 (wn * hn))) (nI (allN K0 (wn * hn))))))] H) (hD : va_D A [(m0, .inr (2, [.int 0, .int (nI wn), .int (nI hn), .int (nI q0), .int wv, .ref a1, .ref a2, .ref a3, .ref a4, .ref a5, .ref a6, .ref a7, .ref a8, .int mnq_5])), (a1, .inl (cI, 25, .inl (kI K0))), (a2, .inl (cI, 25, .inl NX)), (a3, .inl (cZ, 25, .inl (zB T0))), (a4, .inl (cI, 100, .inl (bI wn hn))), (a5, .inl (cI, 25, .inl KP)), (a6, .inl (cI, 25, .inl (zfill (kI Rq_2) RG (wn * hn)))), (a7, .inl (cI, 26, .inl SZq_3)), (a8, .inl (cI, 25, .inl LNq_4)), (q_11, .inl (cI, 9, .inl (dgA (nI wn) (nI hn) (nI q0) wv (nI (ct T0 (wn * hn))) (nI (boN wn hn K0 (wn * hn))) (nI (bestL (ccF K0 (wn * hn)) 1 4)) (bz (stN wn hn q0 T0 K0 (wn * hn))) (nI (allN K0 (wn * hn))))))]) (hS : va_S A s.heap H locs) (hl : lv_has ls 8 [(0, .ref m0), (2, .long (dgC wn hn K0 (dgL (dgA (nI wn) (nI hn) (nI q0) wv (nI (ct T0 (wn * hn))) (nI (boN wn hn K0 (wn * hn))) (nI (bestL (ccF K0 (wn * hn)) 1 4)) (bz (stN wn hn q0 T0 K0 (wn * hn))) (nI (allN K0 (wn * hn)))) 9) i)), (4, .int (nI (i + 1)))]), W p l e rmX2_digest s m args below meth c H locs 1 9 Q (F0 m 136 ls []) := by
          intro n
          induction n with
          | zero =>
            intro i hkn  H locs ls hP hD hS hl
            refine lv_iload hx hb dX2_digest_136 (lv_at hl 2 rfl) ?_
            refine lv_iconst (v := 4) hx hb dX2_digest_138 (by decide) ?_
            refine lv_icmp_gt (tgt := 192) hx hb dX2_digest_139 (by decide) (fun c_139 => ?_) (fun c_139 => ?_)
            · skip
              have n_139 := zc_lt_t (a := 4) (b := (i + 1)) (by omega) (by omega) c_139
              refine lv_iconst (v := 0) hx hb dX2_digest_192 (by decide) ?_
              refine lv_istore (lv' := [(4, .int 0), (0, .ref m0), (2, .long (dgC wn hn K0 (dgL (dgA (nI wn) (nI hn) (nI q0) wv (nI (ct T0 (wn * hn))) (nI (boN wn hn K0 (wn * hn))) (nI (bestL (ccF K0 (wn * hn)) 1 4)) (bz (stN wn hn q0 T0 K0 (wn * hn))) (nI (allN K0 (wn * hn)))) 9) i))]) hx hb dX2_digest_193 hl (by decide) rfl (fun ls hl => ?_)
              have loop_195 : ∀ (n : Nat) (i : Nat) (hkn : i + n = wn * hn) (H : Heap) (locs : List Loc) (ls : Array Slot) (hP : va_P (dC, dI) vwCl [(m0, .inr (2, [.int 0, .int (nI wn), .int (nI hn), .int (nI q0), .int wv, .ref a1, .ref a2, .ref a3, .ref a4, .ref a5, .ref a6, .ref a7, .ref a8, .int mnq_5])), (a1, .inl (cI, 25, .inl (kI K0))), (a2, .inl (cI, 25, .inl NX)), (a3, .inl (cZ, 25, .inl (zB T0))), (a4, .inl (cI, 100, .inl (bI wn hn))), (a5, .inl (cI, 25, .inl KP)), (a6, .inl (cI, 25, .inl (zfill (kI Rq_2) RG (wn * hn)))), (a7, .inl (cI, 26, .inl SZq_3)), (a8, .inl (cI, 25, .inl LNq_4)), (q_11, .inl (cI, 9, .inl (dgA (nI wn) (nI hn) (nI q0) wv (nI (ct T0 (wn * hn))) (nI (boN wn hn K0 (wn * hn))) (nI (bestL (ccF K0 (wn * hn)) 1 4)) (bz (stN wn hn q0 T0 K0 (wn * hn))) (nI (allN K0 (wn * hn))))))] H) (hD : va_D A [(m0, .inr (2, [.int 0, .int (nI wn), .int (nI hn), .int (nI q0), .int wv, .ref a1, .ref a2, .ref a3, .ref a4, .ref a5, .ref a6, .ref a7, .ref a8, .int mnq_5])), (a1, .inl (cI, 25, .inl (kI K0))), (a2, .inl (cI, 25, .inl NX)), (a3, .inl (cZ, 25, .inl (zB T0))), (a4, .inl (cI, 100, .inl (bI wn hn))), (a5, .inl (cI, 25, .inl KP)), (a6, .inl (cI, 25, .inl (zfill (kI Rq_2) RG (wn * hn)))), (a7, .inl (cI, 26, .inl SZq_3)), (a8, .inl (cI, 25, .inl LNq_4)), (q_11, .inl (cI, 9, .inl (dgA (nI wn) (nI hn) (nI q0) wv (nI (ct T0 (wn * hn))) (nI (boN wn hn K0 (wn * hn))) (nI (bestL (ccF K0 (wn * hn)) 1 4)) (bz (stN wn hn q0 T0 K0 (wn * hn))) (nI (allN K0 (wn * hn))))))]) (hS : va_S A s.heap H locs) (hl : lv_has ls 8 [(0, .ref m0), (2, .long (dgD wn hn q0 T0 K0 (dgC wn hn K0 (dgL (dgA (nI wn) (nI hn) (nI q0) wv (nI (ct T0 (wn * hn))) (nI (boN wn hn K0 (wn * hn))) (nI (bestL (ccF K0 (wn * hn)) 1 4)) (bz (stN wn hn q0 T0 K0 (wn * hn))) (nI (allN K0 (wn * hn)))) 9) 4) i)), (4, .int (nI i))]), W p l e rmX2_digest s m args below meth c H locs 1 9 Q (F0 m 195 ls []) := by
                intro n
                induction n with
                | zero =>
                  intro i hkn  H locs ls hP hD hS hl
                  refine lv_iload hx hb dX2_digest_195 (lv_at hl 2 rfl) ?_
                  refine lv_aload_n hx hb dX2_digest_197 rfl (lv_at hl 0 rfl) ?_
                  refine z_callVi (As := []) (rest := [.int (nI i)]) F9 (m_X2_cells l dC dI cI cZ cJ cD m0 a1 a2 a3 a4 a5 a6 a7 a8 0 wn hn q0 wv K0 NX T0 KP (zfill (kI Rq_2) RG (wn * hn)) SZq_3 LNq_4 mnq_5 ) (cwV 0 hts gX2_digest_X2_cells rfl rfl rfl (by decide +kernel) ⟨Nat.le_of_ble_eq_true rfl, Nat.le_of_ble_eq_true rfl⟩) hK hN hP hD hS hA [0, 1, 2, 3, 4, 5, 6, 7, 8] rfl rfl (fun _ => rfl) 0 (ci := 2) rfl rfl rfl rfl hl.1 rfl (Nat.le_of_ble_eq_true rfl) dX2_digest_198 ⟨Nat.le_of_ble_eq_true rfl, Nat.le_of_ble_eq_true rfl⟩ (fun r_11 u H locs hp_198 hP hD hS => ?_)
                  have hP : va_P (dC, dI) vwCl [(m0, .inr (2, [.int 0, .int (nI wn), .int (nI hn), .int (nI q0), .int wv, .ref a1, .ref a2, .ref a3, .ref a4, .ref a5, .ref a6, .ref a7, .ref a8, .int mnq_5])), (a1, .inl (cI, 25, .inl (kI K0))), (a2, .inl (cI, 25, .inl NX)), (a3, .inl (cZ, 25, .inl (zB T0))), (a4, .inl (cI, 100, .inl (bI wn hn))), (a5, .inl (cI, 25, .inl KP)), (a6, .inl (cI, 25, .inl (zfill (kI Rq_2) RG (wn * hn)))), (a7, .inl (cI, 26, .inl SZq_3)), (a8, .inl (cI, 25, .inl LNq_4)), (q_11, .inl (cI, 9, .inl (dgA (nI wn) (nI hn) (nI q0) wv (nI (ct T0 (wn * hn))) (nI (boN wn hn K0 (wn * hn))) (nI (bestL (ccF K0 (wn * hn)) 1 4)) (bz (stN wn hn q0 T0 K0 (wn * hn))) (nI (allN K0 (wn * hn))))))] H := hP
                  have hD : va_D A [(m0, .inr (2, [.int 0, .int (nI wn), .int (nI hn), .int (nI q0), .int wv, .ref a1, .ref a2, .ref a3, .ref a4, .ref a5, .ref a6, .ref a7, .ref a8, .int mnq_5])), (a1, .inl (cI, 25, .inl (kI K0))), (a2, .inl (cI, 25, .inl NX)), (a3, .inl (cZ, 25, .inl (zB T0))), (a4, .inl (cI, 100, .inl (bI wn hn))), (a5, .inl (cI, 25, .inl KP)), (a6, .inl (cI, 25, .inl (zfill (kI Rq_2) RG (wn * hn)))), (a7, .inl (cI, 26, .inl SZq_3)), (a8, .inl (cI, 25, .inl LNq_4)), (q_11, .inl (cI, 9, .inl (dgA (nI wn) (nI hn) (nI q0) wv (nI (ct T0 (wn * hn))) (nI (boN wn hn K0 (wn * hn))) (nI (bestL (ccF K0 (wn * hn)) 1 4)) (bz (stN wn hn q0 T0 K0 (wn * hn))) (nI (allN K0 (wn * hn))))))] := hD
                  have hp_198 : r_11 = nI (wn * hn) := hp_198
                  refine z_topi (y := nI (wn * hn)) hp_198 ?_
                  refine lv_icmp_ge (tgt := 276) hx hb dX2_digest_201 (by decide) (fun c_201 => ?_) (fun c_201 => ?_)
                  · skip
                    have n_201 := zc_le_t (a := (wn * hn)) (b := i) (by omega) (by omega) c_201
                    refine lv_lload_n hx hb dX2_digest_276 rfl (lv_at hl 1 rfl) ?_
                    rw [← hQ]
                    exact z_lcret (W1 := (fun (u : (Nat → Int32) × (Nat → Int32) × (Nat → Int32) × Int32) => [(m0, .inr (2, [.int 0, .int (nI wn), .int (nI hn), .int (nI q0), .int wv, .ref a1, .ref a2, .ref a3, .ref a4, .ref a5, .ref a6, .ref a7, .ref a8, .int u.2.2.2])), (a1, .inl (cI, 25, .inl (kI K0))), (a2, .inl (cI, 25, .inl NX)), (a3, .inl (cZ, 25, .inl (zB T0))), (a4, .inl (cI, 100, .inl (bI wn hn))), (a5, .inl (cI, 25, .inl KP)), (a6, .inl (cI, 25, .inl u.1)), (a7, .inl (cI, 26, .inl u.2.1)), (a8, .inl (cI, 25, .inl u.2.2.1))])) hx hb hr hlocks hP hS [0, 1, 2, 3, 4, 5, 6, 7, 8] ((zfill (kI Rq_2) RG (wn * hn)), SZq_3, LNq_4, mnq_5) (rfl) (by rw [show i = wn * hn by omega]) dX2_digest_277
                  · skip
                    have n_201 := zc_le_f (a := (wn * hn)) (b := i) (by omega) (by omega) c_201
                    exact absurd n_201 (by omega)
                | succ n ih_195 =>
                  intro i hkn  H locs ls hP hD hS hl
                  refine lv_iload hx hb dX2_digest_195 (lv_at hl 2 rfl) ?_
                  refine lv_aload_n hx hb dX2_digest_197 rfl (lv_at hl 0 rfl) ?_
                  refine z_callVi (As := []) (rest := [.int (nI i)]) F9 (m_X2_cells l dC dI cI cZ cJ cD m0 a1 a2 a3 a4 a5 a6 a7 a8 0 wn hn q0 wv K0 NX T0 KP (zfill (kI Rq_2) RG (wn * hn)) SZq_3 LNq_4 mnq_5 ) (cwV 0 hts gX2_digest_X2_cells rfl rfl rfl (by decide +kernel) ⟨Nat.le_of_ble_eq_true rfl, Nat.le_of_ble_eq_true rfl⟩) hK hN hP hD hS hA [0, 1, 2, 3, 4, 5, 6, 7, 8] rfl rfl (fun _ => rfl) 0 (ci := 2) rfl rfl rfl rfl hl.1 rfl (Nat.le_of_ble_eq_true rfl) dX2_digest_198 ⟨Nat.le_of_ble_eq_true rfl, Nat.le_of_ble_eq_true rfl⟩ (fun r_12 u H locs hp_198 hP hD hS => ?_)
                  have hP : va_P (dC, dI) vwCl [(m0, .inr (2, [.int 0, .int (nI wn), .int (nI hn), .int (nI q0), .int wv, .ref a1, .ref a2, .ref a3, .ref a4, .ref a5, .ref a6, .ref a7, .ref a8, .int mnq_5])), (a1, .inl (cI, 25, .inl (kI K0))), (a2, .inl (cI, 25, .inl NX)), (a3, .inl (cZ, 25, .inl (zB T0))), (a4, .inl (cI, 100, .inl (bI wn hn))), (a5, .inl (cI, 25, .inl KP)), (a6, .inl (cI, 25, .inl (zfill (kI Rq_2) RG (wn * hn)))), (a7, .inl (cI, 26, .inl SZq_3)), (a8, .inl (cI, 25, .inl LNq_4)), (q_11, .inl (cI, 9, .inl (dgA (nI wn) (nI hn) (nI q0) wv (nI (ct T0 (wn * hn))) (nI (boN wn hn K0 (wn * hn))) (nI (bestL (ccF K0 (wn * hn)) 1 4)) (bz (stN wn hn q0 T0 K0 (wn * hn))) (nI (allN K0 (wn * hn))))))] H := hP
                  have hD : va_D A [(m0, .inr (2, [.int 0, .int (nI wn), .int (nI hn), .int (nI q0), .int wv, .ref a1, .ref a2, .ref a3, .ref a4, .ref a5, .ref a6, .ref a7, .ref a8, .int mnq_5])), (a1, .inl (cI, 25, .inl (kI K0))), (a2, .inl (cI, 25, .inl NX)), (a3, .inl (cZ, 25, .inl (zB T0))), (a4, .inl (cI, 100, .inl (bI wn hn))), (a5, .inl (cI, 25, .inl KP)), (a6, .inl (cI, 25, .inl (zfill (kI Rq_2) RG (wn * hn)))), (a7, .inl (cI, 26, .inl SZq_3)), (a8, .inl (cI, 25, .inl LNq_4)), (q_11, .inl (cI, 9, .inl (dgA (nI wn) (nI hn) (nI q0) wv (nI (ct T0 (wn * hn))) (nI (boN wn hn K0 (wn * hn))) (nI (bestL (ccF K0 (wn * hn)) 1 4)) (bz (stN wn hn q0 T0 K0 (wn * hn))) (nI (allN K0 (wn * hn))))))] := hD
                  have hp_198 : r_12 = nI (wn * hn) := hp_198
                  refine z_topi (y := nI (wn * hn)) hp_198 ?_
                  refine lv_icmp_ge (tgt := 276) hx hb dX2_digest_201 (by decide) (fun c_201 => ?_) (fun c_201 => ?_)
                  · skip
                    have n_201 := zc_le_t (a := (wn * hn)) (b := i) (by omega) (by omega) c_201
                    exact absurd n_201 (by omega)
                  · skip
                    have n_201 := zc_le_f (a := (wn * hn)) (b := i) (by omega) (by omega) c_201
                    refine lv_lload_n hx hb dX2_digest_204 rfl (lv_at hl 1 rfl) ?_
                    refine lv_ldc2 hx hb hown (hts (.constantLong RX2 150 (31)) (List.mem_of_getElem? (i := 8) rfl)) dX2_digest_205 ?_
                    refine lv_lmul hx hb dX2_digest_208 ?_
                    refine lv_aload_n hx hb dX2_digest_209 rfl (lv_at hl 0 rfl) ?_
                    refine va_get (D := (dC, dI)) (ci := 2) (v := .ref a1) (C := RX2) (T := TX2) (N := 14) hx hb hts iX2_digest_X2 hown hK hP 0 rfl rfl 5 (by decide) (hts (.fieldLink RX2 13 "ColourTideModel" "colours" "[I") (List.mem_of_getElem? (i := 9) rfl)) (fun _ h9 => h9) rfl dX2_digest_210 ?_
                    refine lv_iload hx hb dX2_digest_213 (lv_at hl 2 rfl) ?_
                    refine z_iald hx hb hK hP 1 0 rfl rfl i (rfl) (by omega) (by decide) dX2_digest_215 ?_
                    refine z_topi (y := nI (K0 i)) (rfl) ?_
                    refine lv_i2l (v := (nI (K0 i)).toInt64) hx hb dX2_digest_216 rfl ?_
                    refine lv_ladd hx hb dX2_digest_217 ?_
                    refine lv_lstore_n (lv' := [(2, .long (((dgD wn hn q0 T0 K0 (dgC wn hn K0 (dgL (dgA (nI wn) (nI hn) (nI q0) wv (nI (ct T0 (wn * hn))) (nI (boN wn hn K0 (wn * hn))) (nI (bestL (ccF K0 (wn * hn)) 1 4)) (bz (stN wn hn q0 T0 K0 (wn * hn))) (nI (allN K0 (wn * hn)))) 9) 4) i) * 31) + ((nI (K0 i)).toInt64))), (0, .ref m0), (4, .int (nI i))]) hx hb dX2_digest_218 rfl hl (by decide) rfl (fun ls hl => ?_)
                    refine lv_lload_n hx hb dX2_digest_219 rfl (lv_at hl 0 rfl) ?_
                    refine lv_ldc2 hx hb hown (hts (.constantLong RX2 150 (31)) (List.mem_of_getElem? (i := 8) rfl)) dX2_digest_220 ?_
                    refine lv_lmul hx hb dX2_digest_223 ?_
                    refine lv_aload_n hx hb dX2_digest_224 rfl (lv_at hl 1 rfl) ?_
                    refine va_get (D := (dC, dI)) (ci := 2) (v := .ref a3) (C := RX2) (T := TX2) (N := 14) hx hb hts iX2_digest_X2 hown hK hP 0 rfl rfl 7 (by decide) (hts (.fieldLink RX2 20 "ColourTideModel" "stubborn" "[Z") (List.mem_of_getElem? (i := 10) rfl)) (fun _ h9 => h9) rfl dX2_digest_225 ?_
                    refine lv_iload hx hb dX2_digest_228 (lv_at hl 2 rfl) ?_
                    refine z_zald hx hb hK hP 3 1 rfl rfl i (rfl) (by omega) (by decide) dX2_digest_230 ?_
                    refine z_topi (y := bz (T0 i)) (rfl) ?_
                    suffices j_239 : ∀ v_239 : Int32, v_239 = (bz (T0 i)) → W p l e rmX2_digest s m args below meth c H locs 1 9 Q (F0 m 239 ls [.int v_239, .long ((((dgD wn hn q0 T0 K0 (dgC wn hn K0 (dgL (dgA (nI wn) (nI hn) (nI q0) wv (nI (ct T0 (wn * hn))) (nI (boN wn hn K0 (wn * hn))) (nI (bestL (ccF K0 (wn * hn)) 1 4)) (bz (stN wn hn q0 T0 K0 (wn * hn))) (nI (allN K0 (wn * hn)))) 9) 4) i) * 31) + ((nI (K0 i)).toInt64)) * 31)]) by
                      refine lv_if_eq (tgt := 238) hx hb dX2_digest_231 (by decide) (fun c_231 => ?_) (fun c_231 => ?_)
                      · skip
                        refine lv_iconst (v := 0) hx hb dX2_digest_238 (by decide) ?_
                        exact j_239 _ (by rw [bz_0 c_231]; rfl)
                      · skip
                        refine lv_iconst (v := 1) hx hb dX2_digest_234 (by decide) ?_
                        refine lv_goto (tgt := 239) hx hb dX2_digest_235 (by decide) ?_
                        exact j_239 _ (by rw [bz_1 c_231]; rfl)
                    intro v_239 h_v_239
                    refine lv_i2l (v := v_239.toInt64) hx hb dX2_digest_239 rfl ?_
                    refine z_topl (y := (bz (T0 i)).toInt64) (by rw [h_v_239]) ?_
                    refine lv_ladd hx hb dX2_digest_240 ?_
                    refine lv_lstore_n (lv' := [(2, .long (((((dgD wn hn q0 T0 K0 (dgC wn hn K0 (dgL (dgA (nI wn) (nI hn) (nI q0) wv (nI (ct T0 (wn * hn))) (nI (boN wn hn K0 (wn * hn))) (nI (bestL (ccF K0 (wn * hn)) 1 4)) (bz (stN wn hn q0 T0 K0 (wn * hn))) (nI (allN K0 (wn * hn)))) 9) 4) i) * 31) + ((nI (K0 i)).toInt64)) * 31) + ((bz (T0 i)).toInt64))), (0, .ref m0), (4, .int (nI i))]) hx hb dX2_digest_241 rfl hl (by decide) rfl (fun ls hl => ?_)
                    refine lv_lload_n hx hb dX2_digest_242 rfl (lv_at hl 0 rfl) ?_
                    refine lv_ldc2 hx hb hown (hts (.constantLong RX2 150 (31)) (List.mem_of_getElem? (i := 8) rfl)) dX2_digest_243 ?_
                    refine lv_lmul hx hb dX2_digest_246 ?_
                    refine lv_aload_n hx hb dX2_digest_247 rfl (lv_at hl 1 rfl) ?_
                    refine lv_iload hx hb dX2_digest_248 (lv_at hl 2 rfl) ?_
                    refine z_callVi (As := [.int (nI i)]) (rest := [.long ((((((dgD wn hn q0 T0 K0 (dgC wn hn K0 (dgL (dgA (nI wn) (nI hn) (nI q0) wv (nI (ct T0 (wn * hn))) (nI (boN wn hn K0 (wn * hn))) (nI (bestL (ccF K0 (wn * hn)) 1 4)) (bz (stN wn hn q0 T0 K0 (wn * hn))) (nI (allN K0 (wn * hn)))) 9) 4) i) * 31) + ((nI (K0 i)).toInt64)) * 31) + ((bz (T0 i)).toInt64)) * 31)]) F9 (m_X2_nextOf l dC dI cI cZ cJ cD m0 a1 a2 a3 a4 a5 a6 a7 a8 0 wn hn q0 wv K0 NX T0 KP (zfill (kI Rq_2) RG (wn * hn)) SZq_3 LNq_4 mnq_5 i (g) (hK4) (hq) (n_201)) (cwV 1 hts gX2_digest_X2_nextOf rfl rfl rfl (by decide +kernel) ⟨Nat.le_of_ble_eq_true rfl, Nat.le_of_ble_eq_true rfl⟩) hK hN hP hD hS hA [0, 1, 2, 3, 4, 5, 6, 7, 8] rfl rfl (fun _ => rfl) 0 (ci := 2) rfl rfl rfl rfl hl.1 rfl (Nat.le_of_ble_eq_true rfl) dX2_digest_250 ⟨Nat.le_of_ble_eq_true rfl, Nat.le_of_ble_eq_true rfl⟩ (fun r_13 u H locs hp_250 hP hD hS => ?_)
                    have hP : va_P (dC, dI) vwCl [(m0, .inr (2, [.int 0, .int (nI wn), .int (nI hn), .int (nI q0), .int wv, .ref a1, .ref a2, .ref a3, .ref a4, .ref a5, .ref a6, .ref a7, .ref a8, .int mnq_5])), (a1, .inl (cI, 25, .inl (kI K0))), (a2, .inl (cI, 25, .inl NX)), (a3, .inl (cZ, 25, .inl (zB T0))), (a4, .inl (cI, 100, .inl (bI wn hn))), (a5, .inl (cI, 25, .inl KP)), (a6, .inl (cI, 25, .inl (zfill (kI Rq_2) RG (wn * hn)))), (a7, .inl (cI, 26, .inl SZq_3)), (a8, .inl (cI, 25, .inl LNq_4)), (q_11, .inl (cI, 9, .inl (dgA (nI wn) (nI hn) (nI q0) wv (nI (ct T0 (wn * hn))) (nI (boN wn hn K0 (wn * hn))) (nI (bestL (ccF K0 (wn * hn)) 1 4)) (bz (stN wn hn q0 T0 K0 (wn * hn))) (nI (allN K0 (wn * hn))))))] H := hP
                    have hD : va_D A [(m0, .inr (2, [.int 0, .int (nI wn), .int (nI hn), .int (nI q0), .int wv, .ref a1, .ref a2, .ref a3, .ref a4, .ref a5, .ref a6, .ref a7, .ref a8, .int mnq_5])), (a1, .inl (cI, 25, .inl (kI K0))), (a2, .inl (cI, 25, .inl NX)), (a3, .inl (cZ, 25, .inl (zB T0))), (a4, .inl (cI, 100, .inl (bI wn hn))), (a5, .inl (cI, 25, .inl KP)), (a6, .inl (cI, 25, .inl (zfill (kI Rq_2) RG (wn * hn)))), (a7, .inl (cI, 26, .inl SZq_3)), (a8, .inl (cI, 25, .inl LNq_4)), (q_11, .inl (cI, 9, .inl (dgA (nI wn) (nI hn) (nI q0) wv (nI (ct T0 (wn * hn))) (nI (boN wn hn K0 (wn * hn))) (nI (bestL (ccF K0 (wn * hn)) 1 4)) (bz (stN wn hn q0 T0 K0 (wn * hn))) (nI (allN K0 (wn * hn))))))] := hD
                    have hp_250 : r_13 = nI (nxt wn hn q0 T0 K0 i) := hp_250
                    refine z_topi (y := nI (nxt wn hn q0 T0 K0 i)) hp_250 ?_
                    refine lv_i2l (v := (nI (nxt wn hn q0 T0 K0 i)).toInt64) hx hb dX2_digest_253 rfl ?_
                    refine lv_ladd hx hb dX2_digest_254 ?_
                    refine lv_lstore_n (lv' := [(2, .long (((((((dgD wn hn q0 T0 K0 (dgC wn hn K0 (dgL (dgA (nI wn) (nI hn) (nI q0) wv (nI (ct T0 (wn * hn))) (nI (boN wn hn K0 (wn * hn))) (nI (bestL (ccF K0 (wn * hn)) 1 4)) (bz (stN wn hn q0 T0 K0 (wn * hn))) (nI (allN K0 (wn * hn)))) 9) 4) i) * 31) + ((nI (K0 i)).toInt64)) * 31) + ((bz (T0 i)).toInt64)) * 31) + ((nI (nxt wn hn q0 T0 K0 i)).toInt64))), (0, .ref m0), (4, .int (nI i))]) hx hb dX2_digest_255 rfl hl (by decide) rfl (fun ls hl => ?_)
                    refine lv_lload_n hx hb dX2_digest_256 rfl (lv_at hl 0 rfl) ?_
                    refine lv_ldc2 hx hb hown (hts (.constantLong RX2 150 (31)) (List.mem_of_getElem? (i := 8) rfl)) dX2_digest_257 ?_
                    refine lv_lmul hx hb dX2_digest_260 ?_
                    refine lv_aload_n hx hb dX2_digest_261 rfl (lv_at hl 1 rfl) ?_
                    refine lv_iload hx hb dX2_digest_262 (lv_at hl 2 rfl) ?_
                    refine z_callVi (As := [.int (nI i)]) (rest := [.long ((((((((dgD wn hn q0 T0 K0 (dgC wn hn K0 (dgL (dgA (nI wn) (nI hn) (nI q0) wv (nI (ct T0 (wn * hn))) (nI (boN wn hn K0 (wn * hn))) (nI (bestL (ccF K0 (wn * hn)) 1 4)) (bz (stN wn hn q0 T0 K0 (wn * hn))) (nI (allN K0 (wn * hn)))) 9) 4) i) * 31) + ((nI (K0 i)).toInt64)) * 31) + ((bz (T0 i)).toInt64)) * 31) + ((nI (nxt wn hn q0 T0 K0 i)).toInt64)) * 31)]) F9 (m_X2_sizeOf l dC dI cI cZ cJ cD m0 a1 a2 a3 a4 a5 a6 a7 a8 0 wn hn q0 wv K0 NX T0 KP RG SZq_3 LNq_4 mnq_5 Rq_2 i (g) (hK4) (n_201) (hp_6)) (cwV 1 hts gX2_digest_X2_sizeOf rfl rfl rfl (by decide +kernel) ⟨Nat.le_of_ble_eq_true rfl, Nat.le_of_ble_eq_true rfl⟩) hK hN hP hD hS hA [0, 1, 2, 3, 4, 5, 6, 7, 8] rfl rfl (fun _ => rfl) 0 (ci := 2) rfl rfl rfl rfl hl.1 rfl (Nat.le_of_ble_eq_true rfl) dX2_digest_264 ⟨Nat.le_of_ble_eq_true rfl, Nat.le_of_ble_eq_true rfl⟩ (fun r_14 u H locs hp_264 hP hD hS => ?_)
                    have hP : va_P (dC, dI) vwCl [(m0, .inr (2, [.int 0, .int (nI wn), .int (nI hn), .int (nI q0), .int wv, .ref a1, .ref a2, .ref a3, .ref a4, .ref a5, .ref a6, .ref a7, .ref a8, .int mnq_5])), (a1, .inl (cI, 25, .inl (kI K0))), (a2, .inl (cI, 25, .inl NX)), (a3, .inl (cZ, 25, .inl (zB T0))), (a4, .inl (cI, 100, .inl (bI wn hn))), (a5, .inl (cI, 25, .inl KP)), (a6, .inl (cI, 25, .inl (zfill (kI Rq_2) RG (wn * hn)))), (a7, .inl (cI, 26, .inl SZq_3)), (a8, .inl (cI, 25, .inl LNq_4)), (q_11, .inl (cI, 9, .inl (dgA (nI wn) (nI hn) (nI q0) wv (nI (ct T0 (wn * hn))) (nI (boN wn hn K0 (wn * hn))) (nI (bestL (ccF K0 (wn * hn)) 1 4)) (bz (stN wn hn q0 T0 K0 (wn * hn))) (nI (allN K0 (wn * hn))))))] H := hP
                    have hD : va_D A [(m0, .inr (2, [.int 0, .int (nI wn), .int (nI hn), .int (nI q0), .int wv, .ref a1, .ref a2, .ref a3, .ref a4, .ref a5, .ref a6, .ref a7, .ref a8, .int mnq_5])), (a1, .inl (cI, 25, .inl (kI K0))), (a2, .inl (cI, 25, .inl NX)), (a3, .inl (cZ, 25, .inl (zB T0))), (a4, .inl (cI, 100, .inl (bI wn hn))), (a5, .inl (cI, 25, .inl KP)), (a6, .inl (cI, 25, .inl (zfill (kI Rq_2) RG (wn * hn)))), (a7, .inl (cI, 26, .inl SZq_3)), (a8, .inl (cI, 25, .inl LNq_4)), (q_11, .inl (cI, 9, .inl (dgA (nI wn) (nI hn) (nI q0) wv (nI (ct T0 (wn * hn))) (nI (boN wn hn K0 (wn * hn))) (nI (bestL (ccF K0 (wn * hn)) 1 4)) (bz (stN wn hn q0 T0 K0 (wn * hn))) (nI (allN K0 (wn * hn))))))] := hD
                    have hp_264 : r_14 = nI (sz0 wn hn K0 i) := hp_264
                    refine z_topi (y := nI (sz0 wn hn K0 i)) hp_264 ?_
                    refine lv_i2l (v := (nI (sz0 wn hn K0 i)).toInt64) hx hb dX2_digest_267 rfl ?_
                    refine lv_ladd hx hb dX2_digest_268 ?_
                    refine lv_lstore_n (lv' := [(2, .long (((((((((dgD wn hn q0 T0 K0 (dgC wn hn K0 (dgL (dgA (nI wn) (nI hn) (nI q0) wv (nI (ct T0 (wn * hn))) (nI (boN wn hn K0 (wn * hn))) (nI (bestL (ccF K0 (wn * hn)) 1 4)) (bz (stN wn hn q0 T0 K0 (wn * hn))) (nI (allN K0 (wn * hn)))) 9) 4) i) * 31) + ((nI (K0 i)).toInt64)) * 31) + ((bz (T0 i)).toInt64)) * 31) + ((nI (nxt wn hn q0 T0 K0 i)).toInt64)) * 31) + ((nI (sz0 wn hn K0 i)).toInt64))), (0, .ref m0), (4, .int (nI i))]) hx hb dX2_digest_269 rfl hl (by decide) rfl (fun ls hl => ?_)
                    refine lv_iinc (v := nI (i + 1)) (lv' := [(4, .int (nI (i + 1))), (2, .long (((((((((dgD wn hn q0 T0 K0 (dgC wn hn K0 (dgL (dgA (nI wn) (nI hn) (nI q0) wv (nI (ct T0 (wn * hn))) (nI (boN wn hn K0 (wn * hn))) (nI (bestL (ccF K0 (wn * hn)) 1 4)) (bz (stN wn hn q0 T0 K0 (wn * hn))) (nI (allN K0 (wn * hn)))) 9) 4) i) * 31) + ((nI (K0 i)).toInt64)) * 31) + ((bz (T0 i)).toInt64)) * 31) + ((nI (nxt wn hn q0 T0 K0 i)).toInt64)) * 31) + ((nI (sz0 wn hn K0 i)).toInt64))), (0, .ref m0)]) hx hb dX2_digest_270 hl (k := 2) rfl (nI_1 i) (by decide) rfl (fun ls hl => ?_)
                    refine lv_goto (tgt := 195) hx hb dX2_digest_273 (by decide) ?_
                    exact ih_195 (i + 1) (by omega)  _ _ _ hP hD hS (lv_sub hl [2, 1, 0] rfl)
              have hl9 := hl
              have hP9 := hP
              have hD9 := hD
              have hS9 := hS
              obtain rfl : i = 4 := by omega
              have hl := hl9
              have hP := hP9
              have hD := hD9
              have hS := hS9
              exact loop_195 (wn * hn) 0 (by omega)  _ _ _ hP hD hS (lv_sub hl [1, 2, 0] rfl)
            · skip
              have n_139 := zc_lt_f (a := 4) (b := (i + 1)) (by omega) (by omega) c_139
              exact absurd n_139 (by omega)
          | succ n ih_136 =>
            intro i hkn  H locs ls hP hD hS hl
            refine lv_iload hx hb dX2_digest_136 (lv_at hl 2 rfl) ?_
            refine lv_iconst (v := 4) hx hb dX2_digest_138 (by decide) ?_
            refine lv_icmp_gt (tgt := 192) hx hb dX2_digest_139 (by decide) (fun c_139 => ?_) (fun c_139 => ?_)
            · skip
              have n_139 := zc_lt_t (a := 4) (b := (i + 1)) (by omega) (by omega) c_139
              exact absurd n_139 (by omega)
            · skip
              have n_139 := zc_lt_f (a := 4) (b := (i + 1)) (by omega) (by omega) c_139
              refine lv_lload_n hx hb dX2_digest_142 rfl (lv_at hl 1 rfl) ?_
              refine lv_ldc2 hx hb hown (hts (.constantLong RX2 150 (31)) (List.mem_of_getElem? (i := 8) rfl)) dX2_digest_143 ?_
              refine lv_lmul hx hb dX2_digest_146 ?_
              refine lv_aload_n hx hb dX2_digest_147 rfl (lv_at hl 0 rfl) ?_
              refine lv_iload hx hb dX2_digest_148 (lv_at hl 2 rfl) ?_
              refine z_callVi (As := [.int (nI (i + 1))]) (rest := [.long ((dgC wn hn K0 (dgL (dgA (nI wn) (nI hn) (nI q0) wv (nI (ct T0 (wn * hn))) (nI (boN wn hn K0 (wn * hn))) (nI (bestL (ccF K0 (wn * hn)) 1 4)) (bz (stN wn hn q0 T0 K0 (wn * hn))) (nI (allN K0 (wn * hn)))) 9) i) * 31)]) F9 (m_X2_cellsWith l dC dI cI cZ cJ cD m0 a1 a2 a3 a4 a5 a6 a7 a8 0 wn hn q0 wv K0 NX T0 KP (zfill (kI Rq_2) RG (wn * hn)) SZq_3 LNq_4 mnq_5 (i + 1) (g) (hK4) (by omega)) (cwV 1 hts gX2_digest_X2_cellsWith rfl rfl rfl (by decide +kernel) ⟨Nat.le_of_ble_eq_true rfl, Nat.le_of_ble_eq_true rfl⟩) hK hN hP hD hS hA [0, 1, 2, 3, 4, 5, 6, 7, 8] rfl rfl (fun _ => rfl) 0 (ci := 2) rfl rfl rfl rfl hl.1 rfl (Nat.le_of_ble_eq_true rfl) dX2_digest_150 ⟨Nat.le_of_ble_eq_true rfl, Nat.le_of_ble_eq_true rfl⟩ (fun r_15 u H locs hp_150 hP hD hS => ?_)
              have hP : va_P (dC, dI) vwCl [(m0, .inr (2, [.int 0, .int (nI wn), .int (nI hn), .int (nI q0), .int wv, .ref a1, .ref a2, .ref a3, .ref a4, .ref a5, .ref a6, .ref a7, .ref a8, .int mnq_5])), (a1, .inl (cI, 25, .inl (kI K0))), (a2, .inl (cI, 25, .inl NX)), (a3, .inl (cZ, 25, .inl (zB T0))), (a4, .inl (cI, 100, .inl (bI wn hn))), (a5, .inl (cI, 25, .inl KP)), (a6, .inl (cI, 25, .inl (zfill (kI Rq_2) RG (wn * hn)))), (a7, .inl (cI, 26, .inl SZq_3)), (a8, .inl (cI, 25, .inl LNq_4)), (q_11, .inl (cI, 9, .inl (dgA (nI wn) (nI hn) (nI q0) wv (nI (ct T0 (wn * hn))) (nI (boN wn hn K0 (wn * hn))) (nI (bestL (ccF K0 (wn * hn)) 1 4)) (bz (stN wn hn q0 T0 K0 (wn * hn))) (nI (allN K0 (wn * hn))))))] H := hP
              have hD : va_D A [(m0, .inr (2, [.int 0, .int (nI wn), .int (nI hn), .int (nI q0), .int wv, .ref a1, .ref a2, .ref a3, .ref a4, .ref a5, .ref a6, .ref a7, .ref a8, .int mnq_5])), (a1, .inl (cI, 25, .inl (kI K0))), (a2, .inl (cI, 25, .inl NX)), (a3, .inl (cZ, 25, .inl (zB T0))), (a4, .inl (cI, 100, .inl (bI wn hn))), (a5, .inl (cI, 25, .inl KP)), (a6, .inl (cI, 25, .inl (zfill (kI Rq_2) RG (wn * hn)))), (a7, .inl (cI, 26, .inl SZq_3)), (a8, .inl (cI, 25, .inl LNq_4)), (q_11, .inl (cI, 9, .inl (dgA (nI wn) (nI hn) (nI q0) wv (nI (ct T0 (wn * hn))) (nI (boN wn hn K0 (wn * hn))) (nI (bestL (ccF K0 (wn * hn)) 1 4)) (bz (stN wn hn q0 T0 K0 (wn * hn))) (nI (allN K0 (wn * hn))))))] := hD
              have hp_150 : r_15 = nI (ccN K0 (i + 1) (wn * hn)) := hp_150
              refine z_topi (y := nI (ccN K0 (i + 1) (wn * hn))) hp_150 ?_
              refine lv_i2l (v := (nI (ccN K0 (i + 1) (wn * hn))).toInt64) hx hb dX2_digest_153 rfl ?_
              refine lv_ladd hx hb dX2_digest_154 ?_
              refine lv_lstore_n (lv' := [(2, .long (((dgC wn hn K0 (dgL (dgA (nI wn) (nI hn) (nI q0) wv (nI (ct T0 (wn * hn))) (nI (boN wn hn K0 (wn * hn))) (nI (bestL (ccF K0 (wn * hn)) 1 4)) (bz (stN wn hn q0 T0 K0 (wn * hn))) (nI (allN K0 (wn * hn)))) 9) i) * 31) + ((nI (ccN K0 (i + 1) (wn * hn))).toInt64))), (0, .ref m0), (4, .int (nI (i + 1)))]) hx hb dX2_digest_155 rfl hl (by decide) rfl (fun ls hl => ?_)
              refine lv_lload_n hx hb dX2_digest_156 rfl (lv_at hl 0 rfl) ?_
              refine lv_ldc2 hx hb hown (hts (.constantLong RX2 150 (31)) (List.mem_of_getElem? (i := 8) rfl)) dX2_digest_157 ?_
              refine lv_lmul hx hb dX2_digest_160 ?_
              refine lv_aload_n hx hb dX2_digest_161 rfl (lv_at hl 1 rfl) ?_
              refine lv_iload hx hb dX2_digest_162 (lv_at hl 2 rfl) ?_
              refine lv_iconst (v := 0) hx hb dX2_digest_164 (by decide) ?_
              refine z_callVi (As := [.int (nI (i + 1)), .int 0]) (rest := [.long ((((dgC wn hn K0 (dgL (dgA (nI wn) (nI hn) (nI q0) wv (nI (ct T0 (wn * hn))) (nI (boN wn hn K0 (wn * hn))) (nI (bestL (ccF K0 (wn * hn)) 1 4)) (bz (stN wn hn q0 T0 K0 (wn * hn))) (nI (allN K0 (wn * hn)))) 9) i) * 31) + ((nI (ccN K0 (i + 1) (wn * hn))).toInt64)) * 31)]) F9 (m_X2_regions l dC dI cI cZ cJ cD m0 a1 a2 a3 a4 a5 a6 a7 a8 0 wn hn q0 wv K0 NX T0 KP RG SZq_3 LNq_4 mnq_5 Rq_2 (i + 1) false (g) (hK4) (by omega) (by omega) (hp_6)) (cwV 2 hts gX2_digest_X2_regions rfl rfl rfl (by decide +kernel) ⟨Nat.le_of_ble_eq_true rfl, Nat.le_of_ble_eq_true rfl⟩) hK hN hP hD hS hA [0, 1, 2, 3, 4, 5, 6, 7, 8] rfl rfl (fun _ => rfl) 0 (ci := 2) rfl rfl rfl rfl hl.1 rfl (Nat.le_of_ble_eq_true rfl) dX2_digest_165 ⟨Nat.le_of_ble_eq_true rfl, Nat.le_of_ble_eq_true rfl⟩ (fun r_16 u H locs hp_165 hP hD hS => ?_)
              have hP : va_P (dC, dI) vwCl [(m0, .inr (2, [.int 0, .int (nI wn), .int (nI hn), .int (nI q0), .int wv, .ref a1, .ref a2, .ref a3, .ref a4, .ref a5, .ref a6, .ref a7, .ref a8, .int mnq_5])), (a1, .inl (cI, 25, .inl (kI K0))), (a2, .inl (cI, 25, .inl NX)), (a3, .inl (cZ, 25, .inl (zB T0))), (a4, .inl (cI, 100, .inl (bI wn hn))), (a5, .inl (cI, 25, .inl KP)), (a6, .inl (cI, 25, .inl (zfill (kI Rq_2) RG (wn * hn)))), (a7, .inl (cI, 26, .inl SZq_3)), (a8, .inl (cI, 25, .inl LNq_4)), (q_11, .inl (cI, 9, .inl (dgA (nI wn) (nI hn) (nI q0) wv (nI (ct T0 (wn * hn))) (nI (boN wn hn K0 (wn * hn))) (nI (bestL (ccF K0 (wn * hn)) 1 4)) (bz (stN wn hn q0 T0 K0 (wn * hn))) (nI (allN K0 (wn * hn))))))] H := hP
              have hD : va_D A [(m0, .inr (2, [.int 0, .int (nI wn), .int (nI hn), .int (nI q0), .int wv, .ref a1, .ref a2, .ref a3, .ref a4, .ref a5, .ref a6, .ref a7, .ref a8, .int mnq_5])), (a1, .inl (cI, 25, .inl (kI K0))), (a2, .inl (cI, 25, .inl NX)), (a3, .inl (cZ, 25, .inl (zB T0))), (a4, .inl (cI, 100, .inl (bI wn hn))), (a5, .inl (cI, 25, .inl KP)), (a6, .inl (cI, 25, .inl (zfill (kI Rq_2) RG (wn * hn)))), (a7, .inl (cI, 26, .inl SZq_3)), (a8, .inl (cI, 25, .inl LNq_4)), (q_11, .inl (cI, 9, .inl (dgA (nI wn) (nI hn) (nI q0) wv (nI (ct T0 (wn * hn))) (nI (boN wn hn K0 (wn * hn))) (nI (bestL (ccF K0 (wn * hn)) 1 4)) (bz (stN wn hn q0 T0 K0 (wn * hn))) (nI (allN K0 (wn * hn))))))] := hD
              have hp_165 : r_16 = nI (if false = true then rmx wn hn K0 (i + 1) (wn * hn) else rsm wn hn K0 (i + 1) (wn * hn)) := hp_165
              refine z_topi (y := nI (if false = true then rmx wn hn K0 (i + 1) (wn * hn) else rsm wn hn K0 (i + 1) (wn * hn))) hp_165 ?_
              refine z_topi (y := nI (rsm wn hn K0 (i + 1) (wn * hn))) (rfl) ?_
              refine lv_i2l (v := (nI (rsm wn hn K0 (i + 1) (wn * hn))).toInt64) hx hb dX2_digest_168 rfl ?_
              refine lv_ladd hx hb dX2_digest_169 ?_
              refine lv_lstore_n (lv' := [(2, .long (((((dgC wn hn K0 (dgL (dgA (nI wn) (nI hn) (nI q0) wv (nI (ct T0 (wn * hn))) (nI (boN wn hn K0 (wn * hn))) (nI (bestL (ccF K0 (wn * hn)) 1 4)) (bz (stN wn hn q0 T0 K0 (wn * hn))) (nI (allN K0 (wn * hn)))) 9) i) * 31) + ((nI (ccN K0 (i + 1) (wn * hn))).toInt64)) * 31) + ((nI (rsm wn hn K0 (i + 1) (wn * hn))).toInt64))), (0, .ref m0), (4, .int (nI (i + 1)))]) hx hb dX2_digest_170 rfl hl (by decide) rfl (fun ls hl => ?_)
              refine lv_lload_n hx hb dX2_digest_171 rfl (lv_at hl 0 rfl) ?_
              refine lv_ldc2 hx hb hown (hts (.constantLong RX2 150 (31)) (List.mem_of_getElem? (i := 8) rfl)) dX2_digest_172 ?_
              refine lv_lmul hx hb dX2_digest_175 ?_
              refine lv_aload_n hx hb dX2_digest_176 rfl (lv_at hl 1 rfl) ?_
              refine lv_iload hx hb dX2_digest_177 (lv_at hl 2 rfl) ?_
              refine lv_iconst (v := 1) hx hb dX2_digest_179 (by decide) ?_
              refine z_callVi (As := [.int (nI (i + 1)), .int 1]) (rest := [.long ((((((dgC wn hn K0 (dgL (dgA (nI wn) (nI hn) (nI q0) wv (nI (ct T0 (wn * hn))) (nI (boN wn hn K0 (wn * hn))) (nI (bestL (ccF K0 (wn * hn)) 1 4)) (bz (stN wn hn q0 T0 K0 (wn * hn))) (nI (allN K0 (wn * hn)))) 9) i) * 31) + ((nI (ccN K0 (i + 1) (wn * hn))).toInt64)) * 31) + ((nI (rsm wn hn K0 (i + 1) (wn * hn))).toInt64)) * 31)]) F9 (m_X2_regions l dC dI cI cZ cJ cD m0 a1 a2 a3 a4 a5 a6 a7 a8 0 wn hn q0 wv K0 NX T0 KP RG SZq_3 LNq_4 mnq_5 Rq_2 (i + 1) true (g) (hK4) (by omega) (by omega) (hp_6)) (cwV 2 hts gX2_digest_X2_regions rfl rfl rfl (by decide +kernel) ⟨Nat.le_of_ble_eq_true rfl, Nat.le_of_ble_eq_true rfl⟩) hK hN hP hD hS hA [0, 1, 2, 3, 4, 5, 6, 7, 8] rfl rfl (fun _ => rfl) 0 (ci := 2) rfl rfl rfl rfl hl.1 rfl (Nat.le_of_ble_eq_true rfl) dX2_digest_180 ⟨Nat.le_of_ble_eq_true rfl, Nat.le_of_ble_eq_true rfl⟩ (fun r_17 u H locs hp_180 hP hD hS => ?_)
              have hP : va_P (dC, dI) vwCl [(m0, .inr (2, [.int 0, .int (nI wn), .int (nI hn), .int (nI q0), .int wv, .ref a1, .ref a2, .ref a3, .ref a4, .ref a5, .ref a6, .ref a7, .ref a8, .int mnq_5])), (a1, .inl (cI, 25, .inl (kI K0))), (a2, .inl (cI, 25, .inl NX)), (a3, .inl (cZ, 25, .inl (zB T0))), (a4, .inl (cI, 100, .inl (bI wn hn))), (a5, .inl (cI, 25, .inl KP)), (a6, .inl (cI, 25, .inl (zfill (kI Rq_2) RG (wn * hn)))), (a7, .inl (cI, 26, .inl SZq_3)), (a8, .inl (cI, 25, .inl LNq_4)), (q_11, .inl (cI, 9, .inl (dgA (nI wn) (nI hn) (nI q0) wv (nI (ct T0 (wn * hn))) (nI (boN wn hn K0 (wn * hn))) (nI (bestL (ccF K0 (wn * hn)) 1 4)) (bz (stN wn hn q0 T0 K0 (wn * hn))) (nI (allN K0 (wn * hn))))))] H := hP
              have hD : va_D A [(m0, .inr (2, [.int 0, .int (nI wn), .int (nI hn), .int (nI q0), .int wv, .ref a1, .ref a2, .ref a3, .ref a4, .ref a5, .ref a6, .ref a7, .ref a8, .int mnq_5])), (a1, .inl (cI, 25, .inl (kI K0))), (a2, .inl (cI, 25, .inl NX)), (a3, .inl (cZ, 25, .inl (zB T0))), (a4, .inl (cI, 100, .inl (bI wn hn))), (a5, .inl (cI, 25, .inl KP)), (a6, .inl (cI, 25, .inl (zfill (kI Rq_2) RG (wn * hn)))), (a7, .inl (cI, 26, .inl SZq_3)), (a8, .inl (cI, 25, .inl LNq_4)), (q_11, .inl (cI, 9, .inl (dgA (nI wn) (nI hn) (nI q0) wv (nI (ct T0 (wn * hn))) (nI (boN wn hn K0 (wn * hn))) (nI (bestL (ccF K0 (wn * hn)) 1 4)) (bz (stN wn hn q0 T0 K0 (wn * hn))) (nI (allN K0 (wn * hn))))))] := hD
              have hp_180 : r_17 = nI (if true = true then rmx wn hn K0 (i + 1) (wn * hn) else rsm wn hn K0 (i + 1) (wn * hn)) := hp_180
              refine z_topi (y := nI (if true = true then rmx wn hn K0 (i + 1) (wn * hn) else rsm wn hn K0 (i + 1) (wn * hn))) hp_180 ?_
              refine z_topi (y := nI (rmx wn hn K0 (i + 1) (wn * hn))) (rfl) ?_
              refine lv_i2l (v := (nI (rmx wn hn K0 (i + 1) (wn * hn))).toInt64) hx hb dX2_digest_183 rfl ?_
              refine lv_ladd hx hb dX2_digest_184 ?_
              refine lv_lstore_n (lv' := [(2, .long (((((((dgC wn hn K0 (dgL (dgA (nI wn) (nI hn) (nI q0) wv (nI (ct T0 (wn * hn))) (nI (boN wn hn K0 (wn * hn))) (nI (bestL (ccF K0 (wn * hn)) 1 4)) (bz (stN wn hn q0 T0 K0 (wn * hn))) (nI (allN K0 (wn * hn)))) 9) i) * 31) + ((nI (ccN K0 (i + 1) (wn * hn))).toInt64)) * 31) + ((nI (rsm wn hn K0 (i + 1) (wn * hn))).toInt64)) * 31) + ((nI (rmx wn hn K0 (i + 1) (wn * hn))).toInt64))), (0, .ref m0), (4, .int (nI (i + 1)))]) hx hb dX2_digest_185 rfl hl (by decide) rfl (fun ls hl => ?_)
              refine lv_iinc (v := nI ((i + 1) + 1)) (lv' := [(4, .int (nI ((i + 1) + 1))), (2, .long (((((((dgC wn hn K0 (dgL (dgA (nI wn) (nI hn) (nI q0) wv (nI (ct T0 (wn * hn))) (nI (boN wn hn K0 (wn * hn))) (nI (bestL (ccF K0 (wn * hn)) 1 4)) (bz (stN wn hn q0 T0 K0 (wn * hn))) (nI (allN K0 (wn * hn)))) 9) i) * 31) + ((nI (ccN K0 (i + 1) (wn * hn))).toInt64)) * 31) + ((nI (rsm wn hn K0 (i + 1) (wn * hn))).toInt64)) * 31) + ((nI (rmx wn hn K0 (i + 1) (wn * hn))).toInt64))), (0, .ref m0)]) hx hb dX2_digest_186 hl (k := 2) rfl (nI_1 (i + 1)) (by decide) rfl (fun ls hl => ?_)
              refine lv_goto (tgt := 136) hx hb dX2_digest_189 (by decide) ?_
              exact ih_136 (i + 1) (by omega)  _ _ _ hP hD hS (lv_sub hl [2, 1, 0] rfl)
        have hl9 := hl
        have hP9 := hP
        have hD9 := hD
        have hS9 := hS
        obtain rfl : i = 9 := by omega
        have hl := hl9
        have hP := hP9
        have hD := hD9
        have hS := hS9
        exact loop_136 4 0 (by omega)  _ _ _ hP hD hS (lv_sub hl [1, 2, 0] rfl)
      · skip
        have n_107 := zc_le_f (a := 9) (b := i) (by omega) (by omega) c_107
        exact absurd n_107 (by omega)
    | succ n ih_103 =>
      intro i hkn  H locs ls hP hD hS hl
      refine lv_iload hx hb dX2_digest_103 (lv_at hl 4 rfl) ?_
      refine lv_iload hx hb dX2_digest_105 (lv_at hl 3 rfl) ?_
      refine lv_icmp_ge (tgt := 133) hx hb dX2_digest_107 (by decide) (fun c_107 => ?_) (fun c_107 => ?_)
      · skip
        have n_107 := zc_le_t (a := 9) (b := i) (by omega) (by omega) c_107
        exact absurd n_107 (by omega)
      · skip
        have n_107 := zc_le_f (a := 9) (b := i) (by omega) (by omega) c_107
        refine lv_aload hx hb dX2_digest_110 (lv_at hl 2 rfl) ?_
        refine lv_iload hx hb dX2_digest_112 (lv_at hl 4 rfl) ?_
        refine z_iald hx hb hK hP 9 0 rfl rfl i (rfl) (by omega) (by decide) dX2_digest_114 ?_
        refine lv_istore (lv' := [(7, .int ((dgA (nI wn) (nI hn) (nI q0) wv (nI (ct T0 (wn * hn))) (nI (boN wn hn K0 (wn * hn))) (nI (bestL (ccF K0 (wn * hn)) 1 4)) (bz (stN wn hn q0 T0 K0 (wn * hn))) (nI (allN K0 (wn * hn)))) i)), (0, .ref m0), (2, .long (dgL (dgA (nI wn) (nI hn) (nI q0) wv (nI (ct T0 (wn * hn))) (nI (boN wn hn K0 (wn * hn))) (nI (bestL (ccF K0 (wn * hn)) 1 4)) (bz (stN wn hn q0 T0 K0 (wn * hn))) (nI (allN K0 (wn * hn)))) i)), (4, .ref q_11), (5, .int 9), (6, .int (nI i))]) hx hb dX2_digest_115 hl (by decide) rfl (fun ls hl => ?_)
        refine lv_lload_n hx hb dX2_digest_117 rfl (lv_at hl 2 rfl) ?_
        refine lv_ldc2 hx hb hown (hts (.constantLong RX2 150 (31)) (List.mem_of_getElem? (i := 8) rfl)) dX2_digest_118 ?_
        refine lv_lmul hx hb dX2_digest_121 ?_
        refine lv_iload hx hb dX2_digest_122 (lv_at hl 0 rfl) ?_
        refine lv_i2l (v := ((dgA (nI wn) (nI hn) (nI q0) wv (nI (ct T0 (wn * hn))) (nI (boN wn hn K0 (wn * hn))) (nI (bestL (ccF K0 (wn * hn)) 1 4)) (bz (stN wn hn q0 T0 K0 (wn * hn))) (nI (allN K0 (wn * hn)))) i).toInt64) hx hb dX2_digest_124 rfl ?_
        refine lv_ladd hx hb dX2_digest_125 ?_
        refine lv_lstore_n (lv' := [(2, .long (((dgL (dgA (nI wn) (nI hn) (nI q0) wv (nI (ct T0 (wn * hn))) (nI (boN wn hn K0 (wn * hn))) (nI (bestL (ccF K0 (wn * hn)) 1 4)) (bz (stN wn hn q0 T0 K0 (wn * hn))) (nI (allN K0 (wn * hn)))) i) * 31) + (((dgA (nI wn) (nI hn) (nI q0) wv (nI (ct T0 (wn * hn))) (nI (boN wn hn K0 (wn * hn))) (nI (bestL (ccF K0 (wn * hn)) 1 4)) (bz (stN wn hn q0 T0 K0 (wn * hn))) (nI (allN K0 (wn * hn)))) i).toInt64))), (7, .int ((dgA (nI wn) (nI hn) (nI q0) wv (nI (ct T0 (wn * hn))) (nI (boN wn hn K0 (wn * hn))) (nI (bestL (ccF K0 (wn * hn)) 1 4)) (bz (stN wn hn q0 T0 K0 (wn * hn))) (nI (allN K0 (wn * hn)))) i)), (0, .ref m0), (4, .ref q_11), (5, .int 9), (6, .int (nI i))]) hx hb dX2_digest_126 rfl hl (by decide) rfl (fun ls hl => ?_)
        refine lv_iinc (v := nI (i + 1)) (lv' := [(6, .int (nI (i + 1))), (2, .long (((dgL (dgA (nI wn) (nI hn) (nI q0) wv (nI (ct T0 (wn * hn))) (nI (boN wn hn K0 (wn * hn))) (nI (bestL (ccF K0 (wn * hn)) 1 4)) (bz (stN wn hn q0 T0 K0 (wn * hn))) (nI (allN K0 (wn * hn)))) i) * 31) + (((dgA (nI wn) (nI hn) (nI q0) wv (nI (ct T0 (wn * hn))) (nI (boN wn hn K0 (wn * hn))) (nI (bestL (ccF K0 (wn * hn)) 1 4)) (bz (stN wn hn q0 T0 K0 (wn * hn))) (nI (allN K0 (wn * hn)))) i).toInt64))), (7, .int ((dgA (nI wn) (nI hn) (nI q0) wv (nI (ct T0 (wn * hn))) (nI (boN wn hn K0 (wn * hn))) (nI (bestL (ccF K0 (wn * hn)) 1 4)) (bz (stN wn hn q0 T0 K0 (wn * hn))) (nI (allN K0 (wn * hn)))) i)), (0, .ref m0), (4, .ref q_11), (5, .int 9)]) hx hb dX2_digest_127 hl (k := 5) rfl (nI_1 i) (by decide) rfl (fun ls hl => ?_)
        refine lv_goto (tgt := 103) hx hb dX2_digest_130 (by decide) ?_
        exact ih_103 (i + 1) (by omega)  _ _ _ hP hD hS (lv_sub hl [3, 1, 4, 5, 0] rfl)
  exact loop_103 9 0 (by omega)  _ _ _ hP hD hS (lv_sub hl [5, 3, 2, 1, 0] rfl)
