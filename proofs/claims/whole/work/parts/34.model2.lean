abbrev rmX2_spread : Room := { frames := 0, cells := 0, slots := 0, locals := 0 }
set_option maxRecDepth 20000 in
theorem iX2_spread_X2 : ∀ w ∈ wsX20, w ∈ wsX2_spread := fun w h => (goodIn_r (big := wsX2_spread) wsX20 [7, 8, 9, 10, 11, 12, 13, 14, 15, 16, 17, 18, 19, 20] (by decide +kernel) (by decide +kernel) w h).1
set_option maxHeartbeats 4000000 in
set_option maxRecDepth 100000 in
theorem m_X2_spread (l : Launch) (dC : Nat → ClassId) (dI : Nat → Nat → Nat) (cI cZ cJ cD : ClassId) (m0 : Nat) (a1 : Nat) (a2 : Nat) (a3 : Nat) (a4 : Nat) (a5 : Nat) (a6 : Nat) (a7 : Nat) (a8 : Nat) (th : Int32) (wn : Nat) (hn : Nat) (q0 : Nat) (wv : Int32) (K0 : Nat → Nat) (NX : Nat → Int32) (T0 : Nat → Bool) (KP : Nat → Int32) (RG : Nat → Int32) (SZ : Nat → Int32) (LN : Nat → Int32) (R0 : Nat → Nat) (M : Nat) (c0 : Nat) (g : gok wn hn) (hK4 : ∀ c, K0 c ≤ 4) (hc : c0 < wn * hn) (hM : M < 25) (hz : ∀ c, cmp wn hn K0 c0 c = true → R0 c = 0) : zV l (dC, dI) (wT cI cZ cJ cD) yX2_spread wsX2_spread rmX2_spread [(m0, .inr (2, [.int th, .int (nI wn), .int (nI hn), .int (nI q0), .int wv, .ref a1, .ref a2, .ref a3, .ref a4, .ref a5, .ref a6, .ref a7, .ref a8, .int (nI M)])), (a1, .inl (cI, 25, .inl (kI K0))), (a2, .inl (cI, 25, .inl NX)), (a3, .inl (cZ, 25, .inl (zB T0))), (a4, .inl (cI, 100, .inl (bI wn hn))), (a5, .inl (cI, 25, .inl KP)), (a6, .inl (cI, 25, .inl (zfill (kI R0) RG (wn * hn)))), (a7, .inl (cI, 26, .inl SZ)), (a8, .inl (cI, 25, .inl LN))] [.ref m0, .int (nI c0)] (fun (u : (Nat → Int32)) => [(m0, .inr (2, [.int th, .int (nI wn), .int (nI hn), .int (nI q0), .int wv, .ref a1, .ref a2, .ref a3, .ref a4, .ref a5, .ref a6, .ref a7, .ref a8, .int (nI (M + 1))])), (a1, .inl (cI, 25, .inl (kI K0))), (a2, .inl (cI, 25, .inl NX)), (a3, .inl (cZ, 25, .inl (zB T0))), (a4, .inl (cI, 100, .inl (bI wn hn))), (a5, .inl (cI, 25, .inl KP)), (a6, .inl (cI, 25, .inl (zfill (kI (mr (cmp wn hn K0 c0) (M + 1) R0)) RG (wn * hn)))), (a7, .inl (cI, 26, .inl (upd SZ (M + 1) (nI (rsz wn hn K0 c0))))), (a8, .inl (cI, 25, .inl u))]) (fun (u : (Nat → Int32)) => True) := by
  intro sz
  refine Met.ofW (cc := cX2_spread) (maxL := 6) (ret := none) (by decide) rfl ?_
  intro p e s m args below meth c s₁ B hml hv
  obtain ⟨ha, hsz, hP, hK, hD0, hN⟩ := hv
  have hx := B.exec
  have hb := B.bytes
  have hr := B.returns
  have hts := atoms_spec (ws := wsX2_spread) B.pre
  have hown : s.vm.findClass RX2 = some m.cls := findClass_of_methodNamed B.named
  have hlocks := B.notSynchronized
  subst hsz
  have hD := hD0.self (sz := s.heap.size)
  generalize hAe : va_A [(m0, .inr (2, [.int th, .int (nI wn), .int (nI hn), .int (nI q0), .int wv, .ref a1, .ref a2, .ref a3, .ref a4, .ref a5, .ref a6, .ref a7, .ref a8, .int (nI M)])), (a1, .inl (cI, 25, .inl (kI K0))), (a2, .inl (cI, 25, .inl NX)), (a3, .inl (cZ, 25, .inl (zB T0))), (a4, .inl (cI, 100, .inl (bI wn hn))), (a5, .inl (cI, 25, .inl KP)), (a6, .inl (cI, 25, .inl (zfill (kI R0) RG (wn * hn)))), (a7, .inl (cI, 26, .inl SZ)), (a8, .inl (cI, 25, .inl LN))] s.heap.size = A at hD ⊢
  have hA : ∀ q : Nat, s.heap.size ≤ q → A q := fun q h => by rw [← hAe]; exact Or.inr h
  have hS : va_S A s.heap s.heap [] := va_S.rf
  generalize hQ : MQ below (va_Qv (fun (u : (Nat → Int32)) => True) (fun u t => va_P (dC, dI) vwCl ((fun (u : (Nat → Int32)) => [(m0, .inr (2, [.int th, .int (nI wn), .int (nI hn), .int (nI q0), .int wv, .ref a1, .ref a2, .ref a3, .ref a4, .ref a5, .ref a6, .ref a7, .ref a8, .int (nI (M + 1))])), (a1, .inl (cI, 25, .inl (kI K0))), (a2, .inl (cI, 25, .inl NX)), (a3, .inl (cZ, 25, .inl (zB T0))), (a4, .inl (cI, 100, .inl (bI wn hn))), (a5, .inl (cI, 25, .inl KP)), (a6, .inl (cI, 25, .inl (zfill (kI (mr (cmp wn hn K0 c0) (M + 1) R0)) RG (wn * hn)))), (a7, .inl (cI, 26, .inl (upd SZ (M + 1) (nI (rsz wn hn K0 c0))))), (a8, .inl (cI, 25, .inl u))]) u) t.heap) A) args s 0 0 A = Q
  have F9 : CallFix p m c cX2_spread 6 s args wsX2_spread RX2 := ⟨hx, hb, hml, hown, hts⟩
  obtain ⟨g1, g2, g3, g4⟩ := id g
  have g5 := wh_le g
  have g6 := wh_pos g
  refine z_entry (R := rmX2_spread) ha (Nat.le_of_ble_eq_true rfl) (fun ls hl => ?_)
  have hl : lv_has ls 6 [(0, .ref m0), (1, .int (nI c0))] := hl
  refine lv_aload_n hx hb dX2_spread_0 rfl (lv_at hl 0 rfl) ?_
  refine lv_dup hx hb dX2_spread_1 rfl ?_
  refine va_get (D := (dC, dI)) (ci := 2) (v := .int (nI M)) (C := RX2) (T := TX2) (N := 14) hx hb hts iX2_spread_X2 hown hK hP 0 rfl rfl 13 (by decide) (hts (.fieldLink RX2 90 "ColourTideModel" "many" "I") (List.mem_of_getElem? (i := 1) rfl)) (fun _ h9 => h9) rfl dX2_spread_2 ?_
  refine lv_iconst (v := 1) hx hb dX2_spread_5 (by decide) ?_
  refine lv_iadd hx hb dX2_spread_6 ?_
  refine z_topi (y := nI (M + 1)) (nI_add M 1) ?_
  refine va_put (D := (dC, dI)) (ci := 2) (v := .int (nI (M + 1))) (ty := .int) (C := RX2) (T := TX2) (N := 14) hx hb hts iX2_spread_X2 tyX2 tyX2_ok nmX2 hown hK hP hD hS 0 rfl rfl 13 (by decide) (hts (.fieldLink RX2 90 "ColourTideModel" "many" "I") (List.mem_of_getElem? (i := 1) rfl)) (fun _ h9 => h9) rfl (by decide +kernel) rfl rfl (Nat.le_of_ble_eq_true rfl) dX2_spread_7 (fun H locs hP hD hS => ?_)
  have hP : va_P (dC, dI) vwCl [(m0, .inr (2, [.int th, .int (nI wn), .int (nI hn), .int (nI q0), .int wv, .ref a1, .ref a2, .ref a3, .ref a4, .ref a5, .ref a6, .ref a7, .ref a8, .int (nI (M + 1))])), (a1, .inl (cI, 25, .inl (kI K0))), (a2, .inl (cI, 25, .inl NX)), (a3, .inl (cZ, 25, .inl (zB T0))), (a4, .inl (cI, 100, .inl (bI wn hn))), (a5, .inl (cI, 25, .inl KP)), (a6, .inl (cI, 25, .inl (zfill (kI R0) RG (wn * hn)))), (a7, .inl (cI, 26, .inl SZ)), (a8, .inl (cI, 25, .inl LN))] H := hP
  have hD : va_D A [(m0, .inr (2, [.int th, .int (nI wn), .int (nI hn), .int (nI q0), .int wv, .ref a1, .ref a2, .ref a3, .ref a4, .ref a5, .ref a6, .ref a7, .ref a8, .int (nI (M + 1))])), (a1, .inl (cI, 25, .inl (kI K0))), (a2, .inl (cI, 25, .inl NX)), (a3, .inl (cZ, 25, .inl (zB T0))), (a4, .inl (cI, 100, .inl (bI wn hn))), (a5, .inl (cI, 25, .inl KP)), (a6, .inl (cI, 25, .inl (zfill (kI R0) RG (wn * hn)))), (a7, .inl (cI, 26, .inl SZ)), (a8, .inl (cI, 25, .inl LN))] := hD
  refine lv_aload_n hx hb dX2_spread_10 rfl (lv_at hl 0 rfl) ?_
  refine va_get (D := (dC, dI)) (ci := 2) (v := .ref a6) (C := RX2) (T := TX2) (N := 14) hx hb hts iX2_spread_X2 hown hK hP 0 rfl rfl 10 (by decide) (hts (.fieldLink RX2 30 "ColourTideModel" "regions" "[I") (List.mem_of_getElem? (i := 2) rfl)) (fun _ h9 => h9) rfl dX2_spread_11 ?_
  refine lv_iload_n hx hb dX2_spread_14 rfl (lv_at hl 1 rfl) ?_
  refine lv_aload_n hx hb dX2_spread_15 rfl (lv_at hl 0 rfl) ?_
  refine va_get (D := (dC, dI)) (ci := 2) (v := .int (nI (M + 1))) (C := RX2) (T := TX2) (N := 14) hx hb hts iX2_spread_X2 hown hK hP 0 rfl rfl 13 (by decide) (hts (.fieldLink RX2 90 "ColourTideModel" "many" "I") (List.mem_of_getElem? (i := 1) rfl)) (fun _ h9 => h9) rfl dX2_spread_16 ?_
  refine z_iast hx hb hK hP hD hS 6 0 rfl rfl c0 (rfl) (by omega) (by decide) dX2_spread_19 (fun H locs hP hD hS => ?_)
  have hP : va_P (dC, dI) vwCl [(m0, .inr (2, [.int th, .int (nI wn), .int (nI hn), .int (nI q0), .int wv, .ref a1, .ref a2, .ref a3, .ref a4, .ref a5, .ref a6, .ref a7, .ref a8, .int (nI (M + 1))])), (a1, .inl (cI, 25, .inl (kI K0))), (a2, .inl (cI, 25, .inl NX)), (a3, .inl (cZ, 25, .inl (zB T0))), (a4, .inl (cI, 100, .inl (bI wn hn))), (a5, .inl (cI, 25, .inl KP)), (a6, .inl (cI, 25, .inl (upd (zfill (kI R0) RG (wn * hn)) c0 (nI (M + 1))))), (a7, .inl (cI, 26, .inl SZ)), (a8, .inl (cI, 25, .inl LN))] H := hP
  have hD : va_D A [(m0, .inr (2, [.int th, .int (nI wn), .int (nI hn), .int (nI q0), .int wv, .ref a1, .ref a2, .ref a3, .ref a4, .ref a5, .ref a6, .ref a7, .ref a8, .int (nI (M + 1))])), (a1, .inl (cI, 25, .inl (kI K0))), (a2, .inl (cI, 25, .inl NX)), (a3, .inl (cZ, 25, .inl (zB T0))), (a4, .inl (cI, 100, .inl (bI wn hn))), (a5, .inl (cI, 25, .inl KP)), (a6, .inl (cI, 25, .inl (upd (zfill (kI R0) RG (wn * hn)) c0 (nI (M + 1))))), (a7, .inl (cI, 26, .inl SZ)), (a8, .inl (cI, 25, .inl LN))] := hD
  have e_19 : upd (zfill (kI R0) RG (wn * hn)) c0 (nI (M + 1)) = zfill (kI (mr (fun d => decide (d = c0)) (M + 1) R0)) RG (wn * hn) := upd_mr0 hc
  rw [e_19] at hP hD
  refine lv_aload_n hx hb dX2_spread_20 rfl (lv_at hl 0 rfl) ?_
  refine va_get (D := (dC, dI)) (ci := 2) (v := .ref a8) (C := RX2) (T := TX2) (N := 14) hx hb hts iX2_spread_X2 hown hK hP 0 rfl rfl 12 (by decide) (hts (.fieldLink RX2 36 "ColourTideModel" "line" "[I") (List.mem_of_getElem? (i := 3) rfl)) (fun _ h9 => h9) rfl dX2_spread_21 ?_
  refine lv_iconst (v := 0) hx hb dX2_spread_24 (by decide) ?_
  refine lv_iload_n hx hb dX2_spread_25 rfl (lv_at hl 1 rfl) ?_
  refine z_iast hx hb hK hP hD hS 8 0 rfl rfl 0 (rfl) (by omega) (by decide) dX2_spread_26 (fun H locs hP hD hS => ?_)
  have hP : va_P (dC, dI) vwCl [(m0, .inr (2, [.int th, .int (nI wn), .int (nI hn), .int (nI q0), .int wv, .ref a1, .ref a2, .ref a3, .ref a4, .ref a5, .ref a6, .ref a7, .ref a8, .int (nI (M + 1))])), (a1, .inl (cI, 25, .inl (kI K0))), (a2, .inl (cI, 25, .inl NX)), (a3, .inl (cZ, 25, .inl (zB T0))), (a4, .inl (cI, 100, .inl (bI wn hn))), (a5, .inl (cI, 25, .inl KP)), (a6, .inl (cI, 25, .inl (zfill (kI (mr (fun d => decide (d = c0)) (M + 1) R0)) RG (wn * hn)))), (a7, .inl (cI, 26, .inl SZ)), (a8, .inl (cI, 25, .inl (upd LN 0 (nI c0))))] H := hP
  have hD : va_D A [(m0, .inr (2, [.int th, .int (nI wn), .int (nI hn), .int (nI q0), .int wv, .ref a1, .ref a2, .ref a3, .ref a4, .ref a5, .ref a6, .ref a7, .ref a8, .int (nI (M + 1))])), (a1, .inl (cI, 25, .inl (kI K0))), (a2, .inl (cI, 25, .inl NX)), (a3, .inl (cZ, 25, .inl (zB T0))), (a4, .inl (cI, 100, .inl (bI wn hn))), (a5, .inl (cI, 25, .inl KP)), (a6, .inl (cI, 25, .inl (zfill (kI (mr (fun d => decide (d = c0)) (M + 1) R0)) RG (wn * hn)))), (a7, .inl (cI, 26, .inl SZ)), (a8, .inl (cI, 25, .inl (upd LN 0 (nI c0))))] := hD
  have e_26 : upd LN 0 (nI c0) = zfill (kI (fun _ => c0)) LN 1 := upd_line0
  rw [e_26] at hP hD
  refine lv_iconst (v := 1) hx hb dX2_spread_27 (by decide) ?_
  refine lv_istore_n (lv' := [(2, .int 1), (0, .ref m0), (1, .int (nI c0))]) hx hb dX2_spread_28 rfl hl (by decide) rfl (fun ls hl => ?_)
  refine lv_iconst (v := 0) hx hb dX2_spread_29 (by decide) ?_
  refine lv_istore_n (lv' := [(3, .int 0), (2, .int 1), (0, .ref m0), (1, .int (nI c0))]) hx hb dX2_spread_30 rfl hl (by decide) rfl (fun ls hl => ?_)
  have loop_31 : ∀ (n : Nat) (k9 : Nat) (L9 : Nat) (S9 : Nat → Bool) (A9 : Nat → Nat) (hkn : k9 + n = 25) (I1 : SpI wn hn K0 c0 S9 A9 L9 k9 0) (I2 : k9 ≤ L9) (I3 : L9 ≤ 25) (H : Heap) (locs : List Loc) (ls : Array Slot) (hP : va_P (dC, dI) vwCl [(m0, .inr (2, [.int th, .int (nI wn), .int (nI hn), .int (nI q0), .int wv, .ref a1, .ref a2, .ref a3, .ref a4, .ref a5, .ref a6, .ref a7, .ref a8, .int (nI (M + 1))])), (a1, .inl (cI, 25, .inl (kI K0))), (a2, .inl (cI, 25, .inl NX)), (a3, .inl (cZ, 25, .inl (zB T0))), (a4, .inl (cI, 100, .inl (bI wn hn))), (a5, .inl (cI, 25, .inl KP)), (a6, .inl (cI, 25, .inl (zfill (kI (mr S9 (M + 1) R0)) RG (wn * hn)))), (a7, .inl (cI, 26, .inl SZ)), (a8, .inl (cI, 25, .inl (zfill (kI A9) LN L9)))] H) (hD : va_D A [(m0, .inr (2, [.int th, .int (nI wn), .int (nI hn), .int (nI q0), .int wv, .ref a1, .ref a2, .ref a3, .ref a4, .ref a5, .ref a6, .ref a7, .ref a8, .int (nI (M + 1))])), (a1, .inl (cI, 25, .inl (kI K0))), (a2, .inl (cI, 25, .inl NX)), (a3, .inl (cZ, 25, .inl (zB T0))), (a4, .inl (cI, 100, .inl (bI wn hn))), (a5, .inl (cI, 25, .inl KP)), (a6, .inl (cI, 25, .inl (zfill (kI (mr S9 (M + 1) R0)) RG (wn * hn)))), (a7, .inl (cI, 26, .inl SZ)), (a8, .inl (cI, 25, .inl (zfill (kI A9) LN L9)))]) (hS : va_S A s.heap H locs) (hl : lv_has ls 6 [(0, .ref m0), (1, .int (nI c0)), (2, .int (nI L9)), (3, .int (nI k9))]), W p l e rmX2_spread s m args below meth c H locs 0 0 Q (F0 m 31 ls []) := by
    intro n
    induction n with
    | zero =>
      intro k9 L9 S9 A9 hkn I1 I2 I3 H locs ls hP hD hS hl
      refine lv_iload_n hx hb dX2_spread_31 rfl (lv_at hl 3 rfl) ?_
      refine lv_iload_n hx hb dX2_spread_32 rfl (lv_at hl 2 rfl) ?_
      refine lv_icmp_ge (tgt := 132) hx hb dX2_spread_33 (by decide) (fun c_33 => ?_) (fun c_33 => ?_)
      · skip
        have n_33 := zc_le_t (a := L9) (b := k9) (by omega) (by omega) c_33
        have ek : k9 = L9 := by omega
        have I7 : SpI wn hn K0 c0 S9 A9 L9 L9 0 := by rw [ek] at I1; exact I1
        have eS := sp_end I7
        have eL := sp_size I7
        refine lv_aload_n hx hb dX2_spread_132 rfl (lv_at hl 0 rfl) ?_
        refine va_get (D := (dC, dI)) (ci := 2) (v := .ref a7) (C := RX2) (T := TX2) (N := 14) hx hb hts iX2_spread_X2 hown hK hP 0 rfl rfl 11 (by decide) (hts (.fieldLink RX2 33 "ColourTideModel" "sizes" "[I") (List.mem_of_getElem? (i := 6) rfl)) (fun _ h9 => h9) rfl dX2_spread_133 ?_
        refine lv_aload_n hx hb dX2_spread_136 rfl (lv_at hl 0 rfl) ?_
        refine va_get (D := (dC, dI)) (ci := 2) (v := .int (nI (M + 1))) (C := RX2) (T := TX2) (N := 14) hx hb hts iX2_spread_X2 hown hK hP 0 rfl rfl 13 (by decide) (hts (.fieldLink RX2 90 "ColourTideModel" "many" "I") (List.mem_of_getElem? (i := 1) rfl)) (fun _ h9 => h9) rfl dX2_spread_137 ?_
        refine lv_iload_n hx hb dX2_spread_140 rfl (lv_at hl 2 rfl) ?_
        refine z_iast hx hb hK hP hD hS 7 0 rfl rfl (M + 1) (rfl) (by omega) (by decide) dX2_spread_141 (fun H locs hP hD hS => ?_)
        have hP : va_P (dC, dI) vwCl [(m0, .inr (2, [.int th, .int (nI wn), .int (nI hn), .int (nI q0), .int wv, .ref a1, .ref a2, .ref a3, .ref a4, .ref a5, .ref a6, .ref a7, .ref a8, .int (nI (M + 1))])), (a1, .inl (cI, 25, .inl (kI K0))), (a2, .inl (cI, 25, .inl NX)), (a3, .inl (cZ, 25, .inl (zB T0))), (a4, .inl (cI, 100, .inl (bI wn hn))), (a5, .inl (cI, 25, .inl KP)), (a6, .inl (cI, 25, .inl (zfill (kI (mr S9 (M + 1) R0)) RG (wn * hn)))), (a7, .inl (cI, 26, .inl (upd SZ (M + 1) (nI L9)))), (a8, .inl (cI, 25, .inl (zfill (kI A9) LN L9)))] H := hP
        have hD : va_D A [(m0, .inr (2, [.int th, .int (nI wn), .int (nI hn), .int (nI q0), .int wv, .ref a1, .ref a2, .ref a3, .ref a4, .ref a5, .ref a6, .ref a7, .ref a8, .int (nI (M + 1))])), (a1, .inl (cI, 25, .inl (kI K0))), (a2, .inl (cI, 25, .inl NX)), (a3, .inl (cZ, 25, .inl (zB T0))), (a4, .inl (cI, 100, .inl (bI wn hn))), (a5, .inl (cI, 25, .inl KP)), (a6, .inl (cI, 25, .inl (zfill (kI (mr S9 (M + 1) R0)) RG (wn * hn)))), (a7, .inl (cI, 26, .inl (upd SZ (M + 1) (nI L9)))), (a8, .inl (cI, 25, .inl (zfill (kI A9) LN L9)))] := hD
        have e_141 : upd SZ (M + 1) (nI L9) = upd SZ (M + 1) (nI (rsz wn hn K0 c0)) := by rw [eL]
        rw [e_141] at hP hD
        have hP := z_ren hP 6 rfl (zfill (kI (mr (cmp wn hn K0 c0) (M + 1) R0)) RG (wn * hn)) (fun j hj => by rw [eS])
        have hP : va_P (dC, dI) vwCl [(m0, .inr (2, [.int th, .int (nI wn), .int (nI hn), .int (nI q0), .int wv, .ref a1, .ref a2, .ref a3, .ref a4, .ref a5, .ref a6, .ref a7, .ref a8, .int (nI (M + 1))])), (a1, .inl (cI, 25, .inl (kI K0))), (a2, .inl (cI, 25, .inl NX)), (a3, .inl (cZ, 25, .inl (zB T0))), (a4, .inl (cI, 100, .inl (bI wn hn))), (a5, .inl (cI, 25, .inl KP)), (a6, .inl (cI, 25, .inl (zfill (kI (mr (cmp wn hn K0 c0) (M + 1) R0)) RG (wn * hn)))), (a7, .inl (cI, 26, .inl (upd SZ (M + 1) (nI (rsz wn hn K0 c0))))), (a8, .inl (cI, 25, .inl (zfill (kI A9) LN L9)))] H := hP
        rw [← hQ]
        exact z_vret (W1 := (fun (u : (Nat → Int32)) => [(m0, .inr (2, [.int th, .int (nI wn), .int (nI hn), .int (nI q0), .int wv, .ref a1, .ref a2, .ref a3, .ref a4, .ref a5, .ref a6, .ref a7, .ref a8, .int (nI (M + 1))])), (a1, .inl (cI, 25, .inl (kI K0))), (a2, .inl (cI, 25, .inl NX)), (a3, .inl (cZ, 25, .inl (zB T0))), (a4, .inl (cI, 100, .inl (bI wn hn))), (a5, .inl (cI, 25, .inl KP)), (a6, .inl (cI, 25, .inl (zfill (kI (mr (cmp wn hn K0 c0) (M + 1) R0)) RG (wn * hn)))), (a7, .inl (cI, 26, .inl (upd SZ (M + 1) (nI (rsz wn hn K0 c0))))), (a8, .inl (cI, 25, .inl u))])) hx hb hr hlocks hP hS (zfill (kI A9) LN L9) (rfl) (trivial) dX2_spread_142
      · skip
        have n_33 := zc_le_f (a := L9) (b := k9) (by omega) (by omega) c_33
        exact absurd n_33 (by omega)
    | succ n ih_31 =>
      intro k9 L9 S9 A9 hkn I1 I2 I3 H locs ls hP hD hS hl
      refine lv_iload_n hx hb dX2_spread_31 rfl (lv_at hl 3 rfl) ?_
      refine lv_iload_n hx hb dX2_spread_32 rfl (lv_at hl 2 rfl) ?_
      refine lv_icmp_ge (tgt := 132) hx hb dX2_spread_33 (by decide) (fun c_33 => ?_) (fun c_33 => ?_)
      · skip
        have n_33 := zc_le_t (a := L9) (b := k9) (by omega) (by omega) c_33
        have ek : k9 = L9 := by omega
        have I7 : SpI wn hn K0 c0 S9 A9 L9 L9 0 := by rw [ek] at I1; exact I1
        have eS := sp_end I7
        have eL := sp_size I7
        refine lv_aload_n hx hb dX2_spread_132 rfl (lv_at hl 0 rfl) ?_
        refine va_get (D := (dC, dI)) (ci := 2) (v := .ref a7) (C := RX2) (T := TX2) (N := 14) hx hb hts iX2_spread_X2 hown hK hP 0 rfl rfl 11 (by decide) (hts (.fieldLink RX2 33 "ColourTideModel" "sizes" "[I") (List.mem_of_getElem? (i := 6) rfl)) (fun _ h9 => h9) rfl dX2_spread_133 ?_
        refine lv_aload_n hx hb dX2_spread_136 rfl (lv_at hl 0 rfl) ?_
        refine va_get (D := (dC, dI)) (ci := 2) (v := .int (nI (M + 1))) (C := RX2) (T := TX2) (N := 14) hx hb hts iX2_spread_X2 hown hK hP 0 rfl rfl 13 (by decide) (hts (.fieldLink RX2 90 "ColourTideModel" "many" "I") (List.mem_of_getElem? (i := 1) rfl)) (fun _ h9 => h9) rfl dX2_spread_137 ?_
        refine lv_iload_n hx hb dX2_spread_140 rfl (lv_at hl 2 rfl) ?_
        refine z_iast hx hb hK hP hD hS 7 0 rfl rfl (M + 1) (rfl) (by omega) (by decide) dX2_spread_141 (fun H locs hP hD hS => ?_)
        have hP : va_P (dC, dI) vwCl [(m0, .inr (2, [.int th, .int (nI wn), .int (nI hn), .int (nI q0), .int wv, .ref a1, .ref a2, .ref a3, .ref a4, .ref a5, .ref a6, .ref a7, .ref a8, .int (nI (M + 1))])), (a1, .inl (cI, 25, .inl (kI K0))), (a2, .inl (cI, 25, .inl NX)), (a3, .inl (cZ, 25, .inl (zB T0))), (a4, .inl (cI, 100, .inl (bI wn hn))), (a5, .inl (cI, 25, .inl KP)), (a6, .inl (cI, 25, .inl (zfill (kI (mr S9 (M + 1) R0)) RG (wn * hn)))), (a7, .inl (cI, 26, .inl (upd SZ (M + 1) (nI L9)))), (a8, .inl (cI, 25, .inl (zfill (kI A9) LN L9)))] H := hP
        have hD : va_D A [(m0, .inr (2, [.int th, .int (nI wn), .int (nI hn), .int (nI q0), .int wv, .ref a1, .ref a2, .ref a3, .ref a4, .ref a5, .ref a6, .ref a7, .ref a8, .int (nI (M + 1))])), (a1, .inl (cI, 25, .inl (kI K0))), (a2, .inl (cI, 25, .inl NX)), (a3, .inl (cZ, 25, .inl (zB T0))), (a4, .inl (cI, 100, .inl (bI wn hn))), (a5, .inl (cI, 25, .inl KP)), (a6, .inl (cI, 25, .inl (zfill (kI (mr S9 (M + 1) R0)) RG (wn * hn)))), (a7, .inl (cI, 26, .inl (upd SZ (M + 1) (nI L9)))), (a8, .inl (cI, 25, .inl (zfill (kI A9) LN L9)))] := hD
        have e_141 : upd SZ (M + 1) (nI L9) = upd SZ (M + 1) (nI (rsz wn hn K0 c0)) := by rw [eL]
        rw [e_141] at hP hD
        have hP := z_ren hP 6 rfl (zfill (kI (mr (cmp wn hn K0 c0) (M + 1) R0)) RG (wn * hn)) (fun j hj => by rw [eS])
        have hP : va_P (dC, dI) vwCl [(m0, .inr (2, [.int th, .int (nI wn), .int (nI hn), .int (nI q0), .int wv, .ref a1, .ref a2, .ref a3, .ref a4, .ref a5, .ref a6, .ref a7, .ref a8, .int (nI (M + 1))])), (a1, .inl (cI, 25, .inl (kI K0))), (a2, .inl (cI, 25, .inl NX)), (a3, .inl (cZ, 25, .inl (zB T0))), (a4, .inl (cI, 100, .inl (bI wn hn))), (a5, .inl (cI, 25, .inl KP)), (a6, .inl (cI, 25, .inl (zfill (kI (mr (cmp wn hn K0 c0) (M + 1) R0)) RG (wn * hn)))), (a7, .inl (cI, 26, .inl (upd SZ (M + 1) (nI (rsz wn hn K0 c0))))), (a8, .inl (cI, 25, .inl (zfill (kI A9) LN L9)))] H := hP
        rw [← hQ]
        exact z_vret (W1 := (fun (u : (Nat → Int32)) => [(m0, .inr (2, [.int th, .int (nI wn), .int (nI hn), .int (nI q0), .int wv, .ref a1, .ref a2, .ref a3, .ref a4, .ref a5, .ref a6, .ref a7, .ref a8, .int (nI (M + 1))])), (a1, .inl (cI, 25, .inl (kI K0))), (a2, .inl (cI, 25, .inl NX)), (a3, .inl (cZ, 25, .inl (zB T0))), (a4, .inl (cI, 100, .inl (bI wn hn))), (a5, .inl (cI, 25, .inl KP)), (a6, .inl (cI, 25, .inl (zfill (kI (mr (cmp wn hn K0 c0) (M + 1) R0)) RG (wn * hn)))), (a7, .inl (cI, 26, .inl (upd SZ (M + 1) (nI (rsz wn hn K0 c0))))), (a8, .inl (cI, 25, .inl u))])) hx hb hr hlocks hP hS (zfill (kI A9) LN L9) (rfl) (trivial) dX2_spread_142
      · skip
        have n_33 := zc_le_f (a := L9) (b := k9) (by omega) (by omega) c_33
        refine lv_iconst (v := 0) hx hb dX2_spread_36 (by decide) ?_
        refine lv_istore (lv' := [(4, .int 0), (0, .ref m0), (1, .int (nI c0)), (2, .int (nI L9)), (3, .int (nI k9))]) hx hb dX2_spread_37 hl (by decide) rfl (fun ls hl => ?_)
        have loop_39 : ∀ (n : Nat) (s9 : Nat) (L8 : Nat) (S8 : Nat → Bool) (A8 : Nat → Nat) (hkn : s9 + n = 4) (I4 : SpI wn hn K0 c0 S8 A8 L8 k9 s9) (I5 : k9 < L8) (I6 : L8 ≤ 25) (H : Heap) (locs : List Loc) (ls : Array Slot) (hP : va_P (dC, dI) vwCl [(m0, .inr (2, [.int th, .int (nI wn), .int (nI hn), .int (nI q0), .int wv, .ref a1, .ref a2, .ref a3, .ref a4, .ref a5, .ref a6, .ref a7, .ref a8, .int (nI (M + 1))])), (a1, .inl (cI, 25, .inl (kI K0))), (a2, .inl (cI, 25, .inl NX)), (a3, .inl (cZ, 25, .inl (zB T0))), (a4, .inl (cI, 100, .inl (bI wn hn))), (a5, .inl (cI, 25, .inl KP)), (a6, .inl (cI, 25, .inl (zfill (kI (mr S8 (M + 1) R0)) RG (wn * hn)))), (a7, .inl (cI, 26, .inl SZ)), (a8, .inl (cI, 25, .inl (zfill (kI A8) LN L8)))] H) (hD : va_D A [(m0, .inr (2, [.int th, .int (nI wn), .int (nI hn), .int (nI q0), .int wv, .ref a1, .ref a2, .ref a3, .ref a4, .ref a5, .ref a6, .ref a7, .ref a8, .int (nI (M + 1))])), (a1, .inl (cI, 25, .inl (kI K0))), (a2, .inl (cI, 25, .inl NX)), (a3, .inl (cZ, 25, .inl (zB T0))), (a4, .inl (cI, 100, .inl (bI wn hn))), (a5, .inl (cI, 25, .inl KP)), (a6, .inl (cI, 25, .inl (zfill (kI (mr S8 (M + 1) R0)) RG (wn * hn)))), (a7, .inl (cI, 26, .inl SZ)), (a8, .inl (cI, 25, .inl (zfill (kI A8) LN L8)))]) (hS : va_S A s.heap H locs) (hl : lv_has ls 6 [(0, .ref m0), (1, .int (nI c0)), (2, .int (nI L8)), (3, .int (nI k9)), (4, .int (nI s9))]), W p l e rmX2_spread s m args below meth c H locs 0 0 Q (F0 m 39 ls []) := by
          intro n
          induction n with
          | zero =>
            intro s9 L8 S8 A8 hkn I4 I5 I6 H locs ls hP hD hS hl
            refine lv_iload hx hb dX2_spread_39 (lv_at hl 4 rfl) ?_
            refine lv_iconst (v := 4) hx hb dX2_spread_41 (by decide) ?_
            refine lv_icmp_ge (tgt := 126) hx hb dX2_spread_42 (by decide) (fun c_42 => ?_) (fun c_42 => ?_)
            · skip
              have n_42 := zc_le_t (a := 4) (b := s9) (by omega) (by omega) c_42
              refine lv_iinc (v := nI (k9 + 1)) (lv' := [(3, .int (nI (k9 + 1))), (0, .ref m0), (1, .int (nI c0)), (2, .int (nI L8)), (4, .int (nI s9))]) hx hb dX2_spread_126 hl (k := 3) rfl (nI_1 k9) (by decide) rfl (fun ls hl => ?_)
              refine lv_goto (tgt := 31) hx hb dX2_spread_129 (by decide) ?_
              exact ih_31 (k9 + 1) L8 S8 A8 (by omega) (sp_next (by have e : s9 = 4 := (by omega); rw [e] at I4; exact I4)) (by omega) (I6) _ _ _ hP hD hS (lv_sub hl [1, 2, 3, 0] rfl)
            · skip
              have n_42 := zc_le_f (a := 4) (b := s9) (by omega) (by omega) c_42
              exact absurd n_42 (by omega)
          | succ n ih_39 =>
            intro s9 L8 S8 A8 hkn I4 I5 I6 H locs ls hP hD hS hl
            refine lv_iload hx hb dX2_spread_39 (lv_at hl 4 rfl) ?_
            refine lv_iconst (v := 4) hx hb dX2_spread_41 (by decide) ?_
            refine lv_icmp_ge (tgt := 126) hx hb dX2_spread_42 (by decide) (fun c_42 => ?_) (fun c_42 => ?_)
            · skip
              have n_42 := zc_le_t (a := 4) (b := s9) (by omega) (by omega) c_42
              exact absurd n_42 (by omega)
            · skip
              have n_42 := zc_le_f (a := 4) (b := s9) (by omega) (by omega) c_42
              have hAk := (I4.2.2.1 k9 I5).1
              refine lv_aload_n hx hb dX2_spread_45 rfl (lv_at hl 0 rfl) ?_
              refine va_get (D := (dC, dI)) (ci := 2) (v := .ref a4) (C := RX2) (T := TX2) (N := 14) hx hb hts iX2_spread_X2 hown hK hP 0 rfl rfl 8 (by decide) (hts (.fieldLink RX2 24 "ColourTideModel" "beside" "[I") (List.mem_of_getElem? (i := 4) rfl)) (fun _ h9 => h9) rfl dX2_spread_46 ?_
              refine lv_iconst (v := 4) hx hb dX2_spread_49 (by decide) ?_
              refine lv_aload_n hx hb dX2_spread_50 rfl (lv_at hl 0 rfl) ?_
              refine va_get (D := (dC, dI)) (ci := 2) (v := .ref a8) (C := RX2) (T := TX2) (N := 14) hx hb hts iX2_spread_X2 hown hK hP 0 rfl rfl 12 (by decide) (hts (.fieldLink RX2 36 "ColourTideModel" "line" "[I") (List.mem_of_getElem? (i := 3) rfl)) (fun _ h9 => h9) rfl dX2_spread_51 ?_
              refine lv_iload_n hx hb dX2_spread_54 rfl (lv_at hl 3 rfl) ?_
              refine z_iald hx hb hK hP 8 0 rfl rfl k9 (rfl) (by omega) (by decide) dX2_spread_55 ?_
              refine z_topi (y := nI (A8 k9)) (zfill_in I5) ?_
              refine lv_imul hx hb dX2_spread_56 ?_
              refine z_topi (y := nI (4 * (A8 k9))) (pk_mul 4 (A8 k9)) ?_
              refine lv_iload hx hb dX2_spread_57 (lv_at hl 4 rfl) ?_
              refine lv_iadd hx hb dX2_spread_59 ?_
              refine z_topi (y := nI ((4 * (A8 k9)) + s9)) (nI_add (4 * (A8 k9)) s9) ?_
              refine z_iald hx hb hK hP 4 0 rfl rfl ((4 * (A8 k9)) + s9) (rfl) (by omega) (by decide) dX2_spread_60 ?_
              refine z_topi (y := bV (nbr wn hn (A8 k9) s9)) (bI_at wn hn n_42) ?_
              refine lv_istore (lv' := [(5, .int (bV (nbr wn hn (A8 k9) s9))), (0, .ref m0), (1, .int (nI c0)), (2, .int (nI L8)), (3, .int (nI k9)), (4, .int (nI s9))]) hx hb dX2_spread_61 hl (by decide) rfl (fun ls hl => ?_)
              refine lv_iload hx hb dX2_spread_63 (lv_at hl 0 rfl) ?_
              refine lv_iconst (v := (-1)) hx hb dX2_spread_65 (by decide) ?_
              refine lv_icmp_eq (tgt := 120) hx hb dX2_spread_66 (by decide) (fun c_66 => ?_) (fun c_66 => ?_)
              · skip
                refine lv_iinc (v := nI (s9 + 1)) (lv' := [(4, .int (nI (s9 + 1))), (5, .int (bV (nbr wn hn (A8 k9) s9))), (0, .ref m0), (1, .int (nI c0)), (2, .int (nI L8)), (3, .int (nI k9))]) hx hb dX2_spread_120 hl (k := 5) rfl (nI_1 s9) (by decide) rfl (fun ls hl => ?_)
                refine lv_goto (tgt := 39) hx hb dX2_spread_123 (by decide) ?_
                exact ih_39 (s9 + 1) L8 S8 A8 (by omega) (sp_skip I4 (fun v e _ => by rw [bV_none c_66 (fun d e => by have := nbr_lt hAk e; omega)] at e; cases e)) (I5) (I6) _ _ _ hP hD hS (lv_sub hl [2, 3, 4, 5, 0] rfl)
              · skip
                obtain ⟨d, ed⟩ := bV_some c_66
                have hd := nbr_lt hAk ed
                refine lv_aload_n hx hb dX2_spread_69 rfl (lv_at hl 1 rfl) ?_
                refine va_get (D := (dC, dI)) (ci := 2) (v := .ref a6) (C := RX2) (T := TX2) (N := 14) hx hb hts iX2_spread_X2 hown hK hP 0 rfl rfl 10 (by decide) (hts (.fieldLink RX2 30 "ColourTideModel" "regions" "[I") (List.mem_of_getElem? (i := 2) rfl)) (fun _ h9 => h9) rfl dX2_spread_70 ?_
                refine lv_iload hx hb dX2_spread_73 (lv_at hl 0 rfl) ?_
                refine z_iald hx hb hK hP 6 0 rfl rfl d (by rw [ed]; rfl) (by omega) (by decide) dX2_spread_75 ?_
                refine z_topi (y := nI (mr S8 (M + 1) R0 d)) (zfill_in hd) ?_
                refine lv_if_ne (tgt := 120) hx hb dX2_spread_76 (by decide) (fun c_76 => ?_) (fun c_76 => ?_)
                · skip
                  refine lv_iinc (v := nI (s9 + 1)) (lv' := [(4, .int (nI (s9 + 1))), (5, .int (bV (nbr wn hn (A8 k9) s9))), (0, .ref m0), (1, .int (nI c0)), (2, .int (nI L8)), (3, .int (nI k9))]) hx hb dX2_spread_120 hl (k := 5) rfl (nI_1 s9) (by decide) rfl (fun ls hl => ?_)
                  refine lv_goto (tgt := 39) hx hb dX2_spread_123 (by decide) ?_
                  exact ih_39 (s9 + 1) L8 S8 A8 (by omega) (sp_skip I4 (fun v e q => by rw [ed] at e; cases e; exact sp_marked I4 I5 n_42 ed hz (mr_nz c_76) q)) (I5) (I6) _ _ _ hP hD hS (lv_sub hl [2, 3, 4, 5, 0] rfl)
                · skip
                  refine lv_aload_n hx hb dX2_spread_79 rfl (lv_at hl 1 rfl) ?_
                  refine va_get (D := (dC, dI)) (ci := 2) (v := .ref a1) (C := RX2) (T := TX2) (N := 14) hx hb hts iX2_spread_X2 hown hK hP 0 rfl rfl 5 (by decide) (hts (.fieldLink RX2 13 "ColourTideModel" "colours" "[I") (List.mem_of_getElem? (i := 5) rfl)) (fun _ h9 => h9) rfl dX2_spread_80 ?_
                  refine lv_iload hx hb dX2_spread_83 (lv_at hl 0 rfl) ?_
                  refine z_iald hx hb hK hP 1 0 rfl rfl d (by rw [ed]; rfl) (by omega) (by decide) dX2_spread_85 ?_
                  refine z_topi (y := nI (K0 d)) (rfl) ?_
                  refine lv_aload_n hx hb dX2_spread_86 rfl (lv_at hl 1 rfl) ?_
                  refine va_get (D := (dC, dI)) (ci := 2) (v := .ref a1) (C := RX2) (T := TX2) (N := 14) hx hb hts iX2_spread_X2 hown hK hP 0 rfl rfl 5 (by decide) (hts (.fieldLink RX2 13 "ColourTideModel" "colours" "[I") (List.mem_of_getElem? (i := 5) rfl)) (fun _ h9 => h9) rfl dX2_spread_87 ?_
                  refine lv_iload_n hx hb dX2_spread_90 rfl (lv_at hl 2 rfl) ?_
                  refine z_iald hx hb hK hP 1 0 rfl rfl c0 (rfl) (by omega) (by decide) dX2_spread_91 ?_
                  refine z_topi (y := nI (K0 c0)) (rfl) ?_
                  refine lv_icmp_eq (tgt := 98) hx hb dX2_spread_92 (by decide) (fun c_92 => ?_) (fun c_92 => ?_)
                  · skip
                    have n_92 := zc_eq_t (a := (K0 d)) (b := (K0 c0)) (by have := hK4 d; have := hK4 c0; omega) (by have := hK4 d; have := hK4 c0; omega) c_92
                    have hS0 := mr_z (by omega) (by omega) c_76
                    have hroom := sp_room I4 hd hS0
                    refine lv_aload_n hx hb dX2_spread_98 rfl (lv_at hl 1 rfl) ?_
                    refine va_get (D := (dC, dI)) (ci := 2) (v := .ref a6) (C := RX2) (T := TX2) (N := 14) hx hb hts iX2_spread_X2 hown hK hP 0 rfl rfl 10 (by decide) (hts (.fieldLink RX2 30 "ColourTideModel" "regions" "[I") (List.mem_of_getElem? (i := 2) rfl)) (fun _ h9 => h9) rfl dX2_spread_99 ?_
                    refine lv_iload hx hb dX2_spread_102 (lv_at hl 0 rfl) ?_
                    refine lv_aload_n hx hb dX2_spread_104 rfl (lv_at hl 1 rfl) ?_
                    refine va_get (D := (dC, dI)) (ci := 2) (v := .int (nI (M + 1))) (C := RX2) (T := TX2) (N := 14) hx hb hts iX2_spread_X2 hown hK hP 0 rfl rfl 13 (by decide) (hts (.fieldLink RX2 90 "ColourTideModel" "many" "I") (List.mem_of_getElem? (i := 1) rfl)) (fun _ h9 => h9) rfl dX2_spread_105 ?_
                    refine z_iast hx hb hK hP hD hS 6 0 rfl rfl d (by rw [ed]; rfl) (by omega) (by decide) dX2_spread_108 (fun H locs hP hD hS => ?_)
                    have hP : va_P (dC, dI) vwCl [(m0, .inr (2, [.int th, .int (nI wn), .int (nI hn), .int (nI q0), .int wv, .ref a1, .ref a2, .ref a3, .ref a4, .ref a5, .ref a6, .ref a7, .ref a8, .int (nI (M + 1))])), (a1, .inl (cI, 25, .inl (kI K0))), (a2, .inl (cI, 25, .inl NX)), (a3, .inl (cZ, 25, .inl (zB T0))), (a4, .inl (cI, 100, .inl (bI wn hn))), (a5, .inl (cI, 25, .inl KP)), (a6, .inl (cI, 25, .inl (upd (zfill (kI (mr S8 (M + 1) R0)) RG (wn * hn)) d (nI (M + 1))))), (a7, .inl (cI, 26, .inl SZ)), (a8, .inl (cI, 25, .inl (zfill (kI A8) LN L8)))] H := hP
                    have hD : va_D A [(m0, .inr (2, [.int th, .int (nI wn), .int (nI hn), .int (nI q0), .int wv, .ref a1, .ref a2, .ref a3, .ref a4, .ref a5, .ref a6, .ref a7, .ref a8, .int (nI (M + 1))])), (a1, .inl (cI, 25, .inl (kI K0))), (a2, .inl (cI, 25, .inl NX)), (a3, .inl (cZ, 25, .inl (zB T0))), (a4, .inl (cI, 100, .inl (bI wn hn))), (a5, .inl (cI, 25, .inl KP)), (a6, .inl (cI, 25, .inl (upd (zfill (kI (mr S8 (M + 1) R0)) RG (wn * hn)) d (nI (M + 1))))), (a7, .inl (cI, 26, .inl SZ)), (a8, .inl (cI, 25, .inl (zfill (kI A8) LN L8)))] := hD
                    have e_108 : upd (zfill (kI (mr S8 (M + 1) R0)) RG (wn * hn)) d (nI (M + 1)) = zfill (kI (mr (sA S8 d) (M + 1) R0)) RG (wn * hn) := upd_mr hd
                    rw [e_108] at hP hD
                    refine lv_aload_n hx hb dX2_spread_109 rfl (lv_at hl 1 rfl) ?_
                    refine va_get (D := (dC, dI)) (ci := 2) (v := .ref a8) (C := RX2) (T := TX2) (N := 14) hx hb hts iX2_spread_X2 hown hK hP 0 rfl rfl 12 (by decide) (hts (.fieldLink RX2 36 "ColourTideModel" "line" "[I") (List.mem_of_getElem? (i := 3) rfl)) (fun _ h9 => h9) rfl dX2_spread_110 ?_
                    refine lv_iload_n hx hb dX2_spread_113 rfl (lv_at hl 3 rfl) ?_
                    refine lv_iload hx hb dX2_spread_114 (lv_at hl 0 rfl) ?_
                    refine z_iast hx hb hK hP hD hS 8 0 rfl rfl L8 (rfl) (by omega) (by decide) dX2_spread_116 (fun H locs hP hD hS => ?_)
                    have hP : va_P (dC, dI) vwCl [(m0, .inr (2, [.int th, .int (nI wn), .int (nI hn), .int (nI q0), .int wv, .ref a1, .ref a2, .ref a3, .ref a4, .ref a5, .ref a6, .ref a7, .ref a8, .int (nI (M + 1))])), (a1, .inl (cI, 25, .inl (kI K0))), (a2, .inl (cI, 25, .inl NX)), (a3, .inl (cZ, 25, .inl (zB T0))), (a4, .inl (cI, 100, .inl (bI wn hn))), (a5, .inl (cI, 25, .inl KP)), (a6, .inl (cI, 25, .inl (zfill (kI (mr (sA S8 d) (M + 1) R0)) RG (wn * hn)))), (a7, .inl (cI, 26, .inl SZ)), (a8, .inl (cI, 25, .inl (upd (zfill (kI A8) LN L8) L8 (bV (nbr wn hn (A8 k9) s9)))))] H := hP
                    have hD : va_D A [(m0, .inr (2, [.int th, .int (nI wn), .int (nI hn), .int (nI q0), .int wv, .ref a1, .ref a2, .ref a3, .ref a4, .ref a5, .ref a6, .ref a7, .ref a8, .int (nI (M + 1))])), (a1, .inl (cI, 25, .inl (kI K0))), (a2, .inl (cI, 25, .inl NX)), (a3, .inl (cZ, 25, .inl (zB T0))), (a4, .inl (cI, 100, .inl (bI wn hn))), (a5, .inl (cI, 25, .inl KP)), (a6, .inl (cI, 25, .inl (zfill (kI (mr (sA S8 d) (M + 1) R0)) RG (wn * hn)))), (a7, .inl (cI, 26, .inl SZ)), (a8, .inl (cI, 25, .inl (upd (zfill (kI A8) LN L8) L8 (bV (nbr wn hn (A8 k9) s9)))))] := hD
                    have e_116 : upd (zfill (kI A8) LN L8) L8 (bV (nbr wn hn (A8 k9) s9)) = zfill (kI (uA A8 L8 d)) LN (L8 + 1) := by rw [ed]; exact upd_line
                    rw [e_116] at hP hD
                    refine lv_iinc (v := nI (L8 + 1)) (lv' := [(2, .int (nI (L8 + 1))), (5, .int (bV (nbr wn hn (A8 k9) s9))), (0, .ref m0), (1, .int (nI c0)), (3, .int (nI k9)), (4, .int (nI s9))]) hx hb dX2_spread_117 hl (k := 3) rfl (nI_1 L8) (by decide) rfl (fun ls hl => ?_)
                    refine lv_iinc (v := nI (s9 + 1)) (lv' := [(4, .int (nI (s9 + 1))), (2, .int (nI (L8 + 1))), (5, .int (bV (nbr wn hn (A8 k9) s9))), (0, .ref m0), (1, .int (nI c0)), (3, .int (nI k9))]) hx hb dX2_spread_120 hl (k := 5) rfl (nI_1 s9) (by decide) rfl (fun ls hl => ?_)
                    refine lv_goto (tgt := 39) hx hb dX2_spread_123 (by decide) ?_
                    exact ih_39 (s9 + 1) (L8 + 1) (sA S8 d) (uA A8 L8 d) (by omega) (sp_add I4 I5 n_42 ed n_92 hS0) (by omega) (by omega) _ _ _ hP hD hS (lv_sub hl [3, 4, 1, 5, 0] rfl)
                  · skip
                    have n_92 := zc_eq_f (a := (K0 d)) (b := (K0 c0)) (by have := hK4 d; have := hK4 c0; omega) (by have := hK4 d; have := hK4 c0; omega) c_92
                    refine lv_goto (tgt := 120) hx hb dX2_spread_95 (by decide) ?_
                    refine lv_iinc (v := nI (s9 + 1)) (lv' := [(4, .int (nI (s9 + 1))), (5, .int (bV (nbr wn hn (A8 k9) s9))), (0, .ref m0), (1, .int (nI c0)), (2, .int (nI L8)), (3, .int (nI k9))]) hx hb dX2_spread_120 hl (k := 5) rfl (nI_1 s9) (by decide) rfl (fun ls hl => ?_)
                    refine lv_goto (tgt := 39) hx hb dX2_spread_123 (by decide) ?_
                    exact ih_39 (s9 + 1) L8 S8 A8 (by omega) (sp_skip I4 (fun v e q => by rw [ed] at e; cases e; exact absurd q n_92)) (I5) (I6) _ _ _ hP hD hS (lv_sub hl [2, 3, 4, 5, 0] rfl)
        exact loop_39 4 0 L9 S9 A9 (by omega) (I1) (n_33) (I3) _ _ _ hP hD hS (lv_sub hl [1, 2, 3, 4, 0] rfl)
  exact loop_31 25 0 1 (fun d => decide (d = c0)) (fun _ => c0) (by omega) (sp_0 hc) (by omega) (by omega) _ _ _ hP hD hS (lv_sub hl [2, 3, 1, 0] rfl)
abbrev rmX2_hang : Room := { frames := 1, cells := 0, slots := 0, locals := 25 }
set_option maxRecDepth 20000 in
theorem iX2_hang_X2 : ∀ w ∈ wsX20, w ∈ wsX2_hang := fun w h => (goodIn_r (big := wsX2_hang) wsX20 [18, 19, 20, 21, 22, 23, 24, 25, 26, 27, 28, 29, 30, 31] (by decide +kernel) (by decide +kernel) w h).1
set_option maxHeartbeats 4000000 in
set_option maxRecDepth 100000 in
theorem m_X2_hang (l : Launch) (dC : Nat → ClassId) (dI : Nat → Nat → Nat) (cI cZ cJ cD : ClassId) (m0 : Nat) (a1 : Nat) (a2 : Nat) (a3 : Nat) (a4 : Nat) (a5 : Nat) (a6 : Nat) (a7 : Nat) (a8 : Nat) (th : Int32) (wn : Nat) (hn : Nat) (q0 : Nat) (wv : Int32) (K0 : Nat → Nat) (NX : Nat → Int32) (T0 : Nat → Bool) (KP : Nat → Int32) (RG : Nat → Int32) (SZ : Nat → Int32) (LN : Nat → Int32) (mn : Int32) (g : gok wn hn) (hK4 : ∀ c, K0 c ≤ 4) : zV l (dC, dI) (wT cI cZ cJ cD) yX2_hang wsX2_hang rmX2_hang [(m0, .inr (2, [.int th, .int (nI wn), .int (nI hn), .int (nI q0), .int wv, .ref a1, .ref a2, .ref a3, .ref a4, .ref a5, .ref a6, .ref a7, .ref a8, .int mn])), (a1, .inl (cI, 25, .inl (kI K0))), (a2, .inl (cI, 25, .inl NX)), (a3, .inl (cZ, 25, .inl (zB T0))), (a4, .inl (cI, 100, .inl (bI wn hn))), (a5, .inl (cI, 25, .inl KP)), (a6, .inl (cI, 25, .inl RG)), (a7, .inl (cI, 26, .inl SZ)), (a8, .inl (cI, 25, .inl LN))] [.ref m0] (fun (u : (Nat → Nat) × (Nat → Int32) × (Nat → Int32) × Int32) => [(m0, .inr (2, [.int th, .int (nI wn), .int (nI hn), .int (nI q0), .int wv, .ref a1, .ref a2, .ref a3, .ref a4, .ref a5, .ref a6, .ref a7, .ref a8, .int u.2.2.2])), (a1, .inl (cI, 25, .inl (kI K0))), (a2, .inl (cI, 25, .inl NX)), (a3, .inl (cZ, 25, .inl (zB T0))), (a4, .inl (cI, 100, .inl (bI wn hn))), (a5, .inl (cI, 25, .inl KP)), (a6, .inl (cI, 25, .inl (zfill (kI u.1) RG (wn * hn)))), (a7, .inl (cI, 26, .inl u.2.1)), (a8, .inl (cI, 25, .inl u.2.2.1))]) (fun (u : (Nat → Nat) × (Nat → Int32) × (Nat → Int32) × Int32) => HgP wn hn K0 u.1 u.2.1) := by
  intro sz
  refine Met.ofW (cc := cX2_hang) (maxL := 2) (ret := none) (by decide) rfl ?_
  intro p e s m args below meth c s₁ B hml hv
  obtain ⟨ha, hsz, hP, hK, hD0, hN⟩ := hv
  have hx := B.exec
  have hb := B.bytes
  have hr := B.returns
  have hts := atoms_spec (ws := wsX2_hang) B.pre
  have hown : s.vm.findClass RX2 = some m.cls := findClass_of_methodNamed B.named
  have hlocks := B.notSynchronized
  subst hsz
  have hD := hD0.self (sz := s.heap.size)
  generalize hAe : va_A [(m0, .inr (2, [.int th, .int (nI wn), .int (nI hn), .int (nI q0), .int wv, .ref a1, .ref a2, .ref a3, .ref a4, .ref a5, .ref a6, .ref a7, .ref a8, .int mn])), (a1, .inl (cI, 25, .inl (kI K0))), (a2, .inl (cI, 25, .inl NX)), (a3, .inl (cZ, 25, .inl (zB T0))), (a4, .inl (cI, 100, .inl (bI wn hn))), (a5, .inl (cI, 25, .inl KP)), (a6, .inl (cI, 25, .inl RG)), (a7, .inl (cI, 26, .inl SZ)), (a8, .inl (cI, 25, .inl LN))] s.heap.size = A at hD ⊢
  have hA : ∀ q : Nat, s.heap.size ≤ q → A q := fun q h => by rw [← hAe]; exact Or.inr h
  have hS : va_S A s.heap s.heap [] := va_S.rf
  generalize hQ : MQ below (va_Qv (fun (u : (Nat → Nat) × (Nat → Int32) × (Nat → Int32) × Int32) => HgP wn hn K0 u.1 u.2.1) (fun u t => va_P (dC, dI) vwCl ((fun (u : (Nat → Nat) × (Nat → Int32) × (Nat → Int32) × Int32) => [(m0, .inr (2, [.int th, .int (nI wn), .int (nI hn), .int (nI q0), .int wv, .ref a1, .ref a2, .ref a3, .ref a4, .ref a5, .ref a6, .ref a7, .ref a8, .int u.2.2.2])), (a1, .inl (cI, 25, .inl (kI K0))), (a2, .inl (cI, 25, .inl NX)), (a3, .inl (cZ, 25, .inl (zB T0))), (a4, .inl (cI, 100, .inl (bI wn hn))), (a5, .inl (cI, 25, .inl KP)), (a6, .inl (cI, 25, .inl (zfill (kI u.1) RG (wn * hn)))), (a7, .inl (cI, 26, .inl u.2.1)), (a8, .inl (cI, 25, .inl u.2.2.1))]) u) t.heap) A) args s 0 0 A = Q
  have F9 : CallFix p m c cX2_hang 2 s args wsX2_hang RX2 := ⟨hx, hb, hml, hown, hts⟩
  obtain ⟨g1, g2, g3, g4⟩ := id g
  have g5 := wh_le g
  have g6 := wh_pos g
  refine z_entry (R := rmX2_hang) ha (Nat.le_of_ble_eq_true rfl) (fun ls hl => ?_)
  have hl : lv_has ls 2 [(0, .ref m0)] := hl
  refine lv_aload_n hx hb dX2_hang_0 rfl (lv_at hl 0 rfl) ?_
  refine lv_iconst (v := 0) hx hb dX2_hang_1 (by decide) ?_
  refine va_put (D := (dC, dI)) (ci := 2) (v := .int 0) (ty := .int) (C := RX2) (T := TX2) (N := 14) hx hb hts iX2_hang_X2 tyX2 tyX2_ok nmX2 hown hK hP hD hS 0 rfl rfl 13 (by decide) (hts (.fieldLink RX2 90 "ColourTideModel" "many" "I") (List.mem_of_getElem? (i := 1) rfl)) (fun _ h9 => h9) rfl (by decide +kernel) rfl rfl (Nat.le_of_ble_eq_true rfl) dX2_hang_2 (fun H locs hP hD hS => ?_)
  have hP : va_P (dC, dI) vwCl [(m0, .inr (2, [.int th, .int (nI wn), .int (nI hn), .int (nI q0), .int wv, .ref a1, .ref a2, .ref a3, .ref a4, .ref a5, .ref a6, .ref a7, .ref a8, .int 0])), (a1, .inl (cI, 25, .inl (kI K0))), (a2, .inl (cI, 25, .inl NX)), (a3, .inl (cZ, 25, .inl (zB T0))), (a4, .inl (cI, 100, .inl (bI wn hn))), (a5, .inl (cI, 25, .inl KP)), (a6, .inl (cI, 25, .inl RG)), (a7, .inl (cI, 26, .inl SZ)), (a8, .inl (cI, 25, .inl LN))] H := hP
  have hD : va_D A [(m0, .inr (2, [.int th, .int (nI wn), .int (nI hn), .int (nI q0), .int wv, .ref a1, .ref a2, .ref a3, .ref a4, .ref a5, .ref a6, .ref a7, .ref a8, .int 0])), (a1, .inl (cI, 25, .inl (kI K0))), (a2, .inl (cI, 25, .inl NX)), (a3, .inl (cZ, 25, .inl (zB T0))), (a4, .inl (cI, 100, .inl (bI wn hn))), (a5, .inl (cI, 25, .inl KP)), (a6, .inl (cI, 25, .inl RG)), (a7, .inl (cI, 26, .inl SZ)), (a8, .inl (cI, 25, .inl LN))] := hD
  refine lv_iconst (v := 0) hx hb dX2_hang_5 (by decide) ?_
  refine lv_istore_n (lv' := [(1, .int 0), (0, .ref m0)]) hx hb dX2_hang_6 rfl hl (by decide) rfl (fun ls hl => ?_)
  have loop_7 : ∀ (n : Nat) (i : Nat) (hkn : i + n = wn * hn) (H : Heap) (locs : List Loc) (ls : Array Slot) (hP : va_P (dC, dI) vwCl [(m0, .inr (2, [.int th, .int (nI wn), .int (nI hn), .int (nI q0), .int wv, .ref a1, .ref a2, .ref a3, .ref a4, .ref a5, .ref a6, .ref a7, .ref a8, .int 0])), (a1, .inl (cI, 25, .inl (kI K0))), (a2, .inl (cI, 25, .inl NX)), (a3, .inl (cZ, 25, .inl (zB T0))), (a4, .inl (cI, 100, .inl (bI wn hn))), (a5, .inl (cI, 25, .inl KP)), (a6, .inl (cI, 25, .inl (zfill (kI (fun _ => 0)) RG i))), (a7, .inl (cI, 26, .inl SZ)), (a8, .inl (cI, 25, .inl LN))] H) (hD : va_D A [(m0, .inr (2, [.int th, .int (nI wn), .int (nI hn), .int (nI q0), .int wv, .ref a1, .ref a2, .ref a3, .ref a4, .ref a5, .ref a6, .ref a7, .ref a8, .int 0])), (a1, .inl (cI, 25, .inl (kI K0))), (a2, .inl (cI, 25, .inl NX)), (a3, .inl (cZ, 25, .inl (zB T0))), (a4, .inl (cI, 100, .inl (bI wn hn))), (a5, .inl (cI, 25, .inl KP)), (a6, .inl (cI, 25, .inl (zfill (kI (fun _ => 0)) RG i))), (a7, .inl (cI, 26, .inl SZ)), (a8, .inl (cI, 25, .inl LN))]) (hS : va_S A s.heap H locs) (hl : lv_has ls 2 [(0, .ref m0), (1, .int (nI i))]), W p l e rmX2_hang s m args below meth c H locs 0 0 Q (F0 m 7 ls []) := by
    intro n
    induction n with
    | zero =>
      intro i hkn  H locs ls hP hD hS hl
      refine lv_iload_n hx hb dX2_hang_7 rfl (lv_at hl 1 rfl) ?_
      refine lv_aload_n hx hb dX2_hang_8 rfl (lv_at hl 0 rfl) ?_
      refine z_callVi (As := []) (rest := [.int (nI i)]) F9 (m_X2_cells l dC dI cI cZ cJ cD m0 a1 a2 a3 a4 a5 a6 a7 a8 th wn hn q0 wv K0 NX T0 KP (zfill (kI (fun _ => 0)) RG i) SZ LN 0 ) (cwV 0 hts gX2_hang_X2_cells rfl rfl rfl (by decide +kernel) ⟨Nat.le_of_ble_eq_true rfl, Nat.le_of_ble_eq_true rfl⟩) hK hN hP hD hS hA [0, 1, 2, 3, 4, 5, 6, 7, 8] rfl rfl (fun _ => rfl) 0 (ci := 2) rfl rfl rfl rfl hl.1 rfl (Nat.le_of_ble_eq_true rfl) dX2_hang_9 ⟨Nat.zero_le _, Nat.zero_le _⟩ (fun r_1 u H locs hp_9 hP hD hS => ?_)
      have hP : va_P (dC, dI) vwCl [(m0, .inr (2, [.int th, .int (nI wn), .int (nI hn), .int (nI q0), .int wv, .ref a1, .ref a2, .ref a3, .ref a4, .ref a5, .ref a6, .ref a7, .ref a8, .int 0])), (a1, .inl (cI, 25, .inl (kI K0))), (a2, .inl (cI, 25, .inl NX)), (a3, .inl (cZ, 25, .inl (zB T0))), (a4, .inl (cI, 100, .inl (bI wn hn))), (a5, .inl (cI, 25, .inl KP)), (a6, .inl (cI, 25, .inl (zfill (kI (fun _ => 0)) RG i))), (a7, .inl (cI, 26, .inl SZ)), (a8, .inl (cI, 25, .inl LN))] H := hP
      have hD : va_D A [(m0, .inr (2, [.int th, .int (nI wn), .int (nI hn), .int (nI q0), .int wv, .ref a1, .ref a2, .ref a3, .ref a4, .ref a5, .ref a6, .ref a7, .ref a8, .int 0])), (a1, .inl (cI, 25, .inl (kI K0))), (a2, .inl (cI, 25, .inl NX)), (a3, .inl (cZ, 25, .inl (zB T0))), (a4, .inl (cI, 100, .inl (bI wn hn))), (a5, .inl (cI, 25, .inl KP)), (a6, .inl (cI, 25, .inl (zfill (kI (fun _ => 0)) RG i))), (a7, .inl (cI, 26, .inl SZ)), (a8, .inl (cI, 25, .inl LN))] := hD
      have hp_9 : r_1 = nI (wn * hn) := hp_9
      refine z_topi (y := nI (wn * hn)) hp_9 ?_
      refine lv_icmp_ge (tgt := 28) hx hb dX2_hang_12 (by decide) (fun c_12 => ?_) (fun c_12 => ?_)
      · skip
        have n_12 := zc_le_t (a := (wn * hn)) (b := i) (by omega) (by omega) c_12
        have ei : i = wn * hn := by omega
        refine lv_iconst (v := 0) hx hb dX2_hang_28 (by decide) ?_
        refine lv_istore_n (lv' := [(1, .int 0), (0, .ref m0)]) hx hb dX2_hang_29 rfl hl (by decide) rfl (fun ls hl => ?_)
        have loop_30 : ∀ (n : Nat) (i2 : Nat) (R0 : Nat → Nat) (Z0 : Nat → Int32) (LN0 : Nat → Int32) (hkn : i2 + n = wn * hn) (J1 : HgI wn hn K0 R0 Z0 i2) (H : Heap) (locs : List Loc) (ls : Array Slot) (hP : va_P (dC, dI) vwCl [(m0, .inr (2, [.int th, .int (nI wn), .int (nI hn), .int (nI q0), .int wv, .ref a1, .ref a2, .ref a3, .ref a4, .ref a5, .ref a6, .ref a7, .ref a8, .int (nI (ct (isF wn hn K0) i2))])), (a1, .inl (cI, 25, .inl (kI K0))), (a2, .inl (cI, 25, .inl NX)), (a3, .inl (cZ, 25, .inl (zB T0))), (a4, .inl (cI, 100, .inl (bI wn hn))), (a5, .inl (cI, 25, .inl KP)), (a6, .inl (cI, 25, .inl (zfill (kI R0) RG (wn * hn)))), (a7, .inl (cI, 26, .inl Z0)), (a8, .inl (cI, 25, .inl LN0))] H) (hD : va_D A [(m0, .inr (2, [.int th, .int (nI wn), .int (nI hn), .int (nI q0), .int wv, .ref a1, .ref a2, .ref a3, .ref a4, .ref a5, .ref a6, .ref a7, .ref a8, .int (nI (ct (isF wn hn K0) i2))])), (a1, .inl (cI, 25, .inl (kI K0))), (a2, .inl (cI, 25, .inl NX)), (a3, .inl (cZ, 25, .inl (zB T0))), (a4, .inl (cI, 100, .inl (bI wn hn))), (a5, .inl (cI, 25, .inl KP)), (a6, .inl (cI, 25, .inl (zfill (kI R0) RG (wn * hn)))), (a7, .inl (cI, 26, .inl Z0)), (a8, .inl (cI, 25, .inl LN0))]) (hS : va_S A s.heap H locs) (hl : lv_has ls 2 [(0, .ref m0), (1, .int (nI i2))]), W p l e rmX2_hang s m args below meth c H locs 0 0 Q (F0 m 30 ls []) := by
          intro n
          induction n with
          | zero =>
            intro i2 R0 Z0 LN0 hkn J1 H locs ls hP hD hS hl
            refine lv_iload_n hx hb dX2_hang_30 rfl (lv_at hl 1 rfl) ?_
            refine lv_aload_n hx hb dX2_hang_31 rfl (lv_at hl 0 rfl) ?_
            refine z_callVi (As := []) (rest := [.int (nI i2)]) F9 (m_X2_cells l dC dI cI cZ cJ cD m0 a1 a2 a3 a4 a5 a6 a7 a8 th wn hn q0 wv K0 NX T0 KP (zfill (kI R0) RG (wn * hn)) Z0 LN0 (nI (ct (isF wn hn K0) i2)) ) (cwV 0 hts gX2_hang_X2_cells rfl rfl rfl (by decide +kernel) ⟨Nat.le_of_ble_eq_true rfl, Nat.le_of_ble_eq_true rfl⟩) hK hN hP hD hS hA [0, 1, 2, 3, 4, 5, 6, 7, 8] rfl rfl (fun _ => rfl) 0 (ci := 2) rfl rfl rfl rfl hl.1 rfl (Nat.le_of_ble_eq_true rfl) dX2_hang_32 ⟨Nat.zero_le _, Nat.zero_le _⟩ (fun r_2 u H locs hp_32 hP hD hS => ?_)
            have hP : va_P (dC, dI) vwCl [(m0, .inr (2, [.int th, .int (nI wn), .int (nI hn), .int (nI q0), .int wv, .ref a1, .ref a2, .ref a3, .ref a4, .ref a5, .ref a6, .ref a7, .ref a8, .int (nI (ct (isF wn hn K0) i2))])), (a1, .inl (cI, 25, .inl (kI K0))), (a2, .inl (cI, 25, .inl NX)), (a3, .inl (cZ, 25, .inl (zB T0))), (a4, .inl (cI, 100, .inl (bI wn hn))), (a5, .inl (cI, 25, .inl KP)), (a6, .inl (cI, 25, .inl (zfill (kI R0) RG (wn * hn)))), (a7, .inl (cI, 26, .inl Z0)), (a8, .inl (cI, 25, .inl LN0))] H := hP
            have hD : va_D A [(m0, .inr (2, [.int th, .int (nI wn), .int (nI hn), .int (nI q0), .int wv, .ref a1, .ref a2, .ref a3, .ref a4, .ref a5, .ref a6, .ref a7, .ref a8, .int (nI (ct (isF wn hn K0) i2))])), (a1, .inl (cI, 25, .inl (kI K0))), (a2, .inl (cI, 25, .inl NX)), (a3, .inl (cZ, 25, .inl (zB T0))), (a4, .inl (cI, 100, .inl (bI wn hn))), (a5, .inl (cI, 25, .inl KP)), (a6, .inl (cI, 25, .inl (zfill (kI R0) RG (wn * hn)))), (a7, .inl (cI, 26, .inl Z0)), (a8, .inl (cI, 25, .inl LN0))] := hD
            have hp_32 : r_2 = nI (wn * hn) := hp_32
            refine z_topi (y := nI (wn * hn)) hp_32 ?_
            refine lv_icmp_ge (tgt := 67) hx hb dX2_hang_35 (by decide) (fun c_35 => ?_) (fun c_35 => ?_)
            · skip
              have n_35 := zc_le_t (a := (wn * hn)) (b := i2) (by omega) (by omega) c_35
              rw [← hQ]
              exact z_vret (W1 := (fun (u : (Nat → Nat) × (Nat → Int32) × (Nat → Int32) × Int32) => [(m0, .inr (2, [.int th, .int (nI wn), .int (nI hn), .int (nI q0), .int wv, .ref a1, .ref a2, .ref a3, .ref a4, .ref a5, .ref a6, .ref a7, .ref a8, .int u.2.2.2])), (a1, .inl (cI, 25, .inl (kI K0))), (a2, .inl (cI, 25, .inl NX)), (a3, .inl (cZ, 25, .inl (zB T0))), (a4, .inl (cI, 100, .inl (bI wn hn))), (a5, .inl (cI, 25, .inl KP)), (a6, .inl (cI, 25, .inl (zfill (kI u.1) RG (wn * hn)))), (a7, .inl (cI, 26, .inl u.2.1)), (a8, .inl (cI, 25, .inl u.2.2.1))])) hx hb hr hlocks hP hS (R0, Z0, LN0, nI (ct (isF wn hn K0) i2)) (rfl) (by have ei2 : i2 = wn * hn := (by omega); rw [ei2] at J1; exact hg_end J1) dX2_hang_67
            · skip
              have n_35 := zc_le_f (a := (wn * hn)) (b := i2) (by omega) (by omega) c_35
              exact absurd n_35 (by omega)
          | succ n ih_30 =>
            intro i2 R0 Z0 LN0 hkn J1 H locs ls hP hD hS hl
            refine lv_iload_n hx hb dX2_hang_30 rfl (lv_at hl 1 rfl) ?_
            refine lv_aload_n hx hb dX2_hang_31 rfl (lv_at hl 0 rfl) ?_
            refine z_callVi (As := []) (rest := [.int (nI i2)]) F9 (m_X2_cells l dC dI cI cZ cJ cD m0 a1 a2 a3 a4 a5 a6 a7 a8 th wn hn q0 wv K0 NX T0 KP (zfill (kI R0) RG (wn * hn)) Z0 LN0 (nI (ct (isF wn hn K0) i2)) ) (cwV 0 hts gX2_hang_X2_cells rfl rfl rfl (by decide +kernel) ⟨Nat.le_of_ble_eq_true rfl, Nat.le_of_ble_eq_true rfl⟩) hK hN hP hD hS hA [0, 1, 2, 3, 4, 5, 6, 7, 8] rfl rfl (fun _ => rfl) 0 (ci := 2) rfl rfl rfl rfl hl.1 rfl (Nat.le_of_ble_eq_true rfl) dX2_hang_32 ⟨Nat.zero_le _, Nat.zero_le _⟩ (fun r_3 u H locs hp_32 hP hD hS => ?_)
            have hP : va_P (dC, dI) vwCl [(m0, .inr (2, [.int th, .int (nI wn), .int (nI hn), .int (nI q0), .int wv, .ref a1, .ref a2, .ref a3, .ref a4, .ref a5, .ref a6, .ref a7, .ref a8, .int (nI (ct (isF wn hn K0) i2))])), (a1, .inl (cI, 25, .inl (kI K0))), (a2, .inl (cI, 25, .inl NX)), (a3, .inl (cZ, 25, .inl (zB T0))), (a4, .inl (cI, 100, .inl (bI wn hn))), (a5, .inl (cI, 25, .inl KP)), (a6, .inl (cI, 25, .inl (zfill (kI R0) RG (wn * hn)))), (a7, .inl (cI, 26, .inl Z0)), (a8, .inl (cI, 25, .inl LN0))] H := hP
            have hD : va_D A [(m0, .inr (2, [.int th, .int (nI wn), .int (nI hn), .int (nI q0), .int wv, .ref a1, .ref a2, .ref a3, .ref a4, .ref a5, .ref a6, .ref a7, .ref a8, .int (nI (ct (isF wn hn K0) i2))])), (a1, .inl (cI, 25, .inl (kI K0))), (a2, .inl (cI, 25, .inl NX)), (a3, .inl (cZ, 25, .inl (zB T0))), (a4, .inl (cI, 100, .inl (bI wn hn))), (a5, .inl (cI, 25, .inl KP)), (a6, .inl (cI, 25, .inl (zfill (kI R0) RG (wn * hn)))), (a7, .inl (cI, 26, .inl Z0)), (a8, .inl (cI, 25, .inl LN0))] := hD
            have hp_32 : r_3 = nI (wn * hn) := hp_32
            refine z_topi (y := nI (wn * hn)) hp_32 ?_
            refine lv_icmp_ge (tgt := 67) hx hb dX2_hang_35 (by decide) (fun c_35 => ?_) (fun c_35 => ?_)
            · skip
              have n_35 := zc_le_t (a := (wn * hn)) (b := i2) (by omega) (by omega) c_35
              exact absurd n_35 (by omega)
            · skip
              have n_35 := zc_le_f (a := (wn * hn)) (b := i2) (by omega) (by omega) c_35
              refine lv_aload_n hx hb dX2_hang_38 rfl (lv_at hl 0 rfl) ?_
              refine va_get (D := (dC, dI)) (ci := 2) (v := .ref a1) (C := RX2) (T := TX2) (N := 14) hx hb hts iX2_hang_X2 hown hK hP 0 rfl rfl 5 (by decide) (hts (.fieldLink RX2 13 "ColourTideModel" "colours" "[I") (List.mem_of_getElem? (i := 3) rfl)) (fun _ h9 => h9) rfl dX2_hang_39 ?_
              refine lv_iload_n hx hb dX2_hang_42 rfl (lv_at hl 1 rfl) ?_
              refine z_iald hx hb hK hP 1 0 rfl rfl i2 (rfl) (by omega) (by decide) dX2_hang_43 ?_
              refine z_topi (y := nI (K0 i2)) (rfl) ?_
              refine lv_if_eq (tgt := 61) hx hb dX2_hang_44 (by decide) (fun c_44 => ?_) (fun c_44 => ?_)
              · skip
                have n_44 := zc_eq_t (a := (K0 i2)) (b := 0) (by have := hK4 i2; omega) (by have := hK4 i2; omega) c_44
                refine lv_iinc (v := nI (i2 + 1)) (lv' := [(1, .int (nI (i2 + 1))), (0, .ref m0)]) hx hb dX2_hang_61 hl (k := 1) rfl (nI_1 i2) (by decide) rfl (fun ls hl => ?_)
                refine lv_goto (tgt := 30) hx hb dX2_hang_64 (by decide) ?_
                have hF := hg_no0 (w := wn) (h := hn) n_44
                rw [← isF_0 hF] at hP hD
                exact ih_30 (i2 + 1) R0 Z0 LN0 (by omega) (hg_skip J1 hF) _ _ _ hP hD hS (lv_sub hl [1, 0] rfl)
              · skip
                have n_44 := zc_eq_f (a := (K0 i2)) (b := 0) (by have := hK4 i2; omega) (by have := hK4 i2; omega) c_44
                refine lv_aload_n hx hb dX2_hang_47 rfl (lv_at hl 0 rfl) ?_
                refine va_get (D := (dC, dI)) (ci := 2) (v := .ref a6) (C := RX2) (T := TX2) (N := 14) hx hb hts iX2_hang_X2 hown hK hP 0 rfl rfl 10 (by decide) (hts (.fieldLink RX2 30 "ColourTideModel" "regions" "[I") (List.mem_of_getElem? (i := 2) rfl)) (fun _ h9 => h9) rfl dX2_hang_48 ?_
                refine lv_iload_n hx hb dX2_hang_51 rfl (lv_at hl 1 rfl) ?_
                refine z_iald hx hb hK hP 6 0 rfl rfl i2 (rfl) (by omega) (by decide) dX2_hang_52 ?_
                refine z_topi (y := nI (R0 i2)) (zfill_in n_35) ?_
                refine lv_if_ne (tgt := 61) hx hb dX2_hang_53 (by decide) (fun c_53 => ?_) (fun c_53 => ?_)
                · skip
                  have n_53 := zc_eq_f (a := (R0 i2)) (b := 0) (by have := hg_le J1 n_35 (by omega); omega) (by have := hg_le J1 n_35 (by omega); omega) c_53
                  refine lv_iinc (v := nI (i2 + 1)) (lv' := [(1, .int (nI (i2 + 1))), (0, .ref m0)]) hx hb dX2_hang_61 hl (k := 1) rfl (nI_1 i2) (by decide) rfl (fun ls hl => ?_)
                  refine lv_goto (tgt := 30) hx hb dX2_hang_64 (by decide) ?_
                  have hF := hg_no1 J1 n_35 n_53
                  rw [← isF_0 hF] at hP hD
                  exact ih_30 (i2 + 1) R0 Z0 LN0 (by omega) (hg_skip J1 hF) _ _ _ hP hD hS (lv_sub hl [1, 0] rfl)
                · skip
                  have n_53 := zc_eq_t (a := (R0 i2)) (b := 0) (by have := hg_le J1 n_35 (by omega); omega) (by have := hg_le J1 n_35 (by omega); omega) c_53
                  refine lv_aload_n hx hb dX2_hang_56 rfl (lv_at hl 0 rfl) ?_
                  refine lv_iload_n hx hb dX2_hang_57 rfl (lv_at hl 1 rfl) ?_
                  refine z_callVv (As := [.int (nI i2)]) (rest := []) F9 (m_X2_spread l dC dI cI cZ cJ cD m0 a1 a2 a3 a4 a5 a6 a7 a8 th wn hn q0 wv K0 NX T0 KP RG Z0 LN0 R0 (ct (isF wn hn K0) i2) i2 (g) (hK4) (n_35) (by have := ct_le (isF wn hn K0) i2; omega) (hg_z J1 n_35 n_53)) (cwV 1 hts gX2_hang_X2_spread rfl rfl rfl (by decide +kernel) ⟨Nat.le_of_ble_eq_true rfl, Nat.le_of_ble_eq_true rfl⟩) hK hN hP hD hS hA [0, 1, 2, 3, 4, 5, 6, 7, 8] rfl rfl (fun _ => rfl) 0 (ci := 2) rfl rfl rfl rfl hl.1 rfl (Nat.le_of_ble_eq_true rfl) dX2_hang_58 ⟨Nat.zero_le _, Nat.zero_le _⟩ (fun u H locs hp_58 hP hD hS => ?_)
                  obtain ⟨LNq_5, rfl⟩ : ∃ z, z = u := ⟨_, rfl⟩
                  have hP : va_P (dC, dI) vwCl [(m0, .inr (2, [.int th, .int (nI wn), .int (nI hn), .int (nI q0), .int wv, .ref a1, .ref a2, .ref a3, .ref a4, .ref a5, .ref a6, .ref a7, .ref a8, .int (nI ((ct (isF wn hn K0) i2) + 1))])), (a1, .inl (cI, 25, .inl (kI K0))), (a2, .inl (cI, 25, .inl NX)), (a3, .inl (cZ, 25, .inl (zB T0))), (a4, .inl (cI, 100, .inl (bI wn hn))), (a5, .inl (cI, 25, .inl KP)), (a6, .inl (cI, 25, .inl (zfill (kI (mr (cmp wn hn K0 i2) ((ct (isF wn hn K0) i2) + 1) R0)) RG (wn * hn)))), (a7, .inl (cI, 26, .inl (upd Z0 ((ct (isF wn hn K0) i2) + 1) (nI (rsz wn hn K0 i2))))), (a8, .inl (cI, 25, .inl LNq_5))] H := hP
                  have hD : va_D A [(m0, .inr (2, [.int th, .int (nI wn), .int (nI hn), .int (nI q0), .int wv, .ref a1, .ref a2, .ref a3, .ref a4, .ref a5, .ref a6, .ref a7, .ref a8, .int (nI ((ct (isF wn hn K0) i2) + 1))])), (a1, .inl (cI, 25, .inl (kI K0))), (a2, .inl (cI, 25, .inl NX)), (a3, .inl (cZ, 25, .inl (zB T0))), (a4, .inl (cI, 100, .inl (bI wn hn))), (a5, .inl (cI, 25, .inl KP)), (a6, .inl (cI, 25, .inl (zfill (kI (mr (cmp wn hn K0 i2) ((ct (isF wn hn K0) i2) + 1) R0)) RG (wn * hn)))), (a7, .inl (cI, 26, .inl (upd Z0 ((ct (isF wn hn K0) i2) + 1) (nI (rsz wn hn K0 i2))))), (a8, .inl (cI, 25, .inl LNq_5))] := hD
                  refine lv_iinc (v := nI (i2 + 1)) (lv' := [(1, .int (nI (i2 + 1))), (0, .ref m0)]) hx hb dX2_hang_61 hl (k := 1) rfl (nI_1 i2) (by decide) rfl (fun ls hl => ?_)
                  refine lv_goto (tgt := 30) hx hb dX2_hang_64 (by decide) ?_
                  have hF := hg_new J1 n_35 n_44 n_53
                  rw [← isF_1 hF] at hP hD
                  exact ih_30 (i2 + 1) (mr (cmp wn hn K0 i2) (ct (isF wn hn K0) (i2 + 1)) R0) (upd Z0 (ct (isF wn hn K0) (i2 + 1)) (nI (rsz wn hn K0 i2))) LNq_5 (by omega) (by rw [isF_1 hF]; exact hg_step J1 n_35 hF) _ _ _ hP hD hS (lv_sub hl [1, 0] rfl)
        rw [ei] at hP hD
        exact loop_30 (wn * hn) 0 (fun _ => 0) SZ LN (by omega) (hg_0) _ _ _ hP hD hS (lv_sub hl [1, 0] rfl)
      · skip
        have n_12 := zc_le_f (a := (wn * hn)) (b := i) (by omega) (by omega) c_12
        exact absurd n_12 (by omega)
    | succ n ih_7 =>
      intro i hkn  H locs ls hP hD hS hl
      refine lv_iload_n hx hb dX2_hang_7 rfl (lv_at hl 1 rfl) ?_
      refine lv_aload_n hx hb dX2_hang_8 rfl (lv_at hl 0 rfl) ?_
      refine z_callVi (As := []) (rest := [.int (nI i)]) F9 (m_X2_cells l dC dI cI cZ cJ cD m0 a1 a2 a3 a4 a5 a6 a7 a8 th wn hn q0 wv K0 NX T0 KP (zfill (kI (fun _ => 0)) RG i) SZ LN 0 ) (cwV 0 hts gX2_hang_X2_cells rfl rfl rfl (by decide +kernel) ⟨Nat.le_of_ble_eq_true rfl, Nat.le_of_ble_eq_true rfl⟩) hK hN hP hD hS hA [0, 1, 2, 3, 4, 5, 6, 7, 8] rfl rfl (fun _ => rfl) 0 (ci := 2) rfl rfl rfl rfl hl.1 rfl (Nat.le_of_ble_eq_true rfl) dX2_hang_9 ⟨Nat.zero_le _, Nat.zero_le _⟩ (fun r_6 u H locs hp_9 hP hD hS => ?_)
      have hP : va_P (dC, dI) vwCl [(m0, .inr (2, [.int th, .int (nI wn), .int (nI hn), .int (nI q0), .int wv, .ref a1, .ref a2, .ref a3, .ref a4, .ref a5, .ref a6, .ref a7, .ref a8, .int 0])), (a1, .inl (cI, 25, .inl (kI K0))), (a2, .inl (cI, 25, .inl NX)), (a3, .inl (cZ, 25, .inl (zB T0))), (a4, .inl (cI, 100, .inl (bI wn hn))), (a5, .inl (cI, 25, .inl KP)), (a6, .inl (cI, 25, .inl (zfill (kI (fun _ => 0)) RG i))), (a7, .inl (cI, 26, .inl SZ)), (a8, .inl (cI, 25, .inl LN))] H := hP
      have hD : va_D A [(m0, .inr (2, [.int th, .int (nI wn), .int (nI hn), .int (nI q0), .int wv, .ref a1, .ref a2, .ref a3, .ref a4, .ref a5, .ref a6, .ref a7, .ref a8, .int 0])), (a1, .inl (cI, 25, .inl (kI K0))), (a2, .inl (cI, 25, .inl NX)), (a3, .inl (cZ, 25, .inl (zB T0))), (a4, .inl (cI, 100, .inl (bI wn hn))), (a5, .inl (cI, 25, .inl KP)), (a6, .inl (cI, 25, .inl (zfill (kI (fun _ => 0)) RG i))), (a7, .inl (cI, 26, .inl SZ)), (a8, .inl (cI, 25, .inl LN))] := hD
      have hp_9 : r_6 = nI (wn * hn) := hp_9
      refine z_topi (y := nI (wn * hn)) hp_9 ?_
      refine lv_icmp_ge (tgt := 28) hx hb dX2_hang_12 (by decide) (fun c_12 => ?_) (fun c_12 => ?_)
      · skip
        have n_12 := zc_le_t (a := (wn * hn)) (b := i) (by omega) (by omega) c_12
        exact absurd n_12 (by omega)
      · skip
        have n_12 := zc_le_f (a := (wn * hn)) (b := i) (by omega) (by omega) c_12
        refine lv_aload_n hx hb dX2_hang_15 rfl (lv_at hl 0 rfl) ?_
        refine va_get (D := (dC, dI)) (ci := 2) (v := .ref a6) (C := RX2) (T := TX2) (N := 14) hx hb hts iX2_hang_X2 hown hK hP 0 rfl rfl 10 (by decide) (hts (.fieldLink RX2 30 "ColourTideModel" "regions" "[I") (List.mem_of_getElem? (i := 2) rfl)) (fun _ h9 => h9) rfl dX2_hang_16 ?_
        refine lv_iload_n hx hb dX2_hang_19 rfl (lv_at hl 1 rfl) ?_
        refine lv_iconst (v := 0) hx hb dX2_hang_20 (by decide) ?_
        refine z_iast hx hb hK hP hD hS 6 0 rfl rfl i (rfl) (by omega) (by decide) dX2_hang_21 (fun H locs hP hD hS => ?_)
        have hP : va_P (dC, dI) vwCl [(m0, .inr (2, [.int th, .int (nI wn), .int (nI hn), .int (nI q0), .int wv, .ref a1, .ref a2, .ref a3, .ref a4, .ref a5, .ref a6, .ref a7, .ref a8, .int 0])), (a1, .inl (cI, 25, .inl (kI K0))), (a2, .inl (cI, 25, .inl NX)), (a3, .inl (cZ, 25, .inl (zB T0))), (a4, .inl (cI, 100, .inl (bI wn hn))), (a5, .inl (cI, 25, .inl KP)), (a6, .inl (cI, 25, .inl (upd (zfill (kI (fun _ => 0)) RG i) i 0))), (a7, .inl (cI, 26, .inl SZ)), (a8, .inl (cI, 25, .inl LN))] H := hP
        have hD : va_D A [(m0, .inr (2, [.int th, .int (nI wn), .int (nI hn), .int (nI q0), .int wv, .ref a1, .ref a2, .ref a3, .ref a4, .ref a5, .ref a6, .ref a7, .ref a8, .int 0])), (a1, .inl (cI, 25, .inl (kI K0))), (a2, .inl (cI, 25, .inl NX)), (a3, .inl (cZ, 25, .inl (zB T0))), (a4, .inl (cI, 100, .inl (bI wn hn))), (a5, .inl (cI, 25, .inl KP)), (a6, .inl (cI, 25, .inl (upd (zfill (kI (fun _ => 0)) RG i) i 0))), (a7, .inl (cI, 26, .inl SZ)), (a8, .inl (cI, 25, .inl LN))] := hD
        have e_21 : upd (zfill (kI (fun _ => 0)) RG i) i 0 = zfill (kI (fun _ => 0)) RG (i + 1) := zfill_succ (kI (fun _ => 0)) RG i
        rw [e_21] at hP hD
        refine lv_iinc (v := nI (i + 1)) (lv' := [(1, .int (nI (i + 1))), (0, .ref m0)]) hx hb dX2_hang_22 hl (k := 1) rfl (nI_1 i) (by decide) rfl (fun ls hl => ?_)
        refine lv_goto (tgt := 7) hx hb dX2_hang_25 (by decide) ?_
        exact ih_7 (i + 1) (by omega)  _ _ _ hP hD hS (lv_sub hl [1, 0] rfl)
  rw [← zfill_0 (kI (fun _ => 0)) RG] at hP hD
  exact loop_7 (wn * hn) 0 (by omega)  _ _ _ hP hD hS (lv_sub hl [1, 0] rfl)
abbrev rmX2_sizeOf : Room := { frames := 0, cells := 0, slots := 0, locals := 0 }
set_option maxRecDepth 20000 in
theorem iX2_sizeOf_X2 : ∀ w ∈ wsX20, w ∈ wsX2_sizeOf := fun w h => (goodIn_r (big := wsX2_sizeOf) wsX20 [4, 5, 6, 7, 8, 9, 10, 11, 12, 13, 14, 15, 16, 17] (by decide +kernel) (by decide +kernel) w h).1
set_option maxHeartbeats 4000000 in
set_option maxRecDepth 100000 in
theorem m_X2_sizeOf (l : Launch) (dC : Nat → ClassId) (dI : Nat → Nat → Nat) (cI cZ cJ cD : ClassId) (m0 : Nat) (a1 : Nat) (a2 : Nat) (a3 : Nat) (a4 : Nat) (a5 : Nat) (a6 : Nat) (a7 : Nat) (a8 : Nat) (th : Int32) (wn : Nat) (hn : Nat) (q0 : Nat) (wv : Int32) (K0 : Nat → Nat) (NX : Nat → Int32) (T0 : Nat → Bool) (KP : Nat → Int32) (RG : Nat → Int32) (SZ : Nat → Int32) (LN : Nat → Int32) (mn : Int32) (R0 : Nat → Nat) (c0 : Nat) (g : gok wn hn) (hK4 : ∀ c, K0 c ≤ 4) (hc : c0 < wn * hn) (hPp : HgP wn hn K0 R0 SZ) : zI l (dC, dI) (wT cI cZ cJ cD) yX2_sizeOf wsX2_sizeOf rmX2_sizeOf [(m0, .inr (2, [.int th, .int (nI wn), .int (nI hn), .int (nI q0), .int wv, .ref a1, .ref a2, .ref a3, .ref a4, .ref a5, .ref a6, .ref a7, .ref a8, .int mn])), (a1, .inl (cI, 25, .inl (kI K0))), (a2, .inl (cI, 25, .inl NX)), (a3, .inl (cZ, 25, .inl (zB T0))), (a4, .inl (cI, 100, .inl (bI wn hn))), (a5, .inl (cI, 25, .inl KP)), (a6, .inl (cI, 25, .inl (zfill (kI R0) RG (wn * hn)))), (a7, .inl (cI, 26, .inl SZ)), (a8, .inl (cI, 25, .inl LN))] [.ref m0, .int (nI c0)] (fun (_ : Unit) => [(m0, .inr (2, [.int th, .int (nI wn), .int (nI hn), .int (nI q0), .int wv, .ref a1, .ref a2, .ref a3, .ref a4, .ref a5, .ref a6, .ref a7, .ref a8, .int mn])), (a1, .inl (cI, 25, .inl (kI K0))), (a2, .inl (cI, 25, .inl NX)), (a3, .inl (cZ, 25, .inl (zB T0))), (a4, .inl (cI, 100, .inl (bI wn hn))), (a5, .inl (cI, 25, .inl KP)), (a6, .inl (cI, 25, .inl (zfill (kI R0) RG (wn * hn)))), (a7, .inl (cI, 26, .inl SZ)), (a8, .inl (cI, 25, .inl LN))]) (fun (r : Int32) (_ : Unit) => r = nI (sz0 wn hn K0 c0)) := by
  intro sz
  refine Met.ofW (cc := cX2_sizeOf) (maxL := 2) (ret := (some .int)) (by decide) rfl ?_
  intro p e s m args below meth c s₁ B hml hv
  obtain ⟨ha, hsz, hP, hK, hD0, hN⟩ := hv
  have hx := B.exec
  have hb := B.bytes
  have hr := B.returns
  have hts := atoms_spec (ws := wsX2_sizeOf) B.pre
  have hown : s.vm.findClass RX2 = some m.cls := findClass_of_methodNamed B.named
  have hlocks := B.notSynchronized
  subst hsz
  have hD := hD0.self (sz := s.heap.size)
  generalize hAe : va_A [(m0, .inr (2, [.int th, .int (nI wn), .int (nI hn), .int (nI q0), .int wv, .ref a1, .ref a2, .ref a3, .ref a4, .ref a5, .ref a6, .ref a7, .ref a8, .int mn])), (a1, .inl (cI, 25, .inl (kI K0))), (a2, .inl (cI, 25, .inl NX)), (a3, .inl (cZ, 25, .inl (zB T0))), (a4, .inl (cI, 100, .inl (bI wn hn))), (a5, .inl (cI, 25, .inl KP)), (a6, .inl (cI, 25, .inl (zfill (kI R0) RG (wn * hn)))), (a7, .inl (cI, 26, .inl SZ)), (a8, .inl (cI, 25, .inl LN))] s.heap.size = A at hD ⊢
  have hA : ∀ q : Nat, s.heap.size ≤ q → A q := fun q h => by rw [← hAe]; exact Or.inr h
  have hS : va_S A s.heap s.heap [] := va_S.rf
  generalize hQ : MQ below (va_Qi (fun (r : Int32) (_ : Unit) => r = nI (sz0 wn hn K0 c0)) (fun u t => va_P (dC, dI) vwCl ((fun (_ : Unit) => [(m0, .inr (2, [.int th, .int (nI wn), .int (nI hn), .int (nI q0), .int wv, .ref a1, .ref a2, .ref a3, .ref a4, .ref a5, .ref a6, .ref a7, .ref a8, .int mn])), (a1, .inl (cI, 25, .inl (kI K0))), (a2, .inl (cI, 25, .inl NX)), (a3, .inl (cZ, 25, .inl (zB T0))), (a4, .inl (cI, 100, .inl (bI wn hn))), (a5, .inl (cI, 25, .inl KP)), (a6, .inl (cI, 25, .inl (zfill (kI R0) RG (wn * hn)))), (a7, .inl (cI, 26, .inl SZ)), (a8, .inl (cI, 25, .inl LN))]) u) t.heap) A) args s 0 0 A = Q
  have F9 : CallFix p m c cX2_sizeOf 2 s args wsX2_sizeOf RX2 := ⟨hx, hb, hml, hown, hts⟩
  obtain ⟨g1, g2, g3, g4⟩ := id g
  have g5 := wh_le g
  have g6 := wh_pos g
  refine z_entry (R := rmX2_sizeOf) ha (Nat.le_of_ble_eq_true rfl) (fun ls hl => ?_)
  have hl : lv_has ls 2 [(0, .ref m0), (1, .int (nI c0))] := hl
  refine lv_aload_n hx hb dX2_sizeOf_0 rfl (lv_at hl 0 rfl) ?_
  refine va_get (D := (dC, dI)) (ci := 2) (v := .ref a1) (C := RX2) (T := TX2) (N := 14) hx hb hts iX2_sizeOf_X2 hown hK hP 0 rfl rfl 5 (by decide) (hts (.fieldLink RX2 13 "ColourTideModel" "colours" "[I") (List.mem_of_getElem? (i := 1) rfl)) (fun _ h9 => h9) rfl dX2_sizeOf_1 ?_
  refine lv_iload_n hx hb dX2_sizeOf_4 rfl (lv_at hl 1 rfl) ?_
  refine z_iald hx hb hK hP 1 0 rfl rfl c0 (rfl) (by omega) (by decide) dX2_sizeOf_5 ?_
  refine z_topi (y := nI (K0 c0)) (rfl) ?_
  refine lv_if_ne (tgt := 13) hx hb dX2_sizeOf_6 (by decide) (fun c_6 => ?_) (fun c_6 => ?_)
  · skip
    have n_6 := zc_eq_f (a := (K0 c0)) (b := 0) (by have := hK4 c0; omega) (by have := hK4 c0; omega) c_6
    refine lv_aload_n hx hb dX2_sizeOf_13 rfl (lv_at hl 0 rfl) ?_
    refine va_get (D := (dC, dI)) (ci := 2) (v := .ref a7) (C := RX2) (T := TX2) (N := 14) hx hb hts iX2_sizeOf_X2 hown hK hP 0 rfl rfl 11 (by decide) (hts (.fieldLink RX2 33 "ColourTideModel" "sizes" "[I") (List.mem_of_getElem? (i := 2) rfl)) (fun _ h9 => h9) rfl dX2_sizeOf_14 ?_
    refine lv_aload_n hx hb dX2_sizeOf_17 rfl (lv_at hl 0 rfl) ?_
    refine va_get (D := (dC, dI)) (ci := 2) (v := .ref a6) (C := RX2) (T := TX2) (N := 14) hx hb hts iX2_sizeOf_X2 hown hK hP 0 rfl rfl 10 (by decide) (hts (.fieldLink RX2 30 "ColourTideModel" "regions" "[I") (List.mem_of_getElem? (i := 3) rfl)) (fun _ h9 => h9) rfl dX2_sizeOf_18 ?_
    refine lv_iload_n hx hb dX2_sizeOf_21 rfl (lv_at hl 1 rfl) ?_
    refine z_iald hx hb hK hP 6 0 rfl rfl c0 (rfl) (by omega) (by decide) dX2_sizeOf_22 ?_
    refine z_topi (y := nI (R0 c0)) (zfill_in hc) ?_
    refine z_iald hx hb hK hP 7 0 rfl rfl (R0 c0) (rfl) (by have := (hp_le hPp hc n_6).2; omega) (by decide) dX2_sizeOf_23 ?_
    refine z_topi (y := nI (rsz wn hn K0 c0)) (by obtain ⟨f, _, _, _, _, e⟩ := hPp c0 hc n_6; exact e) ?_
    rw [← hQ]
    exact z_iret (W1 := (fun (_ : Unit) => [(m0, .inr (2, [.int th, .int (nI wn), .int (nI hn), .int (nI q0), .int wv, .ref a1, .ref a2, .ref a3, .ref a4, .ref a5, .ref a6, .ref a7, .ref a8, .int mn])), (a1, .inl (cI, 25, .inl (kI K0))), (a2, .inl (cI, 25, .inl NX)), (a3, .inl (cZ, 25, .inl (zB T0))), (a4, .inl (cI, 100, .inl (bI wn hn))), (a5, .inl (cI, 25, .inl KP)), (a6, .inl (cI, 25, .inl (zfill (kI R0) RG (wn * hn)))), (a7, .inl (cI, 26, .inl SZ)), (a8, .inl (cI, 25, .inl LN))])) hx hb hr hlocks hP hS () (rfl) (by unfold sz0; rw [if_neg n_6]) dX2_sizeOf_24
  · skip
    have n_6 := zc_eq_t (a := (K0 c0)) (b := 0) (by have := hK4 c0; omega) (by have := hK4 c0; omega) c_6
    refine lv_iconst (v := 0) hx hb dX2_sizeOf_9 (by decide) ?_
    refine lv_goto (tgt := 24) hx hb dX2_sizeOf_10 (by decide) ?_
    rw [← hQ]
    exact z_iret (W1 := (fun (_ : Unit) => [(m0, .inr (2, [.int th, .int (nI wn), .int (nI hn), .int (nI q0), .int wv, .ref a1, .ref a2, .ref a3, .ref a4, .ref a5, .ref a6, .ref a7, .ref a8, .int mn])), (a1, .inl (cI, 25, .inl (kI K0))), (a2, .inl (cI, 25, .inl NX)), (a3, .inl (cZ, 25, .inl (zB T0))), (a4, .inl (cI, 100, .inl (bI wn hn))), (a5, .inl (cI, 25, .inl KP)), (a6, .inl (cI, 25, .inl (zfill (kI R0) RG (wn * hn)))), (a7, .inl (cI, 26, .inl SZ)), (a8, .inl (cI, 25, .inl LN))])) hx hb hr hlocks hP hS () (rfl) (by unfold sz0; rw [if_pos n_6]; rfl) dX2_sizeOf_24
abbrev rmX2_regions : Room := { frames := 1, cells := 0, slots := 0, locals := 30 }
set_option maxRecDepth 20000 in
theorem iX2_regions_X2 : ∀ w ∈ wsX20, w ∈ wsX2_regions := fun w h => (goodIn_r (big := wsX2_regions) wsX20 [19, 20, 21, 22, 23, 24, 25, 26, 27, 28, 29, 30, 31, 32] (by decide +kernel) (by decide +kernel) w h).1
set_option maxHeartbeats 4000000 in
set_option maxRecDepth 100000 in
theorem m_X2_regions (l : Launch) (dC : Nat → ClassId) (dI : Nat → Nat → Nat) (cI cZ cJ cD : ClassId) (m0 : Nat) (a1 : Nat) (a2 : Nat) (a3 : Nat) (a4 : Nat) (a5 : Nat) (a6 : Nat) (a7 : Nat) (a8 : Nat) (th : Int32) (wn : Nat) (hn : Nat) (q0 : Nat) (wv : Int32) (K0 : Nat → Nat) (NX : Nat → Int32) (T0 : Nat → Bool) (KP : Nat → Int32) (RG : Nat → Int32) (SZ : Nat → Int32) (LN : Nat → Int32) (mn : Int32) (R0 : Nat → Nat) (j0 : Nat) (b0 : Bool) (g : gok wn hn) (hK4 : ∀ c, K0 c ≤ 4) (hj0 : j0 < 5) (hj1 : j0 ≠ 0) (hPp : HgP wn hn K0 R0 SZ) : zI l (dC, dI) (wT cI cZ cJ cD) yX2_regions wsX2_regions rmX2_regions [(m0, .inr (2, [.int th, .int (nI wn), .int (nI hn), .int (nI q0), .int wv, .ref a1, .ref a2, .ref a3, .ref a4, .ref a5, .ref a6, .ref a7, .ref a8, .int mn])), (a1, .inl (cI, 25, .inl (kI K0))), (a2, .inl (cI, 25, .inl NX)), (a3, .inl (cZ, 25, .inl (zB T0))), (a4, .inl (cI, 100, .inl (bI wn hn))), (a5, .inl (cI, 25, .inl KP)), (a6, .inl (cI, 25, .inl (zfill (kI R0) RG (wn * hn)))), (a7, .inl (cI, 26, .inl SZ)), (a8, .inl (cI, 25, .inl LN))] [.ref m0, .int (nI j0), .int (bz b0)] (fun (_ : Unit) => [(m0, .inr (2, [.int th, .int (nI wn), .int (nI hn), .int (nI q0), .int wv, .ref a1, .ref a2, .ref a3, .ref a4, .ref a5, .ref a6, .ref a7, .ref a8, .int mn])), (a1, .inl (cI, 25, .inl (kI K0))), (a2, .inl (cI, 25, .inl NX)), (a3, .inl (cZ, 25, .inl (zB T0))), (a4, .inl (cI, 100, .inl (bI wn hn))), (a5, .inl (cI, 25, .inl KP)), (a6, .inl (cI, 25, .inl (zfill (kI R0) RG (wn * hn)))), (a7, .inl (cI, 26, .inl SZ)), (a8, .inl (cI, 25, .inl LN))]) (fun (r : Int32) (_ : Unit) => r = nI (if b0 = true then rmx wn hn K0 j0 (wn * hn) else rsm wn hn K0 j0 (wn * hn))) := by
  intro sz
  refine Met.ofW (cc := cX2_regions) (maxL := 7) (ret := (some .int)) (by decide) rfl ?_
  intro p e s m args below meth c s₁ B hml hv
  obtain ⟨ha, hsz, hP, hK, hD0, hN⟩ := hv
  have hx := B.exec
  have hb := B.bytes
  have hr := B.returns
  have hts := atoms_spec (ws := wsX2_regions) B.pre
  have hown : s.vm.findClass RX2 = some m.cls := findClass_of_methodNamed B.named
  have hlocks := B.notSynchronized
  subst hsz
  have hD := hD0.self (sz := s.heap.size)
  generalize hAe : va_A [(m0, .inr (2, [.int th, .int (nI wn), .int (nI hn), .int (nI q0), .int wv, .ref a1, .ref a2, .ref a3, .ref a4, .ref a5, .ref a6, .ref a7, .ref a8, .int mn])), (a1, .inl (cI, 25, .inl (kI K0))), (a2, .inl (cI, 25, .inl NX)), (a3, .inl (cZ, 25, .inl (zB T0))), (a4, .inl (cI, 100, .inl (bI wn hn))), (a5, .inl (cI, 25, .inl KP)), (a6, .inl (cI, 25, .inl (zfill (kI R0) RG (wn * hn)))), (a7, .inl (cI, 26, .inl SZ)), (a8, .inl (cI, 25, .inl LN))] s.heap.size = A at hD ⊢
  have hA : ∀ q : Nat, s.heap.size ≤ q → A q := fun q h => by rw [← hAe]; exact Or.inr h
  have hS : va_S A s.heap s.heap [] := va_S.rf
  generalize hQ : MQ below (va_Qi (fun (r : Int32) (_ : Unit) => r = nI (if b0 = true then rmx wn hn K0 j0 (wn * hn) else rsm wn hn K0 j0 (wn * hn))) (fun u t => va_P (dC, dI) vwCl ((fun (_ : Unit) => [(m0, .inr (2, [.int th, .int (nI wn), .int (nI hn), .int (nI q0), .int wv, .ref a1, .ref a2, .ref a3, .ref a4, .ref a5, .ref a6, .ref a7, .ref a8, .int mn])), (a1, .inl (cI, 25, .inl (kI K0))), (a2, .inl (cI, 25, .inl NX)), (a3, .inl (cZ, 25, .inl (zB T0))), (a4, .inl (cI, 100, .inl (bI wn hn))), (a5, .inl (cI, 25, .inl KP)), (a6, .inl (cI, 25, .inl (zfill (kI R0) RG (wn * hn)))), (a7, .inl (cI, 26, .inl SZ)), (a8, .inl (cI, 25, .inl LN))]) u) t.heap) A) args s 0 0 A = Q
  have F9 : CallFix p m c cX2_regions 7 s args wsX2_regions RX2 := ⟨hx, hb, hml, hown, hts⟩
  obtain ⟨g1, g2, g3, g4⟩ := id g
  have g5 := wh_le g
  have g6 := wh_pos g
  refine z_entry (R := rmX2_regions) ha (Nat.le_of_ble_eq_true rfl) (fun ls hl => ?_)
  have hl : lv_has ls 7 [(0, .ref m0), (1, .int (nI j0)), (2, .int (bz b0))] := hl
  refine lv_iconst (v := 0) hx hb dX2_regions_0 (by decide) ?_
  refine lv_istore_n (lv' := [(3, .int 0), (0, .ref m0), (1, .int (nI j0)), (2, .int (bz b0))]) hx hb dX2_regions_1 rfl hl (by decide) rfl (fun ls hl => ?_)
  refine lv_iconst (v := 0) hx hb dX2_regions_2 (by decide) ?_
  refine lv_istore (lv' := [(4, .int 0), (3, .int 0), (0, .ref m0), (1, .int (nI j0)), (2, .int (bz b0))]) hx hb dX2_regions_3 hl (by decide) rfl (fun ls hl => ?_)
  refine lv_iconst (v := 0) hx hb dX2_regions_5 (by decide) ?_
  refine lv_istore (lv' := [(5, .int 0), (4, .int 0), (3, .int 0), (0, .ref m0), (1, .int (nI j0)), (2, .int (bz b0))]) hx hb dX2_regions_6 hl (by decide) rfl (fun ls hl => ?_)
  refine lv_iconst (v := 0) hx hb dX2_regions_8 (by decide) ?_
  refine lv_istore (lv' := [(6, .int 0), (5, .int 0), (4, .int 0), (3, .int 0), (0, .ref m0), (1, .int (nI j0)), (2, .int (bz b0))]) hx hb dX2_regions_9 hl (by decide) rfl (fun ls hl => ?_)
  have loop_11 : ∀ (n : Nat) (i : Nat) (a9 : Nat) (b9 : Nat) (e9 : Nat) (hkn : i + n = wn * hn) (e1 : e9 ≤ ct (isF wn hn K0) i) (e2 : ∀ d, d < i → K0 d = j0 → R0 d ≤ e9) (e3 : a9 = rsm wn hn K0 j0 i) (e4 : b9 = rmx wn hn K0 j0 i) (H : Heap) (locs : List Loc) (ls : Array Slot) (hP : va_P (dC, dI) vwCl [(m0, .inr (2, [.int th, .int (nI wn), .int (nI hn), .int (nI q0), .int wv, .ref a1, .ref a2, .ref a3, .ref a4, .ref a5, .ref a6, .ref a7, .ref a8, .int mn])), (a1, .inl (cI, 25, .inl (kI K0))), (a2, .inl (cI, 25, .inl NX)), (a3, .inl (cZ, 25, .inl (zB T0))), (a4, .inl (cI, 100, .inl (bI wn hn))), (a5, .inl (cI, 25, .inl KP)), (a6, .inl (cI, 25, .inl (zfill (kI R0) RG (wn * hn)))), (a7, .inl (cI, 26, .inl SZ)), (a8, .inl (cI, 25, .inl LN))] H) (hD : va_D A [(m0, .inr (2, [.int th, .int (nI wn), .int (nI hn), .int (nI q0), .int wv, .ref a1, .ref a2, .ref a3, .ref a4, .ref a5, .ref a6, .ref a7, .ref a8, .int mn])), (a1, .inl (cI, 25, .inl (kI K0))), (a2, .inl (cI, 25, .inl NX)), (a3, .inl (cZ, 25, .inl (zB T0))), (a4, .inl (cI, 100, .inl (bI wn hn))), (a5, .inl (cI, 25, .inl KP)), (a6, .inl (cI, 25, .inl (zfill (kI R0) RG (wn * hn)))), (a7, .inl (cI, 26, .inl SZ)), (a8, .inl (cI, 25, .inl LN))]) (hS : va_S A s.heap H locs) (hl : lv_has ls 7 [(0, .ref m0), (1, .int (nI j0)), (2, .int (bz b0)), (3, .int (nI a9)), (4, .int (nI b9)), (5, .int (nI e9)), (6, .int (nI i))]), W p l e rmX2_regions s m args below meth c H locs 0 0 Q (F0 m 11 ls []) := by
    intro n
    induction n with
    | zero =>
      intro i a9 b9 e9 hkn e1 e2 e3 e4 H locs ls hP hD hS hl
      refine lv_iload hx hb dX2_regions_11 (lv_at hl 6 rfl) ?_
      refine lv_aload_n hx hb dX2_regions_13 rfl (lv_at hl 0 rfl) ?_
      refine z_callVi (As := []) (rest := [.int (nI i)]) F9 (m_X2_cells l dC dI cI cZ cJ cD m0 a1 a2 a3 a4 a5 a6 a7 a8 th wn hn q0 wv K0 NX T0 KP (zfill (kI R0) RG (wn * hn)) SZ LN mn ) (cwV 0 hts gX2_regions_X2_cells rfl rfl rfl (by decide +kernel) ⟨Nat.le_of_ble_eq_true rfl, Nat.le_of_ble_eq_true rfl⟩) hK hN hP hD hS hA [0, 1, 2, 3, 4, 5, 6, 7, 8] rfl rfl (fun _ => rfl) 0 (ci := 2) rfl rfl rfl rfl hl.1 rfl (Nat.le_of_ble_eq_true rfl) dX2_regions_14 ⟨Nat.zero_le _, Nat.zero_le _⟩ (fun r_1 u H locs hp_14 hP hD hS => ?_)
      have hP : va_P (dC, dI) vwCl [(m0, .inr (2, [.int th, .int (nI wn), .int (nI hn), .int (nI q0), .int wv, .ref a1, .ref a2, .ref a3, .ref a4, .ref a5, .ref a6, .ref a7, .ref a8, .int mn])), (a1, .inl (cI, 25, .inl (kI K0))), (a2, .inl (cI, 25, .inl NX)), (a3, .inl (cZ, 25, .inl (zB T0))), (a4, .inl (cI, 100, .inl (bI wn hn))), (a5, .inl (cI, 25, .inl KP)), (a6, .inl (cI, 25, .inl (zfill (kI R0) RG (wn * hn)))), (a7, .inl (cI, 26, .inl SZ)), (a8, .inl (cI, 25, .inl LN))] H := hP
      have hD : va_D A [(m0, .inr (2, [.int th, .int (nI wn), .int (nI hn), .int (nI q0), .int wv, .ref a1, .ref a2, .ref a3, .ref a4, .ref a5, .ref a6, .ref a7, .ref a8, .int mn])), (a1, .inl (cI, 25, .inl (kI K0))), (a2, .inl (cI, 25, .inl NX)), (a3, .inl (cZ, 25, .inl (zB T0))), (a4, .inl (cI, 100, .inl (bI wn hn))), (a5, .inl (cI, 25, .inl KP)), (a6, .inl (cI, 25, .inl (zfill (kI R0) RG (wn * hn)))), (a7, .inl (cI, 26, .inl SZ)), (a8, .inl (cI, 25, .inl LN))] := hD
      have hp_14 : r_1 = nI (wn * hn) := hp_14
      refine z_topi (y := nI (wn * hn)) hp_14 ?_
      refine lv_icmp_ge (tgt := 80) hx hb dX2_regions_17 (by decide) (fun c_17 => ?_) (fun c_17 => ?_)
      · skip
        have n_17 := zc_le_t (a := (wn * hn)) (b := i) (by omega) (by omega) c_17
        have ei : i = wn * hn := by omega
        refine lv_iload_n hx hb dX2_regions_80 rfl (lv_at hl 2 rfl) ?_
        refine lv_if_eq (tgt := 89) hx hb dX2_regions_81 (by decide) (fun c_81 => ?_) (fun c_81 => ?_)
        · skip
          refine lv_iload_n hx hb dX2_regions_89 rfl (lv_at hl 3 rfl) ?_
          rw [← hQ]
          exact z_iret (W1 := (fun (_ : Unit) => [(m0, .inr (2, [.int th, .int (nI wn), .int (nI hn), .int (nI q0), .int wv, .ref a1, .ref a2, .ref a3, .ref a4, .ref a5, .ref a6, .ref a7, .ref a8, .int mn])), (a1, .inl (cI, 25, .inl (kI K0))), (a2, .inl (cI, 25, .inl NX)), (a3, .inl (cZ, 25, .inl (zB T0))), (a4, .inl (cI, 100, .inl (bI wn hn))), (a5, .inl (cI, 25, .inl KP)), (a6, .inl (cI, 25, .inl (zfill (kI R0) RG (wn * hn)))), (a7, .inl (cI, 26, .inl SZ)), (a8, .inl (cI, 25, .inl LN))])) hx hb hr hlocks hP hS () (rfl) (by rw [bz_0 c_81, if_neg (by decide), e3, ei]) dX2_regions_90
        · skip
          refine lv_iload hx hb dX2_regions_84 (lv_at hl 4 rfl) ?_
          refine lv_goto (tgt := 90) hx hb dX2_regions_86 (by decide) ?_
          rw [← hQ]
          exact z_iret (W1 := (fun (_ : Unit) => [(m0, .inr (2, [.int th, .int (nI wn), .int (nI hn), .int (nI q0), .int wv, .ref a1, .ref a2, .ref a3, .ref a4, .ref a5, .ref a6, .ref a7, .ref a8, .int mn])), (a1, .inl (cI, 25, .inl (kI K0))), (a2, .inl (cI, 25, .inl NX)), (a3, .inl (cZ, 25, .inl (zB T0))), (a4, .inl (cI, 100, .inl (bI wn hn))), (a5, .inl (cI, 25, .inl KP)), (a6, .inl (cI, 25, .inl (zfill (kI R0) RG (wn * hn)))), (a7, .inl (cI, 26, .inl SZ)), (a8, .inl (cI, 25, .inl LN))])) hx hb hr hlocks hP hS () (rfl) (by rw [bz_1 c_81, if_pos rfl, e4, ei]) dX2_regions_90
      · skip
        have n_17 := zc_le_f (a := (wn * hn)) (b := i) (by omega) (by omega) c_17
        exact absurd n_17 (by omega)
    | succ n ih_11 =>
      intro i a9 b9 e9 hkn e1 e2 e3 e4 H locs ls hP hD hS hl
      refine lv_iload hx hb dX2_regions_11 (lv_at hl 6 rfl) ?_
      refine lv_aload_n hx hb dX2_regions_13 rfl (lv_at hl 0 rfl) ?_
      refine z_callVi (As := []) (rest := [.int (nI i)]) F9 (m_X2_cells l dC dI cI cZ cJ cD m0 a1 a2 a3 a4 a5 a6 a7 a8 th wn hn q0 wv K0 NX T0 KP (zfill (kI R0) RG (wn * hn)) SZ LN mn ) (cwV 0 hts gX2_regions_X2_cells rfl rfl rfl (by decide +kernel) ⟨Nat.le_of_ble_eq_true rfl, Nat.le_of_ble_eq_true rfl⟩) hK hN hP hD hS hA [0, 1, 2, 3, 4, 5, 6, 7, 8] rfl rfl (fun _ => rfl) 0 (ci := 2) rfl rfl rfl rfl hl.1 rfl (Nat.le_of_ble_eq_true rfl) dX2_regions_14 ⟨Nat.zero_le _, Nat.zero_le _⟩ (fun r_2 u H locs hp_14 hP hD hS => ?_)
      have hP : va_P (dC, dI) vwCl [(m0, .inr (2, [.int th, .int (nI wn), .int (nI hn), .int (nI q0), .int wv, .ref a1, .ref a2, .ref a3, .ref a4, .ref a5, .ref a6, .ref a7, .ref a8, .int mn])), (a1, .inl (cI, 25, .inl (kI K0))), (a2, .inl (cI, 25, .inl NX)), (a3, .inl (cZ, 25, .inl (zB T0))), (a4, .inl (cI, 100, .inl (bI wn hn))), (a5, .inl (cI, 25, .inl KP)), (a6, .inl (cI, 25, .inl (zfill (kI R0) RG (wn * hn)))), (a7, .inl (cI, 26, .inl SZ)), (a8, .inl (cI, 25, .inl LN))] H := hP
      have hD : va_D A [(m0, .inr (2, [.int th, .int (nI wn), .int (nI hn), .int (nI q0), .int wv, .ref a1, .ref a2, .ref a3, .ref a4, .ref a5, .ref a6, .ref a7, .ref a8, .int mn])), (a1, .inl (cI, 25, .inl (kI K0))), (a2, .inl (cI, 25, .inl NX)), (a3, .inl (cZ, 25, .inl (zB T0))), (a4, .inl (cI, 100, .inl (bI wn hn))), (a5, .inl (cI, 25, .inl KP)), (a6, .inl (cI, 25, .inl (zfill (kI R0) RG (wn * hn)))), (a7, .inl (cI, 26, .inl SZ)), (a8, .inl (cI, 25, .inl LN))] := hD
      have hp_14 : r_2 = nI (wn * hn) := hp_14
      refine z_topi (y := nI (wn * hn)) hp_14 ?_
      refine lv_icmp_ge (tgt := 80) hx hb dX2_regions_17 (by decide) (fun c_17 => ?_) (fun c_17 => ?_)
      · skip
        have n_17 := zc_le_t (a := (wn * hn)) (b := i) (by omega) (by omega) c_17
        exact absurd n_17 (by omega)
      · skip
        have n_17 := zc_le_f (a := (wn * hn)) (b := i) (by omega) (by omega) c_17
        refine lv_aload_n hx hb dX2_regions_20 rfl (lv_at hl 0 rfl) ?_
        refine va_get (D := (dC, dI)) (ci := 2) (v := .ref a1) (C := RX2) (T := TX2) (N := 14) hx hb hts iX2_regions_X2 hown hK hP 0 rfl rfl 5 (by decide) (hts (.fieldLink RX2 13 "ColourTideModel" "colours" "[I") (List.mem_of_getElem? (i := 1) rfl)) (fun _ h9 => h9) rfl dX2_regions_21 ?_
        refine lv_iload hx hb dX2_regions_24 (lv_at hl 6 rfl) ?_
        refine z_iald hx hb hK hP 1 0 rfl rfl i (rfl) (by omega) (by decide) dX2_regions_26 ?_
        refine z_topi (y := nI (K0 i)) (rfl) ?_
        refine lv_iload_n hx hb dX2_regions_27 rfl (lv_at hl 1 rfl) ?_
        refine lv_icmp_eq (tgt := 34) hx hb dX2_regions_28 (by decide) (fun c_28 => ?_) (fun c_28 => ?_)
        · skip
          have n_28 := zc_eq_t (a := (K0 i)) (b := j0) (by have := hK4 i; omega) (by have := hK4 i; omega) c_28
          refine lv_iload hx hb dX2_regions_34 (lv_at hl 4 rfl) ?_
          refine lv_aload_n hx hb dX2_regions_36 rfl (lv_at hl 0 rfl) ?_
          refine lv_iload hx hb dX2_regions_37 (lv_at hl 6 rfl) ?_
          refine z_callVi (As := [.int (nI i)]) (rest := [.int (nI b9)]) F9 (m_X2_sizeOf l dC dI cI cZ cJ cD m0 a1 a2 a3 a4 a5 a6 a7 a8 th wn hn q0 wv K0 NX T0 KP RG SZ LN mn R0 i (g) (hK4) (n_17) (hPp)) (cwV 1 hts gX2_regions_X2_sizeOf rfl rfl rfl (by decide +kernel) ⟨Nat.le_of_ble_eq_true rfl, Nat.le_of_ble_eq_true rfl⟩) hK hN hP hD hS hA [0, 1, 2, 3, 4, 5, 6, 7, 8] rfl rfl (fun _ => rfl) 0 (ci := 2) rfl rfl rfl rfl hl.1 rfl (Nat.le_of_ble_eq_true rfl) dX2_regions_39 ⟨Nat.zero_le _, Nat.zero_le _⟩ (fun r_3 u H locs hp_39 hP hD hS => ?_)
          have hP : va_P (dC, dI) vwCl [(m0, .inr (2, [.int th, .int (nI wn), .int (nI hn), .int (nI q0), .int wv, .ref a1, .ref a2, .ref a3, .ref a4, .ref a5, .ref a6, .ref a7, .ref a8, .int mn])), (a1, .inl (cI, 25, .inl (kI K0))), (a2, .inl (cI, 25, .inl NX)), (a3, .inl (cZ, 25, .inl (zB T0))), (a4, .inl (cI, 100, .inl (bI wn hn))), (a5, .inl (cI, 25, .inl KP)), (a6, .inl (cI, 25, .inl (zfill (kI R0) RG (wn * hn)))), (a7, .inl (cI, 26, .inl SZ)), (a8, .inl (cI, 25, .inl LN))] H := hP
          have hD : va_D A [(m0, .inr (2, [.int th, .int (nI wn), .int (nI hn), .int (nI q0), .int wv, .ref a1, .ref a2, .ref a3, .ref a4, .ref a5, .ref a6, .ref a7, .ref a8, .int mn])), (a1, .inl (cI, 25, .inl (kI K0))), (a2, .inl (cI, 25, .inl NX)), (a3, .inl (cZ, 25, .inl (zB T0))), (a4, .inl (cI, 100, .inl (bI wn hn))), (a5, .inl (cI, 25, .inl KP)), (a6, .inl (cI, 25, .inl (zfill (kI R0) RG (wn * hn)))), (a7, .inl (cI, 26, .inl SZ)), (a8, .inl (cI, 25, .inl LN))] := hD
          have hp_39 : r_3 = nI (sz0 wn hn K0 i) := hp_39
          refine z_topi (y := nI (sz0 wn hn K0 i)) hp_39 ?_
          refine z_topi (y := nI (rsz wn hn K0 i)) (by rw [sz0, if_neg (show ¬ K0 i = 0 by omega)]) ?_
          refine va_mmax hx hb (by rw [hml]; exact hl.1.symm) hown (hts (.methodLink RX2 109 Lib.Math.max.name) (List.mem_of_getElem? (i := 2) rfl)) (hts (.static Lib.Math.max.name) (List.mem_of_getElem? (i := 3) rfl)) (hts (.initialized "java/lang/Math") (List.mem_of_getElem? (i := 4) rfl)) (hts (.code Lib.Math.max.name Lib.Math.max.code 2 (some .int)) (List.mem_of_getElem? (i := 5) rfl)) (Nat.le_of_ble_eq_true rfl) (Nat.le_of_ble_eq_true rfl) (Nat.zero_le _) (Nat.zero_le _) dX2_regions_42 ?_
          refine z_topi (y := nI (rmx wn hn K0 j0 (i + 1))) (by rw [e4, max_nI (by have := rmx_le wn hn K0 j0 i; omega) (by have := rsz_le wn hn K0 i; omega), rmx_y n_28]) ?_
          refine lv_istore (lv' := [(4, .int (nI (rmx wn hn K0 j0 (i + 1)))), (0, .ref m0), (1, .int (nI j0)), (2, .int (bz b0)), (3, .int (nI a9)), (5, .int (nI e9)), (6, .int (nI i))]) hx hb dX2_regions_45 hl (by decide) rfl (fun ls hl => ?_)
          refine lv_aload_n hx hb dX2_regions_47 rfl (lv_at hl 1 rfl) ?_
          refine va_get (D := (dC, dI)) (ci := 2) (v := .ref a6) (C := RX2) (T := TX2) (N := 14) hx hb hts iX2_regions_X2 hown hK hP 0 rfl rfl 10 (by decide) (hts (.fieldLink RX2 30 "ColourTideModel" "regions" "[I") (List.mem_of_getElem? (i := 6) rfl)) (fun _ h9 => h9) rfl dX2_regions_48 ?_
          refine lv_iload hx hb dX2_regions_51 (lv_at hl 6 rfl) ?_
          refine z_iald hx hb hK hP 6 0 rfl rfl i (rfl) (by omega) (by decide) dX2_regions_53 ?_
          refine z_topi (y := nI (R0 i)) (zfill_in n_17) ?_
          refine lv_iload hx hb dX2_regions_54 (lv_at hl 5 rfl) ?_
          refine lv_icmp_gt (tgt := 62) hx hb dX2_regions_56 (by decide) (fun c_56 => ?_) (fun c_56 => ?_)
          · skip
            have n_56 := zc_lt_t (a := e9) (b := (R0 i)) (by have := (hp_le hPp n_17 (by omega)).2; have := ct_le (isF wn hn K0) i; omega) (by have := (hp_le hPp n_17 (by omega)).2; have := ct_le (isF wn hn K0) i; omega) c_56
            refine lv_aload_n hx hb dX2_regions_62 rfl (lv_at hl 1 rfl) ?_
            refine va_get (D := (dC, dI)) (ci := 2) (v := .ref a6) (C := RX2) (T := TX2) (N := 14) hx hb hts iX2_regions_X2 hown hK hP 0 rfl rfl 10 (by decide) (hts (.fieldLink RX2 30 "ColourTideModel" "regions" "[I") (List.mem_of_getElem? (i := 6) rfl)) (fun _ h9 => h9) rfl dX2_regions_63 ?_
            refine lv_iload hx hb dX2_regions_66 (lv_at hl 6 rfl) ?_
            refine z_iald hx hb hK hP 6 0 rfl rfl i (rfl) (by omega) (by decide) dX2_regions_68 ?_
            refine z_topi (y := nI (R0 i)) (zfill_in n_17) ?_
            refine lv_istore (lv' := [(5, .int (nI (R0 i))), (4, .int (nI (rmx wn hn K0 j0 (i + 1)))), (0, .ref m0), (1, .int (nI j0)), (2, .int (bz b0)), (3, .int (nI a9)), (6, .int (nI i))]) hx hb dX2_regions_69 hl (by decide) rfl (fun ls hl => ?_)
            refine lv_iinc (v := nI (a9 + 1)) (lv' := [(3, .int (nI (a9 + 1))), (5, .int (nI (R0 i))), (4, .int (nI (rmx wn hn K0 j0 (i + 1)))), (0, .ref m0), (1, .int (nI j0)), (2, .int (bz b0)), (6, .int (nI i))]) hx hb dX2_regions_71 hl (k := 5) rfl (nI_1 a9) (by decide) rfl (fun ls hl => ?_)
            refine lv_iinc (v := nI (i + 1)) (lv' := [(6, .int (nI (i + 1))), (3, .int (nI (a9 + 1))), (5, .int (nI (R0 i))), (4, .int (nI (rmx wn hn K0 j0 (i + 1)))), (0, .ref m0), (1, .int (nI j0)), (2, .int (bz b0))]) hx hb dX2_regions_74 hl (k := 6) rfl (nI_1 i) (by decide) rfl (fun ls hl => ?_)
            refine lv_goto (tgt := 11) hx hb dX2_regions_77 (by decide) ?_
            have hF : isF wn hn K0 i = true := by cases e : isF wn hn K0 i with | true => rfl | false => exact absurd ((hp_seen hPp n_17 n_28 hj1 e1 e2).mpr e) (by omega)
            exact ih_11 (i + 1) (a9 + 1) (rmx wn hn K0 j0 (i + 1)) (R0 i) (by omega) (hp_rank hPp n_17 (by omega)) (z_lts (fun d z q => Nat.le_of_lt (Nat.lt_of_le_of_lt (e2 d z q) n_56)) (fun q => Nat.le_refl _)) (by rw [e3, rsm_y n_28 hF]) (rfl) _ _ _ hP hD hS (lv_sub hl [4, 5, 6, 1, 3, 2, 0] rfl)
          · skip
            have n_56 := zc_lt_f (a := e9) (b := (R0 i)) (by have := (hp_le hPp n_17 (by omega)).2; have := ct_le (isF wn hn K0) i; omega) (by have := (hp_le hPp n_17 (by omega)).2; have := ct_le (isF wn hn K0) i; omega) c_56
            refine lv_goto (tgt := 74) hx hb dX2_regions_59 (by decide) ?_
            refine lv_iinc (v := nI (i + 1)) (lv' := [(6, .int (nI (i + 1))), (4, .int (nI (rmx wn hn K0 j0 (i + 1)))), (0, .ref m0), (1, .int (nI j0)), (2, .int (bz b0)), (3, .int (nI a9)), (5, .int (nI e9))]) hx hb dX2_regions_74 hl (k := 6) rfl (nI_1 i) (by decide) rfl (fun ls hl => ?_)
            refine lv_goto (tgt := 11) hx hb dX2_regions_77 (by decide) ?_
            have hF : isF wn hn K0 i = false := (hp_seen hPp n_17 n_28 hj1 e1 e2).mp n_56
            exact ih_11 (i + 1) a9 (rmx wn hn K0 j0 (i + 1)) e9 (by omega) (by have := ct_mono (isF wn hn K0) (show i ≤ i + 1 by omega); omega) (z_lts (fun d z q => e2 d z q) (fun q => n_56)) (by rw [e3, rsm_f hF]) (rfl) _ _ _ hP hD hS (lv_sub hl [2, 3, 4, 5, 1, 6, 0] rfl)
        · skip
          have n_28 := zc_eq_f (a := (K0 i)) (b := j0) (by have := hK4 i; omega) (by have := hK4 i; omega) c_28
          refine lv_goto (tgt := 74) hx hb dX2_regions_31 (by decide) ?_
          refine lv_iinc (v := nI (i + 1)) (lv' := [(6, .int (nI (i + 1))), (0, .ref m0), (1, .int (nI j0)), (2, .int (bz b0)), (3, .int (nI a9)), (4, .int (nI b9)), (5, .int (nI e9))]) hx hb dX2_regions_74 hl (k := 6) rfl (nI_1 i) (by decide) rfl (fun ls hl => ?_)
          refine lv_goto (tgt := 11) hx hb dX2_regions_77 (by decide) ?_
          exact ih_11 (i + 1) a9 b9 e9 (by omega) (by have := ct_mono (isF wn hn K0) (show i ≤ i + 1 by omega); omega) (z_lts (fun d z q => e2 d z q) (fun q => absurd q n_28)) (by rw [e3, rsm_n n_28]) (by rw [e4, rmx_n n_28]) _ _ _ hP hD hS (lv_sub hl [1, 2, 3, 4, 5, 6, 0] rfl)
  exact loop_11 (wn * hn) 0 0 0 0 (by omega) (Nat.zero_le _) (fun d hd => absurd hd (Nat.not_lt_zero d)) (rfl) (rfl) _ _ _ hP hD hS (lv_sub hl [4, 5, 6, 3, 2, 1, 0] rfl)
abbrev rmX2_stubbornOnes : Room := { frames := 1, cells := 0, slots := 0, locals := 20 }
set_option maxRecDepth 20000 in
theorem iX2_stubbornOnes_X2 : ∀ w ∈ wsX20, w ∈ wsX2_stubbornOnes := fun w h => (goodIn_r (big := wsX2_stubbornOnes) wsX20 [9, 10, 11, 12, 13, 14, 15, 16, 17, 18, 19, 20, 21, 22] (by decide +kernel) (by decide +kernel) w h).1
set_option maxHeartbeats 4000000 in
set_option maxRecDepth 100000 in
theorem m_X2_stubbornOnes (l : Launch) (dC : Nat → ClassId) (dI : Nat → Nat → Nat) (cI cZ cJ cD : ClassId) (m0 : Nat) (a1 : Nat) (a2 : Nat) (a3 : Nat) (a4 : Nat) (a5 : Nat) (a6 : Nat) (a7 : Nat) (a8 : Nat) (th : Int32) (wn : Nat) (hn : Nat) (q0 : Nat) (wv : Int32) (K0 : Nat → Nat) (NX : Nat → Int32) (T0 : Nat → Bool) (KP : Nat → Int32) (RG : Nat → Int32) (SZ : Nat → Int32) (LN : Nat → Int32) (mn : Int32) (g : gok wn hn) : zI l (dC, dI) (wT cI cZ cJ cD) yX2_stubbornOnes wsX2_stubbornOnes rmX2_stubbornOnes [(m0, .inr (2, [.int th, .int (nI wn), .int (nI hn), .int (nI q0), .int wv, .ref a1, .ref a2, .ref a3, .ref a4, .ref a5, .ref a6, .ref a7, .ref a8, .int mn])), (a1, .inl (cI, 25, .inl (kI K0))), (a2, .inl (cI, 25, .inl NX)), (a3, .inl (cZ, 25, .inl (zB T0))), (a4, .inl (cI, 100, .inl (bI wn hn))), (a5, .inl (cI, 25, .inl KP)), (a6, .inl (cI, 25, .inl RG)), (a7, .inl (cI, 26, .inl SZ)), (a8, .inl (cI, 25, .inl LN))] [.ref m0] (fun (_ : Unit) => [(m0, .inr (2, [.int th, .int (nI wn), .int (nI hn), .int (nI q0), .int wv, .ref a1, .ref a2, .ref a3, .ref a4, .ref a5, .ref a6, .ref a7, .ref a8, .int mn])), (a1, .inl (cI, 25, .inl (kI K0))), (a2, .inl (cI, 25, .inl NX)), (a3, .inl (cZ, 25, .inl (zB T0))), (a4, .inl (cI, 100, .inl (bI wn hn))), (a5, .inl (cI, 25, .inl KP)), (a6, .inl (cI, 25, .inl RG)), (a7, .inl (cI, 26, .inl SZ)), (a8, .inl (cI, 25, .inl LN))]) (fun (r : Int32) (_ : Unit) => r = nI (ct T0 (wn * hn))) := by
  intro sz
  refine Met.ofW (cc := cX2_stubbornOnes) (maxL := 3) (ret := (some .int)) (by decide) rfl ?_
  intro p e s m args below meth c s₁ B hml hv
  obtain ⟨ha, hsz, hP, hK, hD0, hN⟩ := hv
  have hx := B.exec
  have hb := B.bytes
  have hr := B.returns
  have hts := atoms_spec (ws := wsX2_stubbornOnes) B.pre
  have hown : s.vm.findClass RX2 = some m.cls := findClass_of_methodNamed B.named
  have hlocks := B.notSynchronized
  subst hsz
  have hD := hD0.self (sz := s.heap.size)
  generalize hAe : va_A [(m0, .inr (2, [.int th, .int (nI wn), .int (nI hn), .int (nI q0), .int wv, .ref a1, .ref a2, .ref a3, .ref a4, .ref a5, .ref a6, .ref a7, .ref a8, .int mn])), (a1, .inl (cI, 25, .inl (kI K0))), (a2, .inl (cI, 25, .inl NX)), (a3, .inl (cZ, 25, .inl (zB T0))), (a4, .inl (cI, 100, .inl (bI wn hn))), (a5, .inl (cI, 25, .inl KP)), (a6, .inl (cI, 25, .inl RG)), (a7, .inl (cI, 26, .inl SZ)), (a8, .inl (cI, 25, .inl LN))] s.heap.size = A at hD ⊢
  have hA : ∀ q : Nat, s.heap.size ≤ q → A q := fun q h => by rw [← hAe]; exact Or.inr h
  have hS : va_S A s.heap s.heap [] := va_S.rf
  generalize hQ : MQ below (va_Qi (fun (r : Int32) (_ : Unit) => r = nI (ct T0 (wn * hn))) (fun u t => va_P (dC, dI) vwCl ((fun (_ : Unit) => [(m0, .inr (2, [.int th, .int (nI wn), .int (nI hn), .int (nI q0), .int wv, .ref a1, .ref a2, .ref a3, .ref a4, .ref a5, .ref a6, .ref a7, .ref a8, .int mn])), (a1, .inl (cI, 25, .inl (kI K0))), (a2, .inl (cI, 25, .inl NX)), (a3, .inl (cZ, 25, .inl (zB T0))), (a4, .inl (cI, 100, .inl (bI wn hn))), (a5, .inl (cI, 25, .inl KP)), (a6, .inl (cI, 25, .inl RG)), (a7, .inl (cI, 26, .inl SZ)), (a8, .inl (cI, 25, .inl LN))]) u) t.heap) A) args s 0 0 A = Q
  have F9 : CallFix p m c cX2_stubbornOnes 3 s args wsX2_stubbornOnes RX2 := ⟨hx, hb, hml, hown, hts⟩
  obtain ⟨g1, g2, g3, g4⟩ := id g
  have g5 := wh_le g
  have g6 := wh_pos g
  refine z_entry (R := rmX2_stubbornOnes) ha (Nat.le_of_ble_eq_true rfl) (fun ls hl => ?_)
  have hl : lv_has ls 3 [(0, .ref m0)] := hl
  refine lv_iconst (v := 0) hx hb dX2_stubbornOnes_0 (by decide) ?_
  refine lv_istore_n (lv' := [(1, .int 0), (0, .ref m0)]) hx hb dX2_stubbornOnes_1 rfl hl (by decide) rfl (fun ls hl => ?_)
  refine lv_iconst (v := 0) hx hb dX2_stubbornOnes_2 (by decide) ?_
  refine lv_istore_n (lv' := [(2, .int 0), (1, .int 0), (0, .ref m0)]) hx hb dX2_stubbornOnes_3 rfl hl (by decide) rfl (fun ls hl => ?_)
  have loop_4 : ∀ (n : Nat) (i : Nat) (hkn : i + n = wn * hn) (H : Heap) (locs : List Loc) (ls : Array Slot) (hP : va_P (dC, dI) vwCl [(m0, .inr (2, [.int th, .int (nI wn), .int (nI hn), .int (nI q0), .int wv, .ref a1, .ref a2, .ref a3, .ref a4, .ref a5, .ref a6, .ref a7, .ref a8, .int mn])), (a1, .inl (cI, 25, .inl (kI K0))), (a2, .inl (cI, 25, .inl NX)), (a3, .inl (cZ, 25, .inl (zB T0))), (a4, .inl (cI, 100, .inl (bI wn hn))), (a5, .inl (cI, 25, .inl KP)), (a6, .inl (cI, 25, .inl RG)), (a7, .inl (cI, 26, .inl SZ)), (a8, .inl (cI, 25, .inl LN))] H) (hD : va_D A [(m0, .inr (2, [.int th, .int (nI wn), .int (nI hn), .int (nI q0), .int wv, .ref a1, .ref a2, .ref a3, .ref a4, .ref a5, .ref a6, .ref a7, .ref a8, .int mn])), (a1, .inl (cI, 25, .inl (kI K0))), (a2, .inl (cI, 25, .inl NX)), (a3, .inl (cZ, 25, .inl (zB T0))), (a4, .inl (cI, 100, .inl (bI wn hn))), (a5, .inl (cI, 25, .inl KP)), (a6, .inl (cI, 25, .inl RG)), (a7, .inl (cI, 26, .inl SZ)), (a8, .inl (cI, 25, .inl LN))]) (hS : va_S A s.heap H locs) (hl : lv_has ls 3 [(0, .ref m0), (1, .int (nI (ct T0 i))), (2, .int (nI i))]), W p l e rmX2_stubbornOnes s m args below meth c H locs 0 0 Q (F0 m 4 ls []) := by
    intro n
    induction n with
    | zero =>
      intro i hkn  H locs ls hP hD hS hl
      refine lv_iload_n hx hb dX2_stubbornOnes_4 rfl (lv_at hl 2 rfl) ?_
      refine lv_aload_n hx hb dX2_stubbornOnes_5 rfl (lv_at hl 0 rfl) ?_
      refine z_callVi (As := []) (rest := [.int (nI i)]) F9 (m_X2_cells l dC dI cI cZ cJ cD m0 a1 a2 a3 a4 a5 a6 a7 a8 th wn hn q0 wv K0 NX T0 KP RG SZ LN mn ) (cwV 0 hts gX2_stubbornOnes_X2_cells rfl rfl rfl (by decide +kernel) ⟨Nat.le_of_ble_eq_true rfl, Nat.le_of_ble_eq_true rfl⟩) hK hN hP hD hS hA [0, 1, 2, 3, 4, 5, 6, 7, 8] rfl rfl (fun _ => rfl) 0 (ci := 2) rfl rfl rfl rfl hl.1 rfl (Nat.le_of_ble_eq_true rfl) dX2_stubbornOnes_6 ⟨Nat.zero_le _, Nat.zero_le _⟩ (fun r_1 u H locs hp_6 hP hD hS => ?_)
      have hP : va_P (dC, dI) vwCl [(m0, .inr (2, [.int th, .int (nI wn), .int (nI hn), .int (nI q0), .int wv, .ref a1, .ref a2, .ref a3, .ref a4, .ref a5, .ref a6, .ref a7, .ref a8, .int mn])), (a1, .inl (cI, 25, .inl (kI K0))), (a2, .inl (cI, 25, .inl NX)), (a3, .inl (cZ, 25, .inl (zB T0))), (a4, .inl (cI, 100, .inl (bI wn hn))), (a5, .inl (cI, 25, .inl KP)), (a6, .inl (cI, 25, .inl RG)), (a7, .inl (cI, 26, .inl SZ)), (a8, .inl (cI, 25, .inl LN))] H := hP
      have hD : va_D A [(m0, .inr (2, [.int th, .int (nI wn), .int (nI hn), .int (nI q0), .int wv, .ref a1, .ref a2, .ref a3, .ref a4, .ref a5, .ref a6, .ref a7, .ref a8, .int mn])), (a1, .inl (cI, 25, .inl (kI K0))), (a2, .inl (cI, 25, .inl NX)), (a3, .inl (cZ, 25, .inl (zB T0))), (a4, .inl (cI, 100, .inl (bI wn hn))), (a5, .inl (cI, 25, .inl KP)), (a6, .inl (cI, 25, .inl RG)), (a7, .inl (cI, 26, .inl SZ)), (a8, .inl (cI, 25, .inl LN))] := hD
      have hp_6 : r_1 = nI (wn * hn) := hp_6
      refine z_topi (y := nI (wn * hn)) hp_6 ?_
      refine lv_icmp_ge (tgt := 35) hx hb dX2_stubbornOnes_9 (by decide) (fun c_9 => ?_) (fun c_9 => ?_)
      · skip
        have n_9 := zc_le_t (a := (wn * hn)) (b := i) (by omega) (by omega) c_9
        refine lv_iload_n hx hb dX2_stubbornOnes_35 rfl (lv_at hl 1 rfl) ?_
        rw [← hQ]
        exact z_iret (W1 := (fun (_ : Unit) => [(m0, .inr (2, [.int th, .int (nI wn), .int (nI hn), .int (nI q0), .int wv, .ref a1, .ref a2, .ref a3, .ref a4, .ref a5, .ref a6, .ref a7, .ref a8, .int mn])), (a1, .inl (cI, 25, .inl (kI K0))), (a2, .inl (cI, 25, .inl NX)), (a3, .inl (cZ, 25, .inl (zB T0))), (a4, .inl (cI, 100, .inl (bI wn hn))), (a5, .inl (cI, 25, .inl KP)), (a6, .inl (cI, 25, .inl RG)), (a7, .inl (cI, 26, .inl SZ)), (a8, .inl (cI, 25, .inl LN))])) hx hb hr hlocks hP hS () (rfl) (by rw [show i = wn * hn by omega]) dX2_stubbornOnes_36
      · skip
        have n_9 := zc_le_f (a := (wn * hn)) (b := i) (by omega) (by omega) c_9
        exact absurd n_9 (by omega)
    | succ n ih_4 =>
      intro i hkn  H locs ls hP hD hS hl
      refine lv_iload_n hx hb dX2_stubbornOnes_4 rfl (lv_at hl 2 rfl) ?_
      refine lv_aload_n hx hb dX2_stubbornOnes_5 rfl (lv_at hl 0 rfl) ?_
      refine z_callVi (As := []) (rest := [.int (nI i)]) F9 (m_X2_cells l dC dI cI cZ cJ cD m0 a1 a2 a3 a4 a5 a6 a7 a8 th wn hn q0 wv K0 NX T0 KP RG SZ LN mn ) (cwV 0 hts gX2_stubbornOnes_X2_cells rfl rfl rfl (by decide +kernel) ⟨Nat.le_of_ble_eq_true rfl, Nat.le_of_ble_eq_true rfl⟩) hK hN hP hD hS hA [0, 1, 2, 3, 4, 5, 6, 7, 8] rfl rfl (fun _ => rfl) 0 (ci := 2) rfl rfl rfl rfl hl.1 rfl (Nat.le_of_ble_eq_true rfl) dX2_stubbornOnes_6 ⟨Nat.zero_le _, Nat.zero_le _⟩ (fun r_2 u H locs hp_6 hP hD hS => ?_)
      have hP : va_P (dC, dI) vwCl [(m0, .inr (2, [.int th, .int (nI wn), .int (nI hn), .int (nI q0), .int wv, .ref a1, .ref a2, .ref a3, .ref a4, .ref a5, .ref a6, .ref a7, .ref a8, .int mn])), (a1, .inl (cI, 25, .inl (kI K0))), (a2, .inl (cI, 25, .inl NX)), (a3, .inl (cZ, 25, .inl (zB T0))), (a4, .inl (cI, 100, .inl (bI wn hn))), (a5, .inl (cI, 25, .inl KP)), (a6, .inl (cI, 25, .inl RG)), (a7, .inl (cI, 26, .inl SZ)), (a8, .inl (cI, 25, .inl LN))] H := hP
      have hD : va_D A [(m0, .inr (2, [.int th, .int (nI wn), .int (nI hn), .int (nI q0), .int wv, .ref a1, .ref a2, .ref a3, .ref a4, .ref a5, .ref a6, .ref a7, .ref a8, .int mn])), (a1, .inl (cI, 25, .inl (kI K0))), (a2, .inl (cI, 25, .inl NX)), (a3, .inl (cZ, 25, .inl (zB T0))), (a4, .inl (cI, 100, .inl (bI wn hn))), (a5, .inl (cI, 25, .inl KP)), (a6, .inl (cI, 25, .inl RG)), (a7, .inl (cI, 26, .inl SZ)), (a8, .inl (cI, 25, .inl LN))] := hD
      have hp_6 : r_2 = nI (wn * hn) := hp_6
      refine z_topi (y := nI (wn * hn)) hp_6 ?_
      refine lv_icmp_ge (tgt := 35) hx hb dX2_stubbornOnes_9 (by decide) (fun c_9 => ?_) (fun c_9 => ?_)
      · skip
        have n_9 := zc_le_t (a := (wn * hn)) (b := i) (by omega) (by omega) c_9
        exact absurd n_9 (by omega)
      · skip
        have n_9 := zc_le_f (a := (wn * hn)) (b := i) (by omega) (by omega) c_9
        refine lv_iload_n hx hb dX2_stubbornOnes_12 rfl (lv_at hl 1 rfl) ?_
        refine lv_aload_n hx hb dX2_stubbornOnes_13 rfl (lv_at hl 0 rfl) ?_
        refine va_get (D := (dC, dI)) (ci := 2) (v := .ref a3) (C := RX2) (T := TX2) (N := 14) hx hb hts iX2_stubbornOnes_X2 hown hK hP 0 rfl rfl 7 (by decide) (hts (.fieldLink RX2 20 "ColourTideModel" "stubborn" "[Z") (List.mem_of_getElem? (i := 1) rfl)) (fun _ h9 => h9) rfl dX2_stubbornOnes_14 ?_
        refine lv_iload_n hx hb dX2_stubbornOnes_17 rfl (lv_at hl 2 rfl) ?_
        refine z_zald hx hb hK hP 3 1 rfl rfl i (rfl) (by omega) (by decide) dX2_stubbornOnes_18 ?_
        refine z_topi (y := bz (T0 i)) (rfl) ?_
        suffices j_27 : ∀ v_27 : Int32, v_27 = (nI (if T0 i = true then 1 else 0)) → W p l e rmX2_stubbornOnes s m args below meth c H locs 0 0 Q (F0 m 27 ls [.int v_27, .int (nI (ct T0 i))]) by
          refine lv_if_eq (tgt := 26) hx hb dX2_stubbornOnes_19 (by decide) (fun c_19 => ?_) (fun c_19 => ?_)
          · skip
            refine lv_iconst (v := 0) hx hb dX2_stubbornOnes_26 (by decide) ?_
            exact j_27 _ (by rw [bz_0 c_19]; rfl)
          · skip
            refine lv_iconst (v := 1) hx hb dX2_stubbornOnes_22 (by decide) ?_
            refine lv_goto (tgt := 27) hx hb dX2_stubbornOnes_23 (by decide) ?_
            exact j_27 _ (by rw [bz_1 c_19]; rfl)
        intro v_27 h_v_27
        refine lv_iadd hx hb dX2_stubbornOnes_27 ?_
        refine z_topi (y := nI (ct T0 (i + 1))) (by rw [h_v_27]; exact nI_add _ _) ?_
        refine lv_istore_n (lv' := [(1, .int (nI (ct T0 (i + 1)))), (0, .ref m0), (2, .int (nI i))]) hx hb dX2_stubbornOnes_28 rfl hl (by decide) rfl (fun ls hl => ?_)
        refine lv_iinc (v := nI (i + 1)) (lv' := [(2, .int (nI (i + 1))), (1, .int (nI (ct T0 (i + 1)))), (0, .ref m0)]) hx hb dX2_stubbornOnes_29 hl (k := 2) rfl (nI_1 i) (by decide) rfl (fun ls hl => ?_)
        refine lv_goto (tgt := 4) hx hb dX2_stubbornOnes_32 (by decide) ?_
        exact ih_4 (i + 1) (by omega)  _ _ _ hP hD hS (lv_sub hl [2, 1, 0] rfl)
  exact loop_4 (wn * hn) 0 (by omega)  _ _ _ hP hD hS (lv_sub hl [2, 1, 0] rfl)
abbrev rmX2_between : Room := { frames := 1, cells := 0, slots := 0, locals := 20 }
set_option maxRecDepth 20000 in
theorem iX2_between_X2 : ∀ w ∈ wsX20, w ∈ wsX2_between := fun w h => (goodIn_r (big := wsX2_between) wsX20 [10, 11, 12, 13, 14, 15, 16, 17, 18, 19, 20, 21, 22, 23] (by decide +kernel) (by decide +kernel) w h).1
set_option maxHeartbeats 4000000 in
set_option maxRecDepth 100000 in
theorem m_X2_between (l : Launch) (dC : Nat → ClassId) (dI : Nat → Nat → Nat) (cI cZ cJ cD : ClassId) (m0 : Nat) (a1 : Nat) (a2 : Nat) (a3 : Nat) (a4 : Nat) (a5 : Nat) (a6 : Nat) (a7 : Nat) (a8 : Nat) (th : Int32) (wn : Nat) (hn : Nat) (q0 : Nat) (wv : Int32) (K0 : Nat → Nat) (NX : Nat → Int32) (T0 : Nat → Bool) (KP : Nat → Int32) (RG : Nat → Int32) (SZ : Nat → Int32) (LN : Nat → Int32) (mn : Int32) (g : gok wn hn) (hK4 : ∀ c, K0 c ≤ 4) : zI l (dC, dI) (wT cI cZ cJ cD) yX2_between wsX2_between rmX2_between [(m0, .inr (2, [.int th, .int (nI wn), .int (nI hn), .int (nI q0), .int wv, .ref a1, .ref a2, .ref a3, .ref a4, .ref a5, .ref a6, .ref a7, .ref a8, .int mn])), (a1, .inl (cI, 25, .inl (kI K0))), (a2, .inl (cI, 25, .inl NX)), (a3, .inl (cZ, 25, .inl (zB T0))), (a4, .inl (cI, 100, .inl (bI wn hn))), (a5, .inl (cI, 25, .inl KP)), (a6, .inl (cI, 25, .inl RG)), (a7, .inl (cI, 26, .inl SZ)), (a8, .inl (cI, 25, .inl LN))] [.ref m0] (fun (_ : Unit) => [(m0, .inr (2, [.int th, .int (nI wn), .int (nI hn), .int (nI q0), .int wv, .ref a1, .ref a2, .ref a3, .ref a4, .ref a5, .ref a6, .ref a7, .ref a8, .int mn])), (a1, .inl (cI, 25, .inl (kI K0))), (a2, .inl (cI, 25, .inl NX)), (a3, .inl (cZ, 25, .inl (zB T0))), (a4, .inl (cI, 100, .inl (bI wn hn))), (a5, .inl (cI, 25, .inl KP)), (a6, .inl (cI, 25, .inl RG)), (a7, .inl (cI, 26, .inl SZ)), (a8, .inl (cI, 25, .inl LN))]) (fun (r : Int32) (_ : Unit) => r = nI (boN wn hn K0 (wn * hn))) := by
  intro sz
  refine Met.ofW (cc := cX2_between) (maxL := 5) (ret := (some .int)) (by decide) rfl ?_
  intro p e s m args below meth c s₁ B hml hv
  obtain ⟨ha, hsz, hP, hK, hD0, hN⟩ := hv
  have hx := B.exec
  have hb := B.bytes
  have hr := B.returns
  have hts := atoms_spec (ws := wsX2_between) B.pre
  have hown : s.vm.findClass RX2 = some m.cls := findClass_of_methodNamed B.named
  have hlocks := B.notSynchronized
  subst hsz
  have hD := hD0.self (sz := s.heap.size)
  generalize hAe : va_A [(m0, .inr (2, [.int th, .int (nI wn), .int (nI hn), .int (nI q0), .int wv, .ref a1, .ref a2, .ref a3, .ref a4, .ref a5, .ref a6, .ref a7, .ref a8, .int mn])), (a1, .inl (cI, 25, .inl (kI K0))), (a2, .inl (cI, 25, .inl NX)), (a3, .inl (cZ, 25, .inl (zB T0))), (a4, .inl (cI, 100, .inl (bI wn hn))), (a5, .inl (cI, 25, .inl KP)), (a6, .inl (cI, 25, .inl RG)), (a7, .inl (cI, 26, .inl SZ)), (a8, .inl (cI, 25, .inl LN))] s.heap.size = A at hD ⊢
  have hA : ∀ q : Nat, s.heap.size ≤ q → A q := fun q h => by rw [← hAe]; exact Or.inr h
  have hS : va_S A s.heap s.heap [] := va_S.rf
  generalize hQ : MQ below (va_Qi (fun (r : Int32) (_ : Unit) => r = nI (boN wn hn K0 (wn * hn))) (fun u t => va_P (dC, dI) vwCl ((fun (_ : Unit) => [(m0, .inr (2, [.int th, .int (nI wn), .int (nI hn), .int (nI q0), .int wv, .ref a1, .ref a2, .ref a3, .ref a4, .ref a5, .ref a6, .ref a7, .ref a8, .int mn])), (a1, .inl (cI, 25, .inl (kI K0))), (a2, .inl (cI, 25, .inl NX)), (a3, .inl (cZ, 25, .inl (zB T0))), (a4, .inl (cI, 100, .inl (bI wn hn))), (a5, .inl (cI, 25, .inl KP)), (a6, .inl (cI, 25, .inl RG)), (a7, .inl (cI, 26, .inl SZ)), (a8, .inl (cI, 25, .inl LN))]) u) t.heap) A) args s 0 0 A = Q
  have F9 : CallFix p m c cX2_between 5 s args wsX2_between RX2 := ⟨hx, hb, hml, hown, hts⟩
  obtain ⟨g1, g2, g3, g4⟩ := id g
  have g5 := wh_le g
  have g6 := wh_pos g
  refine z_entry (R := rmX2_between) ha (Nat.le_of_ble_eq_true rfl) (fun ls hl => ?_)
  have hl : lv_has ls 5 [(0, .ref m0)] := hl
  refine lv_iconst (v := 0) hx hb dX2_between_0 (by decide) ?_
  refine lv_istore_n (lv' := [(1, .int 0), (0, .ref m0)]) hx hb dX2_between_1 rfl hl (by decide) rfl (fun ls hl => ?_)
  refine lv_iconst (v := 0) hx hb dX2_between_2 (by decide) ?_
  refine lv_istore_n (lv' := [(2, .int 0), (1, .int 0), (0, .ref m0)]) hx hb dX2_between_3 rfl hl (by decide) rfl (fun ls hl => ?_)
  have loop_4 : ∀ (n : Nat) (i : Nat) (hkn : i + n = wn * hn) (H : Heap) (locs : List Loc) (ls : Array Slot) (hP : va_P (dC, dI) vwCl [(m0, .inr (2, [.int th, .int (nI wn), .int (nI hn), .int (nI q0), .int wv, .ref a1, .ref a2, .ref a3, .ref a4, .ref a5, .ref a6, .ref a7, .ref a8, .int mn])), (a1, .inl (cI, 25, .inl (kI K0))), (a2, .inl (cI, 25, .inl NX)), (a3, .inl (cZ, 25, .inl (zB T0))), (a4, .inl (cI, 100, .inl (bI wn hn))), (a5, .inl (cI, 25, .inl KP)), (a6, .inl (cI, 25, .inl RG)), (a7, .inl (cI, 26, .inl SZ)), (a8, .inl (cI, 25, .inl LN))] H) (hD : va_D A [(m0, .inr (2, [.int th, .int (nI wn), .int (nI hn), .int (nI q0), .int wv, .ref a1, .ref a2, .ref a3, .ref a4, .ref a5, .ref a6, .ref a7, .ref a8, .int mn])), (a1, .inl (cI, 25, .inl (kI K0))), (a2, .inl (cI, 25, .inl NX)), (a3, .inl (cZ, 25, .inl (zB T0))), (a4, .inl (cI, 100, .inl (bI wn hn))), (a5, .inl (cI, 25, .inl KP)), (a6, .inl (cI, 25, .inl RG)), (a7, .inl (cI, 26, .inl SZ)), (a8, .inl (cI, 25, .inl LN))]) (hS : va_S A s.heap H locs) (hl : lv_has ls 5 [(0, .ref m0), (1, .int (nI (boN wn hn K0 i))), (2, .int (nI i))]), W p l e rmX2_between s m args below meth c H locs 0 0 Q (F0 m 4 ls []) := by
    intro n
    induction n with
    | zero =>
      intro i hkn  H locs ls hP hD hS hl
      refine lv_iload_n hx hb dX2_between_4 rfl (lv_at hl 2 rfl) ?_
      refine lv_aload_n hx hb dX2_between_5 rfl (lv_at hl 0 rfl) ?_
      refine z_callVi (As := []) (rest := [.int (nI i)]) F9 (m_X2_cells l dC dI cI cZ cJ cD m0 a1 a2 a3 a4 a5 a6 a7 a8 th wn hn q0 wv K0 NX T0 KP RG SZ LN mn ) (cwV 0 hts gX2_between_X2_cells rfl rfl rfl (by decide +kernel) ⟨Nat.le_of_ble_eq_true rfl, Nat.le_of_ble_eq_true rfl⟩) hK hN hP hD hS hA [0, 1, 2, 3, 4, 5, 6, 7, 8] rfl rfl (fun _ => rfl) 0 (ci := 2) rfl rfl rfl rfl hl.1 rfl (Nat.le_of_ble_eq_true rfl) dX2_between_6 ⟨Nat.zero_le _, Nat.zero_le _⟩ (fun r_1 u H locs hp_6 hP hD hS => ?_)
      have hP : va_P (dC, dI) vwCl [(m0, .inr (2, [.int th, .int (nI wn), .int (nI hn), .int (nI q0), .int wv, .ref a1, .ref a2, .ref a3, .ref a4, .ref a5, .ref a6, .ref a7, .ref a8, .int mn])), (a1, .inl (cI, 25, .inl (kI K0))), (a2, .inl (cI, 25, .inl NX)), (a3, .inl (cZ, 25, .inl (zB T0))), (a4, .inl (cI, 100, .inl (bI wn hn))), (a5, .inl (cI, 25, .inl KP)), (a6, .inl (cI, 25, .inl RG)), (a7, .inl (cI, 26, .inl SZ)), (a8, .inl (cI, 25, .inl LN))] H := hP
      have hD : va_D A [(m0, .inr (2, [.int th, .int (nI wn), .int (nI hn), .int (nI q0), .int wv, .ref a1, .ref a2, .ref a3, .ref a4, .ref a5, .ref a6, .ref a7, .ref a8, .int mn])), (a1, .inl (cI, 25, .inl (kI K0))), (a2, .inl (cI, 25, .inl NX)), (a3, .inl (cZ, 25, .inl (zB T0))), (a4, .inl (cI, 100, .inl (bI wn hn))), (a5, .inl (cI, 25, .inl KP)), (a6, .inl (cI, 25, .inl RG)), (a7, .inl (cI, 26, .inl SZ)), (a8, .inl (cI, 25, .inl LN))] := hD
      have hp_6 : r_1 = nI (wn * hn) := hp_6
      refine z_topi (y := nI (wn * hn)) hp_6 ?_
      refine lv_icmp_ge (tgt := 92) hx hb dX2_between_9 (by decide) (fun c_9 => ?_) (fun c_9 => ?_)
      · skip
        have n_9 := zc_le_t (a := (wn * hn)) (b := i) (by omega) (by omega) c_9
        refine lv_iload_n hx hb dX2_between_92 rfl (lv_at hl 1 rfl) ?_
        rw [← hQ]
        exact z_iret (W1 := (fun (_ : Unit) => [(m0, .inr (2, [.int th, .int (nI wn), .int (nI hn), .int (nI q0), .int wv, .ref a1, .ref a2, .ref a3, .ref a4, .ref a5, .ref a6, .ref a7, .ref a8, .int mn])), (a1, .inl (cI, 25, .inl (kI K0))), (a2, .inl (cI, 25, .inl NX)), (a3, .inl (cZ, 25, .inl (zB T0))), (a4, .inl (cI, 100, .inl (bI wn hn))), (a5, .inl (cI, 25, .inl KP)), (a6, .inl (cI, 25, .inl RG)), (a7, .inl (cI, 26, .inl SZ)), (a8, .inl (cI, 25, .inl LN))])) hx hb hr hlocks hP hS () (rfl) (by rw [show i = wn * hn by omega]) dX2_between_93
      · skip
        have n_9 := zc_le_f (a := (wn * hn)) (b := i) (by omega) (by omega) c_9
        exact absurd n_9 (by omega)
    | succ n ih_4 =>
      intro i hkn  H locs ls hP hD hS hl
      refine lv_iload_n hx hb dX2_between_4 rfl (lv_at hl 2 rfl) ?_
      refine lv_aload_n hx hb dX2_between_5 rfl (lv_at hl 0 rfl) ?_
      refine z_callVi (As := []) (rest := [.int (nI i)]) F9 (m_X2_cells l dC dI cI cZ cJ cD m0 a1 a2 a3 a4 a5 a6 a7 a8 th wn hn q0 wv K0 NX T0 KP RG SZ LN mn ) (cwV 0 hts gX2_between_X2_cells rfl rfl rfl (by decide +kernel) ⟨Nat.le_of_ble_eq_true rfl, Nat.le_of_ble_eq_true rfl⟩) hK hN hP hD hS hA [0, 1, 2, 3, 4, 5, 6, 7, 8] rfl rfl (fun _ => rfl) 0 (ci := 2) rfl rfl rfl rfl hl.1 rfl (Nat.le_of_ble_eq_true rfl) dX2_between_6 ⟨Nat.zero_le _, Nat.zero_le _⟩ (fun r_2 u H locs hp_6 hP hD hS => ?_)
      have hP : va_P (dC, dI) vwCl [(m0, .inr (2, [.int th, .int (nI wn), .int (nI hn), .int (nI q0), .int wv, .ref a1, .ref a2, .ref a3, .ref a4, .ref a5, .ref a6, .ref a7, .ref a8, .int mn])), (a1, .inl (cI, 25, .inl (kI K0))), (a2, .inl (cI, 25, .inl NX)), (a3, .inl (cZ, 25, .inl (zB T0))), (a4, .inl (cI, 100, .inl (bI wn hn))), (a5, .inl (cI, 25, .inl KP)), (a6, .inl (cI, 25, .inl RG)), (a7, .inl (cI, 26, .inl SZ)), (a8, .inl (cI, 25, .inl LN))] H := hP
      have hD : va_D A [(m0, .inr (2, [.int th, .int (nI wn), .int (nI hn), .int (nI q0), .int wv, .ref a1, .ref a2, .ref a3, .ref a4, .ref a5, .ref a6, .ref a7, .ref a8, .int mn])), (a1, .inl (cI, 25, .inl (kI K0))), (a2, .inl (cI, 25, .inl NX)), (a3, .inl (cZ, 25, .inl (zB T0))), (a4, .inl (cI, 100, .inl (bI wn hn))), (a5, .inl (cI, 25, .inl KP)), (a6, .inl (cI, 25, .inl RG)), (a7, .inl (cI, 26, .inl SZ)), (a8, .inl (cI, 25, .inl LN))] := hD
      have hp_6 : r_2 = nI (wn * hn) := hp_6
      refine z_topi (y := nI (wn * hn)) hp_6 ?_
      refine lv_icmp_ge (tgt := 92) hx hb dX2_between_9 (by decide) (fun c_9 => ?_) (fun c_9 => ?_)
      · skip
        have n_9 := zc_le_t (a := (wn * hn)) (b := i) (by omega) (by omega) c_9
        exact absurd n_9 (by omega)
      · skip
        have n_9 := zc_le_f (a := (wn * hn)) (b := i) (by omega) (by omega) c_9
        refine lv_iconst (v := 1) hx hb dX2_between_12 (by decide) ?_
        refine lv_istore_n (lv' := [(3, .int 1), (0, .ref m0), (1, .int (nI (boN wn hn K0 i))), (2, .int (nI i))]) hx hb dX2_between_13 rfl hl (by decide) rfl (fun ls hl => ?_)
        have loop_14 : ∀ (n : Nat) (j : Nat) (sd : Nat) (hkn : j + n = 2) (es : sd = 2 * j + 1) (H : Heap) (locs : List Loc) (ls : Array Slot) (hP : va_P (dC, dI) vwCl [(m0, .inr (2, [.int th, .int (nI wn), .int (nI hn), .int (nI q0), .int wv, .ref a1, .ref a2, .ref a3, .ref a4, .ref a5, .ref a6, .ref a7, .ref a8, .int mn])), (a1, .inl (cI, 25, .inl (kI K0))), (a2, .inl (cI, 25, .inl NX)), (a3, .inl (cZ, 25, .inl (zB T0))), (a4, .inl (cI, 100, .inl (bI wn hn))), (a5, .inl (cI, 25, .inl KP)), (a6, .inl (cI, 25, .inl RG)), (a7, .inl (cI, 26, .inl SZ)), (a8, .inl (cI, 25, .inl LN))] H) (hD : va_D A [(m0, .inr (2, [.int th, .int (nI wn), .int (nI hn), .int (nI q0), .int wv, .ref a1, .ref a2, .ref a3, .ref a4, .ref a5, .ref a6, .ref a7, .ref a8, .int mn])), (a1, .inl (cI, 25, .inl (kI K0))), (a2, .inl (cI, 25, .inl NX)), (a3, .inl (cZ, 25, .inl (zB T0))), (a4, .inl (cI, 100, .inl (bI wn hn))), (a5, .inl (cI, 25, .inl KP)), (a6, .inl (cI, 25, .inl RG)), (a7, .inl (cI, 26, .inl SZ)), (a8, .inl (cI, 25, .inl LN))]) (hS : va_S A s.heap H locs) (hl : lv_has ls 5 [(0, .ref m0), (1, .int (nI (boN wn hn K0 i + boS wn hn K0 i j))), (2, .int (nI i)), (3, .int (nI sd))]), W p l e rmX2_between s m args below meth c H locs 0 0 Q (F0 m 14 ls []) := by
          intro n
          induction n with
          | zero =>
            intro j sd hkn es H locs ls hP hD hS hl
            refine lv_iload_n hx hb dX2_between_14 rfl (lv_at hl 3 rfl) ?_
            refine lv_iconst (v := 4) hx hb dX2_between_15 (by decide) ?_
            refine lv_icmp_ge (tgt := 86) hx hb dX2_between_16 (by decide) (fun c_16 => ?_) (fun c_16 => ?_)
            · skip
              have n_16 := zc_le_t (a := 4) (b := sd) (by omega) (by omega) c_16
              refine lv_iinc (v := nI (i + 1)) (lv' := [(2, .int (nI (i + 1))), (0, .ref m0), (1, .int (nI (boN wn hn K0 i + boS wn hn K0 i j))), (3, .int (nI sd))]) hx hb dX2_between_86 hl (k := 2) rfl (nI_1 i) (by decide) rfl (fun ls hl => ?_)
              refine lv_goto (tgt := 4) hx hb dX2_between_89 (by decide) ?_
              have hl9 := hl
              have hP9 := hP
              have hD9 := hD
              have hS9 := hS
              obtain rfl : j = 2 := by omega
              have hl := hl9
              have hP := hP9
              have hD := hD9
              have hS := hS9
              exact ih_4 (i + 1) (by omega)  _ _ _ hP hD hS (lv_sub hl [1, 2, 0] rfl)
            · skip
              have n_16 := zc_le_f (a := 4) (b := sd) (by omega) (by omega) c_16
              exact absurd n_16 (by omega)
          | succ n ih_14 =>
            intro j sd hkn es H locs ls hP hD hS hl
            refine lv_iload_n hx hb dX2_between_14 rfl (lv_at hl 3 rfl) ?_
            refine lv_iconst (v := 4) hx hb dX2_between_15 (by decide) ?_
            refine lv_icmp_ge (tgt := 86) hx hb dX2_between_16 (by decide) (fun c_16 => ?_) (fun c_16 => ?_)
            · skip
              have n_16 := zc_le_t (a := 4) (b := sd) (by omega) (by omega) c_16
              exact absurd n_16 (by omega)
            · skip
              have n_16 := zc_le_f (a := 4) (b := sd) (by omega) (by omega) c_16
              refine lv_aload_n hx hb dX2_between_19 rfl (lv_at hl 0 rfl) ?_
              refine va_get (D := (dC, dI)) (ci := 2) (v := .ref a4) (C := RX2) (T := TX2) (N := 14) hx hb hts iX2_between_X2 hown hK hP 0 rfl rfl 8 (by decide) (hts (.fieldLink RX2 24 "ColourTideModel" "beside" "[I") (List.mem_of_getElem? (i := 1) rfl)) (fun _ h9 => h9) rfl dX2_between_20 ?_
              refine lv_iconst (v := 4) hx hb dX2_between_23 (by decide) ?_
              refine lv_iload_n hx hb dX2_between_24 rfl (lv_at hl 2 rfl) ?_
              refine lv_imul hx hb dX2_between_25 ?_
              refine z_topi (y := nI (4 * i)) (pk_mul 4 i) ?_
              refine lv_iload_n hx hb dX2_between_26 rfl (lv_at hl 3 rfl) ?_
              refine lv_iadd hx hb dX2_between_27 ?_
              refine z_topi (y := nI ((4 * i) + sd)) (nI_add (4 * i) sd) ?_
              refine z_iald hx hb hK hP 4 0 rfl rfl ((4 * i) + sd) (rfl) (by omega) (by decide) dX2_between_28 ?_
              refine z_topi (y := bV (nbr wn hn i sd)) (bI_at wn hn n_16) ?_
              refine lv_istore (lv' := [(4, .int (bV (nbr wn hn i sd))), (0, .ref m0), (1, .int (nI (boN wn hn K0 i + boS wn hn K0 i j))), (2, .int (nI i)), (3, .int (nI sd))]) hx hb dX2_between_29 hl (by decide) rfl (fun ls hl => ?_)
              refine lv_iload_n hx hb dX2_between_31 rfl (lv_at hl 2 rfl) ?_
              refine lv_iload hx hb dX2_between_32 (lv_at hl 0 rfl) ?_
              refine lv_iconst (v := (-1)) hx hb dX2_between_34 (by decide) ?_
              suffices j_78 : ∀ v_78 : Int32, v_78 = (nI (bN (bo1 wn hn K0 i sd))) → W p l e rmX2_between s m args below meth c H locs 0 0 Q (F0 m 78 ls [.int v_78, .int (nI (boN wn hn K0 i + boS wn hn K0 i j))]) by
                refine lv_icmp_eq (tgt := 77) hx hb dX2_between_35 (by decide) (fun c_35 => ?_) (fun c_35 => ?_)
                · skip
                  refine lv_iconst (v := 0) hx hb dX2_between_77 (by decide) ?_
                  exact j_78 _ (by rw [bo1_none (bV_none c_35 (fun d e => by have := nbr_lt n_9 e; omega))]; rfl)
                · skip
                  obtain ⟨d, ed⟩ := bV_some c_35
                  have hd := nbr_lt n_9 ed
                  refine lv_aload_n hx hb dX2_between_38 rfl (lv_at hl 1 rfl) ?_
                  refine va_get (D := (dC, dI)) (ci := 2) (v := .ref a1) (C := RX2) (T := TX2) (N := 14) hx hb hts iX2_between_X2 hown hK hP 0 rfl rfl 5 (by decide) (hts (.fieldLink RX2 13 "ColourTideModel" "colours" "[I") (List.mem_of_getElem? (i := 2) rfl)) (fun _ h9 => h9) rfl dX2_between_39 ?_
                  refine lv_iload_n hx hb dX2_between_42 rfl (lv_at hl 3 rfl) ?_
                  refine z_iald hx hb hK hP 1 0 rfl rfl i (rfl) (by omega) (by decide) dX2_between_43 ?_
                  refine z_topi (y := nI (K0 i)) (rfl) ?_
                  refine lv_if_eq (tgt := 77) hx hb dX2_between_44 (by decide) (fun c_44 => ?_) (fun c_44 => ?_)
                  · skip
                    have n_44 := zc_eq_t (a := (K0 i)) (b := 0) (by have := hK4 i; omega) (by have := hK4 i; omega) c_44
                    refine lv_iconst (v := 0) hx hb dX2_between_77 (by decide) ?_
                    exact j_78 _ (by rw [bo1_some ed, decide_eq_false (fun q => q.1 n_44)]; rfl)
                  · skip
                    have n_44 := zc_eq_f (a := (K0 i)) (b := 0) (by have := hK4 i; omega) (by have := hK4 i; omega) c_44
                    refine lv_aload_n hx hb dX2_between_47 rfl (lv_at hl 1 rfl) ?_
                    refine va_get (D := (dC, dI)) (ci := 2) (v := .ref a1) (C := RX2) (T := TX2) (N := 14) hx hb hts iX2_between_X2 hown hK hP 0 rfl rfl 5 (by decide) (hts (.fieldLink RX2 13 "ColourTideModel" "colours" "[I") (List.mem_of_getElem? (i := 2) rfl)) (fun _ h9 => h9) rfl dX2_between_48 ?_
                    refine lv_iload hx hb dX2_between_51 (lv_at hl 0 rfl) ?_
                    refine z_iald hx hb hK hP 1 0 rfl rfl d (by rw [ed]; rfl) (by omega) (by decide) dX2_between_53 ?_
                    refine z_topi (y := nI (K0 d)) (rfl) ?_
                    refine lv_if_eq (tgt := 77) hx hb dX2_between_54 (by decide) (fun c_54 => ?_) (fun c_54 => ?_)
                    · skip
                      have n_54 := zc_eq_t (a := (K0 d)) (b := 0) (by have := hK4 d; omega) (by have := hK4 d; omega) c_54
                      refine lv_iconst (v := 0) hx hb dX2_between_77 (by decide) ?_
                      exact j_78 _ (by rw [bo1_some ed, decide_eq_false (fun q => q.2.1 n_54)]; rfl)
                    · skip
                      have n_54 := zc_eq_f (a := (K0 d)) (b := 0) (by have := hK4 d; omega) (by have := hK4 d; omega) c_54
                      refine lv_aload_n hx hb dX2_between_57 rfl (lv_at hl 1 rfl) ?_
                      refine va_get (D := (dC, dI)) (ci := 2) (v := .ref a1) (C := RX2) (T := TX2) (N := 14) hx hb hts iX2_between_X2 hown hK hP 0 rfl rfl 5 (by decide) (hts (.fieldLink RX2 13 "ColourTideModel" "colours" "[I") (List.mem_of_getElem? (i := 2) rfl)) (fun _ h9 => h9) rfl dX2_between_58 ?_
                      refine lv_iload_n hx hb dX2_between_61 rfl (lv_at hl 3 rfl) ?_
                      refine z_iald hx hb hK hP 1 0 rfl rfl i (rfl) (by omega) (by decide) dX2_between_62 ?_
                      refine z_topi (y := nI (K0 i)) (rfl) ?_
                      refine lv_aload_n hx hb dX2_between_63 rfl (lv_at hl 1 rfl) ?_
                      refine va_get (D := (dC, dI)) (ci := 2) (v := .ref a1) (C := RX2) (T := TX2) (N := 14) hx hb hts iX2_between_X2 hown hK hP 0 rfl rfl 5 (by decide) (hts (.fieldLink RX2 13 "ColourTideModel" "colours" "[I") (List.mem_of_getElem? (i := 2) rfl)) (fun _ h9 => h9) rfl dX2_between_64 ?_
                      refine lv_iload hx hb dX2_between_67 (lv_at hl 0 rfl) ?_
                      refine z_iald hx hb hK hP 1 0 rfl rfl d (by rw [ed]; rfl) (by omega) (by decide) dX2_between_69 ?_
                      refine z_topi (y := nI (K0 d)) (rfl) ?_
                      refine lv_icmp_eq (tgt := 77) hx hb dX2_between_70 (by decide) (fun c_70 => ?_) (fun c_70 => ?_)
                      · skip
                        have n_70 := zc_eq_t (a := (K0 i)) (b := (K0 d)) (by have := hK4 d; have := hK4 i; omega) (by have := hK4 d; have := hK4 i; omega) c_70
                        refine lv_iconst (v := 0) hx hb dX2_between_77 (by decide) ?_
                        exact j_78 _ (by rw [bo1_some ed, decide_eq_false (fun q => q.2.2 n_70)]; rfl)
                      · skip
                        have n_70 := zc_eq_f (a := (K0 i)) (b := (K0 d)) (by have := hK4 d; have := hK4 i; omega) (by have := hK4 d; have := hK4 i; omega) c_70
                        refine lv_iconst (v := 1) hx hb dX2_between_73 (by decide) ?_
                        refine lv_goto (tgt := 78) hx hb dX2_between_74 (by decide) ?_
                        exact j_78 _ (by rw [bo1_some ed, decide_eq_true ⟨n_44, n_54, n_70⟩]; rfl)
              intro v_78 h_v_78
              refine lv_iadd hx hb dX2_between_78 ?_
              refine z_topi (y := nI (boN wn hn K0 i + boS wn hn K0 i (j + 1))) (by rw [h_v_78, es, nI_add, Nat.add_assoc]; rfl) ?_
              refine lv_istore_n (lv' := [(1, .int (nI (boN wn hn K0 i + boS wn hn K0 i (j + 1)))), (4, .int (bV (nbr wn hn i sd))), (0, .ref m0), (2, .int (nI i)), (3, .int (nI sd))]) hx hb dX2_between_79 rfl hl (by decide) rfl (fun ls hl => ?_)
              refine lv_iinc (v := nI (sd + 2)) (lv' := [(3, .int (nI (sd + 2))), (1, .int (nI (boN wn hn K0 i + boS wn hn K0 i (j + 1)))), (4, .int (bV (nbr wn hn i sd))), (0, .ref m0), (2, .int (nI i))]) hx hb dX2_between_80 hl (k := 4) rfl (nI_add sd 2) (by decide) rfl (fun ls hl => ?_)
              refine lv_goto (tgt := 14) hx hb dX2_between_83 (by decide) ?_
              exact ih_14 (j + 1) (sd + 2) (by omega) (by omega) _ _ _ hP hD hS (lv_sub hl [3, 1, 4, 0] rfl)
        exact loop_14 2 0 1 (by omega) (rfl) _ _ _ hP hD hS (lv_sub hl [1, 2, 3, 0] rfl)
  exact loop_4 (wn * hn) 0 (by omega)  _ _ _ hP hD hS (lv_sub hl [2, 1, 0] rfl)
abbrev rmX2_first : Room := { frames := 2, cells := 0, slots := 0, locals := 43 }
set_option maxRecDepth 20000 in
theorem iX2_first_X2 : ∀ w ∈ wsX20, w ∈ wsX2_first := fun w h => (goodIn_r (big := wsX2_first) wsX20 [13, 14, 15, 16, 17, 18, 19, 20, 21, 22, 23, 24, 25, 26] (by decide +kernel) (by decide +kernel) w h).1
set_option maxHeartbeats 4000000 in
set_option maxRecDepth 100000 in
theorem m_X2_first (l : Launch) (dC : Nat → ClassId) (dI : Nat → Nat → Nat) (cI cZ cJ cD : ClassId) (m0 : Nat) (a1 : Nat) (a2 : Nat) (a3 : Nat) (a4 : Nat) (a5 : Nat) (a6 : Nat) (a7 : Nat) (a8 : Nat) (th : Int32) (wn : Nat) (hn : Nat) (q0 : Nat) (wv : Int32) (K0 : Nat → Nat) (NX : Nat → Int32) (T0 : Nat → Bool) (KP : Nat → Int32) (RG : Nat → Int32) (SZ : Nat → Int32) (LN : Nat → Int32) (mn : Int32) (g : gok wn hn) (hK4 : ∀ c, K0 c ≤ 4) : zI l (dC, dI) (wT cI cZ cJ cD) yX2_first wsX2_first rmX2_first [(m0, .inr (2, [.int th, .int (nI wn), .int (nI hn), .int (nI q0), .int wv, .ref a1, .ref a2, .ref a3, .ref a4, .ref a5, .ref a6, .ref a7, .ref a8, .int mn])), (a1, .inl (cI, 25, .inl (kI K0))), (a2, .inl (cI, 25, .inl NX)), (a3, .inl (cZ, 25, .inl (zB T0))), (a4, .inl (cI, 100, .inl (bI wn hn))), (a5, .inl (cI, 25, .inl KP)), (a6, .inl (cI, 25, .inl RG)), (a7, .inl (cI, 26, .inl SZ)), (a8, .inl (cI, 25, .inl LN))] [.ref m0] (fun (_ : Unit) => [(m0, .inr (2, [.int th, .int (nI wn), .int (nI hn), .int (nI q0), .int wv, .ref a1, .ref a2, .ref a3, .ref a4, .ref a5, .ref a6, .ref a7, .ref a8, .int mn])), (a1, .inl (cI, 25, .inl (kI K0))), (a2, .inl (cI, 25, .inl NX)), (a3, .inl (cZ, 25, .inl (zB T0))), (a4, .inl (cI, 100, .inl (bI wn hn))), (a5, .inl (cI, 25, .inl KP)), (a6, .inl (cI, 25, .inl RG)), (a7, .inl (cI, 26, .inl SZ)), (a8, .inl (cI, 25, .inl LN))]) (fun (r : Int32) (_ : Unit) => r = nI (bestL (ccF K0 (wn * hn)) 1 4)) := by
  intro sz
  refine Met.ofW (cc := cX2_first) (maxL := 5) (ret := (some .int)) (by decide) rfl ?_
  intro p e s m args below meth c s₁ B hml hv
  obtain ⟨ha, hsz, hP, hK, hD0, hN⟩ := hv
  have hx := B.exec
  have hb := B.bytes
  have hr := B.returns
  have hts := atoms_spec (ws := wsX2_first) B.pre
  have hown : s.vm.findClass RX2 = some m.cls := findClass_of_methodNamed B.named
  have hlocks := B.notSynchronized
  subst hsz
  have hD := hD0.self (sz := s.heap.size)
  generalize hAe : va_A [(m0, .inr (2, [.int th, .int (nI wn), .int (nI hn), .int (nI q0), .int wv, .ref a1, .ref a2, .ref a3, .ref a4, .ref a5, .ref a6, .ref a7, .ref a8, .int mn])), (a1, .inl (cI, 25, .inl (kI K0))), (a2, .inl (cI, 25, .inl NX)), (a3, .inl (cZ, 25, .inl (zB T0))), (a4, .inl (cI, 100, .inl (bI wn hn))), (a5, .inl (cI, 25, .inl KP)), (a6, .inl (cI, 25, .inl RG)), (a7, .inl (cI, 26, .inl SZ)), (a8, .inl (cI, 25, .inl LN))] s.heap.size = A at hD ⊢
  have hA : ∀ q : Nat, s.heap.size ≤ q → A q := fun q h => by rw [← hAe]; exact Or.inr h
  have hS : va_S A s.heap s.heap [] := va_S.rf
  generalize hQ : MQ below (va_Qi (fun (r : Int32) (_ : Unit) => r = nI (bestL (ccF K0 (wn * hn)) 1 4)) (fun u t => va_P (dC, dI) vwCl ((fun (_ : Unit) => [(m0, .inr (2, [.int th, .int (nI wn), .int (nI hn), .int (nI q0), .int wv, .ref a1, .ref a2, .ref a3, .ref a4, .ref a5, .ref a6, .ref a7, .ref a8, .int mn])), (a1, .inl (cI, 25, .inl (kI K0))), (a2, .inl (cI, 25, .inl NX)), (a3, .inl (cZ, 25, .inl (zB T0))), (a4, .inl (cI, 100, .inl (bI wn hn))), (a5, .inl (cI, 25, .inl KP)), (a6, .inl (cI, 25, .inl RG)), (a7, .inl (cI, 26, .inl SZ)), (a8, .inl (cI, 25, .inl LN))]) u) t.heap) A) args s 0 0 A = Q
  have F9 : CallFix p m c cX2_first 5 s args wsX2_first RX2 := ⟨hx, hb, hml, hown, hts⟩
  obtain ⟨g1, g2, g3, g4⟩ := id g
  have g5 := wh_le g
  have g6 := wh_pos g
  refine z_entry (R := rmX2_first) ha (Nat.le_of_ble_eq_true rfl) (fun ls hl => ?_)
  have hl : lv_has ls 5 [(0, .ref m0)] := hl
  refine lv_iconst (v := 0) hx hb dX2_first_0 (by decide) ?_
  refine lv_istore_n (lv' := [(1, .int 0), (0, .ref m0)]) hx hb dX2_first_1 rfl hl (by decide) rfl (fun ls hl => ?_)
  refine lv_iconst (v := 0) hx hb dX2_first_2 (by decide) ?_
  refine lv_istore_n (lv' := [(2, .int 0), (1, .int 0), (0, .ref m0)]) hx hb dX2_first_3 rfl hl (by decide) rfl (fun ls hl => ?_)
  refine lv_iconst (v := 1) hx hb dX2_first_4 (by decide) ?_
  refine lv_istore_n (lv' := [(3, .int 1), (2, .int 0), (1, .int 0), (0, .ref m0)]) hx hb dX2_first_5 rfl hl (by decide) rfl (fun ls hl => ?_)
  have loop_6 : ∀ (n : Nat) (i : Nat) (b9 : Nat) (m9 : Nat) (hkn : i + n = 4) (e1 : b9 = bestL (ccF K0 (wn * hn)) 1 i) (e2 : m9 = mostL (ccF K0 (wn * hn)) 1 i) (e3 : m9 ≤ 25) (H : Heap) (locs : List Loc) (ls : Array Slot) (hP : va_P (dC, dI) vwCl [(m0, .inr (2, [.int th, .int (nI wn), .int (nI hn), .int (nI q0), .int wv, .ref a1, .ref a2, .ref a3, .ref a4, .ref a5, .ref a6, .ref a7, .ref a8, .int mn])), (a1, .inl (cI, 25, .inl (kI K0))), (a2, .inl (cI, 25, .inl NX)), (a3, .inl (cZ, 25, .inl (zB T0))), (a4, .inl (cI, 100, .inl (bI wn hn))), (a5, .inl (cI, 25, .inl KP)), (a6, .inl (cI, 25, .inl RG)), (a7, .inl (cI, 26, .inl SZ)), (a8, .inl (cI, 25, .inl LN))] H) (hD : va_D A [(m0, .inr (2, [.int th, .int (nI wn), .int (nI hn), .int (nI q0), .int wv, .ref a1, .ref a2, .ref a3, .ref a4, .ref a5, .ref a6, .ref a7, .ref a8, .int mn])), (a1, .inl (cI, 25, .inl (kI K0))), (a2, .inl (cI, 25, .inl NX)), (a3, .inl (cZ, 25, .inl (zB T0))), (a4, .inl (cI, 100, .inl (bI wn hn))), (a5, .inl (cI, 25, .inl KP)), (a6, .inl (cI, 25, .inl RG)), (a7, .inl (cI, 26, .inl SZ)), (a8, .inl (cI, 25, .inl LN))]) (hS : va_S A s.heap H locs) (hl : lv_has ls 5 [(0, .ref m0), (1, .int (nI b9)), (2, .int (nI m9)), (3, .int (nI (i + 1)))]), W p l e rmX2_first s m args below meth c H locs 0 0 Q (F0 m 6 ls []) := by
    intro n
    induction n with
    | zero =>
      intro i b9 m9 hkn e1 e2 e3 H locs ls hP hD hS hl
      refine lv_iload_n hx hb dX2_first_6 rfl (lv_at hl 3 rfl) ?_
      refine lv_iconst (v := 4) hx hb dX2_first_7 (by decide) ?_
      refine lv_icmp_gt (tgt := 38) hx hb dX2_first_8 (by decide) (fun c_8 => ?_) (fun c_8 => ?_)
      · skip
        have n_8 := zc_lt_t (a := 4) (b := (i + 1)) (by omega) (by omega) c_8
        refine lv_iload_n hx hb dX2_first_38 rfl (lv_at hl 1 rfl) ?_
        rw [← hQ]
        exact z_iret (W1 := (fun (_ : Unit) => [(m0, .inr (2, [.int th, .int (nI wn), .int (nI hn), .int (nI q0), .int wv, .ref a1, .ref a2, .ref a3, .ref a4, .ref a5, .ref a6, .ref a7, .ref a8, .int mn])), (a1, .inl (cI, 25, .inl (kI K0))), (a2, .inl (cI, 25, .inl NX)), (a3, .inl (cZ, 25, .inl (zB T0))), (a4, .inl (cI, 100, .inl (bI wn hn))), (a5, .inl (cI, 25, .inl KP)), (a6, .inl (cI, 25, .inl RG)), (a7, .inl (cI, 26, .inl SZ)), (a8, .inl (cI, 25, .inl LN))])) hx hb hr hlocks hP hS () (rfl) (by rw [e1, show i = 4 by omega]) dX2_first_39
      · skip
        have n_8 := zc_lt_f (a := 4) (b := (i + 1)) (by omega) (by omega) c_8
        exact absurd n_8 (by omega)
    | succ n ih_6 =>
      intro i b9 m9 hkn e1 e2 e3 H locs ls hP hD hS hl
      refine lv_iload_n hx hb dX2_first_6 rfl (lv_at hl 3 rfl) ?_
      refine lv_iconst (v := 4) hx hb dX2_first_7 (by decide) ?_
      refine lv_icmp_gt (tgt := 38) hx hb dX2_first_8 (by decide) (fun c_8 => ?_) (fun c_8 => ?_)
      · skip
        have n_8 := zc_lt_t (a := 4) (b := (i + 1)) (by omega) (by omega) c_8
        exact absurd n_8 (by omega)
      · skip
        have n_8 := zc_lt_f (a := 4) (b := (i + 1)) (by omega) (by omega) c_8
        refine lv_aload_n hx hb dX2_first_11 rfl (lv_at hl 0 rfl) ?_
        refine lv_iload_n hx hb dX2_first_12 rfl (lv_at hl 3 rfl) ?_
        refine z_callVi (As := [.int (nI (i + 1))]) (rest := []) F9 (m_X2_cellsWith l dC dI cI cZ cJ cD m0 a1 a2 a3 a4 a5 a6 a7 a8 th wn hn q0 wv K0 NX T0 KP RG SZ LN mn (i + 1) (g) (hK4) (by omega)) (cwV 1 hts gX2_first_X2_cellsWith rfl rfl rfl (by decide +kernel) ⟨Nat.le_of_ble_eq_true rfl, Nat.le_of_ble_eq_true rfl⟩) hK hN hP hD hS hA [0, 1, 2, 3, 4, 5, 6, 7, 8] rfl rfl (fun _ => rfl) 0 (ci := 2) rfl rfl rfl rfl hl.1 rfl (Nat.le_of_ble_eq_true rfl) dX2_first_13 ⟨Nat.zero_le _, Nat.zero_le _⟩ (fun r_1 u H locs hp_13 hP hD hS => ?_)
        have hP : va_P (dC, dI) vwCl [(m0, .inr (2, [.int th, .int (nI wn), .int (nI hn), .int (nI q0), .int wv, .ref a1, .ref a2, .ref a3, .ref a4, .ref a5, .ref a6, .ref a7, .ref a8, .int mn])), (a1, .inl (cI, 25, .inl (kI K0))), (a2, .inl (cI, 25, .inl NX)), (a3, .inl (cZ, 25, .inl (zB T0))), (a4, .inl (cI, 100, .inl (bI wn hn))), (a5, .inl (cI, 25, .inl KP)), (a6, .inl (cI, 25, .inl RG)), (a7, .inl (cI, 26, .inl SZ)), (a8, .inl (cI, 25, .inl LN))] H := hP
        have hD : va_D A [(m0, .inr (2, [.int th, .int (nI wn), .int (nI hn), .int (nI q0), .int wv, .ref a1, .ref a2, .ref a3, .ref a4, .ref a5, .ref a6, .ref a7, .ref a8, .int mn])), (a1, .inl (cI, 25, .inl (kI K0))), (a2, .inl (cI, 25, .inl NX)), (a3, .inl (cZ, 25, .inl (zB T0))), (a4, .inl (cI, 100, .inl (bI wn hn))), (a5, .inl (cI, 25, .inl KP)), (a6, .inl (cI, 25, .inl RG)), (a7, .inl (cI, 26, .inl SZ)), (a8, .inl (cI, 25, .inl LN))] := hD
        have hp_13 : r_1 = nI (ccN K0 (i + 1) (wn * hn)) := hp_13
        refine z_topi (y := nI (ccN K0 (i + 1) (wn * hn))) hp_13 ?_
        refine z_topi (y := nI (ccF K0 (wn * hn) (i + 1))) (rfl) ?_
        refine lv_istore (lv' := [(4, .int (nI (ccF K0 (wn * hn) (i + 1)))), (0, .ref m0), (1, .int (nI b9)), (2, .int (nI m9)), (3, .int (nI (i + 1)))]) hx hb dX2_first_16 hl (by decide) rfl (fun ls hl => ?_)
        refine lv_iload hx hb dX2_first_18 (lv_at hl 0 rfl) ?_
        refine lv_iload_n hx hb dX2_first_20 rfl (lv_at hl 3 rfl) ?_
        refine lv_icmp_gt (tgt := 27) hx hb dX2_first_21 (by decide) (fun c_21 => ?_) (fun c_21 => ?_)
        · skip
          have n_21 := zc_lt_t (a := m9) (b := (ccF K0 (wn * hn) (i + 1))) (by have : ccF K0 (wn * hn) (i + 1) ≤ wn * hn := ccN_le _ _ _; omega) (by have : ccF K0 (wn * hn) (i + 1) ≤ wn * hn := ccN_le _ _ _; omega) c_21
          refine lv_iload_n hx hb dX2_first_27 rfl (lv_at hl 4 rfl) ?_
          refine lv_istore_n (lv' := [(1, .int (nI (i + 1))), (4, .int (nI (ccF K0 (wn * hn) (i + 1)))), (0, .ref m0), (2, .int (nI m9)), (3, .int (nI (i + 1)))]) hx hb dX2_first_28 rfl hl (by decide) rfl (fun ls hl => ?_)
          refine lv_iload hx hb dX2_first_29 (lv_at hl 1 rfl) ?_
          refine lv_istore_n (lv' := [(2, .int (nI (ccF K0 (wn * hn) (i + 1)))), (1, .int (nI (i + 1))), (4, .int (nI (ccF K0 (wn * hn) (i + 1)))), (0, .ref m0), (3, .int (nI (i + 1)))]) hx hb dX2_first_31 rfl hl (by decide) rfl (fun ls hl => ?_)
          refine lv_iinc (v := nI ((i + 1) + 1)) (lv' := [(3, .int (nI ((i + 1) + 1))), (2, .int (nI (ccF K0 (wn * hn) (i + 1)))), (1, .int (nI (i + 1))), (4, .int (nI (ccF K0 (wn * hn) (i + 1)))), (0, .ref m0)]) hx hb dX2_first_32 hl (k := 4) rfl (nI_1 (i + 1)) (by decide) rfl (fun ls hl => ?_)
          refine lv_goto (tgt := 6) hx hb dX2_first_35 (by decide) ?_
          exact ih_6 (i + 1) (i + 1) (ccF K0 (wn * hn) (i + 1)) (by omega) (by rw [bestL, ← e2, if_pos n_21]) (by rw [mostL, ← e2, if_pos n_21]) (by have : ccF K0 (wn * hn) (i + 1) ≤ wn * hn := ccN_le _ _ _; omega) _ _ _ hP hD hS (lv_sub hl [4, 2, 1, 0] rfl)
        · skip
          have n_21 := zc_lt_f (a := m9) (b := (ccF K0 (wn * hn) (i + 1))) (by have : ccF K0 (wn * hn) (i + 1) ≤ wn * hn := ccN_le _ _ _; omega) (by have : ccF K0 (wn * hn) (i + 1) ≤ wn * hn := ccN_le _ _ _; omega) c_21
          refine lv_goto (tgt := 32) hx hb dX2_first_24 (by decide) ?_
          refine lv_iinc (v := nI ((i + 1) + 1)) (lv' := [(3, .int (nI ((i + 1) + 1))), (4, .int (nI (ccF K0 (wn * hn) (i + 1)))), (0, .ref m0), (1, .int (nI b9)), (2, .int (nI m9))]) hx hb dX2_first_32 hl (k := 4) rfl (nI_1 (i + 1)) (by decide) rfl (fun ls hl => ?_)
          refine lv_goto (tgt := 6) hx hb dX2_first_35 (by decide) ?_
          exact ih_6 (i + 1) b9 m9 (by omega) (by rw [bestL, ← e2, if_neg (by omega)]; exact e1) (by rw [mostL, ← e2, if_neg (by omega)]) (e3) _ _ _ hP hD hS (lv_sub hl [2, 3, 4, 0] rfl)
  exact loop_6 4 0 0 0 (by omega) (rfl) (rfl) (by omega) _ _ _ hP hD hS (lv_sub hl [3, 2, 1, 0] rfl)
abbrev rmX2_still : Room := { frames := 2, cells := 0, slots := 0, locals := 50 }
set_option maxRecDepth 20000 in
theorem iX2_still_X2 : ∀ w ∈ wsX20, w ∈ wsX2_still := fun w h => (goodIn_r (big := wsX2_still) wsX20 [20, 21, 22, 23, 24, 25, 26, 27, 28, 29, 30, 31, 32, 33] (by decide +kernel) (by decide +kernel) w h).1
set_option maxHeartbeats 4000000 in
set_option maxRecDepth 100000 in
theorem m_X2_still (l : Launch) (dC : Nat → ClassId) (dI : Nat → Nat → Nat) (cI cZ cJ cD : ClassId) (m0 : Nat) (a1 : Nat) (a2 : Nat) (a3 : Nat) (a4 : Nat) (a5 : Nat) (a6 : Nat) (a7 : Nat) (a8 : Nat) (th : Int32) (wn : Nat) (hn : Nat) (q0 : Nat) (wv : Int32) (K0 : Nat → Nat) (NX : Nat → Int32) (T0 : Nat → Bool) (KP : Nat → Int32) (RG : Nat → Int32) (SZ : Nat → Int32) (LN : Nat → Int32) (mn : Int32) (g : gok wn hn) (hK4 : ∀ c, K0 c ≤ 4) (hq : 1 ≤ q0 ∧ q0 ≤ 4) : zI l (dC, dI) (wT cI cZ cJ cD) yX2_still wsX2_still rmX2_still [(m0, .inr (2, [.int th, .int (nI wn), .int (nI hn), .int (nI q0), .int wv, .ref a1, .ref a2, .ref a3, .ref a4, .ref a5, .ref a6, .ref a7, .ref a8, .int mn])), (a1, .inl (cI, 25, .inl (kI K0))), (a2, .inl (cI, 25, .inl NX)), (a3, .inl (cZ, 25, .inl (zB T0))), (a4, .inl (cI, 100, .inl (bI wn hn))), (a5, .inl (cI, 25, .inl KP)), (a6, .inl (cI, 25, .inl RG)), (a7, .inl (cI, 26, .inl SZ)), (a8, .inl (cI, 25, .inl LN))] [.ref m0] (fun (_ : Unit) => [(m0, .inr (2, [.int th, .int (nI wn), .int (nI hn), .int (nI q0), .int wv, .ref a1, .ref a2, .ref a3, .ref a4, .ref a5, .ref a6, .ref a7, .ref a8, .int mn])), (a1, .inl (cI, 25, .inl (kI K0))), (a2, .inl (cI, 25, .inl NX)), (a3, .inl (cZ, 25, .inl (zB T0))), (a4, .inl (cI, 100, .inl (bI wn hn))), (a5, .inl (cI, 25, .inl KP)), (a6, .inl (cI, 25, .inl RG)), (a7, .inl (cI, 26, .inl SZ)), (a8, .inl (cI, 25, .inl LN))]) (fun (r : Int32) (_ : Unit) => r = bz (stN wn hn q0 T0 K0 (wn * hn))) := by
  intro sz
  refine Met.ofW (cc := cX2_still) (maxL := 2) (ret := (some .boolean)) (by decide) rfl ?_
  intro p e s m args below meth c s₁ B hml hv
  obtain ⟨ha, hsz, hP, hK, hD0, hN⟩ := hv
  have hx := B.exec
  have hb := B.bytes
  have hr := B.returns
  have hts := atoms_spec (ws := wsX2_still) B.pre
  have hown : s.vm.findClass RX2 = some m.cls := findClass_of_methodNamed B.named
  have hlocks := B.notSynchronized
  subst hsz
  have hD := hD0.self (sz := s.heap.size)
  generalize hAe : va_A [(m0, .inr (2, [.int th, .int (nI wn), .int (nI hn), .int (nI q0), .int wv, .ref a1, .ref a2, .ref a3, .ref a4, .ref a5, .ref a6, .ref a7, .ref a8, .int mn])), (a1, .inl (cI, 25, .inl (kI K0))), (a2, .inl (cI, 25, .inl NX)), (a3, .inl (cZ, 25, .inl (zB T0))), (a4, .inl (cI, 100, .inl (bI wn hn))), (a5, .inl (cI, 25, .inl KP)), (a6, .inl (cI, 25, .inl RG)), (a7, .inl (cI, 26, .inl SZ)), (a8, .inl (cI, 25, .inl LN))] s.heap.size = A at hD ⊢
  have hA : ∀ q : Nat, s.heap.size ≤ q → A q := fun q h => by rw [← hAe]; exact Or.inr h
  have hS : va_S A s.heap s.heap [] := va_S.rf
  generalize hQ : MQ below (va_Qi (fun (r : Int32) (_ : Unit) => r = bz (stN wn hn q0 T0 K0 (wn * hn))) (fun u t => va_P (dC, dI) vwCl ((fun (_ : Unit) => [(m0, .inr (2, [.int th, .int (nI wn), .int (nI hn), .int (nI q0), .int wv, .ref a1, .ref a2, .ref a3, .ref a4, .ref a5, .ref a6, .ref a7, .ref a8, .int mn])), (a1, .inl (cI, 25, .inl (kI K0))), (a2, .inl (cI, 25, .inl NX)), (a3, .inl (cZ, 25, .inl (zB T0))), (a4, .inl (cI, 100, .inl (bI wn hn))), (a5, .inl (cI, 25, .inl KP)), (a6, .inl (cI, 25, .inl RG)), (a7, .inl (cI, 26, .inl SZ)), (a8, .inl (cI, 25, .inl LN))]) u) t.heap) A) args s 0 0 A = Q
  have F9 : CallFix p m c cX2_still 2 s args wsX2_still RX2 := ⟨hx, hb, hml, hown, hts⟩
  obtain ⟨g1, g2, g3, g4⟩ := id g
  have g5 := wh_le g
  have g6 := wh_pos g
  refine z_entry (R := rmX2_still) ha (Nat.le_of_ble_eq_true rfl) (fun ls hl => ?_)
  have hl : lv_has ls 2 [(0, .ref m0)] := hl
  refine lv_iconst (v := 0) hx hb dX2_still_0 (by decide) ?_
  refine lv_istore_n (lv' := [(1, .int 0), (0, .ref m0)]) hx hb dX2_still_1 rfl hl (by decide) rfl (fun ls hl => ?_)
  have loop_2 : ∀ (n : Nat) (i : Nat) (hkn : i + n = wn * hn) (e1 : stN wn hn q0 T0 K0 i = true) (H : Heap) (locs : List Loc) (ls : Array Slot) (hP : va_P (dC, dI) vwCl [(m0, .inr (2, [.int th, .int (nI wn), .int (nI hn), .int (nI q0), .int wv, .ref a1, .ref a2, .ref a3, .ref a4, .ref a5, .ref a6, .ref a7, .ref a8, .int mn])), (a1, .inl (cI, 25, .inl (kI K0))), (a2, .inl (cI, 25, .inl NX)), (a3, .inl (cZ, 25, .inl (zB T0))), (a4, .inl (cI, 100, .inl (bI wn hn))), (a5, .inl (cI, 25, .inl KP)), (a6, .inl (cI, 25, .inl RG)), (a7, .inl (cI, 26, .inl SZ)), (a8, .inl (cI, 25, .inl LN))] H) (hD : va_D A [(m0, .inr (2, [.int th, .int (nI wn), .int (nI hn), .int (nI q0), .int wv, .ref a1, .ref a2, .ref a3, .ref a4, .ref a5, .ref a6, .ref a7, .ref a8, .int mn])), (a1, .inl (cI, 25, .inl (kI K0))), (a2, .inl (cI, 25, .inl NX)), (a3, .inl (cZ, 25, .inl (zB T0))), (a4, .inl (cI, 100, .inl (bI wn hn))), (a5, .inl (cI, 25, .inl KP)), (a6, .inl (cI, 25, .inl RG)), (a7, .inl (cI, 26, .inl SZ)), (a8, .inl (cI, 25, .inl LN))]) (hS : va_S A s.heap H locs) (hl : lv_has ls 2 [(0, .ref m0), (1, .int (nI i))]), W p l e rmX2_still s m args below meth c H locs 0 0 Q (F0 m 2 ls []) := by
    intro n
    induction n with
    | zero =>
      intro i hkn e1 H locs ls hP hD hS hl
      refine lv_iload_n hx hb dX2_still_2 rfl (lv_at hl 1 rfl) ?_
      refine lv_aload_n hx hb dX2_still_3 rfl (lv_at hl 0 rfl) ?_
      refine z_callVi (As := []) (rest := [.int (nI i)]) F9 (m_X2_cells l dC dI cI cZ cJ cD m0 a1 a2 a3 a4 a5 a6 a7 a8 th wn hn q0 wv K0 NX T0 KP RG SZ LN mn ) (cwV 0 hts gX2_still_X2_cells rfl rfl rfl (by decide +kernel) ⟨Nat.le_of_ble_eq_true rfl, Nat.le_of_ble_eq_true rfl⟩) hK hN hP hD hS hA [0, 1, 2, 3, 4, 5, 6, 7, 8] rfl rfl (fun _ => rfl) 0 (ci := 2) rfl rfl rfl rfl hl.1 rfl (Nat.le_of_ble_eq_true rfl) dX2_still_4 ⟨Nat.zero_le _, Nat.zero_le _⟩ (fun r_1 u H locs hp_4 hP hD hS => ?_)
      have hP : va_P (dC, dI) vwCl [(m0, .inr (2, [.int th, .int (nI wn), .int (nI hn), .int (nI q0), .int wv, .ref a1, .ref a2, .ref a3, .ref a4, .ref a5, .ref a6, .ref a7, .ref a8, .int mn])), (a1, .inl (cI, 25, .inl (kI K0))), (a2, .inl (cI, 25, .inl NX)), (a3, .inl (cZ, 25, .inl (zB T0))), (a4, .inl (cI, 100, .inl (bI wn hn))), (a5, .inl (cI, 25, .inl KP)), (a6, .inl (cI, 25, .inl RG)), (a7, .inl (cI, 26, .inl SZ)), (a8, .inl (cI, 25, .inl LN))] H := hP
      have hD : va_D A [(m0, .inr (2, [.int th, .int (nI wn), .int (nI hn), .int (nI q0), .int wv, .ref a1, .ref a2, .ref a3, .ref a4, .ref a5, .ref a6, .ref a7, .ref a8, .int mn])), (a1, .inl (cI, 25, .inl (kI K0))), (a2, .inl (cI, 25, .inl NX)), (a3, .inl (cZ, 25, .inl (zB T0))), (a4, .inl (cI, 100, .inl (bI wn hn))), (a5, .inl (cI, 25, .inl KP)), (a6, .inl (cI, 25, .inl RG)), (a7, .inl (cI, 26, .inl SZ)), (a8, .inl (cI, 25, .inl LN))] := hD
      have hp_4 : r_1 = nI (wn * hn) := hp_4
      refine z_topi (y := nI (wn * hn)) hp_4 ?_
      refine lv_icmp_ge (tgt := 32) hx hb dX2_still_7 (by decide) (fun c_7 => ?_) (fun c_7 => ?_)
      · skip
        have n_7 := zc_le_t (a := (wn * hn)) (b := i) (by omega) (by omega) c_7
        have ei : i = wn * hn := by omega
        refine lv_iconst (v := 1) hx hb dX2_still_32 (by decide) ?_
        rw [← hQ]
        exact z_zret (W1 := (fun (_ : Unit) => [(m0, .inr (2, [.int th, .int (nI wn), .int (nI hn), .int (nI q0), .int wv, .ref a1, .ref a2, .ref a3, .ref a4, .ref a5, .ref a6, .ref a7, .ref a8, .int mn])), (a1, .inl (cI, 25, .inl (kI K0))), (a2, .inl (cI, 25, .inl NX)), (a3, .inl (cZ, 25, .inl (zB T0))), (a4, .inl (cI, 100, .inl (bI wn hn))), (a5, .inl (cI, 25, .inl KP)), (a6, .inl (cI, 25, .inl RG)), (a7, .inl (cI, 26, .inl SZ)), (a8, .inl (cI, 25, .inl LN))])) hx hb hr hlocks (by decide +kernel) hP hS () (rfl) (by rw [← ei, e1]; rfl) dX2_still_33
      · skip
        have n_7 := zc_le_f (a := (wn * hn)) (b := i) (by omega) (by omega) c_7
        exact absurd n_7 (by omega)
    | succ n ih_2 =>
      intro i hkn e1 H locs ls hP hD hS hl
      refine lv_iload_n hx hb dX2_still_2 rfl (lv_at hl 1 rfl) ?_
      refine lv_aload_n hx hb dX2_still_3 rfl (lv_at hl 0 rfl) ?_
      refine z_callVi (As := []) (rest := [.int (nI i)]) F9 (m_X2_cells l dC dI cI cZ cJ cD m0 a1 a2 a3 a4 a5 a6 a7 a8 th wn hn q0 wv K0 NX T0 KP RG SZ LN mn ) (cwV 0 hts gX2_still_X2_cells rfl rfl rfl (by decide +kernel) ⟨Nat.le_of_ble_eq_true rfl, Nat.le_of_ble_eq_true rfl⟩) hK hN hP hD hS hA [0, 1, 2, 3, 4, 5, 6, 7, 8] rfl rfl (fun _ => rfl) 0 (ci := 2) rfl rfl rfl rfl hl.1 rfl (Nat.le_of_ble_eq_true rfl) dX2_still_4 ⟨Nat.zero_le _, Nat.zero_le _⟩ (fun r_2 u H locs hp_4 hP hD hS => ?_)
      have hP : va_P (dC, dI) vwCl [(m0, .inr (2, [.int th, .int (nI wn), .int (nI hn), .int (nI q0), .int wv, .ref a1, .ref a2, .ref a3, .ref a4, .ref a5, .ref a6, .ref a7, .ref a8, .int mn])), (a1, .inl (cI, 25, .inl (kI K0))), (a2, .inl (cI, 25, .inl NX)), (a3, .inl (cZ, 25, .inl (zB T0))), (a4, .inl (cI, 100, .inl (bI wn hn))), (a5, .inl (cI, 25, .inl KP)), (a6, .inl (cI, 25, .inl RG)), (a7, .inl (cI, 26, .inl SZ)), (a8, .inl (cI, 25, .inl LN))] H := hP
      have hD : va_D A [(m0, .inr (2, [.int th, .int (nI wn), .int (nI hn), .int (nI q0), .int wv, .ref a1, .ref a2, .ref a3, .ref a4, .ref a5, .ref a6, .ref a7, .ref a8, .int mn])), (a1, .inl (cI, 25, .inl (kI K0))), (a2, .inl (cI, 25, .inl NX)), (a3, .inl (cZ, 25, .inl (zB T0))), (a4, .inl (cI, 100, .inl (bI wn hn))), (a5, .inl (cI, 25, .inl KP)), (a6, .inl (cI, 25, .inl RG)), (a7, .inl (cI, 26, .inl SZ)), (a8, .inl (cI, 25, .inl LN))] := hD
      have hp_4 : r_2 = nI (wn * hn) := hp_4
      refine z_topi (y := nI (wn * hn)) hp_4 ?_
      refine lv_icmp_ge (tgt := 32) hx hb dX2_still_7 (by decide) (fun c_7 => ?_) (fun c_7 => ?_)
      · skip
        have n_7 := zc_le_t (a := (wn * hn)) (b := i) (by omega) (by omega) c_7
        exact absurd n_7 (by omega)
      · skip
        have n_7 := zc_le_f (a := (wn * hn)) (b := i) (by omega) (by omega) c_7
        refine lv_aload_n hx hb dX2_still_10 rfl (lv_at hl 0 rfl) ?_
        refine lv_iload_n hx hb dX2_still_11 rfl (lv_at hl 1 rfl) ?_
        refine z_callVi (As := [.int (nI i)]) (rest := []) F9 (m_X2_nextOf l dC dI cI cZ cJ cD m0 a1 a2 a3 a4 a5 a6 a7 a8 th wn hn q0 wv K0 NX T0 KP RG SZ LN mn i (g) (hK4) (hq) (n_7)) (cwV 1 hts gX2_still_X2_nextOf rfl rfl rfl (by decide +kernel) ⟨Nat.le_of_ble_eq_true rfl, Nat.le_of_ble_eq_true rfl⟩) hK hN hP hD hS hA [0, 1, 2, 3, 4, 5, 6, 7, 8] rfl rfl (fun _ => rfl) 0 (ci := 2) rfl rfl rfl rfl hl.1 rfl (Nat.le_of_ble_eq_true rfl) dX2_still_12 ⟨Nat.zero_le _, Nat.zero_le _⟩ (fun r_3 u H locs hp_12 hP hD hS => ?_)
        have hP : va_P (dC, dI) vwCl [(m0, .inr (2, [.int th, .int (nI wn), .int (nI hn), .int (nI q0), .int wv, .ref a1, .ref a2, .ref a3, .ref a4, .ref a5, .ref a6, .ref a7, .ref a8, .int mn])), (a1, .inl (cI, 25, .inl (kI K0))), (a2, .inl (cI, 25, .inl NX)), (a3, .inl (cZ, 25, .inl (zB T0))), (a4, .inl (cI, 100, .inl (bI wn hn))), (a5, .inl (cI, 25, .inl KP)), (a6, .inl (cI, 25, .inl RG)), (a7, .inl (cI, 26, .inl SZ)), (a8, .inl (cI, 25, .inl LN))] H := hP
        have hD : va_D A [(m0, .inr (2, [.int th, .int (nI wn), .int (nI hn), .int (nI q0), .int wv, .ref a1, .ref a2, .ref a3, .ref a4, .ref a5, .ref a6, .ref a7, .ref a8, .int mn])), (a1, .inl (cI, 25, .inl (kI K0))), (a2, .inl (cI, 25, .inl NX)), (a3, .inl (cZ, 25, .inl (zB T0))), (a4, .inl (cI, 100, .inl (bI wn hn))), (a5, .inl (cI, 25, .inl KP)), (a6, .inl (cI, 25, .inl RG)), (a7, .inl (cI, 26, .inl SZ)), (a8, .inl (cI, 25, .inl LN))] := hD
        have hp_12 : r_3 = nI (nxt wn hn q0 T0 K0 i) := hp_12
        refine z_topi (y := nI (nxt wn hn q0 T0 K0 i)) hp_12 ?_
        refine lv_aload_n hx hb dX2_still_15 rfl (lv_at hl 0 rfl) ?_
        refine va_get (D := (dC, dI)) (ci := 2) (v := .ref a1) (C := RX2) (T := TX2) (N := 14) hx hb hts iX2_still_X2 hown hK hP 0 rfl rfl 5 (by decide) (hts (.fieldLink RX2 13 "ColourTideModel" "colours" "[I") (List.mem_of_getElem? (i := 1) rfl)) (fun _ h9 => h9) rfl dX2_still_16 ?_
        refine lv_iload_n hx hb dX2_still_19 rfl (lv_at hl 1 rfl) ?_
        refine z_iald hx hb hK hP 1 0 rfl rfl i (rfl) (by omega) (by decide) dX2_still_20 ?_
        refine z_topi (y := nI (K0 i)) (rfl) ?_
        refine lv_icmp_eq (tgt := 26) hx hb dX2_still_21 (by decide) (fun c_21 => ?_) (fun c_21 => ?_)
        · skip
          have n_21 := zc_eq_t (a := (nxt wn hn q0 T0 K0 i)) (b := (K0 i)) (by have := nxt_le (w := wn) (h := hn) (T := T0) hq.1 hK4 i; have := hK4 i; omega) (by have := nxt_le (w := wn) (h := hn) (T := T0) hq.1 hK4 i; have := hK4 i; omega) c_21
          refine lv_iinc (v := nI (i + 1)) (lv' := [(1, .int (nI (i + 1))), (0, .ref m0)]) hx hb dX2_still_26 hl (k := 1) rfl (nI_1 i) (by decide) rfl (fun ls hl => ?_)
          refine lv_goto (tgt := 2) hx hb dX2_still_29 (by decide) ?_
          exact ih_2 (i + 1) (by omega) (by rw [stN, e1, decide_eq_true n_21]; rfl) _ _ _ hP hD hS (lv_sub hl [1, 0] rfl)
        · skip
          have n_21 := zc_eq_f (a := (nxt wn hn q0 T0 K0 i)) (b := (K0 i)) (by have := nxt_le (w := wn) (h := hn) (T := T0) hq.1 hK4 i; have := hK4 i; omega) (by have := nxt_le (w := wn) (h := hn) (T := T0) hq.1 hK4 i; have := hK4 i; omega) c_21
          refine lv_iconst (v := 0) hx hb dX2_still_24 (by decide) ?_
          rw [← hQ]
          exact z_zret (W1 := (fun (_ : Unit) => [(m0, .inr (2, [.int th, .int (nI wn), .int (nI hn), .int (nI q0), .int wv, .ref a1, .ref a2, .ref a3, .ref a4, .ref a5, .ref a6, .ref a7, .ref a8, .int mn])), (a1, .inl (cI, 25, .inl (kI K0))), (a2, .inl (cI, 25, .inl NX)), (a3, .inl (cZ, 25, .inl (zB T0))), (a4, .inl (cI, 100, .inl (bI wn hn))), (a5, .inl (cI, 25, .inl KP)), (a6, .inl (cI, 25, .inl RG)), (a7, .inl (cI, 26, .inl SZ)), (a8, .inl (cI, 25, .inl LN))])) hx hb hr hlocks (by decide +kernel) hP hS () (rfl) (by rw [stN_no n_21 _ n_7]; rfl) dX2_still_25
  exact loop_2 (wn * hn) 0 (by omega) (rfl) _ _ _ hP hD hS (lv_sub hl [1, 0] rfl)
abbrev rmX2_all : Room := { frames := 2, cells := 0, slots := 0, locals := 43 }
set_option maxRecDepth 20000 in
theorem iX2_all_X2 : ∀ w ∈ wsX20, w ∈ wsX2_all := fun w h => (goodIn_r (big := wsX2_all) wsX20 [13, 14, 15, 16, 17, 18, 19, 20, 21, 22, 23, 24, 25, 26] (by decide +kernel) (by decide +kernel) w h).1
set_option maxHeartbeats 4000000 in
set_option maxRecDepth 100000 in
theorem m_X2_all (l : Launch) (dC : Nat → ClassId) (dI : Nat → Nat → Nat) (cI cZ cJ cD : ClassId) (m0 : Nat) (a1 : Nat) (a2 : Nat) (a3 : Nat) (a4 : Nat) (a5 : Nat) (a6 : Nat) (a7 : Nat) (a8 : Nat) (th : Int32) (wn : Nat) (hn : Nat) (q0 : Nat) (wv : Int32) (K0 : Nat → Nat) (NX : Nat → Int32) (T0 : Nat → Bool) (KP : Nat → Int32) (RG : Nat → Int32) (SZ : Nat → Int32) (LN : Nat → Int32) (mn : Int32) (g : gok wn hn) (hK4 : ∀ c, K0 c ≤ 4) : zI l (dC, dI) (wT cI cZ cJ cD) yX2_all wsX2_all rmX2_all [(m0, .inr (2, [.int th, .int (nI wn), .int (nI hn), .int (nI q0), .int wv, .ref a1, .ref a2, .ref a3, .ref a4, .ref a5, .ref a6, .ref a7, .ref a8, .int mn])), (a1, .inl (cI, 25, .inl (kI K0))), (a2, .inl (cI, 25, .inl NX)), (a3, .inl (cZ, 25, .inl (zB T0))), (a4, .inl (cI, 100, .inl (bI wn hn))), (a5, .inl (cI, 25, .inl KP)), (a6, .inl (cI, 25, .inl RG)), (a7, .inl (cI, 26, .inl SZ)), (a8, .inl (cI, 25, .inl LN))] [.ref m0] (fun (_ : Unit) => [(m0, .inr (2, [.int th, .int (nI wn), .int (nI hn), .int (nI q0), .int wv, .ref a1, .ref a2, .ref a3, .ref a4, .ref a5, .ref a6, .ref a7, .ref a8, .int mn])), (a1, .inl (cI, 25, .inl (kI K0))), (a2, .inl (cI, 25, .inl NX)), (a3, .inl (cZ, 25, .inl (zB T0))), (a4, .inl (cI, 100, .inl (bI wn hn))), (a5, .inl (cI, 25, .inl KP)), (a6, .inl (cI, 25, .inl RG)), (a7, .inl (cI, 26, .inl SZ)), (a8, .inl (cI, 25, .inl LN))]) (fun (r : Int32) (_ : Unit) => r = nI (allN K0 (wn * hn))) := by
  intro sz
  refine Met.ofW (cc := cX2_all) (maxL := 1) (ret := (some .int)) (by decide) rfl ?_
  intro p e s m args below meth c s₁ B hml hv
  obtain ⟨ha, hsz, hP, hK, hD0, hN⟩ := hv
  have hx := B.exec
  have hb := B.bytes
  have hr := B.returns
  have hts := atoms_spec (ws := wsX2_all) B.pre
  have hown : s.vm.findClass RX2 = some m.cls := findClass_of_methodNamed B.named
  have hlocks := B.notSynchronized
  subst hsz
  have hD := hD0.self (sz := s.heap.size)
  generalize hAe : va_A [(m0, .inr (2, [.int th, .int (nI wn), .int (nI hn), .int (nI q0), .int wv, .ref a1, .ref a2, .ref a3, .ref a4, .ref a5, .ref a6, .ref a7, .ref a8, .int mn])), (a1, .inl (cI, 25, .inl (kI K0))), (a2, .inl (cI, 25, .inl NX)), (a3, .inl (cZ, 25, .inl (zB T0))), (a4, .inl (cI, 100, .inl (bI wn hn))), (a5, .inl (cI, 25, .inl KP)), (a6, .inl (cI, 25, .inl RG)), (a7, .inl (cI, 26, .inl SZ)), (a8, .inl (cI, 25, .inl LN))] s.heap.size = A at hD ⊢
  have hA : ∀ q : Nat, s.heap.size ≤ q → A q := fun q h => by rw [← hAe]; exact Or.inr h
  have hS : va_S A s.heap s.heap [] := va_S.rf
  generalize hQ : MQ below (va_Qi (fun (r : Int32) (_ : Unit) => r = nI (allN K0 (wn * hn))) (fun u t => va_P (dC, dI) vwCl ((fun (_ : Unit) => [(m0, .inr (2, [.int th, .int (nI wn), .int (nI hn), .int (nI q0), .int wv, .ref a1, .ref a2, .ref a3, .ref a4, .ref a5, .ref a6, .ref a7, .ref a8, .int mn])), (a1, .inl (cI, 25, .inl (kI K0))), (a2, .inl (cI, 25, .inl NX)), (a3, .inl (cZ, 25, .inl (zB T0))), (a4, .inl (cI, 100, .inl (bI wn hn))), (a5, .inl (cI, 25, .inl KP)), (a6, .inl (cI, 25, .inl RG)), (a7, .inl (cI, 26, .inl SZ)), (a8, .inl (cI, 25, .inl LN))]) u) t.heap) A) args s 0 0 A = Q
  have F9 : CallFix p m c cX2_all 1 s args wsX2_all RX2 := ⟨hx, hb, hml, hown, hts⟩
  obtain ⟨g1, g2, g3, g4⟩ := id g
  have g5 := wh_le g
  have g6 := wh_pos g
  refine z_entry (R := rmX2_all) ha (Nat.le_of_ble_eq_true rfl) (fun ls hl => ?_)
  have hl : lv_has ls 1 [(0, .ref m0)] := hl
  refine lv_aload_n hx hb dX2_all_0 rfl (lv_at hl 0 rfl) ?_
  refine lv_aload_n hx hb dX2_all_1 rfl (lv_at hl 0 rfl) ?_
  refine va_get (D := (dC, dI)) (ci := 2) (v := .ref a1) (C := RX2) (T := TX2) (N := 14) hx hb hts iX2_all_X2 hown hK hP 0 rfl rfl 5 (by decide) (hts (.fieldLink RX2 13 "ColourTideModel" "colours" "[I") (List.mem_of_getElem? (i := 1) rfl)) (fun _ h9 => h9) rfl dX2_all_2 ?_
  refine lv_iconst (v := 0) hx hb dX2_all_5 (by decide) ?_
  refine z_iald hx hb hK hP 1 0 rfl rfl 0 (rfl) (by omega) (by decide) dX2_all_6 ?_
  refine z_topi (y := nI (K0 0)) (rfl) ?_
  refine z_callVi (As := [.int (nI (K0 0))]) (rest := []) F9 (m_X2_cellsWith l dC dI cI cZ cJ cD m0 a1 a2 a3 a4 a5 a6 a7 a8 th wn hn q0 wv K0 NX T0 KP RG SZ LN mn (K0 0) (g) (hK4) (by have := hK4 0; omega)) (cwV 1 hts gX2_all_X2_cellsWith rfl rfl rfl (by decide +kernel) ⟨Nat.le_of_ble_eq_true rfl, Nat.le_of_ble_eq_true rfl⟩) hK hN hP hD hS hA [0, 1, 2, 3, 4, 5, 6, 7, 8] rfl rfl (fun _ => rfl) 0 (ci := 2) rfl rfl rfl rfl hl.1 rfl (Nat.le_of_ble_eq_true rfl) dX2_all_7 ⟨Nat.zero_le _, Nat.zero_le _⟩ (fun r_1 u H locs hp_7 hP hD hS => ?_)
  have hP : va_P (dC, dI) vwCl [(m0, .inr (2, [.int th, .int (nI wn), .int (nI hn), .int (nI q0), .int wv, .ref a1, .ref a2, .ref a3, .ref a4, .ref a5, .ref a6, .ref a7, .ref a8, .int mn])), (a1, .inl (cI, 25, .inl (kI K0))), (a2, .inl (cI, 25, .inl NX)), (a3, .inl (cZ, 25, .inl (zB T0))), (a4, .inl (cI, 100, .inl (bI wn hn))), (a5, .inl (cI, 25, .inl KP)), (a6, .inl (cI, 25, .inl RG)), (a7, .inl (cI, 26, .inl SZ)), (a8, .inl (cI, 25, .inl LN))] H := hP
  have hD : va_D A [(m0, .inr (2, [.int th, .int (nI wn), .int (nI hn), .int (nI q0), .int wv, .ref a1, .ref a2, .ref a3, .ref a4, .ref a5, .ref a6, .ref a7, .ref a8, .int mn])), (a1, .inl (cI, 25, .inl (kI K0))), (a2, .inl (cI, 25, .inl NX)), (a3, .inl (cZ, 25, .inl (zB T0))), (a4, .inl (cI, 100, .inl (bI wn hn))), (a5, .inl (cI, 25, .inl KP)), (a6, .inl (cI, 25, .inl RG)), (a7, .inl (cI, 26, .inl SZ)), (a8, .inl (cI, 25, .inl LN))] := hD
  have hp_7 : r_1 = nI (ccN K0 (K0 0) (wn * hn)) := hp_7
  refine z_topi (y := nI (ccN K0 (K0 0) (wn * hn))) hp_7 ?_
  refine lv_aload_n hx hb dX2_all_10 rfl (lv_at hl 0 rfl) ?_
  refine z_callVi (As := []) (rest := [.int (nI (ccN K0 (K0 0) (wn * hn)))]) F9 (m_X2_cells l dC dI cI cZ cJ cD m0 a1 a2 a3 a4 a5 a6 a7 a8 th wn hn q0 wv K0 NX T0 KP RG SZ LN mn ) (cwV 0 hts gX2_all_X2_cells rfl rfl rfl (by decide +kernel) ⟨Nat.le_of_ble_eq_true rfl, Nat.le_of_ble_eq_true rfl⟩) hK hN hP hD hS hA [0, 1, 2, 3, 4, 5, 6, 7, 8] rfl rfl (fun _ => rfl) 0 (ci := 2) rfl rfl rfl rfl hl.1 rfl (Nat.le_of_ble_eq_true rfl) dX2_all_11 ⟨Nat.zero_le _, Nat.zero_le _⟩ (fun r_2 u H locs hp_11 hP hD hS => ?_)
  have hP : va_P (dC, dI) vwCl [(m0, .inr (2, [.int th, .int (nI wn), .int (nI hn), .int (nI q0), .int wv, .ref a1, .ref a2, .ref a3, .ref a4, .ref a5, .ref a6, .ref a7, .ref a8, .int mn])), (a1, .inl (cI, 25, .inl (kI K0))), (a2, .inl (cI, 25, .inl NX)), (a3, .inl (cZ, 25, .inl (zB T0))), (a4, .inl (cI, 100, .inl (bI wn hn))), (a5, .inl (cI, 25, .inl KP)), (a6, .inl (cI, 25, .inl RG)), (a7, .inl (cI, 26, .inl SZ)), (a8, .inl (cI, 25, .inl LN))] H := hP
  have hD : va_D A [(m0, .inr (2, [.int th, .int (nI wn), .int (nI hn), .int (nI q0), .int wv, .ref a1, .ref a2, .ref a3, .ref a4, .ref a5, .ref a6, .ref a7, .ref a8, .int mn])), (a1, .inl (cI, 25, .inl (kI K0))), (a2, .inl (cI, 25, .inl NX)), (a3, .inl (cZ, 25, .inl (zB T0))), (a4, .inl (cI, 100, .inl (bI wn hn))), (a5, .inl (cI, 25, .inl KP)), (a6, .inl (cI, 25, .inl RG)), (a7, .inl (cI, 26, .inl SZ)), (a8, .inl (cI, 25, .inl LN))] := hD
  have hp_11 : r_2 = nI (wn * hn) := hp_11
  refine z_topi (y := nI (wn * hn)) hp_11 ?_
  refine lv_icmp_ne (tgt := 26) hx hb dX2_all_14 (by decide) (fun c_14 => ?_) (fun c_14 => ?_)
  · skip
    have n_14 := zc_eq_f (a := (ccN K0 (K0 0) (wn * hn))) (b := (wn * hn)) (by have := ccN_le K0 (K0 0) (wn * hn); omega) (by have := ccN_le K0 (K0 0) (wn * hn); omega) c_14
    refine lv_iconst (v := 0) hx hb dX2_all_26 (by decide) ?_
    rw [← hQ]
    exact z_iret (W1 := (fun (_ : Unit) => [(m0, .inr (2, [.int th, .int (nI wn), .int (nI hn), .int (nI q0), .int wv, .ref a1, .ref a2, .ref a3, .ref a4, .ref a5, .ref a6, .ref a7, .ref a8, .int mn])), (a1, .inl (cI, 25, .inl (kI K0))), (a2, .inl (cI, 25, .inl NX)), (a3, .inl (cZ, 25, .inl (zB T0))), (a4, .inl (cI, 100, .inl (bI wn hn))), (a5, .inl (cI, 25, .inl KP)), (a6, .inl (cI, 25, .inl RG)), (a7, .inl (cI, 26, .inl SZ)), (a8, .inl (cI, 25, .inl LN))])) hx hb hr hlocks hP hS () (rfl) (by rw [allN, if_neg n_14]; rfl) dX2_all_27
  · skip
    have n_14 := zc_eq_t (a := (ccN K0 (K0 0) (wn * hn))) (b := (wn * hn)) (by have := ccN_le K0 (K0 0) (wn * hn); omega) (by have := ccN_le K0 (K0 0) (wn * hn); omega) c_14
    refine lv_aload_n hx hb dX2_all_17 rfl (lv_at hl 0 rfl) ?_
    refine va_get (D := (dC, dI)) (ci := 2) (v := .ref a1) (C := RX2) (T := TX2) (N := 14) hx hb hts iX2_all_X2 hown hK hP 0 rfl rfl 5 (by decide) (hts (.fieldLink RX2 13 "ColourTideModel" "colours" "[I") (List.mem_of_getElem? (i := 1) rfl)) (fun _ h9 => h9) rfl dX2_all_18 ?_
    refine lv_iconst (v := 0) hx hb dX2_all_21 (by decide) ?_
    refine z_iald hx hb hK hP 1 0 rfl rfl 0 (rfl) (by omega) (by decide) dX2_all_22 ?_
    refine z_topi (y := nI (K0 0)) (rfl) ?_
    refine lv_goto (tgt := 27) hx hb dX2_all_23 (by decide) ?_
    rw [← hQ]
    exact z_iret (W1 := (fun (_ : Unit) => [(m0, .inr (2, [.int th, .int (nI wn), .int (nI hn), .int (nI q0), .int wv, .ref a1, .ref a2, .ref a3, .ref a4, .ref a5, .ref a6, .ref a7, .ref a8, .int mn])), (a1, .inl (cI, 25, .inl (kI K0))), (a2, .inl (cI, 25, .inl NX)), (a3, .inl (cZ, 25, .inl (zB T0))), (a4, .inl (cI, 100, .inl (bI wn hn))), (a5, .inl (cI, 25, .inl KP)), (a6, .inl (cI, 25, .inl RG)), (a7, .inl (cI, 26, .inl SZ)), (a8, .inl (cI, 25, .inl LN))])) hx hb hr hlocks hP hS () (rfl) (by rw [allN, if_pos n_14]) dX2_all_27
abbrev rmX2_after : Room := { frames := 3, cells := 0, slots := 0, locals := 72 }
set_option maxRecDepth 20000 in
theorem iX2_after_X2 : ∀ w ∈ wsX20, w ∈ wsX2_after := fun w h => (goodIn_r (big := wsX2_after) wsX20 [38, 39, 40, 41, 42, 43, 44, 45, 46, 47, 48, 49, 50, 51] (by decide +kernel) (by decide +kernel) w h).1
set_option maxHeartbeats 4000000 in
set_option maxRecDepth 100000 in
theorem m_X2_after (l : Launch) (dC : Nat → ClassId) (dI : Nat → Nat → Nat) (cI cZ cJ cD : ClassId) (m0 : Nat) (a1 : Nat) (a2 : Nat) (a3 : Nat) (a4 : Nat) (a5 : Nat) (a6 : Nat) (a7 : Nat) (a8 : Nat) (th : Int32) (wn : Nat) (hn : Nat) (q0 : Nat) (wv : Int32) (K0 : Nat → Nat) (NX : Nat → Int32) (T0 : Nat → Bool) (RG : Nat → Int32) (SZ : Nat → Int32) (LN : Nat → Int32) (mn : Int32) (n9 : Nat) (j0 : Nat) (K1 : Nat → Nat) (g : gok wn hn) (hK4 : ∀ c, K0 c ≤ 4) (hq : 1 ≤ q0 ∧ q0 ≤ 4) (hj0 : j0 < 5) (hn9 : n9 < 1000) : zI l (dC, dI) (wT cI cZ cJ cD) yX2_after wsX2_after rmX2_after [(m0, .inr (2, [.int th, .int (nI wn), .int (nI hn), .int (nI q0), .int wv, .ref a1, .ref a2, .ref a3, .ref a4, .ref a5, .ref a6, .ref a7, .ref a8, .int mn])), (a1, .inl (cI, 25, .inl (kI K0))), (a2, .inl (cI, 25, .inl NX)), (a3, .inl (cZ, 25, .inl (zB T0))), (a4, .inl (cI, 100, .inl (bI wn hn))), (a5, .inl (cI, 25, .inl (kI K1))), (a6, .inl (cI, 25, .inl RG)), (a7, .inl (cI, 26, .inl SZ)), (a8, .inl (cI, 25, .inl LN))] [.ref m0, .int (nI n9), .int (nI j0)] (fun (u : (Nat → Int32)) => [(m0, .inr (2, [.int th, .int (nI wn), .int (nI hn), .int (nI q0), .int wv, .ref a1, .ref a2, .ref a3, .ref a4, .ref a5, .ref a6, .ref a7, .ref a8, .int mn])), (a1, .inl (cI, 25, .inl (kI K1))), (a2, .inl (cI, 25, .inl u)), (a3, .inl (cZ, 25, .inl (zB T0))), (a4, .inl (cI, 100, .inl (bI wn hn))), (a5, .inl (cI, 25, .inl (kI K1))), (a6, .inl (cI, 25, .inl RG)), (a7, .inl (cI, 26, .inl SZ)), (a8, .inl (cI, 25, .inl LN))]) (fun (r : Int32) (u : (Nat → Int32)) => r = nI (ccN (wavN wn hn q0 T0 K0 n9) j0 (wn * hn))) := by
  intro sz
  refine Met.ofW (cc := cX2_after) (maxL := 4) (ret := (some .int)) (by decide) rfl ?_
  intro p e s m args below meth c s₁ B hml hv
  obtain ⟨ha, hsz, hP, hK, hD0, hN⟩ := hv
  have hx := B.exec
  have hb := B.bytes
  have hr := B.returns
  have hts := atoms_spec (ws := wsX2_after) B.pre
  have hown : s.vm.findClass RX2 = some m.cls := findClass_of_methodNamed B.named
  have hlocks := B.notSynchronized
  subst hsz
  have hD := hD0.self (sz := s.heap.size)
  generalize hAe : va_A [(m0, .inr (2, [.int th, .int (nI wn), .int (nI hn), .int (nI q0), .int wv, .ref a1, .ref a2, .ref a3, .ref a4, .ref a5, .ref a6, .ref a7, .ref a8, .int mn])), (a1, .inl (cI, 25, .inl (kI K0))), (a2, .inl (cI, 25, .inl NX)), (a3, .inl (cZ, 25, .inl (zB T0))), (a4, .inl (cI, 100, .inl (bI wn hn))), (a5, .inl (cI, 25, .inl (kI K1))), (a6, .inl (cI, 25, .inl RG)), (a7, .inl (cI, 26, .inl SZ)), (a8, .inl (cI, 25, .inl LN))] s.heap.size = A at hD ⊢
  have hA : ∀ q : Nat, s.heap.size ≤ q → A q := fun q h => by rw [← hAe]; exact Or.inr h
  have hS : va_S A s.heap s.heap [] := va_S.rf
  generalize hQ : MQ below (va_Qi (fun (r : Int32) (u : (Nat → Int32)) => r = nI (ccN (wavN wn hn q0 T0 K0 n9) j0 (wn * hn))) (fun u t => va_P (dC, dI) vwCl ((fun (u : (Nat → Int32)) => [(m0, .inr (2, [.int th, .int (nI wn), .int (nI hn), .int (nI q0), .int wv, .ref a1, .ref a2, .ref a3, .ref a4, .ref a5, .ref a6, .ref a7, .ref a8, .int mn])), (a1, .inl (cI, 25, .inl (kI K1))), (a2, .inl (cI, 25, .inl u)), (a3, .inl (cZ, 25, .inl (zB T0))), (a4, .inl (cI, 100, .inl (bI wn hn))), (a5, .inl (cI, 25, .inl (kI K1))), (a6, .inl (cI, 25, .inl RG)), (a7, .inl (cI, 26, .inl SZ)), (a8, .inl (cI, 25, .inl LN))]) u) t.heap) A) args s 0 0 A = Q
  have F9 : CallFix p m c cX2_after 4 s args wsX2_after RX2 := ⟨hx, hb, hml, hown, hts⟩
  obtain ⟨g1, g2, g3, g4⟩ := id g
  have g5 := wh_le g
  have g6 := wh_pos g
  refine z_entry (R := rmX2_after) ha (Nat.le_of_ble_eq_true rfl) (fun ls hl => ?_)
  have hl : lv_has ls 4 [(0, .ref m0), (1, .int (nI n9)), (2, .int (nI j0))] := hl
  refine lv_iconst (v := 0) hx hb dX2_after_0 (by decide) ?_
  refine lv_istore_n (lv' := [(3, .int 0), (0, .ref m0), (1, .int (nI n9)), (2, .int (nI j0))]) hx hb dX2_after_1 rfl hl (by decide) rfl (fun ls hl => ?_)
  have loop_2 : ∀ (n : Nat) (i : Nat) (NX1 : Nat → Int32) (hkn : i + n = n9) (H : Heap) (locs : List Loc) (ls : Array Slot) (hP : va_P (dC, dI) vwCl [(m0, .inr (2, [.int th, .int (nI wn), .int (nI hn), .int (nI q0), .int wv, .ref a1, .ref a2, .ref a3, .ref a4, .ref a5, .ref a6, .ref a7, .ref a8, .int mn])), (a1, .inl (cI, 25, .inl (kI (wavN wn hn q0 T0 K0 i)))), (a2, .inl (cI, 25, .inl NX1)), (a3, .inl (cZ, 25, .inl (zB T0))), (a4, .inl (cI, 100, .inl (bI wn hn))), (a5, .inl (cI, 25, .inl (kI K1))), (a6, .inl (cI, 25, .inl RG)), (a7, .inl (cI, 26, .inl SZ)), (a8, .inl (cI, 25, .inl LN))] H) (hD : va_D A [(m0, .inr (2, [.int th, .int (nI wn), .int (nI hn), .int (nI q0), .int wv, .ref a1, .ref a2, .ref a3, .ref a4, .ref a5, .ref a6, .ref a7, .ref a8, .int mn])), (a1, .inl (cI, 25, .inl (kI (wavN wn hn q0 T0 K0 i)))), (a2, .inl (cI, 25, .inl NX1)), (a3, .inl (cZ, 25, .inl (zB T0))), (a4, .inl (cI, 100, .inl (bI wn hn))), (a5, .inl (cI, 25, .inl (kI K1))), (a6, .inl (cI, 25, .inl RG)), (a7, .inl (cI, 26, .inl SZ)), (a8, .inl (cI, 25, .inl LN))]) (hS : va_S A s.heap H locs) (hl : lv_has ls 4 [(0, .ref m0), (1, .int (nI n9)), (2, .int (nI j0)), (3, .int (nI i))]), W p l e rmX2_after s m args below meth c H locs 0 0 Q (F0 m 2 ls []) := by
    intro n
    induction n with
    | zero =>
      intro i NX1 hkn  H locs ls hP hD hS hl
      refine lv_iload_n hx hb dX2_after_2 rfl (lv_at hl 3 rfl) ?_
      refine lv_iload_n hx hb dX2_after_3 rfl (lv_at hl 1 rfl) ?_
      refine lv_icmp_ge (tgt := 18) hx hb dX2_after_4 (by decide) (fun c_4 => ?_) (fun c_4 => ?_)
      · skip
        have n_4 := zc_le_t (a := n9) (b := i) (by omega) (by omega) c_4
        have ei : i = n9 := by omega
        refine lv_aload_n hx hb dX2_after_18 rfl (lv_at hl 0 rfl) ?_
        refine lv_iload_n hx hb dX2_after_19 rfl (lv_at hl 2 rfl) ?_
        refine z_callVi (As := [.int (nI j0)]) (rest := []) F9 (m_X2_cellsWith l dC dI cI cZ cJ cD m0 a1 a2 a3 a4 a5 a6 a7 a8 th wn hn q0 wv (wavN wn hn q0 T0 K0 i) NX1 T0 (kI K1) RG SZ LN mn j0 (g) (wavN_le hq.1 hK4 i) (by omega)) (cwV 1 hts gX2_after_X2_cellsWith rfl rfl rfl (by decide +kernel) ⟨Nat.le_of_ble_eq_true rfl, Nat.le_of_ble_eq_true rfl⟩) hK hN hP hD hS hA [0, 1, 2, 3, 4, 5, 6, 7, 8] rfl rfl (fun _ => rfl) 0 (ci := 2) rfl rfl rfl rfl hl.1 rfl (Nat.le_of_ble_eq_true rfl) dX2_after_20 ⟨Nat.zero_le _, Nat.zero_le _⟩ (fun r_1 u H locs hp_20 hP hD hS => ?_)
        have hP : va_P (dC, dI) vwCl [(m0, .inr (2, [.int th, .int (nI wn), .int (nI hn), .int (nI q0), .int wv, .ref a1, .ref a2, .ref a3, .ref a4, .ref a5, .ref a6, .ref a7, .ref a8, .int mn])), (a1, .inl (cI, 25, .inl (kI (wavN wn hn q0 T0 K0 i)))), (a2, .inl (cI, 25, .inl NX1)), (a3, .inl (cZ, 25, .inl (zB T0))), (a4, .inl (cI, 100, .inl (bI wn hn))), (a5, .inl (cI, 25, .inl (kI K1))), (a6, .inl (cI, 25, .inl RG)), (a7, .inl (cI, 26, .inl SZ)), (a8, .inl (cI, 25, .inl LN))] H := hP
        have hD : va_D A [(m0, .inr (2, [.int th, .int (nI wn), .int (nI hn), .int (nI q0), .int wv, .ref a1, .ref a2, .ref a3, .ref a4, .ref a5, .ref a6, .ref a7, .ref a8, .int mn])), (a1, .inl (cI, 25, .inl (kI (wavN wn hn q0 T0 K0 i)))), (a2, .inl (cI, 25, .inl NX1)), (a3, .inl (cZ, 25, .inl (zB T0))), (a4, .inl (cI, 100, .inl (bI wn hn))), (a5, .inl (cI, 25, .inl (kI K1))), (a6, .inl (cI, 25, .inl RG)), (a7, .inl (cI, 26, .inl SZ)), (a8, .inl (cI, 25, .inl LN))] := hD
        have hp_20 : r_1 = nI (ccN (wavN wn hn q0 T0 K0 i) j0 (wn * hn)) := hp_20
        refine z_topi (y := nI (ccN (wavN wn hn q0 T0 K0 i) j0 (wn * hn))) hp_20 ?_
        refine lv_istore_n (lv' := [(3, .int (nI (ccN (wavN wn hn q0 T0 K0 i) j0 (wn * hn)))), (0, .ref m0), (1, .int (nI n9)), (2, .int (nI j0))]) hx hb dX2_after_23 rfl hl (by decide) rfl (fun ls hl => ?_)
        refine lv_aload_n hx hb dX2_after_24 rfl (lv_at hl 1 rfl) ?_
        refine z_callVv (As := []) (rest := []) F9 (m_X2_bringBack l dC dI cI cZ cJ cD m0 a1 a2 a3 a4 a5 a6 a7 a8 th wn hn q0 wv (wavN wn hn q0 T0 K0 i) NX1 T0 RG SZ LN mn K1 ) (cwV 0 hts gX2_after_X2_bringBack rfl rfl rfl (by decide +kernel) ⟨Nat.le_of_ble_eq_true rfl, Nat.le_of_ble_eq_true rfl⟩) hK hN hP hD hS hA [0, 1, 2, 3, 4, 5, 6, 7, 8] rfl rfl (fun _ => rfl) 0 (ci := 2) rfl rfl rfl rfl hl.1 rfl (Nat.le_of_ble_eq_true rfl) dX2_after_25 ⟨Nat.zero_le _, Nat.zero_le _⟩ (fun u H locs hp_25 hP hD hS => ?_)
        have hP : va_P (dC, dI) vwCl [(m0, .inr (2, [.int th, .int (nI wn), .int (nI hn), .int (nI q0), .int wv, .ref a1, .ref a2, .ref a3, .ref a4, .ref a5, .ref a6, .ref a7, .ref a8, .int mn])), (a1, .inl (cI, 25, .inl (kI K1))), (a2, .inl (cI, 25, .inl NX1)), (a3, .inl (cZ, 25, .inl (zB T0))), (a4, .inl (cI, 100, .inl (bI wn hn))), (a5, .inl (cI, 25, .inl (kI K1))), (a6, .inl (cI, 25, .inl RG)), (a7, .inl (cI, 26, .inl SZ)), (a8, .inl (cI, 25, .inl LN))] H := hP
        have hD : va_D A [(m0, .inr (2, [.int th, .int (nI wn), .int (nI hn), .int (nI q0), .int wv, .ref a1, .ref a2, .ref a3, .ref a4, .ref a5, .ref a6, .ref a7, .ref a8, .int mn])), (a1, .inl (cI, 25, .inl (kI K1))), (a2, .inl (cI, 25, .inl NX1)), (a3, .inl (cZ, 25, .inl (zB T0))), (a4, .inl (cI, 100, .inl (bI wn hn))), (a5, .inl (cI, 25, .inl (kI K1))), (a6, .inl (cI, 25, .inl RG)), (a7, .inl (cI, 26, .inl SZ)), (a8, .inl (cI, 25, .inl LN))] := hD
        refine lv_iload_n hx hb dX2_after_28 rfl (lv_at hl 0 rfl) ?_
        rw [← hQ]
        exact z_iret (W1 := (fun (u : (Nat → Int32)) => [(m0, .inr (2, [.int th, .int (nI wn), .int (nI hn), .int (nI q0), .int wv, .ref a1, .ref a2, .ref a3, .ref a4, .ref a5, .ref a6, .ref a7, .ref a8, .int mn])), (a1, .inl (cI, 25, .inl (kI K1))), (a2, .inl (cI, 25, .inl u)), (a3, .inl (cZ, 25, .inl (zB T0))), (a4, .inl (cI, 100, .inl (bI wn hn))), (a5, .inl (cI, 25, .inl (kI K1))), (a6, .inl (cI, 25, .inl RG)), (a7, .inl (cI, 26, .inl SZ)), (a8, .inl (cI, 25, .inl LN))])) hx hb hr hlocks hP hS NX1 (rfl) (by rw [ei]) dX2_after_29
      · skip
        have n_4 := zc_le_f (a := n9) (b := i) (by omega) (by omega) c_4
        exact absurd n_4 (by omega)
    | succ n ih_2 =>
      intro i NX1 hkn  H locs ls hP hD hS hl
      refine lv_iload_n hx hb dX2_after_2 rfl (lv_at hl 3 rfl) ?_
      refine lv_iload_n hx hb dX2_after_3 rfl (lv_at hl 1 rfl) ?_
      refine lv_icmp_ge (tgt := 18) hx hb dX2_after_4 (by decide) (fun c_4 => ?_) (fun c_4 => ?_)
      · skip
        have n_4 := zc_le_t (a := n9) (b := i) (by omega) (by omega) c_4
        exact absurd n_4 (by omega)
      · skip
        have n_4 := zc_le_f (a := n9) (b := i) (by omega) (by omega) c_4
        refine lv_aload_n hx hb dX2_after_7 rfl (lv_at hl 0 rfl) ?_
        refine z_callVi (As := []) (rest := []) F9 (m_X2_wave l dC dI cI cZ cJ cD m0 a1 a2 a3 a4 a5 a6 a7 a8 th wn hn q0 wv (wavN wn hn q0 T0 K0 i) NX1 T0 (kI K1) RG SZ LN mn (g) (wavN_le hq.1 hK4 i) (hq)) (cwV 0 hts gX2_after_X2_wave rfl rfl rfl (by decide +kernel) ⟨Nat.le_of_ble_eq_true rfl, Nat.le_of_ble_eq_true rfl⟩) hK hN hP hD hS hA [0, 1, 2, 3, 4, 5, 6, 7, 8] rfl rfl (fun _ => rfl) 0 (ci := 2) rfl rfl rfl rfl hl.1 rfl (Nat.le_of_ble_eq_true rfl) dX2_after_8 ⟨Nat.zero_le _, Nat.zero_le _⟩ (fun r_3 u H locs hp_8 hP hD hS => ?_)
        obtain ⟨NXq_4, rfl⟩ : ∃ z, z = u := ⟨_, rfl⟩
        have hP : va_P (dC, dI) vwCl [(m0, .inr (2, [.int th, .int (nI wn), .int (nI hn), .int (nI q0), .int wv, .ref a1, .ref a2, .ref a3, .ref a4, .ref a5, .ref a6, .ref a7, .ref a8, .int mn])), (a1, .inl (cI, 25, .inl (kI (wav wn hn q0 T0 (wavN wn hn q0 T0 K0 i))))), (a2, .inl (cI, 25, .inl NXq_4)), (a3, .inl (cZ, 25, .inl (zB T0))), (a4, .inl (cI, 100, .inl (bI wn hn))), (a5, .inl (cI, 25, .inl (kI K1))), (a6, .inl (cI, 25, .inl RG)), (a7, .inl (cI, 26, .inl SZ)), (a8, .inl (cI, 25, .inl LN))] H := hP
        have hD : va_D A [(m0, .inr (2, [.int th, .int (nI wn), .int (nI hn), .int (nI q0), .int wv, .ref a1, .ref a2, .ref a3, .ref a4, .ref a5, .ref a6, .ref a7, .ref a8, .int mn])), (a1, .inl (cI, 25, .inl (kI (wav wn hn q0 T0 (wavN wn hn q0 T0 K0 i))))), (a2, .inl (cI, 25, .inl NXq_4)), (a3, .inl (cZ, 25, .inl (zB T0))), (a4, .inl (cI, 100, .inl (bI wn hn))), (a5, .inl (cI, 25, .inl (kI K1))), (a6, .inl (cI, 25, .inl RG)), (a7, .inl (cI, 26, .inl SZ)), (a8, .inl (cI, 25, .inl LN))] := hD
        have hp_8 : r_3 = nI (chg wn hn q0 T0 (wavN wn hn q0 T0 K0 i)) := hp_8
        refine z_topi (y := nI (chg wn hn q0 T0 (wavN wn hn q0 T0 K0 i))) hp_8 ?_
        refine lv_pop hx hb dX2_after_11 rfl ?_
        refine lv_iinc (v := nI (i + 1)) (lv' := [(3, .int (nI (i + 1))), (0, .ref m0), (1, .int (nI n9)), (2, .int (nI j0))]) hx hb dX2_after_12 hl (k := 3) rfl (nI_1 i) (by decide) rfl (fun ls hl => ?_)
        refine lv_goto (tgt := 2) hx hb dX2_after_15 (by decide) ?_
        exact ih_2 (i + 1) NXq_4 (by omega)  _ _ _ hP hD hS (lv_sub hl [1, 2, 3, 0] rfl)
  exact loop_2 n9 0 NX (by omega)  _ _ _ hP hD hS (lv_sub hl [1, 2, 3, 0] rfl)
abbrev rmX2_winsNow : Room := { frames := 3, cells := 0, slots := 0, locals := 72 }
set_option maxRecDepth 20000 in
theorem iX2_winsNow_X2 : ∀ w ∈ wsX20, w ∈ wsX2_winsNow := fun w h => (goodIn_r (big := wsX2_winsNow) wsX20 [37, 38, 39, 40, 41, 42, 43, 44, 45, 46, 47, 48, 49, 50] (by decide +kernel) (by decide +kernel) w h).1
set_option maxHeartbeats 4000000 in
set_option maxRecDepth 100000 in
theorem m_X2_winsNow (l : Launch) (dC : Nat → ClassId) (dI : Nat → Nat → Nat) (cI cZ cJ cD : ClassId) (m0 : Nat) (a1 : Nat) (a2 : Nat) (a3 : Nat) (a4 : Nat) (a5 : Nat) (a6 : Nat) (a7 : Nat) (a8 : Nat) (th : Int32) (wn : Nat) (hn : Nat) (q0 : Nat) (wv : Int32) (K0 : Nat → Nat) (NX : Nat → Int32) (T0 : Nat → Bool) (KP : Nat → Int32) (RG : Nat → Int32) (SZ : Nat → Int32) (LN : Nat → Int32) (mn : Int32) (j0 : Nat) (g : gok wn hn) (hK4 : ∀ c, K0 c ≤ 4) (hq : 1 ≤ q0 ∧ q0 ≤ 4) (hj0 : j0 < 5) : zI l (dC, dI) (wT cI cZ cJ cD) yX2_winsNow wsX2_winsNow rmX2_winsNow [(m0, .inr (2, [.int th, .int (nI wn), .int (nI hn), .int (nI q0), .int wv, .ref a1, .ref a2, .ref a3, .ref a4, .ref a5, .ref a6, .ref a7, .ref a8, .int mn])), (a1, .inl (cI, 25, .inl (kI K0))), (a2, .inl (cI, 25, .inl NX)), (a3, .inl (cZ, 25, .inl (zB T0))), (a4, .inl (cI, 100, .inl (bI wn hn))), (a5, .inl (cI, 25, .inl KP)), (a6, .inl (cI, 25, .inl RG)), (a7, .inl (cI, 26, .inl SZ)), (a8, .inl (cI, 25, .inl LN))] [.ref m0, .int (nI j0)] (fun (u : (Nat → Nat) × (Nat → Int32)) => [(m0, .inr (2, [.int th, .int (nI wn), .int (nI hn), .int (nI q0), .int wv, .ref a1, .ref a2, .ref a3, .ref a4, .ref a5, .ref a6, .ref a7, .ref a8, .int mn])), (a1, .inl (cI, 25, .inl (kI u.1))), (a2, .inl (cI, 25, .inl u.2)), (a3, .inl (cZ, 25, .inl (zB T0))), (a4, .inl (cI, 100, .inl (bI wn hn))), (a5, .inl (cI, 25, .inl KP)), (a6, .inl (cI, 25, .inl RG)), (a7, .inl (cI, 26, .inl SZ)), (a8, .inl (cI, 25, .inl LN))]) (fun (r : Int32) (u : (Nat → Nat) × (Nat → Int32)) => r = bz (winF wn hn q0 T0 j0 8 K0)) := by
  intro sz
  refine Met.ofW (cc := cX2_winsNow) (maxL := 3) (ret := (some .boolean)) (by decide) rfl ?_
  intro p e s m args below meth c s₁ B hml hv
  obtain ⟨ha, hsz, hP, hK, hD0, hN⟩ := hv
  have hx := B.exec
  have hb := B.bytes
  have hr := B.returns
  have hts := atoms_spec (ws := wsX2_winsNow) B.pre
  have hown : s.vm.findClass RX2 = some m.cls := findClass_of_methodNamed B.named
  have hlocks := B.notSynchronized
  subst hsz
  have hD := hD0.self (sz := s.heap.size)
  generalize hAe : va_A [(m0, .inr (2, [.int th, .int (nI wn), .int (nI hn), .int (nI q0), .int wv, .ref a1, .ref a2, .ref a3, .ref a4, .ref a5, .ref a6, .ref a7, .ref a8, .int mn])), (a1, .inl (cI, 25, .inl (kI K0))), (a2, .inl (cI, 25, .inl NX)), (a3, .inl (cZ, 25, .inl (zB T0))), (a4, .inl (cI, 100, .inl (bI wn hn))), (a5, .inl (cI, 25, .inl KP)), (a6, .inl (cI, 25, .inl RG)), (a7, .inl (cI, 26, .inl SZ)), (a8, .inl (cI, 25, .inl LN))] s.heap.size = A at hD ⊢
  have hA : ∀ q : Nat, s.heap.size ≤ q → A q := fun q h => by rw [← hAe]; exact Or.inr h
  have hS : va_S A s.heap s.heap [] := va_S.rf
  generalize hQ : MQ below (va_Qi (fun (r : Int32) (u : (Nat → Nat) × (Nat → Int32)) => r = bz (winF wn hn q0 T0 j0 8 K0)) (fun u t => va_P (dC, dI) vwCl ((fun (u : (Nat → Nat) × (Nat → Int32)) => [(m0, .inr (2, [.int th, .int (nI wn), .int (nI hn), .int (nI q0), .int wv, .ref a1, .ref a2, .ref a3, .ref a4, .ref a5, .ref a6, .ref a7, .ref a8, .int mn])), (a1, .inl (cI, 25, .inl (kI u.1))), (a2, .inl (cI, 25, .inl u.2)), (a3, .inl (cZ, 25, .inl (zB T0))), (a4, .inl (cI, 100, .inl (bI wn hn))), (a5, .inl (cI, 25, .inl KP)), (a6, .inl (cI, 25, .inl RG)), (a7, .inl (cI, 26, .inl SZ)), (a8, .inl (cI, 25, .inl LN))]) u) t.heap) A) args s 0 0 A = Q
  have F9 : CallFix p m c cX2_winsNow 3 s args wsX2_winsNow RX2 := ⟨hx, hb, hml, hown, hts⟩
  obtain ⟨g1, g2, g3, g4⟩ := id g
  have g5 := wh_le g
  have g6 := wh_pos g
  refine z_entry (R := rmX2_winsNow) ha (Nat.le_of_ble_eq_true rfl) (fun ls hl => ?_)
  have hl : lv_has ls 3 [(0, .ref m0), (1, .int (nI j0))] := hl
  refine lv_iconst (v := 0) hx hb dX2_winsNow_0 (by decide) ?_
  refine lv_istore_n (lv' := [(2, .int 0), (0, .ref m0), (1, .int (nI j0))]) hx hb dX2_winsNow_1 rfl hl (by decide) rfl (fun ls hl => ?_)
  have loop_2 : ∀ (n : Nat) (i : Nat) (K2 : Nat → Nat) (NX1 : Nat → Int32) (hkn : i + n = 8) (e1 : winF wn hn q0 T0 j0 n K2 = winF wn hn q0 T0 j0 8 K0) (e2 : ∀ c, K2 c ≤ 4) (H : Heap) (locs : List Loc) (ls : Array Slot) (hP : va_P (dC, dI) vwCl [(m0, .inr (2, [.int th, .int (nI wn), .int (nI hn), .int (nI q0), .int wv, .ref a1, .ref a2, .ref a3, .ref a4, .ref a5, .ref a6, .ref a7, .ref a8, .int mn])), (a1, .inl (cI, 25, .inl (kI K2))), (a2, .inl (cI, 25, .inl NX1)), (a3, .inl (cZ, 25, .inl (zB T0))), (a4, .inl (cI, 100, .inl (bI wn hn))), (a5, .inl (cI, 25, .inl KP)), (a6, .inl (cI, 25, .inl RG)), (a7, .inl (cI, 26, .inl SZ)), (a8, .inl (cI, 25, .inl LN))] H) (hD : va_D A [(m0, .inr (2, [.int th, .int (nI wn), .int (nI hn), .int (nI q0), .int wv, .ref a1, .ref a2, .ref a3, .ref a4, .ref a5, .ref a6, .ref a7, .ref a8, .int mn])), (a1, .inl (cI, 25, .inl (kI K2))), (a2, .inl (cI, 25, .inl NX1)), (a3, .inl (cZ, 25, .inl (zB T0))), (a4, .inl (cI, 100, .inl (bI wn hn))), (a5, .inl (cI, 25, .inl KP)), (a6, .inl (cI, 25, .inl RG)), (a7, .inl (cI, 26, .inl SZ)), (a8, .inl (cI, 25, .inl LN))]) (hS : va_S A s.heap H locs) (hl : lv_has ls 3 [(0, .ref m0), (1, .int (nI j0)), (2, .int (nI i))]), W p l e rmX2_winsNow s m args below meth c H locs 0 0 Q (F0 m 2 ls []) := by
    intro n
    induction n with
    | zero =>
      intro i K2 NX1 hkn e1 e2 H locs ls hP hD hS hl
      refine lv_iload_n hx hb dX2_winsNow_2 rfl (lv_at hl 2 rfl) ?_
      refine lv_bipush (v := 8) hx hb dX2_winsNow_3 (by decide +kernel) ?_
      refine lv_icmp_ge (tgt := 33) hx hb dX2_winsNow_5 (by decide) (fun c_5 => ?_) (fun c_5 => ?_)
      · skip
        have n_5 := zc_le_t (a := 8) (b := i) (by omega) (by omega) c_5
        refine lv_aload_n hx hb dX2_winsNow_33 rfl (lv_at hl 0 rfl) ?_
        refine z_callVi (As := []) (rest := []) F9 (m_X2_all l dC dI cI cZ cJ cD m0 a1 a2 a3 a4 a5 a6 a7 a8 th wn hn q0 wv K2 NX1 T0 KP RG SZ LN mn (g) (e2)) (cwV 0 hts gX2_winsNow_X2_all rfl rfl rfl (by decide +kernel) ⟨Nat.le_of_ble_eq_true rfl, Nat.le_of_ble_eq_true rfl⟩) hK hN hP hD hS hA [0, 1, 2, 3, 4, 5, 6, 7, 8] rfl rfl (fun _ => rfl) 0 (ci := 2) rfl rfl rfl rfl hl.1 rfl (Nat.le_of_ble_eq_true rfl) dX2_winsNow_34 ⟨Nat.zero_le _, Nat.zero_le _⟩ (fun r_1 u H locs hp_34 hP hD hS => ?_)
        have hP : va_P (dC, dI) vwCl [(m0, .inr (2, [.int th, .int (nI wn), .int (nI hn), .int (nI q0), .int wv, .ref a1, .ref a2, .ref a3, .ref a4, .ref a5, .ref a6, .ref a7, .ref a8, .int mn])), (a1, .inl (cI, 25, .inl (kI K2))), (a2, .inl (cI, 25, .inl NX1)), (a3, .inl (cZ, 25, .inl (zB T0))), (a4, .inl (cI, 100, .inl (bI wn hn))), (a5, .inl (cI, 25, .inl KP)), (a6, .inl (cI, 25, .inl RG)), (a7, .inl (cI, 26, .inl SZ)), (a8, .inl (cI, 25, .inl LN))] H := hP
        have hD : va_D A [(m0, .inr (2, [.int th, .int (nI wn), .int (nI hn), .int (nI q0), .int wv, .ref a1, .ref a2, .ref a3, .ref a4, .ref a5, .ref a6, .ref a7, .ref a8, .int mn])), (a1, .inl (cI, 25, .inl (kI K2))), (a2, .inl (cI, 25, .inl NX1)), (a3, .inl (cZ, 25, .inl (zB T0))), (a4, .inl (cI, 100, .inl (bI wn hn))), (a5, .inl (cI, 25, .inl KP)), (a6, .inl (cI, 25, .inl RG)), (a7, .inl (cI, 26, .inl SZ)), (a8, .inl (cI, 25, .inl LN))] := hD
        have hp_34 : r_1 = nI (allN K2 (wn * hn)) := hp_34
        refine z_topi (y := nI (allN K2 (wn * hn))) hp_34 ?_
        refine lv_iload_n hx hb dX2_winsNow_37 rfl (lv_at hl 1 rfl) ?_
        refine lv_icmp_ne (tgt := 45) hx hb dX2_winsNow_38 (by decide) (fun c_38 => ?_) (fun c_38 => ?_)
        · skip
          have n_38 := zc_eq_f (a := (allN K2 (wn * hn))) (b := j0) (by have := all_le e2 (wn * hn); omega) (by have := all_le e2 (wn * hn); omega) c_38
          refine lv_iconst (v := 0) hx hb dX2_winsNow_45 (by decide) ?_
          rw [← hQ]
          exact z_zret (W1 := (fun (u : (Nat → Nat) × (Nat → Int32)) => [(m0, .inr (2, [.int th, .int (nI wn), .int (nI hn), .int (nI q0), .int wv, .ref a1, .ref a2, .ref a3, .ref a4, .ref a5, .ref a6, .ref a7, .ref a8, .int mn])), (a1, .inl (cI, 25, .inl (kI u.1))), (a2, .inl (cI, 25, .inl u.2)), (a3, .inl (cZ, 25, .inl (zB T0))), (a4, .inl (cI, 100, .inl (bI wn hn))), (a5, .inl (cI, 25, .inl KP)), (a6, .inl (cI, 25, .inl RG)), (a7, .inl (cI, 26, .inl SZ)), (a8, .inl (cI, 25, .inl LN))])) hx hb hr hlocks (by decide +kernel) hP hS (K2, NX1) (rfl) (by rw [← e1, winF, decide_eq_false n_38]; rfl) dX2_winsNow_46
        · skip
          have n_38 := zc_eq_t (a := (allN K2 (wn * hn))) (b := j0) (by have := all_le e2 (wn * hn); omega) (by have := all_le e2 (wn * hn); omega) c_38
          refine lv_iconst (v := 1) hx hb dX2_winsNow_41 (by decide) ?_
          refine lv_goto (tgt := 46) hx hb dX2_winsNow_42 (by decide) ?_
          rw [← hQ]
          exact z_zret (W1 := (fun (u : (Nat → Nat) × (Nat → Int32)) => [(m0, .inr (2, [.int th, .int (nI wn), .int (nI hn), .int (nI q0), .int wv, .ref a1, .ref a2, .ref a3, .ref a4, .ref a5, .ref a6, .ref a7, .ref a8, .int mn])), (a1, .inl (cI, 25, .inl (kI u.1))), (a2, .inl (cI, 25, .inl u.2)), (a3, .inl (cZ, 25, .inl (zB T0))), (a4, .inl (cI, 100, .inl (bI wn hn))), (a5, .inl (cI, 25, .inl KP)), (a6, .inl (cI, 25, .inl RG)), (a7, .inl (cI, 26, .inl SZ)), (a8, .inl (cI, 25, .inl LN))])) hx hb hr hlocks (by decide +kernel) hP hS (K2, NX1) (rfl) (by rw [← e1, winF, decide_eq_true n_38]; rfl) dX2_winsNow_46
      · skip
        have n_5 := zc_le_f (a := 8) (b := i) (by omega) (by omega) c_5
        exact absurd n_5 (by omega)
    | succ n ih_2 =>
      intro i K2 NX1 hkn e1 e2 H locs ls hP hD hS hl
      refine lv_iload_n hx hb dX2_winsNow_2 rfl (lv_at hl 2 rfl) ?_
      refine lv_bipush (v := 8) hx hb dX2_winsNow_3 (by decide +kernel) ?_
      refine lv_icmp_ge (tgt := 33) hx hb dX2_winsNow_5 (by decide) (fun c_5 => ?_) (fun c_5 => ?_)
      · skip
        have n_5 := zc_le_t (a := 8) (b := i) (by omega) (by omega) c_5
        exact absurd n_5 (by omega)
      · skip
        have n_5 := zc_le_f (a := 8) (b := i) (by omega) (by omega) c_5
        refine lv_aload_n hx hb dX2_winsNow_8 rfl (lv_at hl 0 rfl) ?_
        refine z_callVi (As := []) (rest := []) F9 (m_X2_all l dC dI cI cZ cJ cD m0 a1 a2 a3 a4 a5 a6 a7 a8 th wn hn q0 wv K2 NX1 T0 KP RG SZ LN mn (g) (e2)) (cwV 0 hts gX2_winsNow_X2_all rfl rfl rfl (by decide +kernel) ⟨Nat.le_of_ble_eq_true rfl, Nat.le_of_ble_eq_true rfl⟩) hK hN hP hD hS hA [0, 1, 2, 3, 4, 5, 6, 7, 8] rfl rfl (fun _ => rfl) 0 (ci := 2) rfl rfl rfl rfl hl.1 rfl (Nat.le_of_ble_eq_true rfl) dX2_winsNow_9 ⟨Nat.zero_le _, Nat.zero_le _⟩ (fun r_2 u H locs hp_9 hP hD hS => ?_)
        have hP : va_P (dC, dI) vwCl [(m0, .inr (2, [.int th, .int (nI wn), .int (nI hn), .int (nI q0), .int wv, .ref a1, .ref a2, .ref a3, .ref a4, .ref a5, .ref a6, .ref a7, .ref a8, .int mn])), (a1, .inl (cI, 25, .inl (kI K2))), (a2, .inl (cI, 25, .inl NX1)), (a3, .inl (cZ, 25, .inl (zB T0))), (a4, .inl (cI, 100, .inl (bI wn hn))), (a5, .inl (cI, 25, .inl KP)), (a6, .inl (cI, 25, .inl RG)), (a7, .inl (cI, 26, .inl SZ)), (a8, .inl (cI, 25, .inl LN))] H := hP
        have hD : va_D A [(m0, .inr (2, [.int th, .int (nI wn), .int (nI hn), .int (nI q0), .int wv, .ref a1, .ref a2, .ref a3, .ref a4, .ref a5, .ref a6, .ref a7, .ref a8, .int mn])), (a1, .inl (cI, 25, .inl (kI K2))), (a2, .inl (cI, 25, .inl NX1)), (a3, .inl (cZ, 25, .inl (zB T0))), (a4, .inl (cI, 100, .inl (bI wn hn))), (a5, .inl (cI, 25, .inl KP)), (a6, .inl (cI, 25, .inl RG)), (a7, .inl (cI, 26, .inl SZ)), (a8, .inl (cI, 25, .inl LN))] := hD
        have hp_9 : r_2 = nI (allN K2 (wn * hn)) := hp_9
        refine z_topi (y := nI (allN K2 (wn * hn))) hp_9 ?_
        refine lv_iload_n hx hb dX2_winsNow_12 rfl (lv_at hl 1 rfl) ?_
        refine lv_icmp_ne (tgt := 18) hx hb dX2_winsNow_13 (by decide) (fun c_13 => ?_) (fun c_13 => ?_)
        · skip
          have n_13 := zc_eq_f (a := (allN K2 (wn * hn))) (b := j0) (by have := all_le e2 (wn * hn); omega) (by have := all_le e2 (wn * hn); omega) c_13
          refine lv_aload_n hx hb dX2_winsNow_18 rfl (lv_at hl 0 rfl) ?_
          refine z_callVi (As := []) (rest := []) F9 (m_X2_wave l dC dI cI cZ cJ cD m0 a1 a2 a3 a4 a5 a6 a7 a8 th wn hn q0 wv K2 NX1 T0 KP RG SZ LN mn (g) (e2) (hq)) (cwV 0 hts gX2_winsNow_X2_wave rfl rfl rfl (by decide +kernel) ⟨Nat.le_of_ble_eq_true rfl, Nat.le_of_ble_eq_true rfl⟩) hK hN hP hD hS hA [0, 1, 2, 3, 4, 5, 6, 7, 8] rfl rfl (fun _ => rfl) 0 (ci := 2) rfl rfl rfl rfl hl.1 rfl (Nat.le_of_ble_eq_true rfl) dX2_winsNow_19 ⟨Nat.zero_le _, Nat.zero_le _⟩ (fun r_3 u H locs hp_19 hP hD hS => ?_)
          obtain ⟨NXq_4, rfl⟩ : ∃ z, z = u := ⟨_, rfl⟩
          have hP : va_P (dC, dI) vwCl [(m0, .inr (2, [.int th, .int (nI wn), .int (nI hn), .int (nI q0), .int wv, .ref a1, .ref a2, .ref a3, .ref a4, .ref a5, .ref a6, .ref a7, .ref a8, .int mn])), (a1, .inl (cI, 25, .inl (kI (wav wn hn q0 T0 K2)))), (a2, .inl (cI, 25, .inl NXq_4)), (a3, .inl (cZ, 25, .inl (zB T0))), (a4, .inl (cI, 100, .inl (bI wn hn))), (a5, .inl (cI, 25, .inl KP)), (a6, .inl (cI, 25, .inl RG)), (a7, .inl (cI, 26, .inl SZ)), (a8, .inl (cI, 25, .inl LN))] H := hP
          have hD : va_D A [(m0, .inr (2, [.int th, .int (nI wn), .int (nI hn), .int (nI q0), .int wv, .ref a1, .ref a2, .ref a3, .ref a4, .ref a5, .ref a6, .ref a7, .ref a8, .int mn])), (a1, .inl (cI, 25, .inl (kI (wav wn hn q0 T0 K2)))), (a2, .inl (cI, 25, .inl NXq_4)), (a3, .inl (cZ, 25, .inl (zB T0))), (a4, .inl (cI, 100, .inl (bI wn hn))), (a5, .inl (cI, 25, .inl KP)), (a6, .inl (cI, 25, .inl RG)), (a7, .inl (cI, 26, .inl SZ)), (a8, .inl (cI, 25, .inl LN))] := hD
          have hp_19 : r_3 = nI (chg wn hn q0 T0 K2) := hp_19
          refine z_topi (y := nI (chg wn hn q0 T0 K2)) hp_19 ?_
          refine lv_if_ne (tgt := 27) hx hb dX2_winsNow_22 (by decide) (fun c_22 => ?_) (fun c_22 => ?_)
          · skip
            have n_22 := zc_eq_f (a := (chg wn hn q0 T0 K2)) (b := 0) (by have := chg_le wn hn q0 T0 K2; omega) (by have := chg_le wn hn q0 T0 K2; omega) c_22
            refine lv_iinc (v := nI (i + 1)) (lv' := [(2, .int (nI (i + 1))), (0, .ref m0), (1, .int (nI j0))]) hx hb dX2_winsNow_27 hl (k := 2) rfl (nI_1 i) (by decide) rfl (fun ls hl => ?_)
            refine lv_goto (tgt := 2) hx hb dX2_winsNow_30 (by decide) ?_
            exact ih_2 (i + 1) (wav wn hn q0 T0 K2) NXq_4 (by omega) (by rw [← e1, winF, if_neg n_13, if_neg n_22]) (wav_le hq.1 e2) _ _ _ hP hD hS (lv_sub hl [1, 2, 0] rfl)
          · skip
            have n_22 := zc_eq_t (a := (chg wn hn q0 T0 K2)) (b := 0) (by have := chg_le wn hn q0 T0 K2; omega) (by have := chg_le wn hn q0 T0 K2; omega) c_22
            refine lv_iconst (v := 0) hx hb dX2_winsNow_25 (by decide) ?_
            rw [← hQ]
            exact z_zret (W1 := (fun (u : (Nat → Nat) × (Nat → Int32)) => [(m0, .inr (2, [.int th, .int (nI wn), .int (nI hn), .int (nI q0), .int wv, .ref a1, .ref a2, .ref a3, .ref a4, .ref a5, .ref a6, .ref a7, .ref a8, .int mn])), (a1, .inl (cI, 25, .inl (kI u.1))), (a2, .inl (cI, 25, .inl u.2)), (a3, .inl (cZ, 25, .inl (zB T0))), (a4, .inl (cI, 100, .inl (bI wn hn))), (a5, .inl (cI, 25, .inl KP)), (a6, .inl (cI, 25, .inl RG)), (a7, .inl (cI, 26, .inl SZ)), (a8, .inl (cI, 25, .inl LN))])) hx hb hr hlocks (by decide +kernel) hP hS (wav wn hn q0 T0 K2, NXq_4) (rfl) (by rw [← e1, winF, if_neg n_13, if_pos n_22]; rfl) dX2_winsNow_26
        · skip
          have n_13 := zc_eq_t (a := (allN K2 (wn * hn))) (b := j0) (by have := all_le e2 (wn * hn); omega) (by have := all_le e2 (wn * hn); omega) c_13
          refine lv_iconst (v := 1) hx hb dX2_winsNow_16 (by decide) ?_
          rw [← hQ]
          exact z_zret (W1 := (fun (u : (Nat → Nat) × (Nat → Int32)) => [(m0, .inr (2, [.int th, .int (nI wn), .int (nI hn), .int (nI q0), .int wv, .ref a1, .ref a2, .ref a3, .ref a4, .ref a5, .ref a6, .ref a7, .ref a8, .int mn])), (a1, .inl (cI, 25, .inl (kI u.1))), (a2, .inl (cI, 25, .inl u.2)), (a3, .inl (cZ, 25, .inl (zB T0))), (a4, .inl (cI, 100, .inl (bI wn hn))), (a5, .inl (cI, 25, .inl KP)), (a6, .inl (cI, 25, .inl RG)), (a7, .inl (cI, 26, .inl SZ)), (a8, .inl (cI, 25, .inl LN))])) hx hb hr hlocks (by decide +kernel) hP hS (K2, NX1) (rfl) (by rw [← e1, winF, if_pos n_13]; rfl) dX2_winsNow_17
  exact loop_2 8 0 K0 NX (by omega) (rfl) (hK4) _ _ _ hP hD hS (lv_sub hl [1, 2, 0] rfl)
abbrev rmX2_winsWith : Room := { frames := 4, cells := 0, slots := 0, locals := 94 }
set_option maxRecDepth 20000 in
theorem iX2_winsWith_X2 : ∀ w ∈ wsX20, w ∈ wsX2_winsWith := fun w h => (goodIn_r (big := wsX2_winsWith) wsX20 [46, 47, 48, 49, 50, 51, 52, 53, 54, 55, 56, 57, 58, 59] (by decide +kernel) (by decide +kernel) w h).1
set_option maxHeartbeats 4000000 in
set_option maxRecDepth 100000 in
theorem m_X2_winsWith (l : Launch) (dC : Nat → ClassId) (dI : Nat → Nat → Nat) (cI cZ cJ cD : ClassId) (m0 : Nat) (a1 : Nat) (a2 : Nat) (a3 : Nat) (a4 : Nat) (a5 : Nat) (a6 : Nat) (a7 : Nat) (a8 : Nat) (th : Int32) (wn : Nat) (hn : Nat) (q0 : Nat) (wv : Int32) (K0 : Nat → Nat) (NX : Nat → Int32) (T0 : Nat → Bool) (RG : Nat → Int32) (SZ : Nat → Int32) (LN : Nat → Int32) (mn : Int32) (j0 : Nat) (o1 : Option Nat) (o2 : Option Nat) (K1 : Nat → Nat) (g : gok wn hn) (hK4 : ∀ c, K0 c ≤ 4) (hq : 1 ≤ q0 ∧ q0 ≤ 4) (hj0 : j0 < 5) (ho1 : ∀ d, o1 = some d → d < wn * hn) (ho2 : ∀ d, o2 = some d → d < wn * hn) : zI l (dC, dI) (wT cI cZ cJ cD) yX2_winsWith wsX2_winsWith rmX2_winsWith [(m0, .inr (2, [.int th, .int (nI wn), .int (nI hn), .int (nI q0), .int wv, .ref a1, .ref a2, .ref a3, .ref a4, .ref a5, .ref a6, .ref a7, .ref a8, .int mn])), (a1, .inl (cI, 25, .inl (kI K0))), (a2, .inl (cI, 25, .inl NX)), (a3, .inl (cZ, 25, .inl (zB T0))), (a4, .inl (cI, 100, .inl (bI wn hn))), (a5, .inl (cI, 25, .inl (kI K1))), (a6, .inl (cI, 25, .inl RG)), (a7, .inl (cI, 26, .inl SZ)), (a8, .inl (cI, 25, .inl LN))] [.ref m0, .int (nI j0), .int (bV o1), .int (bV o2)] (fun (u : (Nat → Int32)) => [(m0, .inr (2, [.int th, .int (nI wn), .int (nI hn), .int (nI q0), .int wv, .ref a1, .ref a2, .ref a3, .ref a4, .ref a5, .ref a6, .ref a7, .ref a8, .int mn])), (a1, .inl (cI, 25, .inl (kI K1))), (a2, .inl (cI, 25, .inl u)), (a3, .inl (cZ, 25, .inl (zB T0))), (a4, .inl (cI, 100, .inl (bI wn hn))), (a5, .inl (cI, 25, .inl (kI K1))), (a6, .inl (cI, 25, .inl RG)), (a7, .inl (cI, 26, .inl SZ)), (a8, .inl (cI, 25, .inl LN))]) (fun (r : Int32) (u : (Nat → Int32)) => r = bz (winF wn hn q0 T0 j0 8 (put (put K0 o1 j0) o2 j0))) := by
  intro sz
  refine Met.ofW (cc := cX2_winsWith) (maxL := 5) (ret := (some .boolean)) (by decide) rfl ?_
  intro p e s m args below meth c s₁ B hml hv
  obtain ⟨ha, hsz, hP, hK, hD0, hN⟩ := hv
  have hx := B.exec
  have hb := B.bytes
  have hr := B.returns
  have hts := atoms_spec (ws := wsX2_winsWith) B.pre
  have hown : s.vm.findClass RX2 = some m.cls := findClass_of_methodNamed B.named
  have hlocks := B.notSynchronized
  subst hsz
  have hD := hD0.self (sz := s.heap.size)
  generalize hAe : va_A [(m0, .inr (2, [.int th, .int (nI wn), .int (nI hn), .int (nI q0), .int wv, .ref a1, .ref a2, .ref a3, .ref a4, .ref a5, .ref a6, .ref a7, .ref a8, .int mn])), (a1, .inl (cI, 25, .inl (kI K0))), (a2, .inl (cI, 25, .inl NX)), (a3, .inl (cZ, 25, .inl (zB T0))), (a4, .inl (cI, 100, .inl (bI wn hn))), (a5, .inl (cI, 25, .inl (kI K1))), (a6, .inl (cI, 25, .inl RG)), (a7, .inl (cI, 26, .inl SZ)), (a8, .inl (cI, 25, .inl LN))] s.heap.size = A at hD ⊢
  have hA : ∀ q : Nat, s.heap.size ≤ q → A q := fun q h => by rw [← hAe]; exact Or.inr h
  have hS : va_S A s.heap s.heap [] := va_S.rf
  generalize hQ : MQ below (va_Qi (fun (r : Int32) (u : (Nat → Int32)) => r = bz (winF wn hn q0 T0 j0 8 (put (put K0 o1 j0) o2 j0))) (fun u t => va_P (dC, dI) vwCl ((fun (u : (Nat → Int32)) => [(m0, .inr (2, [.int th, .int (nI wn), .int (nI hn), .int (nI q0), .int wv, .ref a1, .ref a2, .ref a3, .ref a4, .ref a5, .ref a6, .ref a7, .ref a8, .int mn])), (a1, .inl (cI, 25, .inl (kI K1))), (a2, .inl (cI, 25, .inl u)), (a3, .inl (cZ, 25, .inl (zB T0))), (a4, .inl (cI, 100, .inl (bI wn hn))), (a5, .inl (cI, 25, .inl (kI K1))), (a6, .inl (cI, 25, .inl RG)), (a7, .inl (cI, 26, .inl SZ)), (a8, .inl (cI, 25, .inl LN))]) u) t.heap) A) args s 0 0 A = Q
  have F9 : CallFix p m c cX2_winsWith 5 s args wsX2_winsWith RX2 := ⟨hx, hb, hml, hown, hts⟩
  obtain ⟨g1, g2, g3, g4⟩ := id g
  have g5 := wh_le g
  have g6 := wh_pos g
  refine z_entry (R := rmX2_winsWith) ha (Nat.le_of_ble_eq_true rfl) (fun ls hl => ?_)
  have hl : lv_has ls 5 [(0, .ref m0), (1, .int (nI j0)), (2, .int (bV o1)), (3, .int (bV o2))] := hl
  refine lv_iload_n hx hb dX2_winsWith_0 rfl (lv_at hl 2 rfl) ?_
  refine lv_iconst (v := (-1)) hx hb dX2_winsWith_1 (by decide) ?_
  refine lv_icmp_eq (tgt := 12) hx hb dX2_winsWith_2 (by decide) (fun c_2 => ?_) (fun c_2 => ?_)
  · skip
    have eo1 := bV_none c_2 (fun d e => by have := ho1 d e; omega)
    refine lv_iload_n hx hb dX2_winsWith_12 rfl (lv_at hl 3 rfl) ?_
    refine lv_iconst (v := (-1)) hx hb dX2_winsWith_13 (by decide) ?_
    refine lv_icmp_eq (tgt := 24) hx hb dX2_winsWith_14 (by decide) (fun c_14 => ?_) (fun c_14 => ?_)
    · skip
      have eo2 := bV_none c_14 (fun d e => by have := ho2 d e; omega)
      refine lv_aload_n hx hb dX2_winsWith_24 rfl (lv_at hl 0 rfl) ?_
      refine lv_iload_n hx hb dX2_winsWith_25 rfl (lv_at hl 1 rfl) ?_
      refine z_callVi (As := [.int (nI j0)]) (rest := []) F9 (m_X2_winsNow l dC dI cI cZ cJ cD m0 a1 a2 a3 a4 a5 a6 a7 a8 th wn hn q0 wv K0 NX T0 (kI K1) RG SZ LN mn j0 (g) (hK4) (hq) (hj0)) (cwV 1 hts gX2_winsWith_X2_winsNow rfl rfl rfl (by decide +kernel) ⟨Nat.le_of_ble_eq_true rfl, Nat.le_of_ble_eq_true rfl⟩) hK hN hP hD hS hA [0, 1, 2, 3, 4, 5, 6, 7, 8] rfl rfl (fun _ => rfl) 0 (ci := 2) rfl rfl rfl rfl hl.1 rfl (Nat.le_of_ble_eq_true rfl) dX2_winsWith_26 ⟨Nat.zero_le _, Nat.zero_le _⟩ (fun r_1 u H locs hp_26 hP hD hS => ?_)
      obtain ⟨Kq_2, NXq_3⟩ := u
      have hP : va_P (dC, dI) vwCl [(m0, .inr (2, [.int th, .int (nI wn), .int (nI hn), .int (nI q0), .int wv, .ref a1, .ref a2, .ref a3, .ref a4, .ref a5, .ref a6, .ref a7, .ref a8, .int mn])), (a1, .inl (cI, 25, .inl (kI Kq_2))), (a2, .inl (cI, 25, .inl NXq_3)), (a3, .inl (cZ, 25, .inl (zB T0))), (a4, .inl (cI, 100, .inl (bI wn hn))), (a5, .inl (cI, 25, .inl (kI K1))), (a6, .inl (cI, 25, .inl RG)), (a7, .inl (cI, 26, .inl SZ)), (a8, .inl (cI, 25, .inl LN))] H := hP
      have hD : va_D A [(m0, .inr (2, [.int th, .int (nI wn), .int (nI hn), .int (nI q0), .int wv, .ref a1, .ref a2, .ref a3, .ref a4, .ref a5, .ref a6, .ref a7, .ref a8, .int mn])), (a1, .inl (cI, 25, .inl (kI Kq_2))), (a2, .inl (cI, 25, .inl NXq_3)), (a3, .inl (cZ, 25, .inl (zB T0))), (a4, .inl (cI, 100, .inl (bI wn hn))), (a5, .inl (cI, 25, .inl (kI K1))), (a6, .inl (cI, 25, .inl RG)), (a7, .inl (cI, 26, .inl SZ)), (a8, .inl (cI, 25, .inl LN))] := hD
      have hp_26 : r_1 = bz (winF wn hn q0 T0 j0 8 K0) := hp_26
      refine z_topi (y := bz (winF wn hn q0 T0 j0 8 K0)) hp_26 ?_
      refine lv_istore (lv' := [(4, .int (bz (winF wn hn q0 T0 j0 8 K0))), (0, .ref m0), (1, .int (nI j0)), (2, .int (bV o1)), (3, .int (bV o2))]) hx hb dX2_winsWith_29 hl (by decide) rfl (fun ls hl => ?_)
      refine lv_aload_n hx hb dX2_winsWith_31 rfl (lv_at hl 1 rfl) ?_
      refine z_callVv (As := []) (rest := []) F9 (m_X2_bringBack l dC dI cI cZ cJ cD m0 a1 a2 a3 a4 a5 a6 a7 a8 th wn hn q0 wv Kq_2 NXq_3 T0 RG SZ LN mn K1 ) (cwV 0 hts gX2_winsWith_X2_bringBack rfl rfl rfl (by decide +kernel) ⟨Nat.le_of_ble_eq_true rfl, Nat.le_of_ble_eq_true rfl⟩) hK hN hP hD hS hA [0, 1, 2, 3, 4, 5, 6, 7, 8] rfl rfl (fun _ => rfl) 0 (ci := 2) rfl rfl rfl rfl hl.1 rfl (Nat.le_of_ble_eq_true rfl) dX2_winsWith_32 ⟨Nat.zero_le _, Nat.zero_le _⟩ (fun u H locs hp_32 hP hD hS => ?_)
      have hP : va_P (dC, dI) vwCl [(m0, .inr (2, [.int th, .int (nI wn), .int (nI hn), .int (nI q0), .int wv, .ref a1, .ref a2, .ref a3, .ref a4, .ref a5, .ref a6, .ref a7, .ref a8, .int mn])), (a1, .inl (cI, 25, .inl (kI K1))), (a2, .inl (cI, 25, .inl NXq_3)), (a3, .inl (cZ, 25, .inl (zB T0))), (a4, .inl (cI, 100, .inl (bI wn hn))), (a5, .inl (cI, 25, .inl (kI K1))), (a6, .inl (cI, 25, .inl RG)), (a7, .inl (cI, 26, .inl SZ)), (a8, .inl (cI, 25, .inl LN))] H := hP
      have hD : va_D A [(m0, .inr (2, [.int th, .int (nI wn), .int (nI hn), .int (nI q0), .int wv, .ref a1, .ref a2, .ref a3, .ref a4, .ref a5, .ref a6, .ref a7, .ref a8, .int mn])), (a1, .inl (cI, 25, .inl (kI K1))), (a2, .inl (cI, 25, .inl NXq_3)), (a3, .inl (cZ, 25, .inl (zB T0))), (a4, .inl (cI, 100, .inl (bI wn hn))), (a5, .inl (cI, 25, .inl (kI K1))), (a6, .inl (cI, 25, .inl RG)), (a7, .inl (cI, 26, .inl SZ)), (a8, .inl (cI, 25, .inl LN))] := hD
      refine lv_iload hx hb dX2_winsWith_35 (lv_at hl 0 rfl) ?_
      rw [← hQ]
      exact z_zret (W1 := (fun (u : (Nat → Int32)) => [(m0, .inr (2, [.int th, .int (nI wn), .int (nI hn), .int (nI q0), .int wv, .ref a1, .ref a2, .ref a3, .ref a4, .ref a5, .ref a6, .ref a7, .ref a8, .int mn])), (a1, .inl (cI, 25, .inl (kI K1))), (a2, .inl (cI, 25, .inl u)), (a3, .inl (cZ, 25, .inl (zB T0))), (a4, .inl (cI, 100, .inl (bI wn hn))), (a5, .inl (cI, 25, .inl (kI K1))), (a6, .inl (cI, 25, .inl RG)), (a7, .inl (cI, 26, .inl SZ)), (a8, .inl (cI, 25, .inl LN))])) hx hb hr hlocks (bz_ret _) hP hS NXq_3 (rfl) (by rw [eo1, eo2]; rfl) dX2_winsWith_37
    · skip
      obtain ⟨d2, ed2⟩ := bV_some c_14
      have hd2 := ho2 d2 ed2
      refine lv_aload_n hx hb dX2_winsWith_17 rfl (lv_at hl 0 rfl) ?_
      refine va_get (D := (dC, dI)) (ci := 2) (v := .ref a1) (C := RX2) (T := TX2) (N := 14) hx hb hts iX2_winsWith_X2 hown hK hP 0 rfl rfl 5 (by decide) (hts (.fieldLink RX2 13 "ColourTideModel" "colours" "[I") (List.mem_of_getElem? (i := 1) rfl)) (fun _ h9 => h9) rfl dX2_winsWith_18 ?_
      refine lv_iload_n hx hb dX2_winsWith_21 rfl (lv_at hl 3 rfl) ?_
      refine lv_iload_n hx hb dX2_winsWith_22 rfl (lv_at hl 1 rfl) ?_
      refine z_iast hx hb hK hP hD hS 1 0 rfl rfl d2 (by rw [ed2]; rfl) (by omega) (by decide) dX2_winsWith_23 (fun H locs hP hD hS => ?_)
      have hP : va_P (dC, dI) vwCl [(m0, .inr (2, [.int th, .int (nI wn), .int (nI hn), .int (nI q0), .int wv, .ref a1, .ref a2, .ref a3, .ref a4, .ref a5, .ref a6, .ref a7, .ref a8, .int mn])), (a1, .inl (cI, 25, .inl (upd (kI K0) d2 (nI j0)))), (a2, .inl (cI, 25, .inl NX)), (a3, .inl (cZ, 25, .inl (zB T0))), (a4, .inl (cI, 100, .inl (bI wn hn))), (a5, .inl (cI, 25, .inl (kI K1))), (a6, .inl (cI, 25, .inl RG)), (a7, .inl (cI, 26, .inl SZ)), (a8, .inl (cI, 25, .inl LN))] H := hP
      have hD : va_D A [(m0, .inr (2, [.int th, .int (nI wn), .int (nI hn), .int (nI q0), .int wv, .ref a1, .ref a2, .ref a3, .ref a4, .ref a5, .ref a6, .ref a7, .ref a8, .int mn])), (a1, .inl (cI, 25, .inl (upd (kI K0) d2 (nI j0)))), (a2, .inl (cI, 25, .inl NX)), (a3, .inl (cZ, 25, .inl (zB T0))), (a4, .inl (cI, 100, .inl (bI wn hn))), (a5, .inl (cI, 25, .inl (kI K1))), (a6, .inl (cI, 25, .inl RG)), (a7, .inl (cI, 26, .inl SZ)), (a8, .inl (cI, 25, .inl LN))] := hD
      have e_23 : upd (kI K0) d2 (nI j0) = kI (put K0 o2 j0) := by rw [kI_upd, ed2]; rfl
      rw [e_23] at hP hD
      refine lv_aload_n hx hb dX2_winsWith_24 rfl (lv_at hl 0 rfl) ?_
      refine lv_iload_n hx hb dX2_winsWith_25 rfl (lv_at hl 1 rfl) ?_
      refine z_callVi (As := [.int (nI j0)]) (rest := []) F9 (m_X2_winsNow l dC dI cI cZ cJ cD m0 a1 a2 a3 a4 a5 a6 a7 a8 th wn hn q0 wv (put K0 o2 j0) NX T0 (kI K1) RG SZ LN mn j0 (g) ((put_le hK4 (by omega))) (hq) (hj0)) (cwV 1 hts gX2_winsWith_X2_winsNow rfl rfl rfl (by decide +kernel) ⟨Nat.le_of_ble_eq_true rfl, Nat.le_of_ble_eq_true rfl⟩) hK hN hP hD hS hA [0, 1, 2, 3, 4, 5, 6, 7, 8] rfl rfl (fun _ => rfl) 0 (ci := 2) rfl rfl rfl rfl hl.1 rfl (Nat.le_of_ble_eq_true rfl) dX2_winsWith_26 ⟨Nat.zero_le _, Nat.zero_le _⟩ (fun r_5 u H locs hp_26 hP hD hS => ?_)
      obtain ⟨Kq_6, NXq_7⟩ := u
      have hP : va_P (dC, dI) vwCl [(m0, .inr (2, [.int th, .int (nI wn), .int (nI hn), .int (nI q0), .int wv, .ref a1, .ref a2, .ref a3, .ref a4, .ref a5, .ref a6, .ref a7, .ref a8, .int mn])), (a1, .inl (cI, 25, .inl (kI Kq_6))), (a2, .inl (cI, 25, .inl NXq_7)), (a3, .inl (cZ, 25, .inl (zB T0))), (a4, .inl (cI, 100, .inl (bI wn hn))), (a5, .inl (cI, 25, .inl (kI K1))), (a6, .inl (cI, 25, .inl RG)), (a7, .inl (cI, 26, .inl SZ)), (a8, .inl (cI, 25, .inl LN))] H := hP
      have hD : va_D A [(m0, .inr (2, [.int th, .int (nI wn), .int (nI hn), .int (nI q0), .int wv, .ref a1, .ref a2, .ref a3, .ref a4, .ref a5, .ref a6, .ref a7, .ref a8, .int mn])), (a1, .inl (cI, 25, .inl (kI Kq_6))), (a2, .inl (cI, 25, .inl NXq_7)), (a3, .inl (cZ, 25, .inl (zB T0))), (a4, .inl (cI, 100, .inl (bI wn hn))), (a5, .inl (cI, 25, .inl (kI K1))), (a6, .inl (cI, 25, .inl RG)), (a7, .inl (cI, 26, .inl SZ)), (a8, .inl (cI, 25, .inl LN))] := hD
      have hp_26 : r_5 = bz (winF wn hn q0 T0 j0 8 (put K0 o2 j0)) := hp_26
      refine z_topi (y := bz (winF wn hn q0 T0 j0 8 (put K0 o2 j0))) hp_26 ?_
      refine lv_istore (lv' := [(4, .int (bz (winF wn hn q0 T0 j0 8 (put K0 o2 j0)))), (0, .ref m0), (1, .int (nI j0)), (2, .int (bV o1)), (3, .int (bV o2))]) hx hb dX2_winsWith_29 hl (by decide) rfl (fun ls hl => ?_)
      refine lv_aload_n hx hb dX2_winsWith_31 rfl (lv_at hl 1 rfl) ?_
      refine z_callVv (As := []) (rest := []) F9 (m_X2_bringBack l dC dI cI cZ cJ cD m0 a1 a2 a3 a4 a5 a6 a7 a8 th wn hn q0 wv Kq_6 NXq_7 T0 RG SZ LN mn K1 ) (cwV 0 hts gX2_winsWith_X2_bringBack rfl rfl rfl (by decide +kernel) ⟨Nat.le_of_ble_eq_true rfl, Nat.le_of_ble_eq_true rfl⟩) hK hN hP hD hS hA [0, 1, 2, 3, 4, 5, 6, 7, 8] rfl rfl (fun _ => rfl) 0 (ci := 2) rfl rfl rfl rfl hl.1 rfl (Nat.le_of_ble_eq_true rfl) dX2_winsWith_32 ⟨Nat.zero_le _, Nat.zero_le _⟩ (fun u H locs hp_32 hP hD hS => ?_)
      have hP : va_P (dC, dI) vwCl [(m0, .inr (2, [.int th, .int (nI wn), .int (nI hn), .int (nI q0), .int wv, .ref a1, .ref a2, .ref a3, .ref a4, .ref a5, .ref a6, .ref a7, .ref a8, .int mn])), (a1, .inl (cI, 25, .inl (kI K1))), (a2, .inl (cI, 25, .inl NXq_7)), (a3, .inl (cZ, 25, .inl (zB T0))), (a4, .inl (cI, 100, .inl (bI wn hn))), (a5, .inl (cI, 25, .inl (kI K1))), (a6, .inl (cI, 25, .inl RG)), (a7, .inl (cI, 26, .inl SZ)), (a8, .inl (cI, 25, .inl LN))] H := hP
      have hD : va_D A [(m0, .inr (2, [.int th, .int (nI wn), .int (nI hn), .int (nI q0), .int wv, .ref a1, .ref a2, .ref a3, .ref a4, .ref a5, .ref a6, .ref a7, .ref a8, .int mn])), (a1, .inl (cI, 25, .inl (kI K1))), (a2, .inl (cI, 25, .inl NXq_7)), (a3, .inl (cZ, 25, .inl (zB T0))), (a4, .inl (cI, 100, .inl (bI wn hn))), (a5, .inl (cI, 25, .inl (kI K1))), (a6, .inl (cI, 25, .inl RG)), (a7, .inl (cI, 26, .inl SZ)), (a8, .inl (cI, 25, .inl LN))] := hD
      refine lv_iload hx hb dX2_winsWith_35 (lv_at hl 0 rfl) ?_
      rw [← hQ]
      exact z_zret (W1 := (fun (u : (Nat → Int32)) => [(m0, .inr (2, [.int th, .int (nI wn), .int (nI hn), .int (nI q0), .int wv, .ref a1, .ref a2, .ref a3, .ref a4, .ref a5, .ref a6, .ref a7, .ref a8, .int mn])), (a1, .inl (cI, 25, .inl (kI K1))), (a2, .inl (cI, 25, .inl u)), (a3, .inl (cZ, 25, .inl (zB T0))), (a4, .inl (cI, 100, .inl (bI wn hn))), (a5, .inl (cI, 25, .inl (kI K1))), (a6, .inl (cI, 25, .inl RG)), (a7, .inl (cI, 26, .inl SZ)), (a8, .inl (cI, 25, .inl LN))])) hx hb hr hlocks (bz_ret _) hP hS NXq_7 (rfl) (by rw [eo1]; rfl) dX2_winsWith_37
  · skip
    obtain ⟨d1, ed1⟩ := bV_some c_2
    have hd1 := ho1 d1 ed1
    refine lv_aload_n hx hb dX2_winsWith_5 rfl (lv_at hl 0 rfl) ?_
    refine va_get (D := (dC, dI)) (ci := 2) (v := .ref a1) (C := RX2) (T := TX2) (N := 14) hx hb hts iX2_winsWith_X2 hown hK hP 0 rfl rfl 5 (by decide) (hts (.fieldLink RX2 13 "ColourTideModel" "colours" "[I") (List.mem_of_getElem? (i := 1) rfl)) (fun _ h9 => h9) rfl dX2_winsWith_6 ?_
    refine lv_iload_n hx hb dX2_winsWith_9 rfl (lv_at hl 2 rfl) ?_
    refine lv_iload_n hx hb dX2_winsWith_10 rfl (lv_at hl 1 rfl) ?_
    refine z_iast hx hb hK hP hD hS 1 0 rfl rfl d1 (by rw [ed1]; rfl) (by omega) (by decide) dX2_winsWith_11 (fun H locs hP hD hS => ?_)
    have hP : va_P (dC, dI) vwCl [(m0, .inr (2, [.int th, .int (nI wn), .int (nI hn), .int (nI q0), .int wv, .ref a1, .ref a2, .ref a3, .ref a4, .ref a5, .ref a6, .ref a7, .ref a8, .int mn])), (a1, .inl (cI, 25, .inl (upd (kI K0) d1 (nI j0)))), (a2, .inl (cI, 25, .inl NX)), (a3, .inl (cZ, 25, .inl (zB T0))), (a4, .inl (cI, 100, .inl (bI wn hn))), (a5, .inl (cI, 25, .inl (kI K1))), (a6, .inl (cI, 25, .inl RG)), (a7, .inl (cI, 26, .inl SZ)), (a8, .inl (cI, 25, .inl LN))] H := hP
    have hD : va_D A [(m0, .inr (2, [.int th, .int (nI wn), .int (nI hn), .int (nI q0), .int wv, .ref a1, .ref a2, .ref a3, .ref a4, .ref a5, .ref a6, .ref a7, .ref a8, .int mn])), (a1, .inl (cI, 25, .inl (upd (kI K0) d1 (nI j0)))), (a2, .inl (cI, 25, .inl NX)), (a3, .inl (cZ, 25, .inl (zB T0))), (a4, .inl (cI, 100, .inl (bI wn hn))), (a5, .inl (cI, 25, .inl (kI K1))), (a6, .inl (cI, 25, .inl RG)), (a7, .inl (cI, 26, .inl SZ)), (a8, .inl (cI, 25, .inl LN))] := hD
    have e_11 : upd (kI K0) d1 (nI j0) = kI (put K0 o1 j0) := by rw [kI_upd, ed1]; rfl
    rw [e_11] at hP hD
    refine lv_iload_n hx hb dX2_winsWith_12 rfl (lv_at hl 3 rfl) ?_
    refine lv_iconst (v := (-1)) hx hb dX2_winsWith_13 (by decide) ?_
    refine lv_icmp_eq (tgt := 24) hx hb dX2_winsWith_14 (by decide) (fun c_14 => ?_) (fun c_14 => ?_)
    · skip
      have eo2 := bV_none c_14 (fun d e => by have := ho2 d e; omega)
      refine lv_aload_n hx hb dX2_winsWith_24 rfl (lv_at hl 0 rfl) ?_
      refine lv_iload_n hx hb dX2_winsWith_25 rfl (lv_at hl 1 rfl) ?_
      refine z_callVi (As := [.int (nI j0)]) (rest := []) F9 (m_X2_winsNow l dC dI cI cZ cJ cD m0 a1 a2 a3 a4 a5 a6 a7 a8 th wn hn q0 wv (put K0 o1 j0) NX T0 (kI K1) RG SZ LN mn j0 (g) ((put_le hK4 (by omega))) (hq) (hj0)) (cwV 1 hts gX2_winsWith_X2_winsNow rfl rfl rfl (by decide +kernel) ⟨Nat.le_of_ble_eq_true rfl, Nat.le_of_ble_eq_true rfl⟩) hK hN hP hD hS hA [0, 1, 2, 3, 4, 5, 6, 7, 8] rfl rfl (fun _ => rfl) 0 (ci := 2) rfl rfl rfl rfl hl.1 rfl (Nat.le_of_ble_eq_true rfl) dX2_winsWith_26 ⟨Nat.zero_le _, Nat.zero_le _⟩ (fun r_9 u H locs hp_26 hP hD hS => ?_)
      obtain ⟨Kq_10, NXq_11⟩ := u
      have hP : va_P (dC, dI) vwCl [(m0, .inr (2, [.int th, .int (nI wn), .int (nI hn), .int (nI q0), .int wv, .ref a1, .ref a2, .ref a3, .ref a4, .ref a5, .ref a6, .ref a7, .ref a8, .int mn])), (a1, .inl (cI, 25, .inl (kI Kq_10))), (a2, .inl (cI, 25, .inl NXq_11)), (a3, .inl (cZ, 25, .inl (zB T0))), (a4, .inl (cI, 100, .inl (bI wn hn))), (a5, .inl (cI, 25, .inl (kI K1))), (a6, .inl (cI, 25, .inl RG)), (a7, .inl (cI, 26, .inl SZ)), (a8, .inl (cI, 25, .inl LN))] H := hP
      have hD : va_D A [(m0, .inr (2, [.int th, .int (nI wn), .int (nI hn), .int (nI q0), .int wv, .ref a1, .ref a2, .ref a3, .ref a4, .ref a5, .ref a6, .ref a7, .ref a8, .int mn])), (a1, .inl (cI, 25, .inl (kI Kq_10))), (a2, .inl (cI, 25, .inl NXq_11)), (a3, .inl (cZ, 25, .inl (zB T0))), (a4, .inl (cI, 100, .inl (bI wn hn))), (a5, .inl (cI, 25, .inl (kI K1))), (a6, .inl (cI, 25, .inl RG)), (a7, .inl (cI, 26, .inl SZ)), (a8, .inl (cI, 25, .inl LN))] := hD
      have hp_26 : r_9 = bz (winF wn hn q0 T0 j0 8 (put K0 o1 j0)) := hp_26
      refine z_topi (y := bz (winF wn hn q0 T0 j0 8 (put K0 o1 j0))) hp_26 ?_
      refine lv_istore (lv' := [(4, .int (bz (winF wn hn q0 T0 j0 8 (put K0 o1 j0)))), (0, .ref m0), (1, .int (nI j0)), (2, .int (bV o1)), (3, .int (bV o2))]) hx hb dX2_winsWith_29 hl (by decide) rfl (fun ls hl => ?_)
      refine lv_aload_n hx hb dX2_winsWith_31 rfl (lv_at hl 1 rfl) ?_
      refine z_callVv (As := []) (rest := []) F9 (m_X2_bringBack l dC dI cI cZ cJ cD m0 a1 a2 a3 a4 a5 a6 a7 a8 th wn hn q0 wv Kq_10 NXq_11 T0 RG SZ LN mn K1 ) (cwV 0 hts gX2_winsWith_X2_bringBack rfl rfl rfl (by decide +kernel) ⟨Nat.le_of_ble_eq_true rfl, Nat.le_of_ble_eq_true rfl⟩) hK hN hP hD hS hA [0, 1, 2, 3, 4, 5, 6, 7, 8] rfl rfl (fun _ => rfl) 0 (ci := 2) rfl rfl rfl rfl hl.1 rfl (Nat.le_of_ble_eq_true rfl) dX2_winsWith_32 ⟨Nat.zero_le _, Nat.zero_le _⟩ (fun u H locs hp_32 hP hD hS => ?_)
      have hP : va_P (dC, dI) vwCl [(m0, .inr (2, [.int th, .int (nI wn), .int (nI hn), .int (nI q0), .int wv, .ref a1, .ref a2, .ref a3, .ref a4, .ref a5, .ref a6, .ref a7, .ref a8, .int mn])), (a1, .inl (cI, 25, .inl (kI K1))), (a2, .inl (cI, 25, .inl NXq_11)), (a3, .inl (cZ, 25, .inl (zB T0))), (a4, .inl (cI, 100, .inl (bI wn hn))), (a5, .inl (cI, 25, .inl (kI K1))), (a6, .inl (cI, 25, .inl RG)), (a7, .inl (cI, 26, .inl SZ)), (a8, .inl (cI, 25, .inl LN))] H := hP
      have hD : va_D A [(m0, .inr (2, [.int th, .int (nI wn), .int (nI hn), .int (nI q0), .int wv, .ref a1, .ref a2, .ref a3, .ref a4, .ref a5, .ref a6, .ref a7, .ref a8, .int mn])), (a1, .inl (cI, 25, .inl (kI K1))), (a2, .inl (cI, 25, .inl NXq_11)), (a3, .inl (cZ, 25, .inl (zB T0))), (a4, .inl (cI, 100, .inl (bI wn hn))), (a5, .inl (cI, 25, .inl (kI K1))), (a6, .inl (cI, 25, .inl RG)), (a7, .inl (cI, 26, .inl SZ)), (a8, .inl (cI, 25, .inl LN))] := hD
      refine lv_iload hx hb dX2_winsWith_35 (lv_at hl 0 rfl) ?_
      rw [← hQ]
      exact z_zret (W1 := (fun (u : (Nat → Int32)) => [(m0, .inr (2, [.int th, .int (nI wn), .int (nI hn), .int (nI q0), .int wv, .ref a1, .ref a2, .ref a3, .ref a4, .ref a5, .ref a6, .ref a7, .ref a8, .int mn])), (a1, .inl (cI, 25, .inl (kI K1))), (a2, .inl (cI, 25, .inl u)), (a3, .inl (cZ, 25, .inl (zB T0))), (a4, .inl (cI, 100, .inl (bI wn hn))), (a5, .inl (cI, 25, .inl (kI K1))), (a6, .inl (cI, 25, .inl RG)), (a7, .inl (cI, 26, .inl SZ)), (a8, .inl (cI, 25, .inl LN))])) hx hb hr hlocks (bz_ret _) hP hS NXq_11 (rfl) (by rw [eo2]; rfl) dX2_winsWith_37
    · skip
      obtain ⟨d2, ed2⟩ := bV_some c_14
      have hd2 := ho2 d2 ed2
      refine lv_aload_n hx hb dX2_winsWith_17 rfl (lv_at hl 0 rfl) ?_
      refine va_get (D := (dC, dI)) (ci := 2) (v := .ref a1) (C := RX2) (T := TX2) (N := 14) hx hb hts iX2_winsWith_X2 hown hK hP 0 rfl rfl 5 (by decide) (hts (.fieldLink RX2 13 "ColourTideModel" "colours" "[I") (List.mem_of_getElem? (i := 1) rfl)) (fun _ h9 => h9) rfl dX2_winsWith_18 ?_
      refine lv_iload_n hx hb dX2_winsWith_21 rfl (lv_at hl 3 rfl) ?_
      refine lv_iload_n hx hb dX2_winsWith_22 rfl (lv_at hl 1 rfl) ?_
      refine z_iast hx hb hK hP hD hS 1 0 rfl rfl d2 (by rw [ed2]; rfl) (by omega) (by decide) dX2_winsWith_23 (fun H locs hP hD hS => ?_)
      have hP : va_P (dC, dI) vwCl [(m0, .inr (2, [.int th, .int (nI wn), .int (nI hn), .int (nI q0), .int wv, .ref a1, .ref a2, .ref a3, .ref a4, .ref a5, .ref a6, .ref a7, .ref a8, .int mn])), (a1, .inl (cI, 25, .inl (upd (kI (put K0 o1 j0)) d2 (nI j0)))), (a2, .inl (cI, 25, .inl NX)), (a3, .inl (cZ, 25, .inl (zB T0))), (a4, .inl (cI, 100, .inl (bI wn hn))), (a5, .inl (cI, 25, .inl (kI K1))), (a6, .inl (cI, 25, .inl RG)), (a7, .inl (cI, 26, .inl SZ)), (a8, .inl (cI, 25, .inl LN))] H := hP
      have hD : va_D A [(m0, .inr (2, [.int th, .int (nI wn), .int (nI hn), .int (nI q0), .int wv, .ref a1, .ref a2, .ref a3, .ref a4, .ref a5, .ref a6, .ref a7, .ref a8, .int mn])), (a1, .inl (cI, 25, .inl (upd (kI (put K0 o1 j0)) d2 (nI j0)))), (a2, .inl (cI, 25, .inl NX)), (a3, .inl (cZ, 25, .inl (zB T0))), (a4, .inl (cI, 100, .inl (bI wn hn))), (a5, .inl (cI, 25, .inl (kI K1))), (a6, .inl (cI, 25, .inl RG)), (a7, .inl (cI, 26, .inl SZ)), (a8, .inl (cI, 25, .inl LN))] := hD
      have e_23 : upd (kI (put K0 o1 j0)) d2 (nI j0) = kI (put (put K0 o1 j0) o2 j0) := by rw [kI_upd, ed2]; rfl
      rw [e_23] at hP hD
      refine lv_aload_n hx hb dX2_winsWith_24 rfl (lv_at hl 0 rfl) ?_
      refine lv_iload_n hx hb dX2_winsWith_25 rfl (lv_at hl 1 rfl) ?_
      refine z_callVi (As := [.int (nI j0)]) (rest := []) F9 (m_X2_winsNow l dC dI cI cZ cJ cD m0 a1 a2 a3 a4 a5 a6 a7 a8 th wn hn q0 wv (put (put K0 o1 j0) o2 j0) NX T0 (kI K1) RG SZ LN mn j0 (g) ((put_le (put_le hK4 (by omega)) (by omega))) (hq) (hj0)) (cwV 1 hts gX2_winsWith_X2_winsNow rfl rfl rfl (by decide +kernel) ⟨Nat.le_of_ble_eq_true rfl, Nat.le_of_ble_eq_true rfl⟩) hK hN hP hD hS hA [0, 1, 2, 3, 4, 5, 6, 7, 8] rfl rfl (fun _ => rfl) 0 (ci := 2) rfl rfl rfl rfl hl.1 rfl (Nat.le_of_ble_eq_true rfl) dX2_winsWith_26 ⟨Nat.zero_le _, Nat.zero_le _⟩ (fun r_13 u H locs hp_26 hP hD hS => ?_)
      obtain ⟨Kq_14, NXq_15⟩ := u
      have hP : va_P (dC, dI) vwCl [(m0, .inr (2, [.int th, .int (nI wn), .int (nI hn), .int (nI q0), .int wv, .ref a1, .ref a2, .ref a3, .ref a4, .ref a5, .ref a6, .ref a7, .ref a8, .int mn])), (a1, .inl (cI, 25, .inl (kI Kq_14))), (a2, .inl (cI, 25, .inl NXq_15)), (a3, .inl (cZ, 25, .inl (zB T0))), (a4, .inl (cI, 100, .inl (bI wn hn))), (a5, .inl (cI, 25, .inl (kI K1))), (a6, .inl (cI, 25, .inl RG)), (a7, .inl (cI, 26, .inl SZ)), (a8, .inl (cI, 25, .inl LN))] H := hP
      have hD : va_D A [(m0, .inr (2, [.int th, .int (nI wn), .int (nI hn), .int (nI q0), .int wv, .ref a1, .ref a2, .ref a3, .ref a4, .ref a5, .ref a6, .ref a7, .ref a8, .int mn])), (a1, .inl (cI, 25, .inl (kI Kq_14))), (a2, .inl (cI, 25, .inl NXq_15)), (a3, .inl (cZ, 25, .inl (zB T0))), (a4, .inl (cI, 100, .inl (bI wn hn))), (a5, .inl (cI, 25, .inl (kI K1))), (a6, .inl (cI, 25, .inl RG)), (a7, .inl (cI, 26, .inl SZ)), (a8, .inl (cI, 25, .inl LN))] := hD
      have hp_26 : r_13 = bz (winF wn hn q0 T0 j0 8 (put (put K0 o1 j0) o2 j0)) := hp_26
      refine z_topi (y := bz (winF wn hn q0 T0 j0 8 (put (put K0 o1 j0) o2 j0))) hp_26 ?_
      refine lv_istore (lv' := [(4, .int (bz (winF wn hn q0 T0 j0 8 (put (put K0 o1 j0) o2 j0)))), (0, .ref m0), (1, .int (nI j0)), (2, .int (bV o1)), (3, .int (bV o2))]) hx hb dX2_winsWith_29 hl (by decide) rfl (fun ls hl => ?_)
      refine lv_aload_n hx hb dX2_winsWith_31 rfl (lv_at hl 1 rfl) ?_
      refine z_callVv (As := []) (rest := []) F9 (m_X2_bringBack l dC dI cI cZ cJ cD m0 a1 a2 a3 a4 a5 a6 a7 a8 th wn hn q0 wv Kq_14 NXq_15 T0 RG SZ LN mn K1 ) (cwV 0 hts gX2_winsWith_X2_bringBack rfl rfl rfl (by decide +kernel) ⟨Nat.le_of_ble_eq_true rfl, Nat.le_of_ble_eq_true rfl⟩) hK hN hP hD hS hA [0, 1, 2, 3, 4, 5, 6, 7, 8] rfl rfl (fun _ => rfl) 0 (ci := 2) rfl rfl rfl rfl hl.1 rfl (Nat.le_of_ble_eq_true rfl) dX2_winsWith_32 ⟨Nat.zero_le _, Nat.zero_le _⟩ (fun u H locs hp_32 hP hD hS => ?_)
      have hP : va_P (dC, dI) vwCl [(m0, .inr (2, [.int th, .int (nI wn), .int (nI hn), .int (nI q0), .int wv, .ref a1, .ref a2, .ref a3, .ref a4, .ref a5, .ref a6, .ref a7, .ref a8, .int mn])), (a1, .inl (cI, 25, .inl (kI K1))), (a2, .inl (cI, 25, .inl NXq_15)), (a3, .inl (cZ, 25, .inl (zB T0))), (a4, .inl (cI, 100, .inl (bI wn hn))), (a5, .inl (cI, 25, .inl (kI K1))), (a6, .inl (cI, 25, .inl RG)), (a7, .inl (cI, 26, .inl SZ)), (a8, .inl (cI, 25, .inl LN))] H := hP
      have hD : va_D A [(m0, .inr (2, [.int th, .int (nI wn), .int (nI hn), .int (nI q0), .int wv, .ref a1, .ref a2, .ref a3, .ref a4, .ref a5, .ref a6, .ref a7, .ref a8, .int mn])), (a1, .inl (cI, 25, .inl (kI K1))), (a2, .inl (cI, 25, .inl NXq_15)), (a3, .inl (cZ, 25, .inl (zB T0))), (a4, .inl (cI, 100, .inl (bI wn hn))), (a5, .inl (cI, 25, .inl (kI K1))), (a6, .inl (cI, 25, .inl RG)), (a7, .inl (cI, 26, .inl SZ)), (a8, .inl (cI, 25, .inl LN))] := hD
      refine lv_iload hx hb dX2_winsWith_35 (lv_at hl 0 rfl) ?_
      rw [← hQ]
      exact z_zret (W1 := (fun (u : (Nat → Int32)) => [(m0, .inr (2, [.int th, .int (nI wn), .int (nI hn), .int (nI q0), .int wv, .ref a1, .ref a2, .ref a3, .ref a4, .ref a5, .ref a6, .ref a7, .ref a8, .int mn])), (a1, .inl (cI, 25, .inl (kI K1))), (a2, .inl (cI, 25, .inl u)), (a3, .inl (cZ, 25, .inl (zB T0))), (a4, .inl (cI, 100, .inl (bI wn hn))), (a5, .inl (cI, 25, .inl (kI K1))), (a6, .inl (cI, 25, .inl RG)), (a7, .inl (cI, 26, .inl SZ)), (a8, .inl (cI, 25, .inl LN))])) hx hb hr hlocks (bz_ret _) hP hS NXq_15 (rfl) (rfl) dX2_winsWith_37
