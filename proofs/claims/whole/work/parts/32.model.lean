abbrev rmX2_thrown : Room := { frames := 0, cells := 0, slots := 0, locals := 0 }
set_option maxRecDepth 20000 in
theorem iX2_thrown_X2 : ∀ w ∈ wsX20, w ∈ wsX2_thrown := fun w h => (goodIn_r (big := wsX2_thrown) wsX20 [2, 3, 4, 5, 6, 7, 8, 9, 10, 11, 12, 13, 14, 15] (by decide +kernel) (by decide +kernel) w h).1
set_option maxHeartbeats 4000000 in
set_option maxRecDepth 100000 in
theorem m_X2_thrown (l : Launch) (dC : Nat → ClassId) (dI : Nat → Nat → Nat) (cI cZ cJ cD : ClassId) (m0 : Nat) (a1 : Nat) (a2 : Nat) (a3 : Nat) (a4 : Nat) (a5 : Nat) (a6 : Nat) (a7 : Nat) (a8 : Nat) (th : Int32) (wn : Nat) (hn : Nat) (q0 : Nat) (wv : Int32) (K0 : Nat → Nat) (NX : Nat → Int32) (T0 : Nat → Bool) (KP : Nat → Int32) (RG : Nat → Int32) (SZ : Nat → Int32) (LN : Nat → Int32) (mn : Int32)  : zI l (dC, dI) (wT cI cZ cJ cD) yX2_thrown wsX2_thrown rmX2_thrown [(m0, .inr (2, [.int th, .int (nI wn), .int (nI hn), .int (nI q0), .int wv, .ref a1, .ref a2, .ref a3, .ref a4, .ref a5, .ref a6, .ref a7, .ref a8, .int mn])), (a1, .inl (cI, 25, .inl (kI K0))), (a2, .inl (cI, 25, .inl NX)), (a3, .inl (cZ, 25, .inl (zB T0))), (a4, .inl (cI, 100, .inl (bI wn hn))), (a5, .inl (cI, 25, .inl KP)), (a6, .inl (cI, 25, .inl RG)), (a7, .inl (cI, 26, .inl SZ)), (a8, .inl (cI, 25, .inl LN))] [.ref m0] (fun (_ : Unit) => [(m0, .inr (2, [.int th, .int (nI wn), .int (nI hn), .int (nI q0), .int wv, .ref a1, .ref a2, .ref a3, .ref a4, .ref a5, .ref a6, .ref a7, .ref a8, .int mn])), (a1, .inl (cI, 25, .inl (kI K0))), (a2, .inl (cI, 25, .inl NX)), (a3, .inl (cZ, 25, .inl (zB T0))), (a4, .inl (cI, 100, .inl (bI wn hn))), (a5, .inl (cI, 25, .inl KP)), (a6, .inl (cI, 25, .inl RG)), (a7, .inl (cI, 26, .inl SZ)), (a8, .inl (cI, 25, .inl LN))]) (fun (r : Int32) (_ : Unit) => r = th) := by
  intro sz
  refine Met.ofW (cc := cX2_thrown) (maxL := 1) (ret := (some .int)) (by decide) rfl ?_
  intro p e s m args below meth c s₁ B hml hv
  obtain ⟨ha, hsz, hP, hK, hD0, hN⟩ := hv
  have hx := B.exec
  have hb := B.bytes
  have hr := B.returns
  have hts := atoms_spec (ws := wsX2_thrown) B.pre
  have hown : s.vm.findClass RX2 = some m.cls := findClass_of_methodNamed B.named
  have hlocks := B.notSynchronized
  subst hsz
  have hD := hD0.self (sz := s.heap.size)
  generalize hAe : va_A [(m0, .inr (2, [.int th, .int (nI wn), .int (nI hn), .int (nI q0), .int wv, .ref a1, .ref a2, .ref a3, .ref a4, .ref a5, .ref a6, .ref a7, .ref a8, .int mn])), (a1, .inl (cI, 25, .inl (kI K0))), (a2, .inl (cI, 25, .inl NX)), (a3, .inl (cZ, 25, .inl (zB T0))), (a4, .inl (cI, 100, .inl (bI wn hn))), (a5, .inl (cI, 25, .inl KP)), (a6, .inl (cI, 25, .inl RG)), (a7, .inl (cI, 26, .inl SZ)), (a8, .inl (cI, 25, .inl LN))] s.heap.size = A at hD ⊢
  have hA : ∀ q : Nat, s.heap.size ≤ q → A q := fun q h => by rw [← hAe]; exact Or.inr h
  have hS : va_S A s.heap s.heap [] := va_S.rf
  generalize hQ : MQ below (va_Qi (fun (r : Int32) (_ : Unit) => r = th) (fun u t => va_P (dC, dI) vwCl ((fun (_ : Unit) => [(m0, .inr (2, [.int th, .int (nI wn), .int (nI hn), .int (nI q0), .int wv, .ref a1, .ref a2, .ref a3, .ref a4, .ref a5, .ref a6, .ref a7, .ref a8, .int mn])), (a1, .inl (cI, 25, .inl (kI K0))), (a2, .inl (cI, 25, .inl NX)), (a3, .inl (cZ, 25, .inl (zB T0))), (a4, .inl (cI, 100, .inl (bI wn hn))), (a5, .inl (cI, 25, .inl KP)), (a6, .inl (cI, 25, .inl RG)), (a7, .inl (cI, 26, .inl SZ)), (a8, .inl (cI, 25, .inl LN))]) u) t.heap) A) args s 0 0 A = Q
  have F9 : CallFix p m c cX2_thrown 1 s args wsX2_thrown RX2 := ⟨hx, hb, hml, hown, hts⟩
  refine z_entry (R := rmX2_thrown) ha (Nat.le_of_ble_eq_true rfl) (fun ls hl => ?_)
  have hl : lv_has ls 1 [(0, .ref m0)] := hl
  refine lv_aload_n hx hb dX2_thrown_0 rfl (lv_at hl 0 rfl) ?_
  refine va_get (D := (dC, dI)) (ci := 2) (v := .int th) (C := RX2) (T := TX2) (N := 14) hx hb hts iX2_thrown_X2 hown hK hP 0 rfl rfl 0 (by decide) (hts (.fieldLink RX2 43 "ColourTideModel" "thrown" "I") (List.mem_of_getElem? (i := 1) rfl)) (fun _ h9 => h9) rfl dX2_thrown_1 ?_
  rw [← hQ]
  exact z_iret (W1 := (fun (_ : Unit) => [(m0, .inr (2, [.int th, .int (nI wn), .int (nI hn), .int (nI q0), .int wv, .ref a1, .ref a2, .ref a3, .ref a4, .ref a5, .ref a6, .ref a7, .ref a8, .int mn])), (a1, .inl (cI, 25, .inl (kI K0))), (a2, .inl (cI, 25, .inl NX)), (a3, .inl (cZ, 25, .inl (zB T0))), (a4, .inl (cI, 100, .inl (bI wn hn))), (a5, .inl (cI, 25, .inl KP)), (a6, .inl (cI, 25, .inl RG)), (a7, .inl (cI, 26, .inl SZ)), (a8, .inl (cI, 25, .inl LN))])) hx hb hr hlocks hP hS () (rfl) (rfl) dX2_thrown_4
abbrev rmX2_fail : Room := { frames := 0, cells := 0, slots := 0, locals := 0 }
set_option maxRecDepth 20000 in
theorem iX2_fail_X2 : ∀ w ∈ wsX20, w ∈ wsX2_fail := fun w h => (goodIn_r (big := wsX2_fail) wsX20 [2, 3, 4, 5, 6, 7, 8, 9, 10, 11, 12, 13, 14, 15] (by decide +kernel) (by decide +kernel) w h).1
set_option maxHeartbeats 4000000 in
set_option maxRecDepth 100000 in
theorem m_X2_fail (l : Launch) (dC : Nat → ClassId) (dI : Nat → Nat → Nat) (cI cZ cJ cD : ClassId) (m0 : Nat) (a1 : Nat) (a2 : Nat) (a3 : Nat) (a4 : Nat) (a5 : Nat) (a6 : Nat) (a7 : Nat) (a8 : Nat) (th : Int32) (wn : Nat) (hn : Nat) (q0 : Nat) (wv : Int32) (K0 : Nat → Nat) (NX : Nat → Int32) (T0 : Nat → Bool) (KP : Nat → Int32) (RG : Nat → Int32) (SZ : Nat → Int32) (LN : Nat → Int32) (mn : Int32) (x0 : Int32)  : zI l (dC, dI) (wT cI cZ cJ cD) yX2_fail wsX2_fail rmX2_fail [(m0, .inr (2, [.int th, .int (nI wn), .int (nI hn), .int (nI q0), .int wv, .ref a1, .ref a2, .ref a3, .ref a4, .ref a5, .ref a6, .ref a7, .ref a8, .int mn])), (a1, .inl (cI, 25, .inl (kI K0))), (a2, .inl (cI, 25, .inl NX)), (a3, .inl (cZ, 25, .inl (zB T0))), (a4, .inl (cI, 100, .inl (bI wn hn))), (a5, .inl (cI, 25, .inl KP)), (a6, .inl (cI, 25, .inl RG)), (a7, .inl (cI, 26, .inl SZ)), (a8, .inl (cI, 25, .inl LN))] [.ref m0, .int x0] (fun (_ : Unit) => [(m0, .inr (2, [.int x0, .int (nI wn), .int (nI hn), .int (nI q0), .int wv, .ref a1, .ref a2, .ref a3, .ref a4, .ref a5, .ref a6, .ref a7, .ref a8, .int mn])), (a1, .inl (cI, 25, .inl (kI K0))), (a2, .inl (cI, 25, .inl NX)), (a3, .inl (cZ, 25, .inl (zB T0))), (a4, .inl (cI, 100, .inl (bI wn hn))), (a5, .inl (cI, 25, .inl KP)), (a6, .inl (cI, 25, .inl RG)), (a7, .inl (cI, 26, .inl SZ)), (a8, .inl (cI, 25, .inl LN))]) (fun (r : Int32) (_ : Unit) => r = 0) := by
  intro sz
  refine Met.ofW (cc := cX2_fail) (maxL := 2) (ret := (some .int)) (by decide) rfl ?_
  intro p e s m args below meth c s₁ B hml hv
  obtain ⟨ha, hsz, hP, hK, hD0, hN⟩ := hv
  have hx := B.exec
  have hb := B.bytes
  have hr := B.returns
  have hts := atoms_spec (ws := wsX2_fail) B.pre
  have hown : s.vm.findClass RX2 = some m.cls := findClass_of_methodNamed B.named
  have hlocks := B.notSynchronized
  subst hsz
  have hD := hD0.self (sz := s.heap.size)
  generalize hAe : va_A [(m0, .inr (2, [.int th, .int (nI wn), .int (nI hn), .int (nI q0), .int wv, .ref a1, .ref a2, .ref a3, .ref a4, .ref a5, .ref a6, .ref a7, .ref a8, .int mn])), (a1, .inl (cI, 25, .inl (kI K0))), (a2, .inl (cI, 25, .inl NX)), (a3, .inl (cZ, 25, .inl (zB T0))), (a4, .inl (cI, 100, .inl (bI wn hn))), (a5, .inl (cI, 25, .inl KP)), (a6, .inl (cI, 25, .inl RG)), (a7, .inl (cI, 26, .inl SZ)), (a8, .inl (cI, 25, .inl LN))] s.heap.size = A at hD ⊢
  have hA : ∀ q : Nat, s.heap.size ≤ q → A q := fun q h => by rw [← hAe]; exact Or.inr h
  have hS : va_S A s.heap s.heap [] := va_S.rf
  generalize hQ : MQ below (va_Qi (fun (r : Int32) (_ : Unit) => r = 0) (fun u t => va_P (dC, dI) vwCl ((fun (_ : Unit) => [(m0, .inr (2, [.int x0, .int (nI wn), .int (nI hn), .int (nI q0), .int wv, .ref a1, .ref a2, .ref a3, .ref a4, .ref a5, .ref a6, .ref a7, .ref a8, .int mn])), (a1, .inl (cI, 25, .inl (kI K0))), (a2, .inl (cI, 25, .inl NX)), (a3, .inl (cZ, 25, .inl (zB T0))), (a4, .inl (cI, 100, .inl (bI wn hn))), (a5, .inl (cI, 25, .inl KP)), (a6, .inl (cI, 25, .inl RG)), (a7, .inl (cI, 26, .inl SZ)), (a8, .inl (cI, 25, .inl LN))]) u) t.heap) A) args s 0 0 A = Q
  have F9 : CallFix p m c cX2_fail 2 s args wsX2_fail RX2 := ⟨hx, hb, hml, hown, hts⟩
  refine z_entry (R := rmX2_fail) ha (Nat.le_of_ble_eq_true rfl) (fun ls hl => ?_)
  have hl : lv_has ls 2 [(0, .ref m0), (1, .int x0)] := hl
  refine lv_aload_n hx hb dX2_fail_0 rfl (lv_at hl 0 rfl) ?_
  refine lv_iload_n hx hb dX2_fail_1 rfl (lv_at hl 1 rfl) ?_
  refine va_put (D := (dC, dI)) (ci := 2) (v := .int x0) (ty := .int) (C := RX2) (T := TX2) (N := 14) hx hb hts iX2_fail_X2 tyX2 tyX2_ok nmX2 hown hK hP hD hS 0 rfl rfl 0 (by decide) (hts (.fieldLink RX2 43 "ColourTideModel" "thrown" "I") (List.mem_of_getElem? (i := 1) rfl)) (fun _ h9 => h9) rfl (by decide +kernel) rfl rfl (Nat.le_of_ble_eq_true rfl) dX2_fail_2 (fun H locs hP hD hS => ?_)
  have hP : va_P (dC, dI) vwCl [(m0, .inr (2, [.int x0, .int (nI wn), .int (nI hn), .int (nI q0), .int wv, .ref a1, .ref a2, .ref a3, .ref a4, .ref a5, .ref a6, .ref a7, .ref a8, .int mn])), (a1, .inl (cI, 25, .inl (kI K0))), (a2, .inl (cI, 25, .inl NX)), (a3, .inl (cZ, 25, .inl (zB T0))), (a4, .inl (cI, 100, .inl (bI wn hn))), (a5, .inl (cI, 25, .inl KP)), (a6, .inl (cI, 25, .inl RG)), (a7, .inl (cI, 26, .inl SZ)), (a8, .inl (cI, 25, .inl LN))] H := hP
  have hD : va_D A [(m0, .inr (2, [.int x0, .int (nI wn), .int (nI hn), .int (nI q0), .int wv, .ref a1, .ref a2, .ref a3, .ref a4, .ref a5, .ref a6, .ref a7, .ref a8, .int mn])), (a1, .inl (cI, 25, .inl (kI K0))), (a2, .inl (cI, 25, .inl NX)), (a3, .inl (cZ, 25, .inl (zB T0))), (a4, .inl (cI, 100, .inl (bI wn hn))), (a5, .inl (cI, 25, .inl KP)), (a6, .inl (cI, 25, .inl RG)), (a7, .inl (cI, 26, .inl SZ)), (a8, .inl (cI, 25, .inl LN))] := hD
  refine lv_iconst (v := 0) hx hb dX2_fail_5 (by decide) ?_
  rw [← hQ]
  exact z_iret (W1 := (fun (_ : Unit) => [(m0, .inr (2, [.int x0, .int (nI wn), .int (nI hn), .int (nI q0), .int wv, .ref a1, .ref a2, .ref a3, .ref a4, .ref a5, .ref a6, .ref a7, .ref a8, .int mn])), (a1, .inl (cI, 25, .inl (kI K0))), (a2, .inl (cI, 25, .inl NX)), (a3, .inl (cZ, 25, .inl (zB T0))), (a4, .inl (cI, 100, .inl (bI wn hn))), (a5, .inl (cI, 25, .inl KP)), (a6, .inl (cI, 25, .inl RG)), (a7, .inl (cI, 26, .inl SZ)), (a8, .inl (cI, 25, .inl LN))])) hx hb hr hlocks hP hS () (rfl) (rfl) dX2_fail_6
abbrev rmX2_isIn : Room := { frames := 0, cells := 0, slots := 0, locals := 0 }
set_option maxHeartbeats 4000000 in
set_option maxRecDepth 100000 in
theorem m_X2_isIn (l : Launch) (dC : Nat → ClassId) (dI : Nat → Nat → Nat) (cI cZ cJ cD : ClassId) (v0 : Int32) (lo : Int32) (hi : Int32)  : zI l (dC, dI) (wT cI cZ cJ cD) yX2_isIn wsX2_isIn rmX2_isIn [] [.int v0, .int lo, .int hi] (fun (_ : Unit) => []) (fun (r : Int32) (_ : Unit) => r = if pIn v0 lo hi then 1 else 0) := by
  intro sz
  refine Met.ofW (cc := cX2_isIn) (maxL := 3) (ret := (some .boolean)) (by decide) rfl ?_
  intro p e s m args below meth c s₁ B hml hv
  obtain ⟨ha, hsz, hP, hK, hD0, hN⟩ := hv
  have hx := B.exec
  have hb := B.bytes
  have hr := B.returns
  have hts := atoms_spec (ws := wsX2_isIn) B.pre
  have hown : s.vm.findClass RX2 = some m.cls := findClass_of_methodNamed B.named
  have hlocks := B.notSynchronized
  subst hsz
  have hD := hD0.self (sz := s.heap.size)
  generalize hAe : va_A [] s.heap.size = A at hD ⊢
  have hA : ∀ q : Nat, s.heap.size ≤ q → A q := fun q h => by rw [← hAe]; exact Or.inr h
  have hS : va_S A s.heap s.heap [] := va_S.rf
  generalize hQ : MQ below (va_Qi (fun (r : Int32) (_ : Unit) => r = if pIn v0 lo hi then 1 else 0) (fun u t => va_P (dC, dI) vwCl ((fun (_ : Unit) => []) u) t.heap) A) args s 0 0 A = Q
  have F9 : CallFix p m c cX2_isIn 3 s args wsX2_isIn RX2 := ⟨hx, hb, hml, hown, hts⟩
  refine z_entry (R := rmX2_isIn) ha (Nat.le_of_ble_eq_true rfl) (fun ls hl => ?_)
  have hl : lv_has ls 3 [(0, .int v0), (1, .int lo), (2, .int hi)] := hl
  refine lv_iload_n hx hb dX2_isIn_0 rfl (lv_at hl 0 rfl) ?_
  refine lv_iload_n hx hb dX2_isIn_1 rfl (lv_at hl 1 rfl) ?_
  refine lv_icmp_lt (tgt := 14) hx hb dX2_isIn_2 (by decide) (fun c_2 => ?_) (fun c_2 => ?_)
  · skip
    refine lv_iconst (v := 0) hx hb dX2_isIn_14 (by decide) ?_
    rw [← hQ]
    exact z_zret (W1 := (fun (_ : Unit) => [])) hx hb hr hlocks (by decide +kernel) hP hS () (rfl) (by rw [if_neg (fun q => q.1 c_2)]) dX2_isIn_15
  · skip
    refine lv_iload_n hx hb dX2_isIn_5 rfl (lv_at hl 0 rfl) ?_
    refine lv_iload_n hx hb dX2_isIn_6 rfl (lv_at hl 2 rfl) ?_
    refine lv_icmp_gt (tgt := 14) hx hb dX2_isIn_7 (by decide) (fun c_7 => ?_) (fun c_7 => ?_)
    · skip
      refine lv_iconst (v := 0) hx hb dX2_isIn_14 (by decide) ?_
      rw [← hQ]
      exact z_zret (W1 := (fun (_ : Unit) => [])) hx hb hr hlocks (by decide +kernel) hP hS () (rfl) (by rw [if_neg (fun q => q.2 c_7)]) dX2_isIn_15
    · skip
      refine lv_iconst (v := 1) hx hb dX2_isIn_10 (by decide) ?_
      refine lv_goto (tgt := 15) hx hb dX2_isIn_11 (by decide) ?_
      rw [← hQ]
      exact z_zret (W1 := (fun (_ : Unit) => [])) hx hb hr hlocks (by decide +kernel) hP hS () (rfl) (by rw [if_pos ⟨c_2, c_7⟩]) dX2_isIn_15
abbrev rmX2_cells : Room := { frames := 0, cells := 0, slots := 0, locals := 0 }
set_option maxRecDepth 20000 in
theorem iX2_cells_X2 : ∀ w ∈ wsX20, w ∈ wsX2_cells := fun w h => (goodIn_r (big := wsX2_cells) wsX20 [3, 4, 5, 6, 7, 8, 9, 10, 11, 12, 13, 14, 15, 16] (by decide +kernel) (by decide +kernel) w h).1
set_option maxHeartbeats 4000000 in
set_option maxRecDepth 100000 in
theorem m_X2_cells (l : Launch) (dC : Nat → ClassId) (dI : Nat → Nat → Nat) (cI cZ cJ cD : ClassId) (m0 : Nat) (a1 : Nat) (a2 : Nat) (a3 : Nat) (a4 : Nat) (a5 : Nat) (a6 : Nat) (a7 : Nat) (a8 : Nat) (th : Int32) (wn : Nat) (hn : Nat) (q0 : Nat) (wv : Int32) (K0 : Nat → Nat) (NX : Nat → Int32) (T0 : Nat → Bool) (KP : Nat → Int32) (RG : Nat → Int32) (SZ : Nat → Int32) (LN : Nat → Int32) (mn : Int32)  : zI l (dC, dI) (wT cI cZ cJ cD) yX2_cells wsX2_cells rmX2_cells [(m0, .inr (2, [.int th, .int (nI wn), .int (nI hn), .int (nI q0), .int wv, .ref a1, .ref a2, .ref a3, .ref a4, .ref a5, .ref a6, .ref a7, .ref a8, .int mn])), (a1, .inl (cI, 25, .inl (kI K0))), (a2, .inl (cI, 25, .inl NX)), (a3, .inl (cZ, 25, .inl (zB T0))), (a4, .inl (cI, 100, .inl (bI wn hn))), (a5, .inl (cI, 25, .inl KP)), (a6, .inl (cI, 25, .inl RG)), (a7, .inl (cI, 26, .inl SZ)), (a8, .inl (cI, 25, .inl LN))] [.ref m0] (fun (_ : Unit) => [(m0, .inr (2, [.int th, .int (nI wn), .int (nI hn), .int (nI q0), .int wv, .ref a1, .ref a2, .ref a3, .ref a4, .ref a5, .ref a6, .ref a7, .ref a8, .int mn])), (a1, .inl (cI, 25, .inl (kI K0))), (a2, .inl (cI, 25, .inl NX)), (a3, .inl (cZ, 25, .inl (zB T0))), (a4, .inl (cI, 100, .inl (bI wn hn))), (a5, .inl (cI, 25, .inl KP)), (a6, .inl (cI, 25, .inl RG)), (a7, .inl (cI, 26, .inl SZ)), (a8, .inl (cI, 25, .inl LN))]) (fun (r : Int32) (_ : Unit) => r = nI (wn * hn)) := by
  intro sz
  refine Met.ofW (cc := cX2_cells) (maxL := 1) (ret := (some .int)) (by decide) rfl ?_
  intro p e s m args below meth c s₁ B hml hv
  obtain ⟨ha, hsz, hP, hK, hD0, hN⟩ := hv
  have hx := B.exec
  have hb := B.bytes
  have hr := B.returns
  have hts := atoms_spec (ws := wsX2_cells) B.pre
  have hown : s.vm.findClass RX2 = some m.cls := findClass_of_methodNamed B.named
  have hlocks := B.notSynchronized
  subst hsz
  have hD := hD0.self (sz := s.heap.size)
  generalize hAe : va_A [(m0, .inr (2, [.int th, .int (nI wn), .int (nI hn), .int (nI q0), .int wv, .ref a1, .ref a2, .ref a3, .ref a4, .ref a5, .ref a6, .ref a7, .ref a8, .int mn])), (a1, .inl (cI, 25, .inl (kI K0))), (a2, .inl (cI, 25, .inl NX)), (a3, .inl (cZ, 25, .inl (zB T0))), (a4, .inl (cI, 100, .inl (bI wn hn))), (a5, .inl (cI, 25, .inl KP)), (a6, .inl (cI, 25, .inl RG)), (a7, .inl (cI, 26, .inl SZ)), (a8, .inl (cI, 25, .inl LN))] s.heap.size = A at hD ⊢
  have hA : ∀ q : Nat, s.heap.size ≤ q → A q := fun q h => by rw [← hAe]; exact Or.inr h
  have hS : va_S A s.heap s.heap [] := va_S.rf
  generalize hQ : MQ below (va_Qi (fun (r : Int32) (_ : Unit) => r = nI (wn * hn)) (fun u t => va_P (dC, dI) vwCl ((fun (_ : Unit) => [(m0, .inr (2, [.int th, .int (nI wn), .int (nI hn), .int (nI q0), .int wv, .ref a1, .ref a2, .ref a3, .ref a4, .ref a5, .ref a6, .ref a7, .ref a8, .int mn])), (a1, .inl (cI, 25, .inl (kI K0))), (a2, .inl (cI, 25, .inl NX)), (a3, .inl (cZ, 25, .inl (zB T0))), (a4, .inl (cI, 100, .inl (bI wn hn))), (a5, .inl (cI, 25, .inl KP)), (a6, .inl (cI, 25, .inl RG)), (a7, .inl (cI, 26, .inl SZ)), (a8, .inl (cI, 25, .inl LN))]) u) t.heap) A) args s 0 0 A = Q
  have F9 : CallFix p m c cX2_cells 1 s args wsX2_cells RX2 := ⟨hx, hb, hml, hown, hts⟩
  refine z_entry (R := rmX2_cells) ha (Nat.le_of_ble_eq_true rfl) (fun ls hl => ?_)
  have hl : lv_has ls 1 [(0, .ref m0)] := hl
  refine lv_aload_n hx hb dX2_cells_0 rfl (lv_at hl 0 rfl) ?_
  refine va_get (D := (dC, dI)) (ci := 2) (v := .int (nI wn)) (C := RX2) (T := TX2) (N := 14) hx hb hts iX2_cells_X2 hown hK hP 0 rfl rfl 1 (by decide) (hts (.fieldLink RX2 46 "ColourTideModel" "w" "I") (List.mem_of_getElem? (i := 1) rfl)) (fun _ h9 => h9) rfl dX2_cells_1 ?_
  refine lv_aload_n hx hb dX2_cells_4 rfl (lv_at hl 0 rfl) ?_
  refine va_get (D := (dC, dI)) (ci := 2) (v := .int (nI hn)) (C := RX2) (T := TX2) (N := 14) hx hb hts iX2_cells_X2 hown hK hP 0 rfl rfl 2 (by decide) (hts (.fieldLink RX2 49 "ColourTideModel" "h" "I") (List.mem_of_getElem? (i := 2) rfl)) (fun _ h9 => h9) rfl dX2_cells_5 ?_
  refine lv_imul hx hb dX2_cells_8 ?_
  refine z_topi (y := nI (wn * hn)) (pk_mul wn hn) ?_
  rw [← hQ]
  exact z_iret (W1 := (fun (_ : Unit) => [(m0, .inr (2, [.int th, .int (nI wn), .int (nI hn), .int (nI q0), .int wv, .ref a1, .ref a2, .ref a3, .ref a4, .ref a5, .ref a6, .ref a7, .ref a8, .int mn])), (a1, .inl (cI, 25, .inl (kI K0))), (a2, .inl (cI, 25, .inl NX)), (a3, .inl (cZ, 25, .inl (zB T0))), (a4, .inl (cI, 100, .inl (bI wn hn))), (a5, .inl (cI, 25, .inl KP)), (a6, .inl (cI, 25, .inl RG)), (a7, .inl (cI, 26, .inl SZ)), (a8, .inl (cI, 25, .inl LN))])) hx hb hr hlocks hP hS () (rfl) (rfl) dX2_cells_9
abbrev rmX2_isCell : Room := { frames := 1, cells := 0, slots := 0, locals := 22 }
set_option maxRecDepth 20000 in
theorem iX2_isCell_X2 : ∀ w ∈ wsX20, w ∈ wsX2_isCell := fun w h => (goodIn_r (big := wsX2_isCell) wsX20 [7, 8, 9, 10, 11, 12, 13, 14, 15, 16, 17, 18, 19, 20] (by decide +kernel) (by decide +kernel) w h).1
set_option maxHeartbeats 4000000 in
set_option maxRecDepth 100000 in
theorem m_X2_isCell (l : Launch) (dC : Nat → ClassId) (dI : Nat → Nat → Nat) (cI cZ cJ cD : ClassId) (m0 : Nat) (a1 : Nat) (a2 : Nat) (a3 : Nat) (a4 : Nat) (a5 : Nat) (a6 : Nat) (a7 : Nat) (a8 : Nat) (th : Int32) (wn : Nat) (hn : Nat) (q0 : Nat) (wv : Int32) (K0 : Nat → Nat) (NX : Nat → Int32) (T0 : Nat → Bool) (KP : Nat → Int32) (RG : Nat → Int32) (SZ : Nat → Int32) (LN : Nat → Int32) (mn : Int32) (x0 : Int32) (y0 : Int32) (g : gok wn hn) : zI l (dC, dI) (wT cI cZ cJ cD) yX2_isCell wsX2_isCell rmX2_isCell [(m0, .inr (2, [.int th, .int (nI wn), .int (nI hn), .int (nI q0), .int wv, .ref a1, .ref a2, .ref a3, .ref a4, .ref a5, .ref a6, .ref a7, .ref a8, .int mn])), (a1, .inl (cI, 25, .inl (kI K0))), (a2, .inl (cI, 25, .inl NX)), (a3, .inl (cZ, 25, .inl (zB T0))), (a4, .inl (cI, 100, .inl (bI wn hn))), (a5, .inl (cI, 25, .inl KP)), (a6, .inl (cI, 25, .inl RG)), (a7, .inl (cI, 26, .inl SZ)), (a8, .inl (cI, 25, .inl LN))] [.ref m0, .int x0, .int y0] (fun (_ : Unit) => [(m0, .inr (2, [.int th, .int (nI wn), .int (nI hn), .int (nI q0), .int wv, .ref a1, .ref a2, .ref a3, .ref a4, .ref a5, .ref a6, .ref a7, .ref a8, .int mn])), (a1, .inl (cI, 25, .inl (kI K0))), (a2, .inl (cI, 25, .inl NX)), (a3, .inl (cZ, 25, .inl (zB T0))), (a4, .inl (cI, 100, .inl (bI wn hn))), (a5, .inl (cI, 25, .inl KP)), (a6, .inl (cI, 25, .inl RG)), (a7, .inl (cI, 26, .inl SZ)), (a8, .inl (cI, 25, .inl LN))]) (fun (r : Int32) (_ : Unit) => r = if pOn x0 y0 (nI wn) (nI hn) then 1 else 0) := by
  intro sz
  refine Met.ofW (cc := cX2_isCell) (maxL := 3) (ret := (some .boolean)) (by decide) rfl ?_
  intro p e s m args below meth c s₁ B hml hv
  obtain ⟨ha, hsz, hP, hK, hD0, hN⟩ := hv
  have hx := B.exec
  have hb := B.bytes
  have hr := B.returns
  have hts := atoms_spec (ws := wsX2_isCell) B.pre
  have hown : s.vm.findClass RX2 = some m.cls := findClass_of_methodNamed B.named
  have hlocks := B.notSynchronized
  subst hsz
  have hD := hD0.self (sz := s.heap.size)
  generalize hAe : va_A [(m0, .inr (2, [.int th, .int (nI wn), .int (nI hn), .int (nI q0), .int wv, .ref a1, .ref a2, .ref a3, .ref a4, .ref a5, .ref a6, .ref a7, .ref a8, .int mn])), (a1, .inl (cI, 25, .inl (kI K0))), (a2, .inl (cI, 25, .inl NX)), (a3, .inl (cZ, 25, .inl (zB T0))), (a4, .inl (cI, 100, .inl (bI wn hn))), (a5, .inl (cI, 25, .inl KP)), (a6, .inl (cI, 25, .inl RG)), (a7, .inl (cI, 26, .inl SZ)), (a8, .inl (cI, 25, .inl LN))] s.heap.size = A at hD ⊢
  have hA : ∀ q : Nat, s.heap.size ≤ q → A q := fun q h => by rw [← hAe]; exact Or.inr h
  have hS : va_S A s.heap s.heap [] := va_S.rf
  generalize hQ : MQ below (va_Qi (fun (r : Int32) (_ : Unit) => r = if pOn x0 y0 (nI wn) (nI hn) then 1 else 0) (fun u t => va_P (dC, dI) vwCl ((fun (_ : Unit) => [(m0, .inr (2, [.int th, .int (nI wn), .int (nI hn), .int (nI q0), .int wv, .ref a1, .ref a2, .ref a3, .ref a4, .ref a5, .ref a6, .ref a7, .ref a8, .int mn])), (a1, .inl (cI, 25, .inl (kI K0))), (a2, .inl (cI, 25, .inl NX)), (a3, .inl (cZ, 25, .inl (zB T0))), (a4, .inl (cI, 100, .inl (bI wn hn))), (a5, .inl (cI, 25, .inl KP)), (a6, .inl (cI, 25, .inl RG)), (a7, .inl (cI, 26, .inl SZ)), (a8, .inl (cI, 25, .inl LN))]) u) t.heap) A) args s 0 0 A = Q
  have F9 : CallFix p m c cX2_isCell 3 s args wsX2_isCell RX2 := ⟨hx, hb, hml, hown, hts⟩
  obtain ⟨g1, g2, g3, g4⟩ := id g
  have g5 := wh_le g
  have g6 := wh_pos g
  refine z_entry (R := rmX2_isCell) ha (Nat.le_of_ble_eq_true rfl) (fun ls hl => ?_)
  have hl : lv_has ls 3 [(0, .ref m0), (1, .int x0), (2, .int y0)] := hl
  refine lv_iload_n hx hb dX2_isCell_0 rfl (lv_at hl 1 rfl) ?_
  refine lv_iconst (v := 0) hx hb dX2_isCell_1 (by decide) ?_
  refine lv_aload_n hx hb dX2_isCell_2 rfl (lv_at hl 0 rfl) ?_
  refine va_get (D := (dC, dI)) (ci := 2) (v := .int (nI wn)) (C := RX2) (T := TX2) (N := 14) hx hb hts iX2_isCell_X2 hown hK hP 0 rfl rfl 1 (by decide) (hts (.fieldLink RX2 46 "ColourTideModel" "w" "I") (List.mem_of_getElem? (i := 1) rfl)) (fun _ h9 => h9) rfl dX2_isCell_3 ?_
  refine lv_iconst (v := 1) hx hb dX2_isCell_6 (by decide) ?_
  refine lv_isub hx hb dX2_isCell_7 ?_
  refine z_topi (y := nI wn - 1) (rfl) ?_
  refine z_callSi (As := [.int x0, .int 0, .int (nI wn - 1)]) (rest := []) F9 (m_X2_isIn l dC dI cI cZ cJ cD x0 0 (nI wn - 1) ) (va_cwS 3 hts gX2_isCell_X2_isIn rfl rfl rfl (by decide +kernel) ⟨Nat.le_of_ble_eq_true rfl, Nat.le_of_ble_eq_true rfl⟩) hK hN hP hD hS hA rfl hl.1 rfl (Nat.le_of_ble_eq_true rfl) dX2_isCell_8 ⟨Nat.zero_le _, Nat.zero_le _⟩ (fun r_1 H locs hp_8 hP hS => ?_)
  have hp_8 : r_1 = if pIn x0 0 (nI wn - 1) then 1 else 0 := hp_8
  refine z_topi (y := if pIn x0 0 (nI wn - 1) then 1 else 0) hp_8 ?_
  refine lv_if_eq (tgt := 32) hx hb dX2_isCell_11 (by decide) (fun c_11 => ?_) (fun c_11 => ?_)
  · skip
    refine lv_iconst (v := 0) hx hb dX2_isCell_32 (by decide) ?_
    rw [← hQ]
    exact z_zret (W1 := (fun (_ : Unit) => [(m0, .inr (2, [.int th, .int (nI wn), .int (nI hn), .int (nI q0), .int wv, .ref a1, .ref a2, .ref a3, .ref a4, .ref a5, .ref a6, .ref a7, .ref a8, .int mn])), (a1, .inl (cI, 25, .inl (kI K0))), (a2, .inl (cI, 25, .inl NX)), (a3, .inl (cZ, 25, .inl (zB T0))), (a4, .inl (cI, 100, .inl (bI wn hn))), (a5, .inl (cI, 25, .inl KP)), (a6, .inl (cI, 25, .inl RG)), (a7, .inl (cI, 26, .inl SZ)), (a8, .inl (cI, 25, .inl LN))])) hx hb hr hlocks (by decide +kernel) hP hS () (rfl) (by rw [if_neg (fun q => z_if0 c_11 ((in_on (by omega) (by omega)).mpr ⟨q.1, q.2.1⟩))]) dX2_isCell_33
  · skip
    refine lv_iload_n hx hb dX2_isCell_14 rfl (lv_at hl 2 rfl) ?_
    refine lv_iconst (v := 0) hx hb dX2_isCell_15 (by decide) ?_
    refine lv_aload_n hx hb dX2_isCell_16 rfl (lv_at hl 0 rfl) ?_
    refine va_get (D := (dC, dI)) (ci := 2) (v := .int (nI hn)) (C := RX2) (T := TX2) (N := 14) hx hb hts iX2_isCell_X2 hown hK hP 0 rfl rfl 2 (by decide) (hts (.fieldLink RX2 49 "ColourTideModel" "h" "I") (List.mem_of_getElem? (i := 2) rfl)) (fun _ h9 => h9) rfl dX2_isCell_17 ?_
    refine lv_iconst (v := 1) hx hb dX2_isCell_20 (by decide) ?_
    refine lv_isub hx hb dX2_isCell_21 ?_
    refine z_topi (y := nI hn - 1) (rfl) ?_
    refine z_callSi (As := [.int y0, .int 0, .int (nI hn - 1)]) (rest := []) F9 (m_X2_isIn l dC dI cI cZ cJ cD y0 0 (nI hn - 1) ) (va_cwS 3 hts gX2_isCell_X2_isIn rfl rfl rfl (by decide +kernel) ⟨Nat.le_of_ble_eq_true rfl, Nat.le_of_ble_eq_true rfl⟩) hK hN hP hD hS hA rfl hl.1 rfl (Nat.le_of_ble_eq_true rfl) dX2_isCell_22 ⟨Nat.zero_le _, Nat.zero_le _⟩ (fun r_2 H locs hp_22 hP hS => ?_)
    have hp_22 : r_2 = if pIn y0 0 (nI hn - 1) then 1 else 0 := hp_22
    refine z_topi (y := if pIn y0 0 (nI hn - 1) then 1 else 0) hp_22 ?_
    refine lv_if_eq (tgt := 32) hx hb dX2_isCell_25 (by decide) (fun c_25 => ?_) (fun c_25 => ?_)
    · skip
      refine lv_iconst (v := 0) hx hb dX2_isCell_32 (by decide) ?_
      rw [← hQ]
      exact z_zret (W1 := (fun (_ : Unit) => [(m0, .inr (2, [.int th, .int (nI wn), .int (nI hn), .int (nI q0), .int wv, .ref a1, .ref a2, .ref a3, .ref a4, .ref a5, .ref a6, .ref a7, .ref a8, .int mn])), (a1, .inl (cI, 25, .inl (kI K0))), (a2, .inl (cI, 25, .inl NX)), (a3, .inl (cZ, 25, .inl (zB T0))), (a4, .inl (cI, 100, .inl (bI wn hn))), (a5, .inl (cI, 25, .inl KP)), (a6, .inl (cI, 25, .inl RG)), (a7, .inl (cI, 26, .inl SZ)), (a8, .inl (cI, 25, .inl LN))])) hx hb hr hlocks (by decide +kernel) hP hS () (rfl) (by rw [if_neg (fun q => z_if0 c_25 ((in_on (by omega) (by omega)).mpr ⟨q.2.2.1, q.2.2.2⟩))]) dX2_isCell_33
    · skip
      refine lv_iconst (v := 1) hx hb dX2_isCell_28 (by decide) ?_
      refine lv_goto (tgt := 33) hx hb dX2_isCell_29 (by decide) ?_
      rw [← hQ]
      exact z_zret (W1 := (fun (_ : Unit) => [(m0, .inr (2, [.int th, .int (nI wn), .int (nI hn), .int (nI q0), .int wv, .ref a1, .ref a2, .ref a3, .ref a4, .ref a5, .ref a6, .ref a7, .ref a8, .int mn])), (a1, .inl (cI, 25, .inl (kI K0))), (a2, .inl (cI, 25, .inl NX)), (a3, .inl (cZ, 25, .inl (zB T0))), (a4, .inl (cI, 100, .inl (bI wn hn))), (a5, .inl (cI, 25, .inl KP)), (a6, .inl (cI, 25, .inl RG)), (a7, .inl (cI, 26, .inl SZ)), (a8, .inl (cI, 25, .inl LN))])) hx hb hr hlocks (by decide +kernel) hP hS () (rfl) (by rw [if_pos (on_mk ((in_on (by omega) (by omega)).mp (z_if1 c_11)) ((in_on (by omega) (by omega)).mp (z_if1 c_25)))]) dX2_isCell_33
abbrev rmX2_isColour : Room := { frames := 1, cells := 0, slots := 0, locals := 22 }
set_option maxHeartbeats 4000000 in
set_option maxRecDepth 100000 in
theorem m_X2_isColour (l : Launch) (dC : Nat → ClassId) (dI : Nat → Nat → Nat) (cI cZ cJ cD : ClassId) (x0 : Int32)  : zI l (dC, dI) (wT cI cZ cJ cD) yX2_isColour wsX2_isColour rmX2_isColour [] [.int x0] (fun (_ : Unit) => []) (fun (r : Int32) (_ : Unit) => r = if pCol x0 then 1 else 0) := by
  intro sz
  refine Met.ofW (cc := cX2_isColour) (maxL := 1) (ret := (some .boolean)) (by decide) rfl ?_
  intro p e s m args below meth c s₁ B hml hv
  obtain ⟨ha, hsz, hP, hK, hD0, hN⟩ := hv
  have hx := B.exec
  have hb := B.bytes
  have hr := B.returns
  have hts := atoms_spec (ws := wsX2_isColour) B.pre
  have hown : s.vm.findClass RX2 = some m.cls := findClass_of_methodNamed B.named
  have hlocks := B.notSynchronized
  subst hsz
  have hD := hD0.self (sz := s.heap.size)
  generalize hAe : va_A [] s.heap.size = A at hD ⊢
  have hA : ∀ q : Nat, s.heap.size ≤ q → A q := fun q h => by rw [← hAe]; exact Or.inr h
  have hS : va_S A s.heap s.heap [] := va_S.rf
  generalize hQ : MQ below (va_Qi (fun (r : Int32) (_ : Unit) => r = if pCol x0 then 1 else 0) (fun u t => va_P (dC, dI) vwCl ((fun (_ : Unit) => []) u) t.heap) A) args s 0 0 A = Q
  have F9 : CallFix p m c cX2_isColour 1 s args wsX2_isColour RX2 := ⟨hx, hb, hml, hown, hts⟩
  refine z_entry (R := rmX2_isColour) ha (Nat.le_of_ble_eq_true rfl) (fun ls hl => ?_)
  have hl : lv_has ls 1 [(0, .int x0)] := hl
  refine lv_iload_n hx hb dX2_isColour_0 rfl (lv_at hl 0 rfl) ?_
  refine lv_iconst (v := 1) hx hb dX2_isColour_1 (by decide) ?_
  refine lv_iconst (v := 4) hx hb dX2_isColour_2 (by decide) ?_
  refine z_callSi (As := [.int x0, .int 1, .int 4]) (rest := []) F9 (m_X2_isIn l dC dI cI cZ cJ cD x0 1 4 ) (va_cwS 3 hts gX2_isColour_X2_isIn rfl rfl rfl (by decide +kernel) ⟨Nat.le_of_ble_eq_true rfl, Nat.le_of_ble_eq_true rfl⟩) hK hN hP hD hS hA rfl hl.1 rfl (Nat.le_of_ble_eq_true rfl) dX2_isColour_3 ⟨Nat.zero_le _, Nat.zero_le _⟩ (fun r_1 H locs hp_3 hP hS => ?_)
  have hp_3 : r_1 = if pIn x0 1 4 then 1 else 0 := hp_3
  refine z_topi (y := if pIn x0 1 4 then 1 else 0) hp_3 ?_
  rw [← hQ]
  exact z_zret (W1 := (fun (_ : Unit) => [])) hx hb hr hlocks (z_narif) hP hS () (rfl) (rfl) dX2_isColour_6
abbrev rmX2_isAny : Room := { frames := 1, cells := 0, slots := 0, locals := 22 }
set_option maxHeartbeats 4000000 in
set_option maxRecDepth 100000 in
theorem m_X2_isAny (l : Launch) (dC : Nat → ClassId) (dI : Nat → Nat → Nat) (cI cZ cJ cD : ClassId) (x0 : Int32)  : zI l (dC, dI) (wT cI cZ cJ cD) yX2_isAny wsX2_isAny rmX2_isAny [] [.int x0] (fun (_ : Unit) => []) (fun (r : Int32) (_ : Unit) => r = if pAny x0 then 1 else 0) := by
  intro sz
  refine Met.ofW (cc := cX2_isAny) (maxL := 1) (ret := (some .boolean)) (by decide) rfl ?_
  intro p e s m args below meth c s₁ B hml hv
  obtain ⟨ha, hsz, hP, hK, hD0, hN⟩ := hv
  have hx := B.exec
  have hb := B.bytes
  have hr := B.returns
  have hts := atoms_spec (ws := wsX2_isAny) B.pre
  have hown : s.vm.findClass RX2 = some m.cls := findClass_of_methodNamed B.named
  have hlocks := B.notSynchronized
  subst hsz
  have hD := hD0.self (sz := s.heap.size)
  generalize hAe : va_A [] s.heap.size = A at hD ⊢
  have hA : ∀ q : Nat, s.heap.size ≤ q → A q := fun q h => by rw [← hAe]; exact Or.inr h
  have hS : va_S A s.heap s.heap [] := va_S.rf
  generalize hQ : MQ below (va_Qi (fun (r : Int32) (_ : Unit) => r = if pAny x0 then 1 else 0) (fun u t => va_P (dC, dI) vwCl ((fun (_ : Unit) => []) u) t.heap) A) args s 0 0 A = Q
  have F9 : CallFix p m c cX2_isAny 1 s args wsX2_isAny RX2 := ⟨hx, hb, hml, hown, hts⟩
  refine z_entry (R := rmX2_isAny) ha (Nat.le_of_ble_eq_true rfl) (fun ls hl => ?_)
  have hl : lv_has ls 1 [(0, .int x0)] := hl
  refine lv_iload_n hx hb dX2_isAny_0 rfl (lv_at hl 0 rfl) ?_
  refine lv_iconst (v := 0) hx hb dX2_isAny_1 (by decide) ?_
  refine lv_iconst (v := 4) hx hb dX2_isAny_2 (by decide) ?_
  refine z_callSi (As := [.int x0, .int 0, .int 4]) (rest := []) F9 (m_X2_isIn l dC dI cI cZ cJ cD x0 0 4 ) (va_cwS 3 hts gX2_isAny_X2_isIn rfl rfl rfl (by decide +kernel) ⟨Nat.le_of_ble_eq_true rfl, Nat.le_of_ble_eq_true rfl⟩) hK hN hP hD hS hA rfl hl.1 rfl (Nat.le_of_ble_eq_true rfl) dX2_isAny_3 ⟨Nat.zero_le _, Nat.zero_le _⟩ (fun r_1 H locs hp_3 hP hS => ?_)
  have hp_3 : r_1 = if pIn x0 0 4 then 1 else 0 := hp_3
  refine z_topi (y := if pIn x0 0 4 then 1 else 0) hp_3 ?_
  rw [← hQ]
  exact z_zret (W1 := (fun (_ : Unit) => [])) hx hb hr hlocks (z_narif) hP hS () (rfl) (z_ifc (in_any x0)) dX2_isAny_6
abbrev rmX2_take : Room := { frames := 0, cells := 0, slots := 0, locals := 0 }
set_option maxRecDepth 20000 in
theorem iX2_take_X2 : ∀ w ∈ wsX20, w ∈ wsX2_take := fun w h => (goodIn_r (big := wsX2_take) wsX20 [7, 8, 9, 10, 11, 12, 13, 14, 15, 16, 17, 18, 19, 20] (by decide +kernel) (by decide +kernel) w h).1
set_option maxHeartbeats 4000000 in
set_option maxRecDepth 100000 in
theorem m_X2_take (l : Launch) (dC : Nat → ClassId) (dI : Nat → Nat → Nat) (cI cZ cJ cD : ClassId) (m0 : Nat) (a1 : Nat) (a2 : Nat) (a3 : Nat) (a4 : Nat) (a5 : Nat) (a6 : Nat) (a7 : Nat) (a8 : Nat) (th : Int32) (wo : Int32) (ho : Int32) (nd : Int32) (wvo : Int32) (C0 : Nat → Int32) (NX : Nat → Int32) (TT : Nat → Int32) (BB : Nat → Int32) (KP : Nat → Int32) (RG : Nat → Int32) (SZ : Nat → Int32) (LN : Nat → Int32) (mn : Int32) (wn : Nat) (hn : Nat) (g : gok wn hn) : zV l (dC, dI) (wT cI cZ cJ cD) yX2_take wsX2_take rmX2_take [(m0, .inr (2, [.int th, .int wo, .int ho, .int nd, .int wvo, .ref a1, .ref a2, .ref a3, .ref a4, .ref a5, .ref a6, .ref a7, .ref a8, .int mn])), (a1, .inl (cI, 25, .inl C0)), (a2, .inl (cI, 25, .inl NX)), (a3, .inl (cZ, 25, .inl TT)), (a4, .inl (cI, 100, .inl BB)), (a5, .inl (cI, 25, .inl KP)), (a6, .inl (cI, 25, .inl RG)), (a7, .inl (cI, 26, .inl SZ)), (a8, .inl (cI, 25, .inl LN))] [.ref m0, .int (nI wn), .int (nI hn)] (fun (_ : Unit) => [(m0, .inr (2, [.int th, .int (nI wn), .int (nI hn), .int nd, .int 0, .ref a1, .ref a2, .ref a3, .ref a4, .ref a5, .ref a6, .ref a7, .ref a8, .int mn])), (a1, .inl (cI, 25, .inl (kI (fun _ => 0)))), (a2, .inl (cI, 25, .inl NX)), (a3, .inl (cZ, 25, .inl (zB (fun _ => false)))), (a4, .inl (cI, 100, .inl (bI wn hn))), (a5, .inl (cI, 25, .inl KP)), (a6, .inl (cI, 25, .inl RG)), (a7, .inl (cI, 26, .inl SZ)), (a8, .inl (cI, 25, .inl LN))]) (fun (_ : Unit) => True) := by
  intro sz
  refine Met.ofW (cc := cX2_take) (maxL := 6) (ret := none) (by decide) rfl ?_
  intro p e s m args below meth c s₁ B hml hv
  obtain ⟨ha, hsz, hP, hK, hD0, hN⟩ := hv
  have hx := B.exec
  have hb := B.bytes
  have hr := B.returns
  have hts := atoms_spec (ws := wsX2_take) B.pre
  have hown : s.vm.findClass RX2 = some m.cls := findClass_of_methodNamed B.named
  have hlocks := B.notSynchronized
  subst hsz
  have hD := hD0.self (sz := s.heap.size)
  generalize hAe : va_A [(m0, .inr (2, [.int th, .int wo, .int ho, .int nd, .int wvo, .ref a1, .ref a2, .ref a3, .ref a4, .ref a5, .ref a6, .ref a7, .ref a8, .int mn])), (a1, .inl (cI, 25, .inl C0)), (a2, .inl (cI, 25, .inl NX)), (a3, .inl (cZ, 25, .inl TT)), (a4, .inl (cI, 100, .inl BB)), (a5, .inl (cI, 25, .inl KP)), (a6, .inl (cI, 25, .inl RG)), (a7, .inl (cI, 26, .inl SZ)), (a8, .inl (cI, 25, .inl LN))] s.heap.size = A at hD ⊢
  have hA : ∀ q : Nat, s.heap.size ≤ q → A q := fun q h => by rw [← hAe]; exact Or.inr h
  have hS : va_S A s.heap s.heap [] := va_S.rf
  generalize hQ : MQ below (va_Qv (fun (_ : Unit) => True) (fun u t => va_P (dC, dI) vwCl ((fun (_ : Unit) => [(m0, .inr (2, [.int th, .int (nI wn), .int (nI hn), .int nd, .int 0, .ref a1, .ref a2, .ref a3, .ref a4, .ref a5, .ref a6, .ref a7, .ref a8, .int mn])), (a1, .inl (cI, 25, .inl (kI (fun _ => 0)))), (a2, .inl (cI, 25, .inl NX)), (a3, .inl (cZ, 25, .inl (zB (fun _ => false)))), (a4, .inl (cI, 100, .inl (bI wn hn))), (a5, .inl (cI, 25, .inl KP)), (a6, .inl (cI, 25, .inl RG)), (a7, .inl (cI, 26, .inl SZ)), (a8, .inl (cI, 25, .inl LN))]) u) t.heap) A) args s 0 0 A = Q
  have F9 : CallFix p m c cX2_take 6 s args wsX2_take RX2 := ⟨hx, hb, hml, hown, hts⟩
  obtain ⟨g1, g2, g3, g4⟩ := id g
  have g5 := wh_le g
  have g6 := wh_pos g
  refine z_entry (R := rmX2_take) ha (Nat.le_of_ble_eq_true rfl) (fun ls hl => ?_)
  have hl : lv_has ls 6 [(0, .ref m0), (1, .int (nI wn)), (2, .int (nI hn))] := hl
  refine lv_aload_n hx hb dX2_take_0 rfl (lv_at hl 0 rfl) ?_
  refine lv_iload_n hx hb dX2_take_1 rfl (lv_at hl 1 rfl) ?_
  refine va_put (D := (dC, dI)) (ci := 2) (v := .int (nI wn)) (ty := .int) (C := RX2) (T := TX2) (N := 14) hx hb hts iX2_take_X2 tyX2 tyX2_ok nmX2 hown hK hP hD hS 0 rfl rfl 1 (by decide) (hts (.fieldLink RX2 46 "ColourTideModel" "w" "I") (List.mem_of_getElem? (i := 1) rfl)) (fun _ h9 => h9) rfl (by decide +kernel) rfl rfl (Nat.le_of_ble_eq_true rfl) dX2_take_2 (fun H locs hP hD hS => ?_)
  have hP : va_P (dC, dI) vwCl [(m0, .inr (2, [.int th, .int (nI wn), .int ho, .int nd, .int wvo, .ref a1, .ref a2, .ref a3, .ref a4, .ref a5, .ref a6, .ref a7, .ref a8, .int mn])), (a1, .inl (cI, 25, .inl C0)), (a2, .inl (cI, 25, .inl NX)), (a3, .inl (cZ, 25, .inl TT)), (a4, .inl (cI, 100, .inl BB)), (a5, .inl (cI, 25, .inl KP)), (a6, .inl (cI, 25, .inl RG)), (a7, .inl (cI, 26, .inl SZ)), (a8, .inl (cI, 25, .inl LN))] H := hP
  have hD : va_D A [(m0, .inr (2, [.int th, .int (nI wn), .int ho, .int nd, .int wvo, .ref a1, .ref a2, .ref a3, .ref a4, .ref a5, .ref a6, .ref a7, .ref a8, .int mn])), (a1, .inl (cI, 25, .inl C0)), (a2, .inl (cI, 25, .inl NX)), (a3, .inl (cZ, 25, .inl TT)), (a4, .inl (cI, 100, .inl BB)), (a5, .inl (cI, 25, .inl KP)), (a6, .inl (cI, 25, .inl RG)), (a7, .inl (cI, 26, .inl SZ)), (a8, .inl (cI, 25, .inl LN))] := hD
  refine lv_aload_n hx hb dX2_take_5 rfl (lv_at hl 0 rfl) ?_
  refine lv_iload_n hx hb dX2_take_6 rfl (lv_at hl 2 rfl) ?_
  refine va_put (D := (dC, dI)) (ci := 2) (v := .int (nI hn)) (ty := .int) (C := RX2) (T := TX2) (N := 14) hx hb hts iX2_take_X2 tyX2 tyX2_ok nmX2 hown hK hP hD hS 0 rfl rfl 2 (by decide) (hts (.fieldLink RX2 49 "ColourTideModel" "h" "I") (List.mem_of_getElem? (i := 2) rfl)) (fun _ h9 => h9) rfl (by decide +kernel) rfl rfl (Nat.le_of_ble_eq_true rfl) dX2_take_7 (fun H locs hP hD hS => ?_)
  have hP : va_P (dC, dI) vwCl [(m0, .inr (2, [.int th, .int (nI wn), .int (nI hn), .int nd, .int wvo, .ref a1, .ref a2, .ref a3, .ref a4, .ref a5, .ref a6, .ref a7, .ref a8, .int mn])), (a1, .inl (cI, 25, .inl C0)), (a2, .inl (cI, 25, .inl NX)), (a3, .inl (cZ, 25, .inl TT)), (a4, .inl (cI, 100, .inl BB)), (a5, .inl (cI, 25, .inl KP)), (a6, .inl (cI, 25, .inl RG)), (a7, .inl (cI, 26, .inl SZ)), (a8, .inl (cI, 25, .inl LN))] H := hP
  have hD : va_D A [(m0, .inr (2, [.int th, .int (nI wn), .int (nI hn), .int nd, .int wvo, .ref a1, .ref a2, .ref a3, .ref a4, .ref a5, .ref a6, .ref a7, .ref a8, .int mn])), (a1, .inl (cI, 25, .inl C0)), (a2, .inl (cI, 25, .inl NX)), (a3, .inl (cZ, 25, .inl TT)), (a4, .inl (cI, 100, .inl BB)), (a5, .inl (cI, 25, .inl KP)), (a6, .inl (cI, 25, .inl RG)), (a7, .inl (cI, 26, .inl SZ)), (a8, .inl (cI, 25, .inl LN))] := hD
  refine lv_aload_n hx hb dX2_take_10 rfl (lv_at hl 0 rfl) ?_
  refine lv_iconst (v := 0) hx hb dX2_take_11 (by decide) ?_
  refine va_put (D := (dC, dI)) (ci := 2) (v := .int 0) (ty := .int) (C := RX2) (T := TX2) (N := 14) hx hb hts iX2_take_X2 tyX2 tyX2_ok nmX2 hown hK hP hD hS 0 rfl rfl 4 (by decide) (hts (.fieldLink RX2 56 "ColourTideModel" "waves" "I") (List.mem_of_getElem? (i := 3) rfl)) (fun _ h9 => h9) rfl (by decide +kernel) rfl rfl (Nat.le_of_ble_eq_true rfl) dX2_take_12 (fun H locs hP hD hS => ?_)
  have hP : va_P (dC, dI) vwCl [(m0, .inr (2, [.int th, .int (nI wn), .int (nI hn), .int nd, .int 0, .ref a1, .ref a2, .ref a3, .ref a4, .ref a5, .ref a6, .ref a7, .ref a8, .int mn])), (a1, .inl (cI, 25, .inl C0)), (a2, .inl (cI, 25, .inl NX)), (a3, .inl (cZ, 25, .inl TT)), (a4, .inl (cI, 100, .inl BB)), (a5, .inl (cI, 25, .inl KP)), (a6, .inl (cI, 25, .inl RG)), (a7, .inl (cI, 26, .inl SZ)), (a8, .inl (cI, 25, .inl LN))] H := hP
  have hD : va_D A [(m0, .inr (2, [.int th, .int (nI wn), .int (nI hn), .int nd, .int 0, .ref a1, .ref a2, .ref a3, .ref a4, .ref a5, .ref a6, .ref a7, .ref a8, .int mn])), (a1, .inl (cI, 25, .inl C0)), (a2, .inl (cI, 25, .inl NX)), (a3, .inl (cZ, 25, .inl TT)), (a4, .inl (cI, 100, .inl BB)), (a5, .inl (cI, 25, .inl KP)), (a6, .inl (cI, 25, .inl RG)), (a7, .inl (cI, 26, .inl SZ)), (a8, .inl (cI, 25, .inl LN))] := hD
  refine lv_iconst (v := 0) hx hb dX2_take_15 (by decide) ?_
  refine lv_istore_n (lv' := [(3, .int 0), (0, .ref m0), (1, .int (nI wn)), (2, .int (nI hn))]) hx hb dX2_take_16 rfl hl (by decide) rfl (fun ls hl => ?_)
  have loop_17 : ∀ (n : Nat) (cq : Nat) (hkn : cq + n = 25) (H : Heap) (locs : List Loc) (ls : Array Slot) (hP : va_P (dC, dI) vwCl [(m0, .inr (2, [.int th, .int (nI wn), .int (nI hn), .int nd, .int 0, .ref a1, .ref a2, .ref a3, .ref a4, .ref a5, .ref a6, .ref a7, .ref a8, .int mn])), (a1, .inl (cI, 25, .inl (zfill (kI (fun _ => 0)) C0 cq))), (a2, .inl (cI, 25, .inl NX)), (a3, .inl (cZ, 25, .inl (zfill (zB (fun _ => false)) TT cq))), (a4, .inl (cI, 100, .inl (zfill (bI wn hn) BB (4 * cq)))), (a5, .inl (cI, 25, .inl KP)), (a6, .inl (cI, 25, .inl RG)), (a7, .inl (cI, 26, .inl SZ)), (a8, .inl (cI, 25, .inl LN))] H) (hD : va_D A [(m0, .inr (2, [.int th, .int (nI wn), .int (nI hn), .int nd, .int 0, .ref a1, .ref a2, .ref a3, .ref a4, .ref a5, .ref a6, .ref a7, .ref a8, .int mn])), (a1, .inl (cI, 25, .inl (zfill (kI (fun _ => 0)) C0 cq))), (a2, .inl (cI, 25, .inl NX)), (a3, .inl (cZ, 25, .inl (zfill (zB (fun _ => false)) TT cq))), (a4, .inl (cI, 100, .inl (zfill (bI wn hn) BB (4 * cq)))), (a5, .inl (cI, 25, .inl KP)), (a6, .inl (cI, 25, .inl RG)), (a7, .inl (cI, 26, .inl SZ)), (a8, .inl (cI, 25, .inl LN))]) (hS : va_S A s.heap H locs) (hl : lv_has ls 6 [(0, .ref m0), (1, .int (nI wn)), (2, .int (nI hn)), (3, .int (nI cq))]), W p l e rmX2_take s m args below meth c H locs 0 0 Q (F0 m 17 ls []) := by
    intro n
    induction n with
    | zero =>
      intro cq hkn  H locs ls hP hD hS hl
      refine lv_iload_n hx hb dX2_take_17 rfl (lv_at hl 3 rfl) ?_
      refine lv_bipush (v := 25) hx hb dX2_take_18 (by decide +kernel) ?_
      refine lv_icmp_ge (tgt := 163) hx hb dX2_take_20 (by decide) (fun c_20 => ?_) (fun c_20 => ?_)
      · skip
        have n_20 := zc_le_t (a := 25) (b := cq) (by omega) (by omega) c_20
        have ec : cq = 25 := by omega
        have hP := z_ren hP 1 rfl (kI (fun _ => 0)) (fun j hj => zfill_in (by omega))
        have hP : va_P (dC, dI) vwCl [(m0, .inr (2, [.int th, .int (nI wn), .int (nI hn), .int nd, .int 0, .ref a1, .ref a2, .ref a3, .ref a4, .ref a5, .ref a6, .ref a7, .ref a8, .int mn])), (a1, .inl (cI, 25, .inl (kI (fun _ => 0)))), (a2, .inl (cI, 25, .inl NX)), (a3, .inl (cZ, 25, .inl (zfill (zB (fun _ => false)) TT cq))), (a4, .inl (cI, 100, .inl (zfill (bI wn hn) BB (4 * cq)))), (a5, .inl (cI, 25, .inl KP)), (a6, .inl (cI, 25, .inl RG)), (a7, .inl (cI, 26, .inl SZ)), (a8, .inl (cI, 25, .inl LN))] H := hP
        have hP := z_ren hP 3 rfl (zB (fun _ => false)) (fun j hj => zfill_in (by omega))
        have hP : va_P (dC, dI) vwCl [(m0, .inr (2, [.int th, .int (nI wn), .int (nI hn), .int nd, .int 0, .ref a1, .ref a2, .ref a3, .ref a4, .ref a5, .ref a6, .ref a7, .ref a8, .int mn])), (a1, .inl (cI, 25, .inl (kI (fun _ => 0)))), (a2, .inl (cI, 25, .inl NX)), (a3, .inl (cZ, 25, .inl (zB (fun _ => false)))), (a4, .inl (cI, 100, .inl (zfill (bI wn hn) BB (4 * cq)))), (a5, .inl (cI, 25, .inl KP)), (a6, .inl (cI, 25, .inl RG)), (a7, .inl (cI, 26, .inl SZ)), (a8, .inl (cI, 25, .inl LN))] H := hP
        have hP := z_ren hP 4 rfl (bI wn hn) (fun j hj => zfill_in (by omega))
        have hP : va_P (dC, dI) vwCl [(m0, .inr (2, [.int th, .int (nI wn), .int (nI hn), .int nd, .int 0, .ref a1, .ref a2, .ref a3, .ref a4, .ref a5, .ref a6, .ref a7, .ref a8, .int mn])), (a1, .inl (cI, 25, .inl (kI (fun _ => 0)))), (a2, .inl (cI, 25, .inl NX)), (a3, .inl (cZ, 25, .inl (zB (fun _ => false)))), (a4, .inl (cI, 100, .inl (bI wn hn))), (a5, .inl (cI, 25, .inl KP)), (a6, .inl (cI, 25, .inl RG)), (a7, .inl (cI, 26, .inl SZ)), (a8, .inl (cI, 25, .inl LN))] H := hP
        rw [← hQ]
        exact z_vret (W1 := (fun (_ : Unit) => [(m0, .inr (2, [.int th, .int (nI wn), .int (nI hn), .int nd, .int 0, .ref a1, .ref a2, .ref a3, .ref a4, .ref a5, .ref a6, .ref a7, .ref a8, .int mn])), (a1, .inl (cI, 25, .inl (kI (fun _ => 0)))), (a2, .inl (cI, 25, .inl NX)), (a3, .inl (cZ, 25, .inl (zB (fun _ => false)))), (a4, .inl (cI, 100, .inl (bI wn hn))), (a5, .inl (cI, 25, .inl KP)), (a6, .inl (cI, 25, .inl RG)), (a7, .inl (cI, 26, .inl SZ)), (a8, .inl (cI, 25, .inl LN))])) hx hb hr hlocks hP hS () (rfl) (trivial) dX2_take_163
      · skip
        have n_20 := zc_le_f (a := 25) (b := cq) (by omega) (by omega) c_20
        exact absurd n_20 (by omega)
    | succ n ih_17 =>
      intro cq hkn  H locs ls hP hD hS hl
      refine lv_iload_n hx hb dX2_take_17 rfl (lv_at hl 3 rfl) ?_
      refine lv_bipush (v := 25) hx hb dX2_take_18 (by decide +kernel) ?_
      refine lv_icmp_ge (tgt := 163) hx hb dX2_take_20 (by decide) (fun c_20 => ?_) (fun c_20 => ?_)
      · skip
        have n_20 := zc_le_t (a := 25) (b := cq) (by omega) (by omega) c_20
        exact absurd n_20 (by omega)
      · skip
        have n_20 := zc_le_f (a := 25) (b := cq) (by omega) (by omega) c_20
        refine lv_aload_n hx hb dX2_take_23 rfl (lv_at hl 0 rfl) ?_
        refine va_get (D := (dC, dI)) (ci := 2) (v := .ref a1) (C := RX2) (T := TX2) (N := 14) hx hb hts iX2_take_X2 hown hK hP 0 rfl rfl 5 (by decide) (hts (.fieldLink RX2 13 "ColourTideModel" "colours" "[I") (List.mem_of_getElem? (i := 4) rfl)) (fun _ h9 => h9) rfl dX2_take_24 ?_
        refine lv_iload_n hx hb dX2_take_27 rfl (lv_at hl 3 rfl) ?_
        refine lv_iconst (v := 0) hx hb dX2_take_28 (by decide) ?_
        refine z_iast hx hb hK hP hD hS 1 0 rfl rfl cq (rfl) (by omega) (by decide) dX2_take_29 (fun H locs hP hD hS => ?_)
        have hP : va_P (dC, dI) vwCl [(m0, .inr (2, [.int th, .int (nI wn), .int (nI hn), .int nd, .int 0, .ref a1, .ref a2, .ref a3, .ref a4, .ref a5, .ref a6, .ref a7, .ref a8, .int mn])), (a1, .inl (cI, 25, .inl (upd (zfill (kI (fun _ => 0)) C0 cq) cq 0))), (a2, .inl (cI, 25, .inl NX)), (a3, .inl (cZ, 25, .inl (zfill (zB (fun _ => false)) TT cq))), (a4, .inl (cI, 100, .inl (zfill (bI wn hn) BB (4 * cq)))), (a5, .inl (cI, 25, .inl KP)), (a6, .inl (cI, 25, .inl RG)), (a7, .inl (cI, 26, .inl SZ)), (a8, .inl (cI, 25, .inl LN))] H := hP
        have hD : va_D A [(m0, .inr (2, [.int th, .int (nI wn), .int (nI hn), .int nd, .int 0, .ref a1, .ref a2, .ref a3, .ref a4, .ref a5, .ref a6, .ref a7, .ref a8, .int mn])), (a1, .inl (cI, 25, .inl (upd (zfill (kI (fun _ => 0)) C0 cq) cq 0))), (a2, .inl (cI, 25, .inl NX)), (a3, .inl (cZ, 25, .inl (zfill (zB (fun _ => false)) TT cq))), (a4, .inl (cI, 100, .inl (zfill (bI wn hn) BB (4 * cq)))), (a5, .inl (cI, 25, .inl KP)), (a6, .inl (cI, 25, .inl RG)), (a7, .inl (cI, 26, .inl SZ)), (a8, .inl (cI, 25, .inl LN))] := hD
        have e_29 : upd (zfill (kI (fun _ => 0)) C0 cq) cq 0 = zfill (kI (fun _ => 0)) C0 (cq + 1) := zfill_succ (kI (fun _ => 0)) C0 cq
        rw [e_29] at hP hD
        refine lv_aload_n hx hb dX2_take_30 rfl (lv_at hl 0 rfl) ?_
        refine va_get (D := (dC, dI)) (ci := 2) (v := .ref a3) (C := RX2) (T := TX2) (N := 14) hx hb hts iX2_take_X2 hown hK hP 0 rfl rfl 7 (by decide) (hts (.fieldLink RX2 20 "ColourTideModel" "stubborn" "[Z") (List.mem_of_getElem? (i := 5) rfl)) (fun _ h9 => h9) rfl dX2_take_31 ?_
        refine lv_iload_n hx hb dX2_take_34 rfl (lv_at hl 3 rfl) ?_
        refine lv_iconst (v := 0) hx hb dX2_take_35 (by decide) ?_
        refine z_zast hx hb hK hP hD hS 3 1 rfl rfl cq (rfl) (by omega) (by decide) (bz_nar false) dX2_take_36 (fun H locs hP hD hS => ?_)
        have hP : va_P (dC, dI) vwCl [(m0, .inr (2, [.int th, .int (nI wn), .int (nI hn), .int nd, .int 0, .ref a1, .ref a2, .ref a3, .ref a4, .ref a5, .ref a6, .ref a7, .ref a8, .int mn])), (a1, .inl (cI, 25, .inl (zfill (kI (fun _ => 0)) C0 (cq + 1)))), (a2, .inl (cI, 25, .inl NX)), (a3, .inl (cZ, 25, .inl (upd (zfill (zB (fun _ => false)) TT cq) cq 0))), (a4, .inl (cI, 100, .inl (zfill (bI wn hn) BB (4 * cq)))), (a5, .inl (cI, 25, .inl KP)), (a6, .inl (cI, 25, .inl RG)), (a7, .inl (cI, 26, .inl SZ)), (a8, .inl (cI, 25, .inl LN))] H := hP
        have hD : va_D A [(m0, .inr (2, [.int th, .int (nI wn), .int (nI hn), .int nd, .int 0, .ref a1, .ref a2, .ref a3, .ref a4, .ref a5, .ref a6, .ref a7, .ref a8, .int mn])), (a1, .inl (cI, 25, .inl (zfill (kI (fun _ => 0)) C0 (cq + 1)))), (a2, .inl (cI, 25, .inl NX)), (a3, .inl (cZ, 25, .inl (upd (zfill (zB (fun _ => false)) TT cq) cq 0))), (a4, .inl (cI, 100, .inl (zfill (bI wn hn) BB (4 * cq)))), (a5, .inl (cI, 25, .inl KP)), (a6, .inl (cI, 25, .inl RG)), (a7, .inl (cI, 26, .inl SZ)), (a8, .inl (cI, 25, .inl LN))] := hD
        have e_36 : upd (zfill (zB (fun _ => false)) TT cq) cq 0 = zfill (zB (fun _ => false)) TT (cq + 1) := zfill_succ (zB (fun _ => false)) TT cq
        rw [e_36] at hP hD
        refine lv_iload_n hx hb dX2_take_37 rfl (lv_at hl 3 rfl) ?_
        refine lv_aload_n hx hb dX2_take_38 rfl (lv_at hl 0 rfl) ?_
        refine va_get (D := (dC, dI)) (ci := 2) (v := .int (nI wn)) (C := RX2) (T := TX2) (N := 14) hx hb hts iX2_take_X2 hown hK hP 0 rfl rfl 1 (by decide) (hts (.fieldLink RX2 46 "ColourTideModel" "w" "I") (List.mem_of_getElem? (i := 1) rfl)) (fun _ h9 => h9) rfl dX2_take_39 ?_
        refine lv_irem hx hb dX2_take_42 (z_ne0 (by omega) (by omega)) ?_
        refine z_topi (y := nI (cq % wn)) (irem_nI (by omega) (by omega) (by omega)) ?_
        refine lv_istore (lv' := [(4, .int (nI (cq % wn))), (0, .ref m0), (1, .int (nI wn)), (2, .int (nI hn)), (3, .int (nI cq))]) hx hb dX2_take_43 hl (by decide) rfl (fun ls hl => ?_)
        refine lv_iload_n hx hb dX2_take_45 rfl (lv_at hl 4 rfl) ?_
        refine lv_aload_n hx hb dX2_take_46 rfl (lv_at hl 1 rfl) ?_
        refine va_get (D := (dC, dI)) (ci := 2) (v := .int (nI wn)) (C := RX2) (T := TX2) (N := 14) hx hb hts iX2_take_X2 hown hK hP 0 rfl rfl 1 (by decide) (hts (.fieldLink RX2 46 "ColourTideModel" "w" "I") (List.mem_of_getElem? (i := 1) rfl)) (fun _ h9 => h9) rfl dX2_take_47 ?_
        refine lv_idiv hx hb dX2_take_50 (z_ne0 (by omega) (by omega)) ?_
        refine z_topi (y := nI (cq / wn)) (idiv_nI (by omega) (by omega) (by omega)) ?_
        refine lv_istore (lv' := [(5, .int (nI (cq / wn))), (4, .int (nI (cq % wn))), (0, .ref m0), (1, .int (nI wn)), (2, .int (nI hn)), (3, .int (nI cq))]) hx hb dX2_take_51 hl (by decide) rfl (fun ls hl => ?_)
        refine lv_aload_n hx hb dX2_take_53 rfl (lv_at hl 2 rfl) ?_
        refine va_get (D := (dC, dI)) (ci := 2) (v := .ref a4) (C := RX2) (T := TX2) (N := 14) hx hb hts iX2_take_X2 hown hK hP 0 rfl rfl 8 (by decide) (hts (.fieldLink RX2 24 "ColourTideModel" "beside" "[I") (List.mem_of_getElem? (i := 6) rfl)) (fun _ h9 => h9) rfl dX2_take_54 ?_
        refine lv_iconst (v := 4) hx hb dX2_take_57 (by decide) ?_
        refine lv_iload_n hx hb dX2_take_58 rfl (lv_at hl 5 rfl) ?_
        refine lv_imul hx hb dX2_take_59 ?_
        refine z_topi (y := nI (4 * cq)) (pk_mul 4 cq) ?_
        refine lv_iload hx hb dX2_take_60 (lv_at hl 1 rfl) ?_
        suffices j_72 : ∀ v_72 : Int32, v_72 = (bV (nbr wn hn cq 0)) → W p l e rmX2_take s m args below meth c H locs 0 0 Q (F0 m 72 ls [.int v_72, .int (nI (4 * cq)), .ref a4]) by
          refine lv_if_le (tgt := 71) hx hb dX2_take_62 (by decide) (fun c_62 => ?_) (fun c_62 => ?_)
          · skip
            have n_62 := zc_le_t (a := (cq % wn)) (b := 0) (by have := Nat.mod_le cq wn; omega) (by have := Nat.mod_le cq wn; omega) c_62
            refine lv_iconst (v := (-1)) hx hb dX2_take_71 (by decide) ?_
            exact j_72 _ (bv0_no n_62)
          · skip
            have n_62 := zc_le_f (a := (cq % wn)) (b := 0) (by have := Nat.mod_le cq wn; omega) (by have := Nat.mod_le cq wn; omega) c_62
            refine lv_iload_n hx hb dX2_take_65 rfl (lv_at hl 5 rfl) ?_
            refine lv_iconst (v := 1) hx hb dX2_take_66 (by decide) ?_
            refine lv_isub hx hb dX2_take_67 ?_
            refine z_topi (y := nI cq - 1) (rfl) ?_
            refine lv_goto (tgt := 72) hx hb dX2_take_68 (by decide) ?_
            exact j_72 _ (bv0_yes (by omega) n_62)
        intro v_72 h_v_72
        refine z_iast hx hb hK hP hD hS 4 0 rfl rfl (4 * cq) (rfl) (by omega) (by decide) dX2_take_72 (fun H locs hP hD hS => ?_)
        have hP : va_P (dC, dI) vwCl [(m0, .inr (2, [.int th, .int (nI wn), .int (nI hn), .int nd, .int 0, .ref a1, .ref a2, .ref a3, .ref a4, .ref a5, .ref a6, .ref a7, .ref a8, .int mn])), (a1, .inl (cI, 25, .inl (zfill (kI (fun _ => 0)) C0 (cq + 1)))), (a2, .inl (cI, 25, .inl NX)), (a3, .inl (cZ, 25, .inl (zfill (zB (fun _ => false)) TT (cq + 1)))), (a4, .inl (cI, 100, .inl (upd (zfill (bI wn hn) BB (4 * cq)) (4 * cq) v_72))), (a5, .inl (cI, 25, .inl KP)), (a6, .inl (cI, 25, .inl RG)), (a7, .inl (cI, 26, .inl SZ)), (a8, .inl (cI, 25, .inl LN))] H := hP
        have hD : va_D A [(m0, .inr (2, [.int th, .int (nI wn), .int (nI hn), .int nd, .int 0, .ref a1, .ref a2, .ref a3, .ref a4, .ref a5, .ref a6, .ref a7, .ref a8, .int mn])), (a1, .inl (cI, 25, .inl (zfill (kI (fun _ => 0)) C0 (cq + 1)))), (a2, .inl (cI, 25, .inl NX)), (a3, .inl (cZ, 25, .inl (zfill (zB (fun _ => false)) TT (cq + 1)))), (a4, .inl (cI, 100, .inl (upd (zfill (bI wn hn) BB (4 * cq)) (4 * cq) v_72))), (a5, .inl (cI, 25, .inl KP)), (a6, .inl (cI, 25, .inl RG)), (a7, .inl (cI, 26, .inl SZ)), (a8, .inl (cI, 25, .inl LN))] := hD
        have e_72 : upd (zfill (bI wn hn) BB (4 * cq)) (4 * cq) v_72 = zfill (bI wn hn) BB (4 * cq + 1) := by rw [show v_72 = bI wn hn (4 * cq) from h_v_72.trans (bI_at wn hn (c := cq) (i := 0) (by omega)).symm]; exact zfill_succ _ _ _
        rw [e_72] at hP hD
        refine lv_aload_n hx hb dX2_take_73 rfl (lv_at hl 2 rfl) ?_
        refine va_get (D := (dC, dI)) (ci := 2) (v := .ref a4) (C := RX2) (T := TX2) (N := 14) hx hb hts iX2_take_X2 hown hK hP 0 rfl rfl 8 (by decide) (hts (.fieldLink RX2 24 "ColourTideModel" "beside" "[I") (List.mem_of_getElem? (i := 6) rfl)) (fun _ h9 => h9) rfl dX2_take_74 ?_
        refine lv_iconst (v := 4) hx hb dX2_take_77 (by decide) ?_
        refine lv_iload_n hx hb dX2_take_78 rfl (lv_at hl 5 rfl) ?_
        refine lv_imul hx hb dX2_take_79 ?_
        refine z_topi (y := nI (4 * cq)) (pk_mul 4 cq) ?_
        refine lv_iconst (v := 1) hx hb dX2_take_80 (by decide) ?_
        refine lv_iadd hx hb dX2_take_81 ?_
        refine z_topi (y := nI ((4 * cq) + 1)) (nI_add (4 * cq) 1) ?_
        refine lv_iload hx hb dX2_take_82 (lv_at hl 1 rfl) ?_
        refine lv_aload_n hx hb dX2_take_84 rfl (lv_at hl 2 rfl) ?_
        refine va_get (D := (dC, dI)) (ci := 2) (v := .int (nI wn)) (C := RX2) (T := TX2) (N := 14) hx hb hts iX2_take_X2 hown hK hP 0 rfl rfl 1 (by decide) (hts (.fieldLink RX2 46 "ColourTideModel" "w" "I") (List.mem_of_getElem? (i := 1) rfl)) (fun _ h9 => h9) rfl dX2_take_85 ?_
        refine lv_iconst (v := 1) hx hb dX2_take_88 (by decide) ?_
        refine lv_isub hx hb dX2_take_89 ?_
        refine z_topi (y := nI (wn - 1)) (pk_sub (a := wn) (b := 1) (by omega)) ?_
        suffices j_100 : ∀ v_100 : Int32, v_100 = (bV (nbr wn hn cq 1)) → W p l e rmX2_take s m args below meth c H locs 0 0 Q (F0 m 100 ls [.int v_100, .int (nI ((4 * cq) + 1)), .ref a4]) by
          refine lv_icmp_ge (tgt := 99) hx hb dX2_take_90 (by decide) (fun c_90 => ?_) (fun c_90 => ?_)
          · skip
            have n_90 := zc_le_t (a := (wn - 1)) (b := (cq % wn)) (by have := Nat.mod_le cq wn; omega) (by have := Nat.mod_le cq wn; omega) c_90
            refine lv_iconst (v := (-1)) hx hb dX2_take_99 (by decide) ?_
            exact j_100 _ (bv1_no n_90)
          · skip
            have n_90 := zc_le_f (a := (wn - 1)) (b := (cq % wn)) (by have := Nat.mod_le cq wn; omega) (by have := Nat.mod_le cq wn; omega) c_90
            refine lv_iload_n hx hb dX2_take_93 rfl (lv_at hl 5 rfl) ?_
            refine lv_iconst (v := 1) hx hb dX2_take_94 (by decide) ?_
            refine lv_iadd hx hb dX2_take_95 ?_
            refine z_topi (y := nI cq + 1) (rfl) ?_
            refine lv_goto (tgt := 100) hx hb dX2_take_96 (by decide) ?_
            exact j_100 _ (bv1_yes  n_90)
        intro v_100 h_v_100
        refine z_iast hx hb hK hP hD hS 4 0 rfl rfl ((4 * cq) + 1) (rfl) (by omega) (by decide) dX2_take_100 (fun H locs hP hD hS => ?_)
        have hP : va_P (dC, dI) vwCl [(m0, .inr (2, [.int th, .int (nI wn), .int (nI hn), .int nd, .int 0, .ref a1, .ref a2, .ref a3, .ref a4, .ref a5, .ref a6, .ref a7, .ref a8, .int mn])), (a1, .inl (cI, 25, .inl (zfill (kI (fun _ => 0)) C0 (cq + 1)))), (a2, .inl (cI, 25, .inl NX)), (a3, .inl (cZ, 25, .inl (zfill (zB (fun _ => false)) TT (cq + 1)))), (a4, .inl (cI, 100, .inl (upd (zfill (bI wn hn) BB (4 * cq + 1)) ((4 * cq) + 1) v_100))), (a5, .inl (cI, 25, .inl KP)), (a6, .inl (cI, 25, .inl RG)), (a7, .inl (cI, 26, .inl SZ)), (a8, .inl (cI, 25, .inl LN))] H := hP
        have hD : va_D A [(m0, .inr (2, [.int th, .int (nI wn), .int (nI hn), .int nd, .int 0, .ref a1, .ref a2, .ref a3, .ref a4, .ref a5, .ref a6, .ref a7, .ref a8, .int mn])), (a1, .inl (cI, 25, .inl (zfill (kI (fun _ => 0)) C0 (cq + 1)))), (a2, .inl (cI, 25, .inl NX)), (a3, .inl (cZ, 25, .inl (zfill (zB (fun _ => false)) TT (cq + 1)))), (a4, .inl (cI, 100, .inl (upd (zfill (bI wn hn) BB (4 * cq + 1)) ((4 * cq) + 1) v_100))), (a5, .inl (cI, 25, .inl KP)), (a6, .inl (cI, 25, .inl RG)), (a7, .inl (cI, 26, .inl SZ)), (a8, .inl (cI, 25, .inl LN))] := hD
        have e_100 : upd (zfill (bI wn hn) BB (4 * cq + 1)) ((4 * cq) + 1) v_100 = zfill (bI wn hn) BB (4 * cq + 2) := by rw [show v_100 = bI wn hn (4 * cq + 1) from h_v_100.trans (bI_at wn hn (c := cq) (i := 1) (by omega)).symm]; exact zfill_succ _ _ _
        rw [e_100] at hP hD
        refine lv_aload_n hx hb dX2_take_101 rfl (lv_at hl 2 rfl) ?_
        refine va_get (D := (dC, dI)) (ci := 2) (v := .ref a4) (C := RX2) (T := TX2) (N := 14) hx hb hts iX2_take_X2 hown hK hP 0 rfl rfl 8 (by decide) (hts (.fieldLink RX2 24 "ColourTideModel" "beside" "[I") (List.mem_of_getElem? (i := 6) rfl)) (fun _ h9 => h9) rfl dX2_take_102 ?_
        refine lv_iconst (v := 4) hx hb dX2_take_105 (by decide) ?_
        refine lv_iload_n hx hb dX2_take_106 rfl (lv_at hl 5 rfl) ?_
        refine lv_imul hx hb dX2_take_107 ?_
        refine z_topi (y := nI (4 * cq)) (pk_mul 4 cq) ?_
        refine lv_iconst (v := 2) hx hb dX2_take_108 (by decide) ?_
        refine lv_iadd hx hb dX2_take_109 ?_
        refine z_topi (y := nI ((4 * cq) + 2)) (nI_add (4 * cq) 2) ?_
        refine lv_iload hx hb dX2_take_110 (lv_at hl 0 rfl) ?_
        suffices j_125 : ∀ v_125 : Int32, v_125 = (bV (nbr wn hn cq 2)) → W p l e rmX2_take s m args below meth c H locs 0 0 Q (F0 m 125 ls [.int v_125, .int (nI ((4 * cq) + 2)), .ref a4]) by
          refine lv_if_le (tgt := 124) hx hb dX2_take_112 (by decide) (fun c_112 => ?_) (fun c_112 => ?_)
          · skip
            have n_112 := zc_le_t (a := (cq / wn)) (b := 0) (by have := Nat.div_le_self cq wn; omega) (by have := Nat.div_le_self cq wn; omega) c_112
            refine lv_iconst (v := (-1)) hx hb dX2_take_124 (by decide) ?_
            exact j_125 _ (bv2_no n_112)
          · skip
            have n_112 := zc_le_f (a := (cq / wn)) (b := 0) (by have := Nat.div_le_self cq wn; omega) (by have := Nat.div_le_self cq wn; omega) c_112
            refine lv_iload_n hx hb dX2_take_115 rfl (lv_at hl 5 rfl) ?_
            refine lv_aload_n hx hb dX2_take_116 rfl (lv_at hl 2 rfl) ?_
            refine va_get (D := (dC, dI)) (ci := 2) (v := .int (nI wn)) (C := RX2) (T := TX2) (N := 14) hx hb hts iX2_take_X2 hown hK hP 0 rfl rfl 1 (by decide) (hts (.fieldLink RX2 46 "ColourTideModel" "w" "I") (List.mem_of_getElem? (i := 1) rfl)) (fun _ h9 => h9) rfl dX2_take_117 ?_
            refine lv_isub hx hb dX2_take_120 ?_
            refine z_topi (y := nI cq - nI wn) (rfl) ?_
            refine lv_goto (tgt := 125) hx hb dX2_take_121 (by decide) ?_
            exact j_125 _ (bv2_yes (by omega) n_112)
        intro v_125 h_v_125
        refine z_iast hx hb hK hP hD hS 4 0 rfl rfl ((4 * cq) + 2) (rfl) (by omega) (by decide) dX2_take_125 (fun H locs hP hD hS => ?_)
        have hP : va_P (dC, dI) vwCl [(m0, .inr (2, [.int th, .int (nI wn), .int (nI hn), .int nd, .int 0, .ref a1, .ref a2, .ref a3, .ref a4, .ref a5, .ref a6, .ref a7, .ref a8, .int mn])), (a1, .inl (cI, 25, .inl (zfill (kI (fun _ => 0)) C0 (cq + 1)))), (a2, .inl (cI, 25, .inl NX)), (a3, .inl (cZ, 25, .inl (zfill (zB (fun _ => false)) TT (cq + 1)))), (a4, .inl (cI, 100, .inl (upd (zfill (bI wn hn) BB (4 * cq + 2)) ((4 * cq) + 2) v_125))), (a5, .inl (cI, 25, .inl KP)), (a6, .inl (cI, 25, .inl RG)), (a7, .inl (cI, 26, .inl SZ)), (a8, .inl (cI, 25, .inl LN))] H := hP
        have hD : va_D A [(m0, .inr (2, [.int th, .int (nI wn), .int (nI hn), .int nd, .int 0, .ref a1, .ref a2, .ref a3, .ref a4, .ref a5, .ref a6, .ref a7, .ref a8, .int mn])), (a1, .inl (cI, 25, .inl (zfill (kI (fun _ => 0)) C0 (cq + 1)))), (a2, .inl (cI, 25, .inl NX)), (a3, .inl (cZ, 25, .inl (zfill (zB (fun _ => false)) TT (cq + 1)))), (a4, .inl (cI, 100, .inl (upd (zfill (bI wn hn) BB (4 * cq + 2)) ((4 * cq) + 2) v_125))), (a5, .inl (cI, 25, .inl KP)), (a6, .inl (cI, 25, .inl RG)), (a7, .inl (cI, 26, .inl SZ)), (a8, .inl (cI, 25, .inl LN))] := hD
        have e_125 : upd (zfill (bI wn hn) BB (4 * cq + 2)) ((4 * cq) + 2) v_125 = zfill (bI wn hn) BB (4 * cq + 3) := by rw [show v_125 = bI wn hn (4 * cq + 2) from h_v_125.trans (bI_at wn hn (c := cq) (i := 2) (by omega)).symm]; exact zfill_succ _ _ _
        rw [e_125] at hP hD
        refine lv_aload_n hx hb dX2_take_126 rfl (lv_at hl 2 rfl) ?_
        refine va_get (D := (dC, dI)) (ci := 2) (v := .ref a4) (C := RX2) (T := TX2) (N := 14) hx hb hts iX2_take_X2 hown hK hP 0 rfl rfl 8 (by decide) (hts (.fieldLink RX2 24 "ColourTideModel" "beside" "[I") (List.mem_of_getElem? (i := 6) rfl)) (fun _ h9 => h9) rfl dX2_take_127 ?_
        refine lv_iconst (v := 4) hx hb dX2_take_130 (by decide) ?_
        refine lv_iload_n hx hb dX2_take_131 rfl (lv_at hl 5 rfl) ?_
        refine lv_imul hx hb dX2_take_132 ?_
        refine z_topi (y := nI (4 * cq)) (pk_mul 4 cq) ?_
        refine lv_iconst (v := 3) hx hb dX2_take_133 (by decide) ?_
        refine lv_iadd hx hb dX2_take_134 ?_
        refine z_topi (y := nI ((4 * cq) + 3)) (nI_add (4 * cq) 3) ?_
        refine lv_iload hx hb dX2_take_135 (lv_at hl 0 rfl) ?_
        refine lv_aload_n hx hb dX2_take_137 rfl (lv_at hl 2 rfl) ?_
        refine va_get (D := (dC, dI)) (ci := 2) (v := .int (nI hn)) (C := RX2) (T := TX2) (N := 14) hx hb hts iX2_take_X2 hown hK hP 0 rfl rfl 2 (by decide) (hts (.fieldLink RX2 49 "ColourTideModel" "h" "I") (List.mem_of_getElem? (i := 2) rfl)) (fun _ h9 => h9) rfl dX2_take_138 ?_
        refine lv_iconst (v := 1) hx hb dX2_take_141 (by decide) ?_
        refine lv_isub hx hb dX2_take_142 ?_
        refine z_topi (y := nI (hn - 1)) (pk_sub (a := hn) (b := 1) (by omega)) ?_
        suffices j_156 : ∀ v_156 : Int32, v_156 = (bV (nbr wn hn cq 3)) → W p l e rmX2_take s m args below meth c H locs 0 0 Q (F0 m 156 ls [.int v_156, .int (nI ((4 * cq) + 3)), .ref a4]) by
          refine lv_icmp_ge (tgt := 155) hx hb dX2_take_143 (by decide) (fun c_143 => ?_) (fun c_143 => ?_)
          · skip
            have n_143 := zc_le_t (a := (hn - 1)) (b := (cq / wn)) (by have := Nat.div_le_self cq wn; omega) (by have := Nat.div_le_self cq wn; omega) c_143
            refine lv_iconst (v := (-1)) hx hb dX2_take_155 (by decide) ?_
            exact j_156 _ (bv3_no n_143)
          · skip
            have n_143 := zc_le_f (a := (hn - 1)) (b := (cq / wn)) (by have := Nat.div_le_self cq wn; omega) (by have := Nat.div_le_self cq wn; omega) c_143
            refine lv_iload_n hx hb dX2_take_146 rfl (lv_at hl 5 rfl) ?_
            refine lv_aload_n hx hb dX2_take_147 rfl (lv_at hl 2 rfl) ?_
            refine va_get (D := (dC, dI)) (ci := 2) (v := .int (nI wn)) (C := RX2) (T := TX2) (N := 14) hx hb hts iX2_take_X2 hown hK hP 0 rfl rfl 1 (by decide) (hts (.fieldLink RX2 46 "ColourTideModel" "w" "I") (List.mem_of_getElem? (i := 1) rfl)) (fun _ h9 => h9) rfl dX2_take_148 ?_
            refine lv_iadd hx hb dX2_take_151 ?_
            refine z_topi (y := nI cq + nI wn) (rfl) ?_
            refine lv_goto (tgt := 156) hx hb dX2_take_152 (by decide) ?_
            exact j_156 _ (bv3_yes  n_143)
        intro v_156 h_v_156
        refine z_iast hx hb hK hP hD hS 4 0 rfl rfl ((4 * cq) + 3) (rfl) (by omega) (by decide) dX2_take_156 (fun H locs hP hD hS => ?_)
        have hP : va_P (dC, dI) vwCl [(m0, .inr (2, [.int th, .int (nI wn), .int (nI hn), .int nd, .int 0, .ref a1, .ref a2, .ref a3, .ref a4, .ref a5, .ref a6, .ref a7, .ref a8, .int mn])), (a1, .inl (cI, 25, .inl (zfill (kI (fun _ => 0)) C0 (cq + 1)))), (a2, .inl (cI, 25, .inl NX)), (a3, .inl (cZ, 25, .inl (zfill (zB (fun _ => false)) TT (cq + 1)))), (a4, .inl (cI, 100, .inl (upd (zfill (bI wn hn) BB (4 * cq + 3)) ((4 * cq) + 3) v_156))), (a5, .inl (cI, 25, .inl KP)), (a6, .inl (cI, 25, .inl RG)), (a7, .inl (cI, 26, .inl SZ)), (a8, .inl (cI, 25, .inl LN))] H := hP
        have hD : va_D A [(m0, .inr (2, [.int th, .int (nI wn), .int (nI hn), .int nd, .int 0, .ref a1, .ref a2, .ref a3, .ref a4, .ref a5, .ref a6, .ref a7, .ref a8, .int mn])), (a1, .inl (cI, 25, .inl (zfill (kI (fun _ => 0)) C0 (cq + 1)))), (a2, .inl (cI, 25, .inl NX)), (a3, .inl (cZ, 25, .inl (zfill (zB (fun _ => false)) TT (cq + 1)))), (a4, .inl (cI, 100, .inl (upd (zfill (bI wn hn) BB (4 * cq + 3)) ((4 * cq) + 3) v_156))), (a5, .inl (cI, 25, .inl KP)), (a6, .inl (cI, 25, .inl RG)), (a7, .inl (cI, 26, .inl SZ)), (a8, .inl (cI, 25, .inl LN))] := hD
        have e_156 : upd (zfill (bI wn hn) BB (4 * cq + 3)) ((4 * cq) + 3) v_156 = zfill (bI wn hn) BB (4 * (cq + 1)) := by rw [show v_156 = bI wn hn (4 * cq + 3) from h_v_156.trans (bI_at wn hn (c := cq) (i := 3) (by omega)).symm, show 4 * (cq + 1) = 4 * cq + 3 + 1 by omega]; exact zfill_succ _ _ _
        rw [e_156] at hP hD
        refine lv_iinc (v := nI (cq + 1)) (lv' := [(3, .int (nI (cq + 1))), (5, .int (nI (cq / wn))), (4, .int (nI (cq % wn))), (0, .ref m0), (1, .int (nI wn)), (2, .int (nI hn))]) hx hb dX2_take_157 hl (k := 5) rfl (nI_1 cq) (by decide) rfl (fun ls hl => ?_)
        refine lv_goto (tgt := 17) hx hb dX2_take_160 (by decide) ?_
        exact ih_17 (cq + 1) (by omega)  _ _ _ hP hD hS (lv_sub hl [3, 4, 5, 0] rfl)
  have hP : va_P (dC, dI) vwCl [(m0, .inr (2, [.int th, .int (nI wn), .int (nI hn), .int nd, .int 0, .ref a1, .ref a2, .ref a3, .ref a4, .ref a5, .ref a6, .ref a7, .ref a8, .int mn])), (a1, .inl (cI, 25, .inl (zfill (kI (fun _ => 0)) C0 0))), (a2, .inl (cI, 25, .inl NX)), (a3, .inl (cZ, 25, .inl (zfill (zB (fun _ => false)) TT 0))), (a4, .inl (cI, 100, .inl (zfill (bI wn hn) BB 0))), (a5, .inl (cI, 25, .inl KP)), (a6, .inl (cI, 25, .inl RG)), (a7, .inl (cI, 26, .inl SZ)), (a8, .inl (cI, 25, .inl LN))] H := by rw [zfill_0, zfill_0, zfill_0]; exact hP
  have hD : va_D A [(m0, .inr (2, [.int th, .int (nI wn), .int (nI hn), .int nd, .int 0, .ref a1, .ref a2, .ref a3, .ref a4, .ref a5, .ref a6, .ref a7, .ref a8, .int mn])), (a1, .inl (cI, 25, .inl (zfill (kI (fun _ => 0)) C0 0))), (a2, .inl (cI, 25, .inl NX)), (a3, .inl (cZ, 25, .inl (zfill (zB (fun _ => false)) TT 0))), (a4, .inl (cI, 100, .inl (zfill (bI wn hn) BB 0))), (a5, .inl (cI, 25, .inl KP)), (a6, .inl (cI, 25, .inl RG)), (a7, .inl (cI, 26, .inl SZ)), (a8, .inl (cI, 25, .inl LN))] := zD2 hD rfl
  exact loop_17 25 0 (by omega)  _ _ _ hP hD hS (lv_sub hl [1, 2, 3, 0] rfl)
abbrev rmX2_keep : Room := { frames := 1, cells := 0, slots := 0, locals := 30 }
set_option maxRecDepth 20000 in
theorem iX2_keep_X2 : ∀ w ∈ wsX20, w ∈ wsX2_keep := fun w h => (goodIn_r (big := wsX2_keep) wsX20 [7, 8, 9, 10, 11, 12, 13, 14, 15, 16, 17, 18, 19, 20] (by decide +kernel) (by decide +kernel) w h).1
set_option maxHeartbeats 4000000 in
set_option maxRecDepth 100000 in
theorem m_X2_keep (l : Launch) (dC : Nat → ClassId) (dI : Nat → Nat → Nat) (cI cZ cJ cD : ClassId) (m0 : Nat) (a1 : Nat) (a2 : Nat) (a3 : Nat) (a4 : Nat) (a5 : Nat) (a6 : Nat) (a7 : Nat) (a8 : Nat) (th : Int32) (wn : Nat) (hn : Nat) (q0 : Nat) (wv : Int32) (K0 : Nat → Nat) (NX : Nat → Int32) (T0 : Nat → Bool) (KP : Nat → Int32) (RG : Nat → Int32) (SZ : Nat → Int32) (LN : Nat → Int32) (mn : Int32)  : zV l (dC, dI) (wT cI cZ cJ cD) yX2_keep wsX2_keep rmX2_keep [(m0, .inr (2, [.int th, .int (nI wn), .int (nI hn), .int (nI q0), .int wv, .ref a1, .ref a2, .ref a3, .ref a4, .ref a5, .ref a6, .ref a7, .ref a8, .int mn])), (a1, .inl (cI, 25, .inl (kI K0))), (a2, .inl (cI, 25, .inl NX)), (a3, .inl (cZ, 25, .inl (zB T0))), (a4, .inl (cI, 100, .inl (bI wn hn))), (a5, .inl (cI, 25, .inl KP)), (a6, .inl (cI, 25, .inl RG)), (a7, .inl (cI, 26, .inl SZ)), (a8, .inl (cI, 25, .inl LN))] [.ref m0] (fun (_ : Unit) => [(m0, .inr (2, [.int th, .int (nI wn), .int (nI hn), .int (nI q0), .int wv, .ref a1, .ref a2, .ref a3, .ref a4, .ref a5, .ref a6, .ref a7, .ref a8, .int mn])), (a1, .inl (cI, 25, .inl (kI K0))), (a2, .inl (cI, 25, .inl NX)), (a3, .inl (cZ, 25, .inl (zB T0))), (a4, .inl (cI, 100, .inl (bI wn hn))), (a5, .inl (cI, 25, .inl (kI K0))), (a6, .inl (cI, 25, .inl RG)), (a7, .inl (cI, 26, .inl SZ)), (a8, .inl (cI, 25, .inl LN))]) (fun (_ : Unit) => True) := by
  intro sz
  refine Met.ofW (cc := cX2_keep) (maxL := 1) (ret := none) (by decide) rfl ?_
  intro p e s m args below meth c s₁ B hml hv
  obtain ⟨ha, hsz, hP, hK, hD0, hN⟩ := hv
  have hx := B.exec
  have hb := B.bytes
  have hr := B.returns
  have hts := atoms_spec (ws := wsX2_keep) B.pre
  have hown : s.vm.findClass RX2 = some m.cls := findClass_of_methodNamed B.named
  have hlocks := B.notSynchronized
  subst hsz
  have hD := hD0.self (sz := s.heap.size)
  generalize hAe : va_A [(m0, .inr (2, [.int th, .int (nI wn), .int (nI hn), .int (nI q0), .int wv, .ref a1, .ref a2, .ref a3, .ref a4, .ref a5, .ref a6, .ref a7, .ref a8, .int mn])), (a1, .inl (cI, 25, .inl (kI K0))), (a2, .inl (cI, 25, .inl NX)), (a3, .inl (cZ, 25, .inl (zB T0))), (a4, .inl (cI, 100, .inl (bI wn hn))), (a5, .inl (cI, 25, .inl KP)), (a6, .inl (cI, 25, .inl RG)), (a7, .inl (cI, 26, .inl SZ)), (a8, .inl (cI, 25, .inl LN))] s.heap.size = A at hD ⊢
  have hA : ∀ q : Nat, s.heap.size ≤ q → A q := fun q h => by rw [← hAe]; exact Or.inr h
  have hS : va_S A s.heap s.heap [] := va_S.rf
  generalize hQ : MQ below (va_Qv (fun (_ : Unit) => True) (fun u t => va_P (dC, dI) vwCl ((fun (_ : Unit) => [(m0, .inr (2, [.int th, .int (nI wn), .int (nI hn), .int (nI q0), .int wv, .ref a1, .ref a2, .ref a3, .ref a4, .ref a5, .ref a6, .ref a7, .ref a8, .int mn])), (a1, .inl (cI, 25, .inl (kI K0))), (a2, .inl (cI, 25, .inl NX)), (a3, .inl (cZ, 25, .inl (zB T0))), (a4, .inl (cI, 100, .inl (bI wn hn))), (a5, .inl (cI, 25, .inl (kI K0))), (a6, .inl (cI, 25, .inl RG)), (a7, .inl (cI, 26, .inl SZ)), (a8, .inl (cI, 25, .inl LN))]) u) t.heap) A) args s 0 0 A = Q
  have F9 : CallFix p m c cX2_keep 1 s args wsX2_keep RX2 := ⟨hx, hb, hml, hown, hts⟩
  refine z_entry (R := rmX2_keep) ha (Nat.le_of_ble_eq_true rfl) (fun ls hl => ?_)
  have hl : lv_has ls 1 [(0, .ref m0)] := hl
  refine lv_aload_n hx hb dX2_keep_0 rfl (lv_at hl 0 rfl) ?_
  refine va_get (D := (dC, dI)) (ci := 2) (v := .ref a1) (C := RX2) (T := TX2) (N := 14) hx hb hts iX2_keep_X2 hown hK hP 0 rfl rfl 5 (by decide) (hts (.fieldLink RX2 13 "ColourTideModel" "colours" "[I") (List.mem_of_getElem? (i := 1) rfl)) (fun _ h9 => h9) rfl dX2_keep_1 ?_
  refine lv_iconst (v := 0) hx hb dX2_keep_4 (by decide) ?_
  refine lv_aload_n hx hb dX2_keep_5 rfl (lv_at hl 0 rfl) ?_
  refine va_get (D := (dC, dI)) (ci := 2) (v := .ref a5) (C := RX2) (T := TX2) (N := 14) hx hb hts iX2_keep_X2 hown hK hP 0 rfl rfl 9 (by decide) (hts (.fieldLink RX2 27 "ColourTideModel" "kept" "[I") (List.mem_of_getElem? (i := 2) rfl)) (fun _ h9 => h9) rfl dX2_keep_6 ?_
  refine lv_iconst (v := 0) hx hb dX2_keep_9 (by decide) ?_
  refine lv_bipush (v := 25) hx hb dX2_keep_10 (by decide +kernel) ?_
  refine z_copy hx hb (by rw [hml]; exact hl.1.symm) hown (hts (.methodLink RX2 59 arraycopyName) (List.mem_of_getElem? (i := 3) rfl)) (hts (.native arraycopyName) (List.mem_of_getElem? (i := 4) rfl)) (hts (.static arraycopyName) (List.mem_of_getElem? (i := 5) rfl)) (hts (.initialized "java/lang/System") (List.mem_of_getElem? (i := 6) rfl)) hK hP hD hS 1 5 0 0 rfl rfl rfl rfl 25 (rfl) (⟨by omega, by omega, by omega⟩) (Nat.le_of_ble_eq_true rfl) (Nat.le_of_ble_eq_true rfl) dX2_keep_12 (fun H locs hP hD hS => ?_)
  have hP : va_P (dC, dI) vwCl [(m0, .inr (2, [.int th, .int (nI wn), .int (nI hn), .int (nI q0), .int wv, .ref a1, .ref a2, .ref a3, .ref a4, .ref a5, .ref a6, .ref a7, .ref a8, .int mn])), (a1, .inl (cI, 25, .inl (kI K0))), (a2, .inl (cI, 25, .inl NX)), (a3, .inl (cZ, 25, .inl (zB T0))), (a4, .inl (cI, 100, .inl (bI wn hn))), (a5, .inl (cI, 25, .inl (zfill (kI K0) KP 25))), (a6, .inl (cI, 25, .inl RG)), (a7, .inl (cI, 26, .inl SZ)), (a8, .inl (cI, 25, .inl LN))] H := hP
  have hD : va_D A [(m0, .inr (2, [.int th, .int (nI wn), .int (nI hn), .int (nI q0), .int wv, .ref a1, .ref a2, .ref a3, .ref a4, .ref a5, .ref a6, .ref a7, .ref a8, .int mn])), (a1, .inl (cI, 25, .inl (kI K0))), (a2, .inl (cI, 25, .inl NX)), (a3, .inl (cZ, 25, .inl (zB T0))), (a4, .inl (cI, 100, .inl (bI wn hn))), (a5, .inl (cI, 25, .inl (zfill (kI K0) KP 25))), (a6, .inl (cI, 25, .inl RG)), (a7, .inl (cI, 26, .inl SZ)), (a8, .inl (cI, 25, .inl LN))] := hD
  have hP := z_ren hP 5 rfl (kI K0) (fun j hj => zfill_in hj)
  have hP : va_P (dC, dI) vwCl [(m0, .inr (2, [.int th, .int (nI wn), .int (nI hn), .int (nI q0), .int wv, .ref a1, .ref a2, .ref a3, .ref a4, .ref a5, .ref a6, .ref a7, .ref a8, .int mn])), (a1, .inl (cI, 25, .inl (kI K0))), (a2, .inl (cI, 25, .inl NX)), (a3, .inl (cZ, 25, .inl (zB T0))), (a4, .inl (cI, 100, .inl (bI wn hn))), (a5, .inl (cI, 25, .inl (kI K0))), (a6, .inl (cI, 25, .inl RG)), (a7, .inl (cI, 26, .inl SZ)), (a8, .inl (cI, 25, .inl LN))] H := hP
  have hD : va_D A [(m0, .inr (2, [.int th, .int (nI wn), .int (nI hn), .int (nI q0), .int wv, .ref a1, .ref a2, .ref a3, .ref a4, .ref a5, .ref a6, .ref a7, .ref a8, .int mn])), (a1, .inl (cI, 25, .inl (kI K0))), (a2, .inl (cI, 25, .inl NX)), (a3, .inl (cZ, 25, .inl (zB T0))), (a4, .inl (cI, 100, .inl (bI wn hn))), (a5, .inl (cI, 25, .inl (kI K0))), (a6, .inl (cI, 25, .inl RG)), (a7, .inl (cI, 26, .inl SZ)), (a8, .inl (cI, 25, .inl LN))] := zD2 hD rfl
  rw [← hQ]
  exact z_vret (W1 := (fun (_ : Unit) => [(m0, .inr (2, [.int th, .int (nI wn), .int (nI hn), .int (nI q0), .int wv, .ref a1, .ref a2, .ref a3, .ref a4, .ref a5, .ref a6, .ref a7, .ref a8, .int mn])), (a1, .inl (cI, 25, .inl (kI K0))), (a2, .inl (cI, 25, .inl NX)), (a3, .inl (cZ, 25, .inl (zB T0))), (a4, .inl (cI, 100, .inl (bI wn hn))), (a5, .inl (cI, 25, .inl (kI K0))), (a6, .inl (cI, 25, .inl RG)), (a7, .inl (cI, 26, .inl SZ)), (a8, .inl (cI, 25, .inl LN))])) hx hb hr hlocks hP hS () (rfl) (trivial) dX2_keep_15
abbrev rmX2_bringBack : Room := { frames := 1, cells := 0, slots := 0, locals := 30 }
set_option maxRecDepth 20000 in
theorem iX2_bringBack_X2 : ∀ w ∈ wsX20, w ∈ wsX2_bringBack := fun w h => (goodIn_r (big := wsX2_bringBack) wsX20 [7, 8, 9, 10, 11, 12, 13, 14, 15, 16, 17, 18, 19, 20] (by decide +kernel) (by decide +kernel) w h).1
set_option maxHeartbeats 4000000 in
set_option maxRecDepth 100000 in
theorem m_X2_bringBack (l : Launch) (dC : Nat → ClassId) (dI : Nat → Nat → Nat) (cI cZ cJ cD : ClassId) (m0 : Nat) (a1 : Nat) (a2 : Nat) (a3 : Nat) (a4 : Nat) (a5 : Nat) (a6 : Nat) (a7 : Nat) (a8 : Nat) (th : Int32) (wn : Nat) (hn : Nat) (q0 : Nat) (wv : Int32) (K0 : Nat → Nat) (NX : Nat → Int32) (T0 : Nat → Bool) (RG : Nat → Int32) (SZ : Nat → Int32) (LN : Nat → Int32) (mn : Int32) (K1 : Nat → Nat)  : zV l (dC, dI) (wT cI cZ cJ cD) yX2_bringBack wsX2_bringBack rmX2_bringBack [(m0, .inr (2, [.int th, .int (nI wn), .int (nI hn), .int (nI q0), .int wv, .ref a1, .ref a2, .ref a3, .ref a4, .ref a5, .ref a6, .ref a7, .ref a8, .int mn])), (a1, .inl (cI, 25, .inl (kI K0))), (a2, .inl (cI, 25, .inl NX)), (a3, .inl (cZ, 25, .inl (zB T0))), (a4, .inl (cI, 100, .inl (bI wn hn))), (a5, .inl (cI, 25, .inl (kI K1))), (a6, .inl (cI, 25, .inl RG)), (a7, .inl (cI, 26, .inl SZ)), (a8, .inl (cI, 25, .inl LN))] [.ref m0] (fun (_ : Unit) => [(m0, .inr (2, [.int th, .int (nI wn), .int (nI hn), .int (nI q0), .int wv, .ref a1, .ref a2, .ref a3, .ref a4, .ref a5, .ref a6, .ref a7, .ref a8, .int mn])), (a1, .inl (cI, 25, .inl (kI K1))), (a2, .inl (cI, 25, .inl NX)), (a3, .inl (cZ, 25, .inl (zB T0))), (a4, .inl (cI, 100, .inl (bI wn hn))), (a5, .inl (cI, 25, .inl (kI K1))), (a6, .inl (cI, 25, .inl RG)), (a7, .inl (cI, 26, .inl SZ)), (a8, .inl (cI, 25, .inl LN))]) (fun (_ : Unit) => True) := by
  intro sz
  refine Met.ofW (cc := cX2_bringBack) (maxL := 1) (ret := none) (by decide) rfl ?_
  intro p e s m args below meth c s₁ B hml hv
  obtain ⟨ha, hsz, hP, hK, hD0, hN⟩ := hv
  have hx := B.exec
  have hb := B.bytes
  have hr := B.returns
  have hts := atoms_spec (ws := wsX2_bringBack) B.pre
  have hown : s.vm.findClass RX2 = some m.cls := findClass_of_methodNamed B.named
  have hlocks := B.notSynchronized
  subst hsz
  have hD := hD0.self (sz := s.heap.size)
  generalize hAe : va_A [(m0, .inr (2, [.int th, .int (nI wn), .int (nI hn), .int (nI q0), .int wv, .ref a1, .ref a2, .ref a3, .ref a4, .ref a5, .ref a6, .ref a7, .ref a8, .int mn])), (a1, .inl (cI, 25, .inl (kI K0))), (a2, .inl (cI, 25, .inl NX)), (a3, .inl (cZ, 25, .inl (zB T0))), (a4, .inl (cI, 100, .inl (bI wn hn))), (a5, .inl (cI, 25, .inl (kI K1))), (a6, .inl (cI, 25, .inl RG)), (a7, .inl (cI, 26, .inl SZ)), (a8, .inl (cI, 25, .inl LN))] s.heap.size = A at hD ⊢
  have hA : ∀ q : Nat, s.heap.size ≤ q → A q := fun q h => by rw [← hAe]; exact Or.inr h
  have hS : va_S A s.heap s.heap [] := va_S.rf
  generalize hQ : MQ below (va_Qv (fun (_ : Unit) => True) (fun u t => va_P (dC, dI) vwCl ((fun (_ : Unit) => [(m0, .inr (2, [.int th, .int (nI wn), .int (nI hn), .int (nI q0), .int wv, .ref a1, .ref a2, .ref a3, .ref a4, .ref a5, .ref a6, .ref a7, .ref a8, .int mn])), (a1, .inl (cI, 25, .inl (kI K1))), (a2, .inl (cI, 25, .inl NX)), (a3, .inl (cZ, 25, .inl (zB T0))), (a4, .inl (cI, 100, .inl (bI wn hn))), (a5, .inl (cI, 25, .inl (kI K1))), (a6, .inl (cI, 25, .inl RG)), (a7, .inl (cI, 26, .inl SZ)), (a8, .inl (cI, 25, .inl LN))]) u) t.heap) A) args s 0 0 A = Q
  have F9 : CallFix p m c cX2_bringBack 1 s args wsX2_bringBack RX2 := ⟨hx, hb, hml, hown, hts⟩
  refine z_entry (R := rmX2_bringBack) ha (Nat.le_of_ble_eq_true rfl) (fun ls hl => ?_)
  have hl : lv_has ls 1 [(0, .ref m0)] := hl
  refine lv_aload_n hx hb dX2_bringBack_0 rfl (lv_at hl 0 rfl) ?_
  refine va_get (D := (dC, dI)) (ci := 2) (v := .ref a5) (C := RX2) (T := TX2) (N := 14) hx hb hts iX2_bringBack_X2 hown hK hP 0 rfl rfl 9 (by decide) (hts (.fieldLink RX2 27 "ColourTideModel" "kept" "[I") (List.mem_of_getElem? (i := 1) rfl)) (fun _ h9 => h9) rfl dX2_bringBack_1 ?_
  refine lv_iconst (v := 0) hx hb dX2_bringBack_4 (by decide) ?_
  refine lv_aload_n hx hb dX2_bringBack_5 rfl (lv_at hl 0 rfl) ?_
  refine va_get (D := (dC, dI)) (ci := 2) (v := .ref a1) (C := RX2) (T := TX2) (N := 14) hx hb hts iX2_bringBack_X2 hown hK hP 0 rfl rfl 5 (by decide) (hts (.fieldLink RX2 13 "ColourTideModel" "colours" "[I") (List.mem_of_getElem? (i := 2) rfl)) (fun _ h9 => h9) rfl dX2_bringBack_6 ?_
  refine lv_iconst (v := 0) hx hb dX2_bringBack_9 (by decide) ?_
  refine lv_bipush (v := 25) hx hb dX2_bringBack_10 (by decide +kernel) ?_
  refine z_copy hx hb (by rw [hml]; exact hl.1.symm) hown (hts (.methodLink RX2 59 arraycopyName) (List.mem_of_getElem? (i := 3) rfl)) (hts (.native arraycopyName) (List.mem_of_getElem? (i := 4) rfl)) (hts (.static arraycopyName) (List.mem_of_getElem? (i := 5) rfl)) (hts (.initialized "java/lang/System") (List.mem_of_getElem? (i := 6) rfl)) hK hP hD hS 5 1 0 0 rfl rfl rfl rfl 25 (rfl) (⟨by omega, by omega, by omega⟩) (Nat.le_of_ble_eq_true rfl) (Nat.le_of_ble_eq_true rfl) dX2_bringBack_12 (fun H locs hP hD hS => ?_)
  have hP : va_P (dC, dI) vwCl [(m0, .inr (2, [.int th, .int (nI wn), .int (nI hn), .int (nI q0), .int wv, .ref a1, .ref a2, .ref a3, .ref a4, .ref a5, .ref a6, .ref a7, .ref a8, .int mn])), (a1, .inl (cI, 25, .inl (zfill (kI K1) (kI K0) 25))), (a2, .inl (cI, 25, .inl NX)), (a3, .inl (cZ, 25, .inl (zB T0))), (a4, .inl (cI, 100, .inl (bI wn hn))), (a5, .inl (cI, 25, .inl (kI K1))), (a6, .inl (cI, 25, .inl RG)), (a7, .inl (cI, 26, .inl SZ)), (a8, .inl (cI, 25, .inl LN))] H := hP
  have hD : va_D A [(m0, .inr (2, [.int th, .int (nI wn), .int (nI hn), .int (nI q0), .int wv, .ref a1, .ref a2, .ref a3, .ref a4, .ref a5, .ref a6, .ref a7, .ref a8, .int mn])), (a1, .inl (cI, 25, .inl (zfill (kI K1) (kI K0) 25))), (a2, .inl (cI, 25, .inl NX)), (a3, .inl (cZ, 25, .inl (zB T0))), (a4, .inl (cI, 100, .inl (bI wn hn))), (a5, .inl (cI, 25, .inl (kI K1))), (a6, .inl (cI, 25, .inl RG)), (a7, .inl (cI, 26, .inl SZ)), (a8, .inl (cI, 25, .inl LN))] := hD
  have hP := z_ren hP 1 rfl (kI K1) (fun j hj => zfill_in hj)
  have hP : va_P (dC, dI) vwCl [(m0, .inr (2, [.int th, .int (nI wn), .int (nI hn), .int (nI q0), .int wv, .ref a1, .ref a2, .ref a3, .ref a4, .ref a5, .ref a6, .ref a7, .ref a8, .int mn])), (a1, .inl (cI, 25, .inl (kI K1))), (a2, .inl (cI, 25, .inl NX)), (a3, .inl (cZ, 25, .inl (zB T0))), (a4, .inl (cI, 100, .inl (bI wn hn))), (a5, .inl (cI, 25, .inl (kI K1))), (a6, .inl (cI, 25, .inl RG)), (a7, .inl (cI, 26, .inl SZ)), (a8, .inl (cI, 25, .inl LN))] H := hP
  have hD : va_D A [(m0, .inr (2, [.int th, .int (nI wn), .int (nI hn), .int (nI q0), .int wv, .ref a1, .ref a2, .ref a3, .ref a4, .ref a5, .ref a6, .ref a7, .ref a8, .int mn])), (a1, .inl (cI, 25, .inl (kI K1))), (a2, .inl (cI, 25, .inl NX)), (a3, .inl (cZ, 25, .inl (zB T0))), (a4, .inl (cI, 100, .inl (bI wn hn))), (a5, .inl (cI, 25, .inl (kI K1))), (a6, .inl (cI, 25, .inl RG)), (a7, .inl (cI, 26, .inl SZ)), (a8, .inl (cI, 25, .inl LN))] := zD2 hD rfl
  rw [← hQ]
  exact z_vret (W1 := (fun (_ : Unit) => [(m0, .inr (2, [.int th, .int (nI wn), .int (nI hn), .int (nI q0), .int wv, .ref a1, .ref a2, .ref a3, .ref a4, .ref a5, .ref a6, .ref a7, .ref a8, .int mn])), (a1, .inl (cI, 25, .inl (kI K1))), (a2, .inl (cI, 25, .inl NX)), (a3, .inl (cZ, 25, .inl (zB T0))), (a4, .inl (cI, 100, .inl (bI wn hn))), (a5, .inl (cI, 25, .inl (kI K1))), (a6, .inl (cI, 25, .inl RG)), (a7, .inl (cI, 26, .inl SZ)), (a8, .inl (cI, 25, .inl LN))])) hx hb hr hlocks hP hS () (rfl) (trivial) dX2_bringBack_15
abbrev rmX2_beside : Room := { frames := 0, cells := 0, slots := 0, locals := 0 }
set_option maxRecDepth 20000 in
theorem iX2_beside_X2 : ∀ w ∈ wsX20, w ∈ wsX2_beside := fun w h => (goodIn_r (big := wsX2_beside) wsX20 [3, 4, 5, 6, 7, 8, 9, 10, 11, 12, 13, 14, 15, 16] (by decide +kernel) (by decide +kernel) w h).1
set_option maxHeartbeats 4000000 in
set_option maxRecDepth 100000 in
theorem m_X2_beside (l : Launch) (dC : Nat → ClassId) (dI : Nat → Nat → Nat) (cI cZ cJ cD : ClassId) (m0 : Nat) (a1 : Nat) (a2 : Nat) (a3 : Nat) (a4 : Nat) (a5 : Nat) (a6 : Nat) (a7 : Nat) (a8 : Nat) (th : Int32) (wn : Nat) (hn : Nat) (q0 : Nat) (wv : Int32) (K0 : Nat → Nat) (NX : Nat → Int32) (T0 : Nat → Bool) (KP : Nat → Int32) (RG : Nat → Int32) (SZ : Nat → Int32) (LN : Nat → Int32) (mn : Int32) (c0 : Nat) (j0 : Nat) (g : gok wn hn) (hK4 : ∀ c, K0 c ≤ 4) (hc : c0 < wn * hn) (hj0 : j0 < 1000) : zI l (dC, dI) (wT cI cZ cJ cD) yX2_beside wsX2_beside rmX2_beside [(m0, .inr (2, [.int th, .int (nI wn), .int (nI hn), .int (nI q0), .int wv, .ref a1, .ref a2, .ref a3, .ref a4, .ref a5, .ref a6, .ref a7, .ref a8, .int mn])), (a1, .inl (cI, 25, .inl (kI K0))), (a2, .inl (cI, 25, .inl NX)), (a3, .inl (cZ, 25, .inl (zB T0))), (a4, .inl (cI, 100, .inl (bI wn hn))), (a5, .inl (cI, 25, .inl KP)), (a6, .inl (cI, 25, .inl RG)), (a7, .inl (cI, 26, .inl SZ)), (a8, .inl (cI, 25, .inl LN))] [.ref m0, .int (nI c0), .int (nI j0)] (fun (_ : Unit) => [(m0, .inr (2, [.int th, .int (nI wn), .int (nI hn), .int (nI q0), .int wv, .ref a1, .ref a2, .ref a3, .ref a4, .ref a5, .ref a6, .ref a7, .ref a8, .int mn])), (a1, .inl (cI, 25, .inl (kI K0))), (a2, .inl (cI, 25, .inl NX)), (a3, .inl (cZ, 25, .inl (zB T0))), (a4, .inl (cI, 100, .inl (bI wn hn))), (a5, .inl (cI, 25, .inl KP)), (a6, .inl (cI, 25, .inl RG)), (a7, .inl (cI, 26, .inl SZ)), (a8, .inl (cI, 25, .inl LN))]) (fun (r : Int32) (_ : Unit) => r = nI (cnbs wn hn K0 c0 j0)) := by
  intro sz
  refine Met.ofW (cc := cX2_beside) (maxL := 5) (ret := (some .int)) (by decide) rfl ?_
  intro p e s m args below meth c s₁ B hml hv
  obtain ⟨ha, hsz, hP, hK, hD0, hN⟩ := hv
  have hx := B.exec
  have hb := B.bytes
  have hr := B.returns
  have hts := atoms_spec (ws := wsX2_beside) B.pre
  have hown : s.vm.findClass RX2 = some m.cls := findClass_of_methodNamed B.named
  have hlocks := B.notSynchronized
  subst hsz
  have hD := hD0.self (sz := s.heap.size)
  generalize hAe : va_A [(m0, .inr (2, [.int th, .int (nI wn), .int (nI hn), .int (nI q0), .int wv, .ref a1, .ref a2, .ref a3, .ref a4, .ref a5, .ref a6, .ref a7, .ref a8, .int mn])), (a1, .inl (cI, 25, .inl (kI K0))), (a2, .inl (cI, 25, .inl NX)), (a3, .inl (cZ, 25, .inl (zB T0))), (a4, .inl (cI, 100, .inl (bI wn hn))), (a5, .inl (cI, 25, .inl KP)), (a6, .inl (cI, 25, .inl RG)), (a7, .inl (cI, 26, .inl SZ)), (a8, .inl (cI, 25, .inl LN))] s.heap.size = A at hD ⊢
  have hA : ∀ q : Nat, s.heap.size ≤ q → A q := fun q h => by rw [← hAe]; exact Or.inr h
  have hS : va_S A s.heap s.heap [] := va_S.rf
  generalize hQ : MQ below (va_Qi (fun (r : Int32) (_ : Unit) => r = nI (cnbs wn hn K0 c0 j0)) (fun u t => va_P (dC, dI) vwCl ((fun (_ : Unit) => [(m0, .inr (2, [.int th, .int (nI wn), .int (nI hn), .int (nI q0), .int wv, .ref a1, .ref a2, .ref a3, .ref a4, .ref a5, .ref a6, .ref a7, .ref a8, .int mn])), (a1, .inl (cI, 25, .inl (kI K0))), (a2, .inl (cI, 25, .inl NX)), (a3, .inl (cZ, 25, .inl (zB T0))), (a4, .inl (cI, 100, .inl (bI wn hn))), (a5, .inl (cI, 25, .inl KP)), (a6, .inl (cI, 25, .inl RG)), (a7, .inl (cI, 26, .inl SZ)), (a8, .inl (cI, 25, .inl LN))]) u) t.heap) A) args s 0 0 A = Q
  have F9 : CallFix p m c cX2_beside 5 s args wsX2_beside RX2 := ⟨hx, hb, hml, hown, hts⟩
  obtain ⟨g1, g2, g3, g4⟩ := id g
  have g5 := wh_le g
  have g6 := wh_pos g
  refine z_entry (R := rmX2_beside) ha (Nat.le_of_ble_eq_true rfl) (fun ls hl => ?_)
  have hl : lv_has ls 5 [(0, .ref m0), (1, .int (nI c0)), (2, .int (nI j0))] := hl
  refine lv_iconst (v := 0) hx hb dX2_beside_0 (by decide) ?_
  refine lv_istore_n (lv' := [(3, .int 0), (0, .ref m0), (1, .int (nI c0)), (2, .int (nI j0))]) hx hb dX2_beside_1 rfl hl (by decide) rfl (fun ls hl => ?_)
  refine lv_iconst (v := 4) hx hb dX2_beside_2 (by decide) ?_
  refine lv_iload_n hx hb dX2_beside_3 rfl (lv_at hl 2 rfl) ?_
  refine lv_imul hx hb dX2_beside_4 ?_
  refine z_topi (y := nI (4 * c0)) (pk_mul 4 c0) ?_
  refine lv_istore (lv' := [(4, .int (nI (4 * c0))), (3, .int 0), (0, .ref m0), (1, .int (nI c0)), (2, .int (nI j0))]) hx hb dX2_beside_5 hl (by decide) rfl (fun ls hl => ?_)
  have loop_7 : ∀ (n : Nat) (i : Nat) (hkn : i + n = 4) (H : Heap) (locs : List Loc) (ls : Array Slot) (hP : va_P (dC, dI) vwCl [(m0, .inr (2, [.int th, .int (nI wn), .int (nI hn), .int (nI q0), .int wv, .ref a1, .ref a2, .ref a3, .ref a4, .ref a5, .ref a6, .ref a7, .ref a8, .int mn])), (a1, .inl (cI, 25, .inl (kI K0))), (a2, .inl (cI, 25, .inl NX)), (a3, .inl (cZ, 25, .inl (zB T0))), (a4, .inl (cI, 100, .inl (bI wn hn))), (a5, .inl (cI, 25, .inl KP)), (a6, .inl (cI, 25, .inl RG)), (a7, .inl (cI, 26, .inl SZ)), (a8, .inl (cI, 25, .inl LN))] H) (hD : va_D A [(m0, .inr (2, [.int th, .int (nI wn), .int (nI hn), .int (nI q0), .int wv, .ref a1, .ref a2, .ref a3, .ref a4, .ref a5, .ref a6, .ref a7, .ref a8, .int mn])), (a1, .inl (cI, 25, .inl (kI K0))), (a2, .inl (cI, 25, .inl NX)), (a3, .inl (cZ, 25, .inl (zB T0))), (a4, .inl (cI, 100, .inl (bI wn hn))), (a5, .inl (cI, 25, .inl KP)), (a6, .inl (cI, 25, .inl RG)), (a7, .inl (cI, 26, .inl SZ)), (a8, .inl (cI, 25, .inl LN))]) (hS : va_S A s.heap H locs) (hl : lv_has ls 5 [(0, .ref m0), (1, .int (nI c0)), (2, .int (nI j0)), (3, .int (nI (ps wn hn (fun d => decide (K0 d = j0)) c0 i))), (4, .int (nI (4 * c0 + i)))]), W p l e rmX2_beside s m args below meth c H locs 0 0 Q (F0 m 7 ls []) := by
    intro n
    induction n with
    | zero =>
      intro i hkn  H locs ls hP hD hS hl
      refine lv_iload hx hb dX2_beside_7 (lv_at hl 4 rfl) ?_
      refine lv_iconst (v := 4) hx hb dX2_beside_9 (by decide) ?_
      refine lv_iload_n hx hb dX2_beside_10 rfl (lv_at hl 1 rfl) ?_
      refine lv_imul hx hb dX2_beside_11 ?_
      refine z_topi (y := nI (4 * c0)) (pk_mul 4 c0) ?_
      refine lv_iconst (v := 4) hx hb dX2_beside_12 (by decide) ?_
      refine lv_iadd hx hb dX2_beside_13 ?_
      refine z_topi (y := nI ((4 * c0) + 4)) (nI_add (4 * c0) 4) ?_
      refine lv_icmp_ge (tgt := 58) hx hb dX2_beside_14 (by decide) (fun c_14 => ?_) (fun c_14 => ?_)
      · skip
        have n_14 := zc_le_t (a := ((4 * c0) + 4)) (b := (4 * c0 + i)) (by omega) (by omega) c_14
        refine lv_iload_n hx hb dX2_beside_58 rfl (lv_at hl 3 rfl) ?_
        have hl9 := hl
        have hP9 := hP
        have hD9 := hD
        have hS9 := hS
        obtain rfl : i = 4 := by omega
        have hl := hl9
        have hP := hP9
        have hD := hD9
        have hS := hS9
        rw [← hQ]
        exact z_iret (W1 := (fun (_ : Unit) => [(m0, .inr (2, [.int th, .int (nI wn), .int (nI hn), .int (nI q0), .int wv, .ref a1, .ref a2, .ref a3, .ref a4, .ref a5, .ref a6, .ref a7, .ref a8, .int mn])), (a1, .inl (cI, 25, .inl (kI K0))), (a2, .inl (cI, 25, .inl NX)), (a3, .inl (cZ, 25, .inl (zB T0))), (a4, .inl (cI, 100, .inl (bI wn hn))), (a5, .inl (cI, 25, .inl KP)), (a6, .inl (cI, 25, .inl RG)), (a7, .inl (cI, 26, .inl SZ)), (a8, .inl (cI, 25, .inl LN))])) hx hb hr hlocks hP hS () (rfl) (by rw [ps_4]; rfl) dX2_beside_59
      · skip
        have n_14 := zc_le_f (a := ((4 * c0) + 4)) (b := (4 * c0 + i)) (by omega) (by omega) c_14
        exact absurd n_14 (by omega)
    | succ n ih_7 =>
      intro i hkn  H locs ls hP hD hS hl
      refine lv_iload hx hb dX2_beside_7 (lv_at hl 4 rfl) ?_
      refine lv_iconst (v := 4) hx hb dX2_beside_9 (by decide) ?_
      refine lv_iload_n hx hb dX2_beside_10 rfl (lv_at hl 1 rfl) ?_
      refine lv_imul hx hb dX2_beside_11 ?_
      refine z_topi (y := nI (4 * c0)) (pk_mul 4 c0) ?_
      refine lv_iconst (v := 4) hx hb dX2_beside_12 (by decide) ?_
      refine lv_iadd hx hb dX2_beside_13 ?_
      refine z_topi (y := nI ((4 * c0) + 4)) (nI_add (4 * c0) 4) ?_
      refine lv_icmp_ge (tgt := 58) hx hb dX2_beside_14 (by decide) (fun c_14 => ?_) (fun c_14 => ?_)
      · skip
        have n_14 := zc_le_t (a := ((4 * c0) + 4)) (b := (4 * c0 + i)) (by omega) (by omega) c_14
        exact absurd n_14 (by omega)
      · skip
        have n_14 := zc_le_f (a := ((4 * c0) + 4)) (b := (4 * c0 + i)) (by omega) (by omega) c_14
        refine lv_iload_n hx hb dX2_beside_17 rfl (lv_at hl 3 rfl) ?_
        refine lv_aload_n hx hb dX2_beside_18 rfl (lv_at hl 0 rfl) ?_
        refine va_get (D := (dC, dI)) (ci := 2) (v := .ref a4) (C := RX2) (T := TX2) (N := 14) hx hb hts iX2_beside_X2 hown hK hP 0 rfl rfl 8 (by decide) (hts (.fieldLink RX2 24 "ColourTideModel" "beside" "[I") (List.mem_of_getElem? (i := 1) rfl)) (fun _ h9 => h9) rfl dX2_beside_19 ?_
        refine lv_iload hx hb dX2_beside_22 (lv_at hl 4 rfl) ?_
        refine z_iald hx hb hK hP 4 0 rfl rfl (4 * c0 + i) (rfl) (by omega) (by decide) dX2_beside_24 ?_
        refine z_topi (y := bV (nbr wn hn c0 i)) (bI_at wn hn (by omega)) ?_
        refine lv_iconst (v := (-1)) hx hb dX2_beside_25 (by decide) ?_
        suffices j_50 : ∀ v_50 : Int32, v_50 = (nI (bN (nb1 wn hn (fun d => decide (K0 d = j0)) c0 i))) → W p l e rmX2_beside s m args below meth c H locs 0 0 Q (F0 m 50 ls [.int v_50, .int (nI (ps wn hn (fun d => decide (K0 d = j0)) c0 i))]) by
          refine lv_icmp_eq (tgt := 49) hx hb dX2_beside_26 (by decide) (fun c_26 => ?_) (fun c_26 => ?_)
          · skip
            refine lv_iconst (v := 0) hx hb dX2_beside_49 (by decide) ?_
            exact j_50 _ (by rw [nb1_none (bV_none c_26 (fun d e => by have := nbr_lt hc e; omega))]; rfl)
          · skip
            obtain ⟨d, ed⟩ := bV_some c_26
            have hd := nbr_lt hc ed
            have hd4 := hK4 d
            refine lv_aload_n hx hb dX2_beside_29 rfl (lv_at hl 0 rfl) ?_
            refine va_get (D := (dC, dI)) (ci := 2) (v := .ref a1) (C := RX2) (T := TX2) (N := 14) hx hb hts iX2_beside_X2 hown hK hP 0 rfl rfl 5 (by decide) (hts (.fieldLink RX2 13 "ColourTideModel" "colours" "[I") (List.mem_of_getElem? (i := 2) rfl)) (fun _ h9 => h9) rfl dX2_beside_30 ?_
            refine lv_aload_n hx hb dX2_beside_33 rfl (lv_at hl 0 rfl) ?_
            refine va_get (D := (dC, dI)) (ci := 2) (v := .ref a4) (C := RX2) (T := TX2) (N := 14) hx hb hts iX2_beside_X2 hown hK hP 0 rfl rfl 8 (by decide) (hts (.fieldLink RX2 24 "ColourTideModel" "beside" "[I") (List.mem_of_getElem? (i := 1) rfl)) (fun _ h9 => h9) rfl dX2_beside_34 ?_
            refine lv_iload hx hb dX2_beside_37 (lv_at hl 4 rfl) ?_
            refine z_iald hx hb hK hP 4 0 rfl rfl (4 * c0 + i) (rfl) (by omega) (by decide) dX2_beside_39 ?_
            refine z_topi (y := nI d) (by rw [bI_at wn hn (by omega), ed]; rfl) ?_
            refine z_iald hx hb hK hP 1 0 rfl rfl d (rfl) (by omega) (by decide) dX2_beside_40 ?_
            refine z_topi (y := nI (K0 d)) (rfl) ?_
            refine lv_iload_n hx hb dX2_beside_41 rfl (lv_at hl 2 rfl) ?_
            refine lv_icmp_ne (tgt := 49) hx hb dX2_beside_42 (by decide) (fun c_42 => ?_) (fun c_42 => ?_)
            · skip
              have n_42 := zc_eq_f (a := (K0 d)) (b := j0) (by omega) (by omega) c_42
              refine lv_iconst (v := 0) hx hb dX2_beside_49 (by decide) ?_
              exact j_50 _ (by rw [nb1_some ed, decide_eq_false n_42]; rfl)
            · skip
              have n_42 := zc_eq_t (a := (K0 d)) (b := j0) (by omega) (by omega) c_42
              refine lv_iconst (v := 1) hx hb dX2_beside_45 (by decide) ?_
              refine lv_goto (tgt := 50) hx hb dX2_beside_46 (by decide) ?_
              exact j_50 _ (by rw [nb1_some ed, decide_eq_true n_42]; rfl)
        intro v_50 h_v_50
        refine lv_iadd hx hb dX2_beside_50 ?_
        refine z_topi (y := nI (ps wn hn (fun d => decide (K0 d = j0)) c0 (i + 1))) (by rw [h_v_50]; exact nI_add _ _) ?_
        refine lv_istore_n (lv' := [(3, .int (nI (ps wn hn (fun d => decide (K0 d = j0)) c0 (i + 1)))), (0, .ref m0), (1, .int (nI c0)), (2, .int (nI j0)), (4, .int (nI (4 * c0 + i)))]) hx hb dX2_beside_51 rfl hl (by decide) rfl (fun ls hl => ?_)
        refine lv_iinc (v := nI ((4 * c0 + i) + 1)) (lv' := [(4, .int (nI ((4 * c0 + i) + 1))), (3, .int (nI (ps wn hn (fun d => decide (K0 d = j0)) c0 (i + 1)))), (0, .ref m0), (1, .int (nI c0)), (2, .int (nI j0))]) hx hb dX2_beside_52 hl (k := 4) rfl (nI_1 (4 * c0 + i)) (by decide) rfl (fun ls hl => ?_)
        refine lv_goto (tgt := 7) hx hb dX2_beside_55 (by decide) ?_
        exact ih_7 (i + 1) (by omega)  _ _ _ hP hD hS (lv_sub hl [2, 3, 4, 1, 0] rfl)
  exact loop_7 4 0 (by omega)  _ _ _ hP hD hS (lv_sub hl [2, 3, 4, 1, 0] rfl)
abbrev rmX2_nextOf : Room := { frames := 1, cells := 0, slots := 0, locals := 24 }
set_option maxRecDepth 20000 in
theorem iX2_nextOf_X2 : ∀ w ∈ wsX20, w ∈ wsX2_nextOf := fun w h => (goodIn_r (big := wsX2_nextOf) wsX20 [10, 11, 12, 13, 14, 15, 16, 17, 18, 19, 20, 21, 22, 23] (by decide +kernel) (by decide +kernel) w h).1
set_option maxHeartbeats 4000000 in
set_option maxRecDepth 100000 in
theorem m_X2_nextOf (l : Launch) (dC : Nat → ClassId) (dI : Nat → Nat → Nat) (cI cZ cJ cD : ClassId) (m0 : Nat) (a1 : Nat) (a2 : Nat) (a3 : Nat) (a4 : Nat) (a5 : Nat) (a6 : Nat) (a7 : Nat) (a8 : Nat) (th : Int32) (wn : Nat) (hn : Nat) (q0 : Nat) (wv : Int32) (K0 : Nat → Nat) (NX : Nat → Int32) (T0 : Nat → Bool) (KP : Nat → Int32) (RG : Nat → Int32) (SZ : Nat → Int32) (LN : Nat → Int32) (mn : Int32) (c0 : Nat) (g : gok wn hn) (hK4 : ∀ c, K0 c ≤ 4) (hq : 1 ≤ q0 ∧ q0 ≤ 4) (hc : c0 < wn * hn) : zI l (dC, dI) (wT cI cZ cJ cD) yX2_nextOf wsX2_nextOf rmX2_nextOf [(m0, .inr (2, [.int th, .int (nI wn), .int (nI hn), .int (nI q0), .int wv, .ref a1, .ref a2, .ref a3, .ref a4, .ref a5, .ref a6, .ref a7, .ref a8, .int mn])), (a1, .inl (cI, 25, .inl (kI K0))), (a2, .inl (cI, 25, .inl NX)), (a3, .inl (cZ, 25, .inl (zB T0))), (a4, .inl (cI, 100, .inl (bI wn hn))), (a5, .inl (cI, 25, .inl KP)), (a6, .inl (cI, 25, .inl RG)), (a7, .inl (cI, 26, .inl SZ)), (a8, .inl (cI, 25, .inl LN))] [.ref m0, .int (nI c0)] (fun (_ : Unit) => [(m0, .inr (2, [.int th, .int (nI wn), .int (nI hn), .int (nI q0), .int wv, .ref a1, .ref a2, .ref a3, .ref a4, .ref a5, .ref a6, .ref a7, .ref a8, .int mn])), (a1, .inl (cI, 25, .inl (kI K0))), (a2, .inl (cI, 25, .inl NX)), (a3, .inl (cZ, 25, .inl (zB T0))), (a4, .inl (cI, 100, .inl (bI wn hn))), (a5, .inl (cI, 25, .inl KP)), (a6, .inl (cI, 25, .inl RG)), (a7, .inl (cI, 26, .inl SZ)), (a8, .inl (cI, 25, .inl LN))]) (fun (r : Int32) (_ : Unit) => r = nI (nxt wn hn q0 T0 K0 c0)) := by
  intro sz
  refine Met.ofW (cc := cX2_nextOf) (maxL := 7) (ret := (some .int)) (by decide) rfl ?_
  intro p e s m args below meth c s₁ B hml hv
  obtain ⟨ha, hsz, hP, hK, hD0, hN⟩ := hv
  have hx := B.exec
  have hb := B.bytes
  have hr := B.returns
  have hts := atoms_spec (ws := wsX2_nextOf) B.pre
  have hown : s.vm.findClass RX2 = some m.cls := findClass_of_methodNamed B.named
  have hlocks := B.notSynchronized
  subst hsz
  have hD := hD0.self (sz := s.heap.size)
  generalize hAe : va_A [(m0, .inr (2, [.int th, .int (nI wn), .int (nI hn), .int (nI q0), .int wv, .ref a1, .ref a2, .ref a3, .ref a4, .ref a5, .ref a6, .ref a7, .ref a8, .int mn])), (a1, .inl (cI, 25, .inl (kI K0))), (a2, .inl (cI, 25, .inl NX)), (a3, .inl (cZ, 25, .inl (zB T0))), (a4, .inl (cI, 100, .inl (bI wn hn))), (a5, .inl (cI, 25, .inl KP)), (a6, .inl (cI, 25, .inl RG)), (a7, .inl (cI, 26, .inl SZ)), (a8, .inl (cI, 25, .inl LN))] s.heap.size = A at hD ⊢
  have hA : ∀ q : Nat, s.heap.size ≤ q → A q := fun q h => by rw [← hAe]; exact Or.inr h
  have hS : va_S A s.heap s.heap [] := va_S.rf
  generalize hQ : MQ below (va_Qi (fun (r : Int32) (_ : Unit) => r = nI (nxt wn hn q0 T0 K0 c0)) (fun u t => va_P (dC, dI) vwCl ((fun (_ : Unit) => [(m0, .inr (2, [.int th, .int (nI wn), .int (nI hn), .int (nI q0), .int wv, .ref a1, .ref a2, .ref a3, .ref a4, .ref a5, .ref a6, .ref a7, .ref a8, .int mn])), (a1, .inl (cI, 25, .inl (kI K0))), (a2, .inl (cI, 25, .inl NX)), (a3, .inl (cZ, 25, .inl (zB T0))), (a4, .inl (cI, 100, .inl (bI wn hn))), (a5, .inl (cI, 25, .inl KP)), (a6, .inl (cI, 25, .inl RG)), (a7, .inl (cI, 26, .inl SZ)), (a8, .inl (cI, 25, .inl LN))]) u) t.heap) A) args s 0 0 A = Q
  have F9 : CallFix p m c cX2_nextOf 7 s args wsX2_nextOf RX2 := ⟨hx, hb, hml, hown, hts⟩
  obtain ⟨g1, g2, g3, g4⟩ := id g
  have g5 := wh_le g
  have g6 := wh_pos g
  refine z_entry (R := rmX2_nextOf) ha (Nat.le_of_ble_eq_true rfl) (fun ls hl => ?_)
  have hl : lv_has ls 7 [(0, .ref m0), (1, .int (nI c0))] := hl
  refine lv_aload_n hx hb dX2_nextOf_0 rfl (lv_at hl 0 rfl) ?_
  refine va_get (D := (dC, dI)) (ci := 2) (v := .ref a3) (C := RX2) (T := TX2) (N := 14) hx hb hts iX2_nextOf_X2 hown hK hP 0 rfl rfl 7 (by decide) (hts (.fieldLink RX2 20 "ColourTideModel" "stubborn" "[Z") (List.mem_of_getElem? (i := 1) rfl)) (fun _ h9 => h9) rfl dX2_nextOf_1 ?_
  refine lv_iload_n hx hb dX2_nextOf_4 rfl (lv_at hl 1 rfl) ?_
  refine z_zald hx hb hK hP 3 1 rfl rfl c0 (rfl) (by omega) (by decide) dX2_nextOf_5 ?_
  refine z_topi (y := bz (T0 c0)) (rfl) ?_
  refine lv_if_eq (tgt := 16) hx hb dX2_nextOf_6 (by decide) (fun c_6 => ?_) (fun c_6 => ?_)
  · skip
    refine lv_iconst (v := 0) hx hb dX2_nextOf_16 (by decide) ?_
    refine lv_istore_n (lv' := [(2, .int 0), (0, .ref m0), (1, .int (nI c0))]) hx hb dX2_nextOf_17 rfl hl (by decide) rfl (fun ls hl => ?_)
    refine lv_aload_n hx hb dX2_nextOf_18 rfl (lv_at hl 1 rfl) ?_
    refine va_get (D := (dC, dI)) (ci := 2) (v := .int (nI q0)) (C := RX2) (T := TX2) (N := 14) hx hb hts iX2_nextOf_X2 hown hK hP 0 rfl rfl 3 (by decide) (hts (.fieldLink RX2 7 "ColourTideModel" "need" "I") (List.mem_of_getElem? (i := 3) rfl)) (fun _ h9 => h9) rfl dX2_nextOf_19 ?_
    refine lv_iconst (v := 1) hx hb dX2_nextOf_22 (by decide) ?_
    refine lv_isub hx hb dX2_nextOf_23 ?_
    refine z_topi (y := nI (q0 - 1)) (pk_sub (a := q0) (b := 1) (by omega)) ?_
    refine lv_istore_n (lv' := [(3, .int (nI (q0 - 1))), (2, .int 0), (0, .ref m0), (1, .int (nI c0))]) hx hb dX2_nextOf_24 rfl hl (by decide) rfl (fun ls hl => ?_)
    refine lv_iconst (v := 0) hx hb dX2_nextOf_25 (by decide) ?_
    refine lv_istore (lv' := [(4, .int 0), (3, .int (nI (q0 - 1))), (2, .int 0), (0, .ref m0), (1, .int (nI c0))]) hx hb dX2_nextOf_26 hl (by decide) rfl (fun ls hl => ?_)
    refine lv_iconst (v := 1) hx hb dX2_nextOf_28 (by decide) ?_
    refine lv_istore (lv' := [(5, .int 1), (4, .int 0), (3, .int (nI (q0 - 1))), (2, .int 0), (0, .ref m0), (1, .int (nI c0))]) hx hb dX2_nextOf_29 hl (by decide) rfl (fun ls hl => ?_)
    have loop_31 : ∀ (n : Nat) (i : Nat) (bb : Nat) (mm : Nat) (al : Bool) (hkn : i + n = 4) (e1 : bb = bestL (cnbs wn hn K0 c0) q0 i) (e2 : mm = mostL (cnbs wn hn K0 c0) q0 i) (e3 : al = aloneL (cnbs wn hn K0 c0) q0 i) (e4 : mm ≤ 4) (e5 : bb ≤ 4) (H : Heap) (locs : List Loc) (ls : Array Slot) (hP : va_P (dC, dI) vwCl [(m0, .inr (2, [.int th, .int (nI wn), .int (nI hn), .int (nI q0), .int wv, .ref a1, .ref a2, .ref a3, .ref a4, .ref a5, .ref a6, .ref a7, .ref a8, .int mn])), (a1, .inl (cI, 25, .inl (kI K0))), (a2, .inl (cI, 25, .inl NX)), (a3, .inl (cZ, 25, .inl (zB T0))), (a4, .inl (cI, 100, .inl (bI wn hn))), (a5, .inl (cI, 25, .inl KP)), (a6, .inl (cI, 25, .inl RG)), (a7, .inl (cI, 26, .inl SZ)), (a8, .inl (cI, 25, .inl LN))] H) (hD : va_D A [(m0, .inr (2, [.int th, .int (nI wn), .int (nI hn), .int (nI q0), .int wv, .ref a1, .ref a2, .ref a3, .ref a4, .ref a5, .ref a6, .ref a7, .ref a8, .int mn])), (a1, .inl (cI, 25, .inl (kI K0))), (a2, .inl (cI, 25, .inl NX)), (a3, .inl (cZ, 25, .inl (zB T0))), (a4, .inl (cI, 100, .inl (bI wn hn))), (a5, .inl (cI, 25, .inl KP)), (a6, .inl (cI, 25, .inl RG)), (a7, .inl (cI, 26, .inl SZ)), (a8, .inl (cI, 25, .inl LN))]) (hS : va_S A s.heap H locs) (hl : lv_has ls 7 [(0, .ref m0), (1, .int (nI c0)), (2, .int (nI bb)), (3, .int (nI mm)), (4, .int (bz al)), (5, .int (nI (i + 1)))]), W p l e rmX2_nextOf s m args below meth c H locs 0 0 Q (F0 m 31 ls []) := by
      intro n
      induction n with
      | zero =>
        intro i bb mm al hkn e1 e2 e3 e4 e5 H locs ls hP hD hS hl
        refine lv_iload hx hb dX2_nextOf_31 (lv_at hl 5 rfl) ?_
        refine lv_iconst (v := 4) hx hb dX2_nextOf_33 (by decide) ?_
        refine lv_icmp_gt (tgt := 79) hx hb dX2_nextOf_34 (by decide) (fun c_34 => ?_) (fun c_34 => ?_)
        · skip
          have n_34 := zc_lt_t (a := 4) (b := (i + 1)) (by omega) (by omega) c_34
          refine lv_iload_n hx hb dX2_nextOf_79 rfl (lv_at hl 2 rfl) ?_
          refine lv_if_le (tgt := 92) hx hb dX2_nextOf_80 (by decide) (fun c_80 => ?_) (fun c_80 => ?_)
          · skip
            have n_80 := zc_le_t (a := bb) (b := 0) (by omega) (by omega) c_80
            have ei : i = 4 := by omega
            refine lv_aload_n hx hb dX2_nextOf_92 rfl (lv_at hl 0 rfl) ?_
            refine va_get (D := (dC, dI)) (ci := 2) (v := .ref a1) (C := RX2) (T := TX2) (N := 14) hx hb hts iX2_nextOf_X2 hown hK hP 0 rfl rfl 5 (by decide) (hts (.fieldLink RX2 13 "ColourTideModel" "colours" "[I") (List.mem_of_getElem? (i := 2) rfl)) (fun _ h9 => h9) rfl dX2_nextOf_93 ?_
            refine lv_iload_n hx hb dX2_nextOf_96 rfl (lv_at hl 1 rfl) ?_
            refine z_iald hx hb hK hP 1 0 rfl rfl c0 (rfl) (by omega) (by decide) dX2_nextOf_97 ?_
            refine z_topi (y := nI (K0 c0)) (rfl) ?_
            rw [← hQ]
            exact z_iret (W1 := (fun (_ : Unit) => [(m0, .inr (2, [.int th, .int (nI wn), .int (nI hn), .int (nI q0), .int wv, .ref a1, .ref a2, .ref a3, .ref a4, .ref a5, .ref a6, .ref a7, .ref a8, .int mn])), (a1, .inl (cI, 25, .inl (kI K0))), (a2, .inl (cI, 25, .inl NX)), (a3, .inl (cZ, 25, .inl (zB T0))), (a4, .inl (cI, 100, .inl (bI wn hn))), (a5, .inl (cI, 25, .inl KP)), (a6, .inl (cI, 25, .inl RG)), (a7, .inl (cI, 26, .inl SZ)), (a8, .inl (cI, 25, .inl LN))])) hx hb hr hlocks hP hS () (rfl) (by rw [nxt_no (bz_0 c_6) (fun q => absurd q.1 (by rw [← ei, ← e1]; omega))]) dX2_nextOf_98
          · skip
            have n_80 := zc_le_f (a := bb) (b := 0) (by omega) (by omega) c_80
            have ei : i = 4 := by omega
            refine lv_iload hx hb dX2_nextOf_83 (lv_at hl 4 rfl) ?_
            refine lv_if_eq (tgt := 92) hx hb dX2_nextOf_85 (by decide) (fun c_85 => ?_) (fun c_85 => ?_)
            · skip
              refine lv_aload_n hx hb dX2_nextOf_92 rfl (lv_at hl 0 rfl) ?_
              refine va_get (D := (dC, dI)) (ci := 2) (v := .ref a1) (C := RX2) (T := TX2) (N := 14) hx hb hts iX2_nextOf_X2 hown hK hP 0 rfl rfl 5 (by decide) (hts (.fieldLink RX2 13 "ColourTideModel" "colours" "[I") (List.mem_of_getElem? (i := 2) rfl)) (fun _ h9 => h9) rfl dX2_nextOf_93 ?_
              refine lv_iload_n hx hb dX2_nextOf_96 rfl (lv_at hl 1 rfl) ?_
              refine z_iald hx hb hK hP 1 0 rfl rfl c0 (rfl) (by omega) (by decide) dX2_nextOf_97 ?_
              refine z_topi (y := nI (K0 c0)) (rfl) ?_
              rw [← hQ]
              exact z_iret (W1 := (fun (_ : Unit) => [(m0, .inr (2, [.int th, .int (nI wn), .int (nI hn), .int (nI q0), .int wv, .ref a1, .ref a2, .ref a3, .ref a4, .ref a5, .ref a6, .ref a7, .ref a8, .int mn])), (a1, .inl (cI, 25, .inl (kI K0))), (a2, .inl (cI, 25, .inl NX)), (a3, .inl (cZ, 25, .inl (zB T0))), (a4, .inl (cI, 100, .inl (bI wn hn))), (a5, .inl (cI, 25, .inl KP)), (a6, .inl (cI, 25, .inl RG)), (a7, .inl (cI, 26, .inl SZ)), (a8, .inl (cI, 25, .inl LN))])) hx hb hr hlocks hP hS () (rfl) (by rw [nxt_no (bz_0 c_6) (fun q => by have q2 := q.2; rw [← ei, ← e3, bz_0 c_85] at q2; cases q2)]) dX2_nextOf_98
            · skip
              refine lv_iload_n hx hb dX2_nextOf_88 rfl (lv_at hl 2 rfl) ?_
              refine lv_goto (tgt := 98) hx hb dX2_nextOf_89 (by decide) ?_
              rw [← hQ]
              exact z_iret (W1 := (fun (_ : Unit) => [(m0, .inr (2, [.int th, .int (nI wn), .int (nI hn), .int (nI q0), .int wv, .ref a1, .ref a2, .ref a3, .ref a4, .ref a5, .ref a6, .ref a7, .ref a8, .int mn])), (a1, .inl (cI, 25, .inl (kI K0))), (a2, .inl (cI, 25, .inl NX)), (a3, .inl (cZ, 25, .inl (zB T0))), (a4, .inl (cI, 100, .inl (bI wn hn))), (a5, .inl (cI, 25, .inl KP)), (a6, .inl (cI, 25, .inl RG)), (a7, .inl (cI, 26, .inl SZ)), (a8, .inl (cI, 25, .inl LN))])) hx hb hr hlocks hP hS () (rfl) (by rw [nxt_win (bz_0 c_6) (by rw [← ei, ← e1]; exact n_80) (by rw [← ei, ← e3]; exact bz_1 c_85), ← ei, ← e1]) dX2_nextOf_98
        · skip
          have n_34 := zc_lt_f (a := 4) (b := (i + 1)) (by omega) (by omega) c_34
          exact absurd n_34 (by omega)
      | succ n ih_31 =>
        intro i bb mm al hkn e1 e2 e3 e4 e5 H locs ls hP hD hS hl
        refine lv_iload hx hb dX2_nextOf_31 (lv_at hl 5 rfl) ?_
        refine lv_iconst (v := 4) hx hb dX2_nextOf_33 (by decide) ?_
        refine lv_icmp_gt (tgt := 79) hx hb dX2_nextOf_34 (by decide) (fun c_34 => ?_) (fun c_34 => ?_)
        · skip
          have n_34 := zc_lt_t (a := 4) (b := (i + 1)) (by omega) (by omega) c_34
          exact absurd n_34 (by omega)
        · skip
          have n_34 := zc_lt_f (a := 4) (b := (i + 1)) (by omega) (by omega) c_34
          refine lv_aload_n hx hb dX2_nextOf_37 rfl (lv_at hl 0 rfl) ?_
          refine lv_iload_n hx hb dX2_nextOf_38 rfl (lv_at hl 1 rfl) ?_
          refine lv_iload hx hb dX2_nextOf_39 (lv_at hl 5 rfl) ?_
          refine z_callVi (As := [.int (nI c0), .int (nI (i + 1))]) (rest := []) F9 (m_X2_beside l dC dI cI cZ cJ cD m0 a1 a2 a3 a4 a5 a6 a7 a8 th wn hn q0 wv K0 NX T0 KP RG SZ LN mn c0 (i + 1) (g) (hK4) (hc) (by omega)) (cwV 2 hts gX2_nextOf_X2_beside rfl rfl rfl (by decide +kernel) ⟨Nat.le_of_ble_eq_true rfl, Nat.le_of_ble_eq_true rfl⟩) hK hN hP hD hS hA [0, 1, 2, 3, 4, 5, 6, 7, 8] rfl rfl (fun _ => rfl) 0 (ci := 2) rfl rfl rfl rfl hl.1 rfl (Nat.le_of_ble_eq_true rfl) dX2_nextOf_41 ⟨Nat.zero_le _, Nat.zero_le _⟩ (fun r_1 u H locs hp_41 hP hD hS => ?_)
          have hP : va_P (dC, dI) vwCl [(m0, .inr (2, [.int th, .int (nI wn), .int (nI hn), .int (nI q0), .int wv, .ref a1, .ref a2, .ref a3, .ref a4, .ref a5, .ref a6, .ref a7, .ref a8, .int mn])), (a1, .inl (cI, 25, .inl (kI K0))), (a2, .inl (cI, 25, .inl NX)), (a3, .inl (cZ, 25, .inl (zB T0))), (a4, .inl (cI, 100, .inl (bI wn hn))), (a5, .inl (cI, 25, .inl KP)), (a6, .inl (cI, 25, .inl RG)), (a7, .inl (cI, 26, .inl SZ)), (a8, .inl (cI, 25, .inl LN))] H := hP
          have hD : va_D A [(m0, .inr (2, [.int th, .int (nI wn), .int (nI hn), .int (nI q0), .int wv, .ref a1, .ref a2, .ref a3, .ref a4, .ref a5, .ref a6, .ref a7, .ref a8, .int mn])), (a1, .inl (cI, 25, .inl (kI K0))), (a2, .inl (cI, 25, .inl NX)), (a3, .inl (cZ, 25, .inl (zB T0))), (a4, .inl (cI, 100, .inl (bI wn hn))), (a5, .inl (cI, 25, .inl KP)), (a6, .inl (cI, 25, .inl RG)), (a7, .inl (cI, 26, .inl SZ)), (a8, .inl (cI, 25, .inl LN))] := hD
          have hp_41 : r_1 = nI (cnbs wn hn K0 c0 (i + 1)) := hp_41
          refine z_topi (y := nI (cnbs wn hn K0 c0 (i + 1))) hp_41 ?_
          refine lv_istore (lv' := [(6, .int (nI (cnbs wn hn K0 c0 (i + 1)))), (0, .ref m0), (1, .int (nI c0)), (2, .int (nI bb)), (3, .int (nI mm)), (4, .int (bz al)), (5, .int (nI (i + 1)))]) hx hb dX2_nextOf_44 hl (by decide) rfl (fun ls hl => ?_)
          refine lv_iload hx hb dX2_nextOf_46 (lv_at hl 0 rfl) ?_
          refine lv_iload_n hx hb dX2_nextOf_48 rfl (lv_at hl 4 rfl) ?_
          refine lv_icmp_le (tgt := 64) hx hb dX2_nextOf_49 (by decide) (fun c_49 => ?_) (fun c_49 => ?_)
          · skip
            have n_49 := zc_le_t (a := (cnbs wn hn K0 c0 (i + 1))) (b := mm) (by have := nbs_le wn hn (fun d => decide (K0 d = i + 1)) c0; have : cnbs wn hn K0 c0 (i + 1) ≤ 4 := this; omega) (by have := nbs_le wn hn (fun d => decide (K0 d = i + 1)) c0; have : cnbs wn hn K0 c0 (i + 1) ≤ 4 := this; omega) c_49
            refine lv_iload hx hb dX2_nextOf_64 (lv_at hl 0 rfl) ?_
            refine lv_iload_n hx hb dX2_nextOf_66 rfl (lv_at hl 4 rfl) ?_
            refine lv_icmp_ne (tgt := 73) hx hb dX2_nextOf_67 (by decide) (fun c_67 => ?_) (fun c_67 => ?_)
            · skip
              have n_67 := zc_eq_f (a := (cnbs wn hn K0 c0 (i + 1))) (b := mm) (by have := nbs_le wn hn (fun d => decide (K0 d = i + 1)) c0; have : cnbs wn hn K0 c0 (i + 1) ≤ 4 := this; omega) (by have := nbs_le wn hn (fun d => decide (K0 d = i + 1)) c0; have : cnbs wn hn K0 c0 (i + 1) ≤ 4 := this; omega) c_67
              refine lv_iinc (v := nI ((i + 1) + 1)) (lv' := [(5, .int (nI ((i + 1) + 1))), (6, .int (nI (cnbs wn hn K0 c0 (i + 1)))), (0, .ref m0), (1, .int (nI c0)), (2, .int (nI bb)), (3, .int (nI mm)), (4, .int (bz al))]) hx hb dX2_nextOf_73 hl (k := 6) rfl (nI_1 (i + 1)) (by decide) rfl (fun ls hl => ?_)
              refine lv_goto (tgt := 31) hx hb dX2_nextOf_76 (by decide) ?_
              exact ih_31 (i + 1) bb mm al (by omega) (by rw [bestL, ← e2, if_neg (by omega)]; exact e1) (by rw [mostL, ← e2, if_neg (by omega)]) (by rw [aloneL, ← e2, if_neg (by omega), if_neg n_67]; exact e3) (e4) (by omega) _ _ _ hP hD hS (lv_sub hl [2, 3, 4, 5, 6, 0] rfl)
            · skip
              have n_67 := zc_eq_t (a := (cnbs wn hn K0 c0 (i + 1))) (b := mm) (by have := nbs_le wn hn (fun d => decide (K0 d = i + 1)) c0; have : cnbs wn hn K0 c0 (i + 1) ≤ 4 := this; omega) (by have := nbs_le wn hn (fun d => decide (K0 d = i + 1)) c0; have : cnbs wn hn K0 c0 (i + 1) ≤ 4 := this; omega) c_67
              refine lv_iconst (v := 0) hx hb dX2_nextOf_70 (by decide) ?_
              refine lv_istore (lv' := [(4, .int 0), (6, .int (nI (cnbs wn hn K0 c0 (i + 1)))), (0, .ref m0), (1, .int (nI c0)), (2, .int (nI bb)), (3, .int (nI mm)), (5, .int (nI (i + 1)))]) hx hb dX2_nextOf_71 hl (by decide) rfl (fun ls hl => ?_)
              refine lv_iinc (v := nI ((i + 1) + 1)) (lv' := [(5, .int (nI ((i + 1) + 1))), (4, .int 0), (6, .int (nI (cnbs wn hn K0 c0 (i + 1)))), (0, .ref m0), (1, .int (nI c0)), (2, .int (nI bb)), (3, .int (nI mm))]) hx hb dX2_nextOf_73 hl (k := 6) rfl (nI_1 (i + 1)) (by decide) rfl (fun ls hl => ?_)
              refine lv_goto (tgt := 31) hx hb dX2_nextOf_76 (by decide) ?_
              exact ih_31 (i + 1) bb mm false (by omega) (by rw [bestL, ← e2, if_neg (by omega)]; exact e1) (by rw [mostL, ← e2, if_neg (by omega)]) (by rw [aloneL, ← e2, if_neg (by omega), if_pos n_67]) (e4) (by omega) _ _ _ hP hD hS (lv_sub hl [3, 4, 5, 6, 1, 0] rfl)
          · skip
            have n_49 := zc_le_f (a := (cnbs wn hn K0 c0 (i + 1))) (b := mm) (by have := nbs_le wn hn (fun d => decide (K0 d = i + 1)) c0; have : cnbs wn hn K0 c0 (i + 1) ≤ 4 := this; omega) (by have := nbs_le wn hn (fun d => decide (K0 d = i + 1)) c0; have : cnbs wn hn K0 c0 (i + 1) ≤ 4 := this; omega) c_49
            refine lv_iload hx hb dX2_nextOf_52 (lv_at hl 6 rfl) ?_
            refine lv_istore_n (lv' := [(2, .int (nI (i + 1))), (6, .int (nI (cnbs wn hn K0 c0 (i + 1)))), (0, .ref m0), (1, .int (nI c0)), (3, .int (nI mm)), (4, .int (bz al)), (5, .int (nI (i + 1)))]) hx hb dX2_nextOf_54 rfl hl (by decide) rfl (fun ls hl => ?_)
            refine lv_iload hx hb dX2_nextOf_55 (lv_at hl 1 rfl) ?_
            refine lv_istore_n (lv' := [(3, .int (nI (cnbs wn hn K0 c0 (i + 1)))), (2, .int (nI (i + 1))), (6, .int (nI (cnbs wn hn K0 c0 (i + 1)))), (0, .ref m0), (1, .int (nI c0)), (4, .int (bz al)), (5, .int (nI (i + 1)))]) hx hb dX2_nextOf_57 rfl hl (by decide) rfl (fun ls hl => ?_)
            refine lv_iconst (v := 1) hx hb dX2_nextOf_58 (by decide) ?_
            refine lv_istore (lv' := [(4, .int 1), (3, .int (nI (cnbs wn hn K0 c0 (i + 1)))), (2, .int (nI (i + 1))), (6, .int (nI (cnbs wn hn K0 c0 (i + 1)))), (0, .ref m0), (1, .int (nI c0)), (5, .int (nI (i + 1)))]) hx hb dX2_nextOf_59 hl (by decide) rfl (fun ls hl => ?_)
            refine lv_goto (tgt := 73) hx hb dX2_nextOf_61 (by decide) ?_
            refine lv_iinc (v := nI ((i + 1) + 1)) (lv' := [(5, .int (nI ((i + 1) + 1))), (4, .int 1), (3, .int (nI (cnbs wn hn K0 c0 (i + 1)))), (2, .int (nI (i + 1))), (6, .int (nI (cnbs wn hn K0 c0 (i + 1)))), (0, .ref m0), (1, .int (nI c0))]) hx hb dX2_nextOf_73 hl (k := 6) rfl (nI_1 (i + 1)) (by decide) rfl (fun ls hl => ?_)
            refine lv_goto (tgt := 31) hx hb dX2_nextOf_76 (by decide) ?_
            exact ih_31 (i + 1) (i + 1) (cnbs wn hn K0 c0 (i + 1)) true (by omega) (by rw [bestL, ← e2, if_pos n_49]) (by rw [mostL, ← e2, if_pos n_49]) (by rw [aloneL, ← e2, if_pos n_49]) (nbs_le _ _ _ _) (by omega) _ _ _ hP hD hS (lv_sub hl [5, 6, 3, 2, 1, 0] rfl)
    exact loop_31 4 0 0 (q0 - 1) false (by omega) (rfl) (rfl) (rfl) (by omega) (by omega) _ _ _ hP hD hS (lv_sub hl [4, 5, 3, 2, 1, 0] rfl)
  · skip
    refine lv_aload_n hx hb dX2_nextOf_9 rfl (lv_at hl 0 rfl) ?_
    refine va_get (D := (dC, dI)) (ci := 2) (v := .ref a1) (C := RX2) (T := TX2) (N := 14) hx hb hts iX2_nextOf_X2 hown hK hP 0 rfl rfl 5 (by decide) (hts (.fieldLink RX2 13 "ColourTideModel" "colours" "[I") (List.mem_of_getElem? (i := 2) rfl)) (fun _ h9 => h9) rfl dX2_nextOf_10 ?_
    refine lv_iload_n hx hb dX2_nextOf_13 rfl (lv_at hl 1 rfl) ?_
    refine z_iald hx hb hK hP 1 0 rfl rfl c0 (rfl) (by omega) (by decide) dX2_nextOf_14 ?_
    refine z_topi (y := nI (K0 c0)) (rfl) ?_
    rw [← hQ]
    exact z_iret (W1 := (fun (_ : Unit) => [(m0, .inr (2, [.int th, .int (nI wn), .int (nI hn), .int (nI q0), .int wv, .ref a1, .ref a2, .ref a3, .ref a4, .ref a5, .ref a6, .ref a7, .ref a8, .int mn])), (a1, .inl (cI, 25, .inl (kI K0))), (a2, .inl (cI, 25, .inl NX)), (a3, .inl (cZ, 25, .inl (zB T0))), (a4, .inl (cI, 100, .inl (bI wn hn))), (a5, .inl (cI, 25, .inl KP)), (a6, .inl (cI, 25, .inl RG)), (a7, .inl (cI, 26, .inl SZ)), (a8, .inl (cI, 25, .inl LN))])) hx hb hr hlocks hP hS () (rfl) (by rw [nxt_t (bz_1 c_6)]) dX2_nextOf_15
abbrev rmX2_wave : Room := { frames := 2, cells := 0, slots := 0, locals := 50 }
set_option maxRecDepth 20000 in
theorem iX2_wave_X2 : ∀ w ∈ wsX20, w ∈ wsX2_wave := fun w h => (goodIn_r (big := wsX2_wave) wsX20 [25, 26, 27, 28, 29, 30, 31, 32, 33, 34, 35, 36, 37, 38] (by decide +kernel) (by decide +kernel) w h).1
set_option maxHeartbeats 4000000 in
set_option maxRecDepth 100000 in
theorem m_X2_wave (l : Launch) (dC : Nat → ClassId) (dI : Nat → Nat → Nat) (cI cZ cJ cD : ClassId) (m0 : Nat) (a1 : Nat) (a2 : Nat) (a3 : Nat) (a4 : Nat) (a5 : Nat) (a6 : Nat) (a7 : Nat) (a8 : Nat) (th : Int32) (wn : Nat) (hn : Nat) (q0 : Nat) (wv : Int32) (K0 : Nat → Nat) (NX : Nat → Int32) (T0 : Nat → Bool) (KP : Nat → Int32) (RG : Nat → Int32) (SZ : Nat → Int32) (LN : Nat → Int32) (mn : Int32) (g : gok wn hn) (hK4 : ∀ c, K0 c ≤ 4) (hq : 1 ≤ q0 ∧ q0 ≤ 4) : zI l (dC, dI) (wT cI cZ cJ cD) yX2_wave wsX2_wave rmX2_wave [(m0, .inr (2, [.int th, .int (nI wn), .int (nI hn), .int (nI q0), .int wv, .ref a1, .ref a2, .ref a3, .ref a4, .ref a5, .ref a6, .ref a7, .ref a8, .int mn])), (a1, .inl (cI, 25, .inl (kI K0))), (a2, .inl (cI, 25, .inl NX)), (a3, .inl (cZ, 25, .inl (zB T0))), (a4, .inl (cI, 100, .inl (bI wn hn))), (a5, .inl (cI, 25, .inl KP)), (a6, .inl (cI, 25, .inl RG)), (a7, .inl (cI, 26, .inl SZ)), (a8, .inl (cI, 25, .inl LN))] [.ref m0] (fun (u : (Nat → Int32)) => [(m0, .inr (2, [.int th, .int (nI wn), .int (nI hn), .int (nI q0), .int wv, .ref a1, .ref a2, .ref a3, .ref a4, .ref a5, .ref a6, .ref a7, .ref a8, .int mn])), (a1, .inl (cI, 25, .inl (kI (wav wn hn q0 T0 K0)))), (a2, .inl (cI, 25, .inl u)), (a3, .inl (cZ, 25, .inl (zB T0))), (a4, .inl (cI, 100, .inl (bI wn hn))), (a5, .inl (cI, 25, .inl KP)), (a6, .inl (cI, 25, .inl RG)), (a7, .inl (cI, 26, .inl SZ)), (a8, .inl (cI, 25, .inl LN))]) (fun (r : Int32) (u : (Nat → Int32)) => r = nI (chg wn hn q0 T0 K0)) := by
  intro sz
  refine Met.ofW (cc := cX2_wave) (maxL := 3) (ret := (some .int)) (by decide) rfl ?_
  intro p e s m args below meth c s₁ B hml hv
  obtain ⟨ha, hsz, hP, hK, hD0, hN⟩ := hv
  have hx := B.exec
  have hb := B.bytes
  have hr := B.returns
  have hts := atoms_spec (ws := wsX2_wave) B.pre
  have hown : s.vm.findClass RX2 = some m.cls := findClass_of_methodNamed B.named
  have hlocks := B.notSynchronized
  subst hsz
  have hD := hD0.self (sz := s.heap.size)
  generalize hAe : va_A [(m0, .inr (2, [.int th, .int (nI wn), .int (nI hn), .int (nI q0), .int wv, .ref a1, .ref a2, .ref a3, .ref a4, .ref a5, .ref a6, .ref a7, .ref a8, .int mn])), (a1, .inl (cI, 25, .inl (kI K0))), (a2, .inl (cI, 25, .inl NX)), (a3, .inl (cZ, 25, .inl (zB T0))), (a4, .inl (cI, 100, .inl (bI wn hn))), (a5, .inl (cI, 25, .inl KP)), (a6, .inl (cI, 25, .inl RG)), (a7, .inl (cI, 26, .inl SZ)), (a8, .inl (cI, 25, .inl LN))] s.heap.size = A at hD ⊢
  have hA : ∀ q : Nat, s.heap.size ≤ q → A q := fun q h => by rw [← hAe]; exact Or.inr h
  have hS : va_S A s.heap s.heap [] := va_S.rf
  generalize hQ : MQ below (va_Qi (fun (r : Int32) (u : (Nat → Int32)) => r = nI (chg wn hn q0 T0 K0)) (fun u t => va_P (dC, dI) vwCl ((fun (u : (Nat → Int32)) => [(m0, .inr (2, [.int th, .int (nI wn), .int (nI hn), .int (nI q0), .int wv, .ref a1, .ref a2, .ref a3, .ref a4, .ref a5, .ref a6, .ref a7, .ref a8, .int mn])), (a1, .inl (cI, 25, .inl (kI (wav wn hn q0 T0 K0)))), (a2, .inl (cI, 25, .inl u)), (a3, .inl (cZ, 25, .inl (zB T0))), (a4, .inl (cI, 100, .inl (bI wn hn))), (a5, .inl (cI, 25, .inl KP)), (a6, .inl (cI, 25, .inl RG)), (a7, .inl (cI, 26, .inl SZ)), (a8, .inl (cI, 25, .inl LN))]) u) t.heap) A) args s 0 0 A = Q
  have F9 : CallFix p m c cX2_wave 3 s args wsX2_wave RX2 := ⟨hx, hb, hml, hown, hts⟩
  obtain ⟨g1, g2, g3, g4⟩ := id g
  have g5 := wh_le g
  have g6 := wh_pos g
  refine z_entry (R := rmX2_wave) ha (Nat.le_of_ble_eq_true rfl) (fun ls hl => ?_)
  have hl : lv_has ls 3 [(0, .ref m0)] := hl
  refine lv_iconst (v := 0) hx hb dX2_wave_0 (by decide) ?_
  refine lv_istore_n (lv' := [(1, .int 0), (0, .ref m0)]) hx hb dX2_wave_1 rfl hl (by decide) rfl (fun ls hl => ?_)
  refine lv_iconst (v := 0) hx hb dX2_wave_2 (by decide) ?_
  refine lv_istore_n (lv' := [(2, .int 0), (1, .int 0), (0, .ref m0)]) hx hb dX2_wave_3 rfl hl (by decide) rfl (fun ls hl => ?_)
  have loop_4 : ∀ (n : Nat) (cq : Nat) (hkn : cq + n = wn * hn) (H : Heap) (locs : List Loc) (ls : Array Slot) (hP : va_P (dC, dI) vwCl [(m0, .inr (2, [.int th, .int (nI wn), .int (nI hn), .int (nI q0), .int wv, .ref a1, .ref a2, .ref a3, .ref a4, .ref a5, .ref a6, .ref a7, .ref a8, .int mn])), (a1, .inl (cI, 25, .inl (kI K0))), (a2, .inl (cI, 25, .inl (zfill (kI (nxt wn hn q0 T0 K0)) NX cq))), (a3, .inl (cZ, 25, .inl (zB T0))), (a4, .inl (cI, 100, .inl (bI wn hn))), (a5, .inl (cI, 25, .inl KP)), (a6, .inl (cI, 25, .inl RG)), (a7, .inl (cI, 26, .inl SZ)), (a8, .inl (cI, 25, .inl LN))] H) (hD : va_D A [(m0, .inr (2, [.int th, .int (nI wn), .int (nI hn), .int (nI q0), .int wv, .ref a1, .ref a2, .ref a3, .ref a4, .ref a5, .ref a6, .ref a7, .ref a8, .int mn])), (a1, .inl (cI, 25, .inl (kI K0))), (a2, .inl (cI, 25, .inl (zfill (kI (nxt wn hn q0 T0 K0)) NX cq))), (a3, .inl (cZ, 25, .inl (zB T0))), (a4, .inl (cI, 100, .inl (bI wn hn))), (a5, .inl (cI, 25, .inl KP)), (a6, .inl (cI, 25, .inl RG)), (a7, .inl (cI, 26, .inl SZ)), (a8, .inl (cI, 25, .inl LN))]) (hS : va_S A s.heap H locs) (hl : lv_has ls 3 [(0, .ref m0), (1, .int (nI (chgN wn hn q0 T0 K0 cq))), (2, .int (nI cq))]), W p l e rmX2_wave s m args below meth c H locs 0 0 Q (F0 m 4 ls []) := by
    intro n
    induction n with
    | zero =>
      intro cq hkn  H locs ls hP hD hS hl
      refine lv_iload_n hx hb dX2_wave_4 rfl (lv_at hl 2 rfl) ?_
      refine lv_aload_n hx hb dX2_wave_5 rfl (lv_at hl 0 rfl) ?_
      refine z_callVi (As := []) (rest := [.int (nI cq)]) F9 (m_X2_cells l dC dI cI cZ cJ cD m0 a1 a2 a3 a4 a5 a6 a7 a8 th wn hn q0 wv K0 (zfill (kI (nxt wn hn q0 T0 K0)) NX cq) T0 KP RG SZ LN mn ) (cwV 0 hts gX2_wave_X2_cells rfl rfl rfl (by decide +kernel) ⟨Nat.le_of_ble_eq_true rfl, Nat.le_of_ble_eq_true rfl⟩) hK hN hP hD hS hA [0, 1, 2, 3, 4, 5, 6, 7, 8] rfl rfl (fun _ => rfl) 0 (ci := 2) rfl rfl rfl rfl hl.1 rfl (Nat.le_of_ble_eq_true rfl) dX2_wave_6 ⟨Nat.zero_le _, Nat.zero_le _⟩ (fun r_1 u H locs hp_6 hP hD hS => ?_)
      have hP : va_P (dC, dI) vwCl [(m0, .inr (2, [.int th, .int (nI wn), .int (nI hn), .int (nI q0), .int wv, .ref a1, .ref a2, .ref a3, .ref a4, .ref a5, .ref a6, .ref a7, .ref a8, .int mn])), (a1, .inl (cI, 25, .inl (kI K0))), (a2, .inl (cI, 25, .inl (zfill (kI (nxt wn hn q0 T0 K0)) NX cq))), (a3, .inl (cZ, 25, .inl (zB T0))), (a4, .inl (cI, 100, .inl (bI wn hn))), (a5, .inl (cI, 25, .inl KP)), (a6, .inl (cI, 25, .inl RG)), (a7, .inl (cI, 26, .inl SZ)), (a8, .inl (cI, 25, .inl LN))] H := hP
      have hD : va_D A [(m0, .inr (2, [.int th, .int (nI wn), .int (nI hn), .int (nI q0), .int wv, .ref a1, .ref a2, .ref a3, .ref a4, .ref a5, .ref a6, .ref a7, .ref a8, .int mn])), (a1, .inl (cI, 25, .inl (kI K0))), (a2, .inl (cI, 25, .inl (zfill (kI (nxt wn hn q0 T0 K0)) NX cq))), (a3, .inl (cZ, 25, .inl (zB T0))), (a4, .inl (cI, 100, .inl (bI wn hn))), (a5, .inl (cI, 25, .inl KP)), (a6, .inl (cI, 25, .inl RG)), (a7, .inl (cI, 26, .inl SZ)), (a8, .inl (cI, 25, .inl LN))] := hD
      have hp_6 : r_1 = nI (wn * hn) := hp_6
      refine z_topi (y := nI (wn * hn)) hp_6 ?_
      refine lv_icmp_ge (tgt := 52) hx hb dX2_wave_9 (by decide) (fun c_9 => ?_) (fun c_9 => ?_)
      · skip
        have n_9 := zc_le_t (a := (wn * hn)) (b := cq) (by omega) (by omega) c_9
        have ec : cq = wn * hn := by omega
        refine lv_aload_n hx hb dX2_wave_52 rfl (lv_at hl 0 rfl) ?_
        refine va_get (D := (dC, dI)) (ci := 2) (v := .ref a2) (C := RX2) (T := TX2) (N := 14) hx hb hts iX2_wave_X2 hown hK hP 0 rfl rfl 6 (by decide) (hts (.fieldLink RX2 17 "ColourTideModel" "next" "[I") (List.mem_of_getElem? (i := 1) rfl)) (fun _ h9 => h9) rfl dX2_wave_53 ?_
        refine lv_iconst (v := 0) hx hb dX2_wave_56 (by decide) ?_
        refine lv_aload_n hx hb dX2_wave_57 rfl (lv_at hl 0 rfl) ?_
        refine va_get (D := (dC, dI)) (ci := 2) (v := .ref a1) (C := RX2) (T := TX2) (N := 14) hx hb hts iX2_wave_X2 hown hK hP 0 rfl rfl 5 (by decide) (hts (.fieldLink RX2 13 "ColourTideModel" "colours" "[I") (List.mem_of_getElem? (i := 2) rfl)) (fun _ h9 => h9) rfl dX2_wave_58 ?_
        refine lv_iconst (v := 0) hx hb dX2_wave_61 (by decide) ?_
        refine lv_aload_n hx hb dX2_wave_62 rfl (lv_at hl 0 rfl) ?_
        refine z_callVi (As := []) (rest := [.int 0, .ref a1, .int 0, .ref a2]) F9 (m_X2_cells l dC dI cI cZ cJ cD m0 a1 a2 a3 a4 a5 a6 a7 a8 th wn hn q0 wv K0 (zfill (kI (nxt wn hn q0 T0 K0)) NX cq) T0 KP RG SZ LN mn ) (cwV 0 hts gX2_wave_X2_cells rfl rfl rfl (by decide +kernel) ⟨Nat.le_of_ble_eq_true rfl, Nat.le_of_ble_eq_true rfl⟩) hK hN hP hD hS hA [0, 1, 2, 3, 4, 5, 6, 7, 8] rfl rfl (fun _ => rfl) 0 (ci := 2) rfl rfl rfl rfl hl.1 rfl (Nat.le_of_ble_eq_true rfl) dX2_wave_63 ⟨Nat.zero_le _, Nat.zero_le _⟩ (fun r_2 u H locs hp_63 hP hD hS => ?_)
        have hP : va_P (dC, dI) vwCl [(m0, .inr (2, [.int th, .int (nI wn), .int (nI hn), .int (nI q0), .int wv, .ref a1, .ref a2, .ref a3, .ref a4, .ref a5, .ref a6, .ref a7, .ref a8, .int mn])), (a1, .inl (cI, 25, .inl (kI K0))), (a2, .inl (cI, 25, .inl (zfill (kI (nxt wn hn q0 T0 K0)) NX cq))), (a3, .inl (cZ, 25, .inl (zB T0))), (a4, .inl (cI, 100, .inl (bI wn hn))), (a5, .inl (cI, 25, .inl KP)), (a6, .inl (cI, 25, .inl RG)), (a7, .inl (cI, 26, .inl SZ)), (a8, .inl (cI, 25, .inl LN))] H := hP
        have hD : va_D A [(m0, .inr (2, [.int th, .int (nI wn), .int (nI hn), .int (nI q0), .int wv, .ref a1, .ref a2, .ref a3, .ref a4, .ref a5, .ref a6, .ref a7, .ref a8, .int mn])), (a1, .inl (cI, 25, .inl (kI K0))), (a2, .inl (cI, 25, .inl (zfill (kI (nxt wn hn q0 T0 K0)) NX cq))), (a3, .inl (cZ, 25, .inl (zB T0))), (a4, .inl (cI, 100, .inl (bI wn hn))), (a5, .inl (cI, 25, .inl KP)), (a6, .inl (cI, 25, .inl RG)), (a7, .inl (cI, 26, .inl SZ)), (a8, .inl (cI, 25, .inl LN))] := hD
        have hp_63 : r_2 = nI (wn * hn) := hp_63
        refine z_topi (y := nI (wn * hn)) hp_63 ?_
        refine z_copy hx hb (by rw [hml]; exact hl.1.symm) hown (hts (.methodLink RX2 59 arraycopyName) (List.mem_of_getElem? (i := 3) rfl)) (hts (.native arraycopyName) (List.mem_of_getElem? (i := 4) rfl)) (hts (.static arraycopyName) (List.mem_of_getElem? (i := 5) rfl)) (hts (.initialized "java/lang/System") (List.mem_of_getElem? (i := 6) rfl)) hK hP hD hS 2 1 0 0 rfl rfl rfl rfl (wn * hn) (rfl) (⟨by omega, by omega, by omega⟩) (Nat.le_of_ble_eq_true rfl) (Nat.le_of_ble_eq_true rfl) dX2_wave_66 (fun H locs hP hD hS => ?_)
        have hP : va_P (dC, dI) vwCl [(m0, .inr (2, [.int th, .int (nI wn), .int (nI hn), .int (nI q0), .int wv, .ref a1, .ref a2, .ref a3, .ref a4, .ref a5, .ref a6, .ref a7, .ref a8, .int mn])), (a1, .inl (cI, 25, .inl (zfill (zfill (kI (nxt wn hn q0 T0 K0)) NX cq) (kI K0) (wn * hn)))), (a2, .inl (cI, 25, .inl (zfill (kI (nxt wn hn q0 T0 K0)) NX cq))), (a3, .inl (cZ, 25, .inl (zB T0))), (a4, .inl (cI, 100, .inl (bI wn hn))), (a5, .inl (cI, 25, .inl KP)), (a6, .inl (cI, 25, .inl RG)), (a7, .inl (cI, 26, .inl SZ)), (a8, .inl (cI, 25, .inl LN))] H := hP
        have hD : va_D A [(m0, .inr (2, [.int th, .int (nI wn), .int (nI hn), .int (nI q0), .int wv, .ref a1, .ref a2, .ref a3, .ref a4, .ref a5, .ref a6, .ref a7, .ref a8, .int mn])), (a1, .inl (cI, 25, .inl (zfill (zfill (kI (nxt wn hn q0 T0 K0)) NX cq) (kI K0) (wn * hn)))), (a2, .inl (cI, 25, .inl (zfill (kI (nxt wn hn q0 T0 K0)) NX cq))), (a3, .inl (cZ, 25, .inl (zB T0))), (a4, .inl (cI, 100, .inl (bI wn hn))), (a5, .inl (cI, 25, .inl KP)), (a6, .inl (cI, 25, .inl RG)), (a7, .inl (cI, 26, .inl SZ)), (a8, .inl (cI, 25, .inl LN))] := hD
        have hP := z_ren hP 1 rfl (kI (wav wn hn q0 T0 K0)) (fun j hj => by rw [ec]; exact congrFun (wav_fill wn hn q0 T0 K0 NX) j)
        have hP : va_P (dC, dI) vwCl [(m0, .inr (2, [.int th, .int (nI wn), .int (nI hn), .int (nI q0), .int wv, .ref a1, .ref a2, .ref a3, .ref a4, .ref a5, .ref a6, .ref a7, .ref a8, .int mn])), (a1, .inl (cI, 25, .inl (kI (wav wn hn q0 T0 K0)))), (a2, .inl (cI, 25, .inl (zfill (kI (nxt wn hn q0 T0 K0)) NX cq))), (a3, .inl (cZ, 25, .inl (zB T0))), (a4, .inl (cI, 100, .inl (bI wn hn))), (a5, .inl (cI, 25, .inl KP)), (a6, .inl (cI, 25, .inl RG)), (a7, .inl (cI, 26, .inl SZ)), (a8, .inl (cI, 25, .inl LN))] H := hP
        have hD : va_D A [(m0, .inr (2, [.int th, .int (nI wn), .int (nI hn), .int (nI q0), .int wv, .ref a1, .ref a2, .ref a3, .ref a4, .ref a5, .ref a6, .ref a7, .ref a8, .int mn])), (a1, .inl (cI, 25, .inl (kI (wav wn hn q0 T0 K0)))), (a2, .inl (cI, 25, .inl (zfill (kI (nxt wn hn q0 T0 K0)) NX cq))), (a3, .inl (cZ, 25, .inl (zB T0))), (a4, .inl (cI, 100, .inl (bI wn hn))), (a5, .inl (cI, 25, .inl KP)), (a6, .inl (cI, 25, .inl RG)), (a7, .inl (cI, 26, .inl SZ)), (a8, .inl (cI, 25, .inl LN))] := zD2 hD rfl
        refine lv_iload_n hx hb dX2_wave_69 rfl (lv_at hl 1 rfl) ?_
        rw [← hQ]
        exact z_iret (W1 := (fun (u : (Nat → Int32)) => [(m0, .inr (2, [.int th, .int (nI wn), .int (nI hn), .int (nI q0), .int wv, .ref a1, .ref a2, .ref a3, .ref a4, .ref a5, .ref a6, .ref a7, .ref a8, .int mn])), (a1, .inl (cI, 25, .inl (kI (wav wn hn q0 T0 K0)))), (a2, .inl (cI, 25, .inl u)), (a3, .inl (cZ, 25, .inl (zB T0))), (a4, .inl (cI, 100, .inl (bI wn hn))), (a5, .inl (cI, 25, .inl KP)), (a6, .inl (cI, 25, .inl RG)), (a7, .inl (cI, 26, .inl SZ)), (a8, .inl (cI, 25, .inl LN))])) hx hb hr hlocks hP hS (zfill (kI (nxt wn hn q0 T0 K0)) NX cq) (rfl) (by rw [ec]; rfl) dX2_wave_70
      · skip
        have n_9 := zc_le_f (a := (wn * hn)) (b := cq) (by omega) (by omega) c_9
        exact absurd n_9 (by omega)
    | succ n ih_4 =>
      intro cq hkn  H locs ls hP hD hS hl
      refine lv_iload_n hx hb dX2_wave_4 rfl (lv_at hl 2 rfl) ?_
      refine lv_aload_n hx hb dX2_wave_5 rfl (lv_at hl 0 rfl) ?_
      refine z_callVi (As := []) (rest := [.int (nI cq)]) F9 (m_X2_cells l dC dI cI cZ cJ cD m0 a1 a2 a3 a4 a5 a6 a7 a8 th wn hn q0 wv K0 (zfill (kI (nxt wn hn q0 T0 K0)) NX cq) T0 KP RG SZ LN mn ) (cwV 0 hts gX2_wave_X2_cells rfl rfl rfl (by decide +kernel) ⟨Nat.le_of_ble_eq_true rfl, Nat.le_of_ble_eq_true rfl⟩) hK hN hP hD hS hA [0, 1, 2, 3, 4, 5, 6, 7, 8] rfl rfl (fun _ => rfl) 0 (ci := 2) rfl rfl rfl rfl hl.1 rfl (Nat.le_of_ble_eq_true rfl) dX2_wave_6 ⟨Nat.zero_le _, Nat.zero_le _⟩ (fun r_3 u H locs hp_6 hP hD hS => ?_)
      have hP : va_P (dC, dI) vwCl [(m0, .inr (2, [.int th, .int (nI wn), .int (nI hn), .int (nI q0), .int wv, .ref a1, .ref a2, .ref a3, .ref a4, .ref a5, .ref a6, .ref a7, .ref a8, .int mn])), (a1, .inl (cI, 25, .inl (kI K0))), (a2, .inl (cI, 25, .inl (zfill (kI (nxt wn hn q0 T0 K0)) NX cq))), (a3, .inl (cZ, 25, .inl (zB T0))), (a4, .inl (cI, 100, .inl (bI wn hn))), (a5, .inl (cI, 25, .inl KP)), (a6, .inl (cI, 25, .inl RG)), (a7, .inl (cI, 26, .inl SZ)), (a8, .inl (cI, 25, .inl LN))] H := hP
      have hD : va_D A [(m0, .inr (2, [.int th, .int (nI wn), .int (nI hn), .int (nI q0), .int wv, .ref a1, .ref a2, .ref a3, .ref a4, .ref a5, .ref a6, .ref a7, .ref a8, .int mn])), (a1, .inl (cI, 25, .inl (kI K0))), (a2, .inl (cI, 25, .inl (zfill (kI (nxt wn hn q0 T0 K0)) NX cq))), (a3, .inl (cZ, 25, .inl (zB T0))), (a4, .inl (cI, 100, .inl (bI wn hn))), (a5, .inl (cI, 25, .inl KP)), (a6, .inl (cI, 25, .inl RG)), (a7, .inl (cI, 26, .inl SZ)), (a8, .inl (cI, 25, .inl LN))] := hD
      have hp_6 : r_3 = nI (wn * hn) := hp_6
      refine z_topi (y := nI (wn * hn)) hp_6 ?_
      refine lv_icmp_ge (tgt := 52) hx hb dX2_wave_9 (by decide) (fun c_9 => ?_) (fun c_9 => ?_)
      · skip
        have n_9 := zc_le_t (a := (wn * hn)) (b := cq) (by omega) (by omega) c_9
        exact absurd n_9 (by omega)
      · skip
        have n_9 := zc_le_f (a := (wn * hn)) (b := cq) (by omega) (by omega) c_9
        refine lv_aload_n hx hb dX2_wave_12 rfl (lv_at hl 0 rfl) ?_
        refine va_get (D := (dC, dI)) (ci := 2) (v := .ref a2) (C := RX2) (T := TX2) (N := 14) hx hb hts iX2_wave_X2 hown hK hP 0 rfl rfl 6 (by decide) (hts (.fieldLink RX2 17 "ColourTideModel" "next" "[I") (List.mem_of_getElem? (i := 1) rfl)) (fun _ h9 => h9) rfl dX2_wave_13 ?_
        refine lv_iload_n hx hb dX2_wave_16 rfl (lv_at hl 2 rfl) ?_
        refine lv_aload_n hx hb dX2_wave_17 rfl (lv_at hl 0 rfl) ?_
        refine lv_iload_n hx hb dX2_wave_18 rfl (lv_at hl 2 rfl) ?_
        refine z_callVi (As := [.int (nI cq)]) (rest := [.int (nI cq), .ref a2]) F9 (m_X2_nextOf l dC dI cI cZ cJ cD m0 a1 a2 a3 a4 a5 a6 a7 a8 th wn hn q0 wv K0 (zfill (kI (nxt wn hn q0 T0 K0)) NX cq) T0 KP RG SZ LN mn cq (g) (hK4) (hq) (by omega)) (cwV 1 hts gX2_wave_X2_nextOf rfl rfl rfl (by decide +kernel) ⟨Nat.le_of_ble_eq_true rfl, Nat.le_of_ble_eq_true rfl⟩) hK hN hP hD hS hA [0, 1, 2, 3, 4, 5, 6, 7, 8] rfl rfl (fun _ => rfl) 0 (ci := 2) rfl rfl rfl rfl hl.1 rfl (Nat.le_of_ble_eq_true rfl) dX2_wave_19 ⟨Nat.zero_le _, Nat.zero_le _⟩ (fun r_4 u H locs hp_19 hP hD hS => ?_)
        have hP : va_P (dC, dI) vwCl [(m0, .inr (2, [.int th, .int (nI wn), .int (nI hn), .int (nI q0), .int wv, .ref a1, .ref a2, .ref a3, .ref a4, .ref a5, .ref a6, .ref a7, .ref a8, .int mn])), (a1, .inl (cI, 25, .inl (kI K0))), (a2, .inl (cI, 25, .inl (zfill (kI (nxt wn hn q0 T0 K0)) NX cq))), (a3, .inl (cZ, 25, .inl (zB T0))), (a4, .inl (cI, 100, .inl (bI wn hn))), (a5, .inl (cI, 25, .inl KP)), (a6, .inl (cI, 25, .inl RG)), (a7, .inl (cI, 26, .inl SZ)), (a8, .inl (cI, 25, .inl LN))] H := hP
        have hD : va_D A [(m0, .inr (2, [.int th, .int (nI wn), .int (nI hn), .int (nI q0), .int wv, .ref a1, .ref a2, .ref a3, .ref a4, .ref a5, .ref a6, .ref a7, .ref a8, .int mn])), (a1, .inl (cI, 25, .inl (kI K0))), (a2, .inl (cI, 25, .inl (zfill (kI (nxt wn hn q0 T0 K0)) NX cq))), (a3, .inl (cZ, 25, .inl (zB T0))), (a4, .inl (cI, 100, .inl (bI wn hn))), (a5, .inl (cI, 25, .inl KP)), (a6, .inl (cI, 25, .inl RG)), (a7, .inl (cI, 26, .inl SZ)), (a8, .inl (cI, 25, .inl LN))] := hD
        have hp_19 : r_4 = nI (nxt wn hn q0 T0 K0 cq) := hp_19
        refine z_topi (y := nI (nxt wn hn q0 T0 K0 cq)) hp_19 ?_
        refine z_iast hx hb hK hP hD hS 2 0 rfl rfl cq (rfl) (by omega) (by decide) dX2_wave_22 (fun H locs hP hD hS => ?_)
        have hP : va_P (dC, dI) vwCl [(m0, .inr (2, [.int th, .int (nI wn), .int (nI hn), .int (nI q0), .int wv, .ref a1, .ref a2, .ref a3, .ref a4, .ref a5, .ref a6, .ref a7, .ref a8, .int mn])), (a1, .inl (cI, 25, .inl (kI K0))), (a2, .inl (cI, 25, .inl (upd (zfill (kI (nxt wn hn q0 T0 K0)) NX cq) cq (nI (nxt wn hn q0 T0 K0 cq))))), (a3, .inl (cZ, 25, .inl (zB T0))), (a4, .inl (cI, 100, .inl (bI wn hn))), (a5, .inl (cI, 25, .inl KP)), (a6, .inl (cI, 25, .inl RG)), (a7, .inl (cI, 26, .inl SZ)), (a8, .inl (cI, 25, .inl LN))] H := hP
        have hD : va_D A [(m0, .inr (2, [.int th, .int (nI wn), .int (nI hn), .int (nI q0), .int wv, .ref a1, .ref a2, .ref a3, .ref a4, .ref a5, .ref a6, .ref a7, .ref a8, .int mn])), (a1, .inl (cI, 25, .inl (kI K0))), (a2, .inl (cI, 25, .inl (upd (zfill (kI (nxt wn hn q0 T0 K0)) NX cq) cq (nI (nxt wn hn q0 T0 K0 cq))))), (a3, .inl (cZ, 25, .inl (zB T0))), (a4, .inl (cI, 100, .inl (bI wn hn))), (a5, .inl (cI, 25, .inl KP)), (a6, .inl (cI, 25, .inl RG)), (a7, .inl (cI, 26, .inl SZ)), (a8, .inl (cI, 25, .inl LN))] := hD
        have e_22 : upd (zfill (kI (nxt wn hn q0 T0 K0)) NX cq) cq (nI (nxt wn hn q0 T0 K0 cq)) = zfill (kI (nxt wn hn q0 T0 K0)) NX (cq + 1) := zfill_succ (kI (nxt wn hn q0 T0 K0)) NX cq
        rw [e_22] at hP hD
        refine lv_iload_n hx hb dX2_wave_23 rfl (lv_at hl 1 rfl) ?_
        refine lv_aload_n hx hb dX2_wave_24 rfl (lv_at hl 0 rfl) ?_
        refine va_get (D := (dC, dI)) (ci := 2) (v := .ref a2) (C := RX2) (T := TX2) (N := 14) hx hb hts iX2_wave_X2 hown hK hP 0 rfl rfl 6 (by decide) (hts (.fieldLink RX2 17 "ColourTideModel" "next" "[I") (List.mem_of_getElem? (i := 1) rfl)) (fun _ h9 => h9) rfl dX2_wave_25 ?_
        refine lv_iload_n hx hb dX2_wave_28 rfl (lv_at hl 2 rfl) ?_
        refine z_iald hx hb hK hP 2 0 rfl rfl cq (rfl) (by omega) (by decide) dX2_wave_29 ?_
        refine z_topi (y := nI (nxt wn hn q0 T0 K0 cq)) (zfill_in (Nat.lt_succ_self cq)) ?_
        refine lv_aload_n hx hb dX2_wave_30 rfl (lv_at hl 0 rfl) ?_
        refine va_get (D := (dC, dI)) (ci := 2) (v := .ref a1) (C := RX2) (T := TX2) (N := 14) hx hb hts iX2_wave_X2 hown hK hP 0 rfl rfl 5 (by decide) (hts (.fieldLink RX2 13 "ColourTideModel" "colours" "[I") (List.mem_of_getElem? (i := 2) rfl)) (fun _ h9 => h9) rfl dX2_wave_31 ?_
        refine lv_iload_n hx hb dX2_wave_34 rfl (lv_at hl 2 rfl) ?_
        refine z_iald hx hb hK hP 1 0 rfl rfl cq (rfl) (by omega) (by decide) dX2_wave_35 ?_
        refine z_topi (y := nI (K0 cq)) (rfl) ?_
        suffices j_44 : ∀ v_44 : Int32, v_44 = (nI (if decide (nxt wn hn q0 T0 K0 cq ≠ K0 cq) = true then 1 else 0)) → W p l e rmX2_wave s m args below meth c H locs 0 0 Q (F0 m 44 ls [.int v_44, .int (nI (chgN wn hn q0 T0 K0 cq))]) by
          refine lv_icmp_ne (tgt := 43) hx hb dX2_wave_36 (by decide) (fun c_36 => ?_) (fun c_36 => ?_)
          · skip
            have n_36 := zc_eq_f (a := (nxt wn hn q0 T0 K0 cq)) (b := (K0 cq)) (by have := nxt_le (w := wn) (h := hn) (T := T0) hq.1 hK4 cq; have := hK4 cq; omega) (by have := nxt_le (w := wn) (h := hn) (T := T0) hq.1 hK4 cq; have := hK4 cq; omega) c_36
            refine lv_iconst (v := 1) hx hb dX2_wave_43 (by decide) ?_
            exact j_44 _ (by rw [ite_dec n_36]; rfl)
          · skip
            have n_36 := zc_eq_t (a := (nxt wn hn q0 T0 K0 cq)) (b := (K0 cq)) (by have := nxt_le (w := wn) (h := hn) (T := T0) hq.1 hK4 cq; have := hK4 cq; omega) (by have := nxt_le (w := wn) (h := hn) (T := T0) hq.1 hK4 cq; have := hK4 cq; omega) c_36
            refine lv_iconst (v := 0) hx hb dX2_wave_39 (by decide) ?_
            refine lv_goto (tgt := 44) hx hb dX2_wave_40 (by decide) ?_
            exact j_44 _ (by rw [ite_dec0 (fun q => q n_36)]; rfl)
        intro v_44 h_v_44
        refine lv_iadd hx hb dX2_wave_44 ?_
        refine z_topi (y := nI (chgN wn hn q0 T0 K0 (cq + 1))) (by rw [h_v_44]; exact nI_add _ _) ?_
        refine lv_istore_n (lv' := [(1, .int (nI (chgN wn hn q0 T0 K0 (cq + 1)))), (0, .ref m0), (2, .int (nI cq))]) hx hb dX2_wave_45 rfl hl (by decide) rfl (fun ls hl => ?_)
        refine lv_iinc (v := nI (cq + 1)) (lv' := [(2, .int (nI (cq + 1))), (1, .int (nI (chgN wn hn q0 T0 K0 (cq + 1)))), (0, .ref m0)]) hx hb dX2_wave_46 hl (k := 2) rfl (nI_1 cq) (by decide) rfl (fun ls hl => ?_)
        refine lv_goto (tgt := 4) hx hb dX2_wave_49 (by decide) ?_
        exact ih_4 (cq + 1) (by omega)  _ _ _ hP hD hS (lv_sub hl [2, 1, 0] rfl)
  rw [← zfill_0 (kI (nxt wn hn q0 T0 K0)) NX] at hP hD
  exact loop_4 (wn * hn) 0 (by omega)  _ _ _ hP hD hS (lv_sub hl [2, 1, 0] rfl)
abbrev rmX2_cellsWith : Room := { frames := 1, cells := 0, slots := 0, locals := 20 }
set_option maxRecDepth 20000 in
theorem iX2_cellsWith_X2 : ∀ w ∈ wsX20, w ∈ wsX2_cellsWith := fun w h => (goodIn_r (big := wsX2_cellsWith) wsX20 [9, 10, 11, 12, 13, 14, 15, 16, 17, 18, 19, 20, 21, 22] (by decide +kernel) (by decide +kernel) w h).1
set_option maxHeartbeats 4000000 in
set_option maxRecDepth 100000 in
theorem m_X2_cellsWith (l : Launch) (dC : Nat → ClassId) (dI : Nat → Nat → Nat) (cI cZ cJ cD : ClassId) (m0 : Nat) (a1 : Nat) (a2 : Nat) (a3 : Nat) (a4 : Nat) (a5 : Nat) (a6 : Nat) (a7 : Nat) (a8 : Nat) (th : Int32) (wn : Nat) (hn : Nat) (q0 : Nat) (wv : Int32) (K0 : Nat → Nat) (NX : Nat → Int32) (T0 : Nat → Bool) (KP : Nat → Int32) (RG : Nat → Int32) (SZ : Nat → Int32) (LN : Nat → Int32) (mn : Int32) (j0 : Nat) (g : gok wn hn) (hK4 : ∀ c, K0 c ≤ 4) (hj0 : j0 < 1000) : zI l (dC, dI) (wT cI cZ cJ cD) yX2_cellsWith wsX2_cellsWith rmX2_cellsWith [(m0, .inr (2, [.int th, .int (nI wn), .int (nI hn), .int (nI q0), .int wv, .ref a1, .ref a2, .ref a3, .ref a4, .ref a5, .ref a6, .ref a7, .ref a8, .int mn])), (a1, .inl (cI, 25, .inl (kI K0))), (a2, .inl (cI, 25, .inl NX)), (a3, .inl (cZ, 25, .inl (zB T0))), (a4, .inl (cI, 100, .inl (bI wn hn))), (a5, .inl (cI, 25, .inl KP)), (a6, .inl (cI, 25, .inl RG)), (a7, .inl (cI, 26, .inl SZ)), (a8, .inl (cI, 25, .inl LN))] [.ref m0, .int (nI j0)] (fun (_ : Unit) => [(m0, .inr (2, [.int th, .int (nI wn), .int (nI hn), .int (nI q0), .int wv, .ref a1, .ref a2, .ref a3, .ref a4, .ref a5, .ref a6, .ref a7, .ref a8, .int mn])), (a1, .inl (cI, 25, .inl (kI K0))), (a2, .inl (cI, 25, .inl NX)), (a3, .inl (cZ, 25, .inl (zB T0))), (a4, .inl (cI, 100, .inl (bI wn hn))), (a5, .inl (cI, 25, .inl KP)), (a6, .inl (cI, 25, .inl RG)), (a7, .inl (cI, 26, .inl SZ)), (a8, .inl (cI, 25, .inl LN))]) (fun (r : Int32) (_ : Unit) => r = nI (ccN K0 j0 (wn * hn))) := by
  intro sz
  refine Met.ofW (cc := cX2_cellsWith) (maxL := 4) (ret := (some .int)) (by decide) rfl ?_
  intro p e s m args below meth c s₁ B hml hv
  obtain ⟨ha, hsz, hP, hK, hD0, hN⟩ := hv
  have hx := B.exec
  have hb := B.bytes
  have hr := B.returns
  have hts := atoms_spec (ws := wsX2_cellsWith) B.pre
  have hown : s.vm.findClass RX2 = some m.cls := findClass_of_methodNamed B.named
  have hlocks := B.notSynchronized
  subst hsz
  have hD := hD0.self (sz := s.heap.size)
  generalize hAe : va_A [(m0, .inr (2, [.int th, .int (nI wn), .int (nI hn), .int (nI q0), .int wv, .ref a1, .ref a2, .ref a3, .ref a4, .ref a5, .ref a6, .ref a7, .ref a8, .int mn])), (a1, .inl (cI, 25, .inl (kI K0))), (a2, .inl (cI, 25, .inl NX)), (a3, .inl (cZ, 25, .inl (zB T0))), (a4, .inl (cI, 100, .inl (bI wn hn))), (a5, .inl (cI, 25, .inl KP)), (a6, .inl (cI, 25, .inl RG)), (a7, .inl (cI, 26, .inl SZ)), (a8, .inl (cI, 25, .inl LN))] s.heap.size = A at hD ⊢
  have hA : ∀ q : Nat, s.heap.size ≤ q → A q := fun q h => by rw [← hAe]; exact Or.inr h
  have hS : va_S A s.heap s.heap [] := va_S.rf
  generalize hQ : MQ below (va_Qi (fun (r : Int32) (_ : Unit) => r = nI (ccN K0 j0 (wn * hn))) (fun u t => va_P (dC, dI) vwCl ((fun (_ : Unit) => [(m0, .inr (2, [.int th, .int (nI wn), .int (nI hn), .int (nI q0), .int wv, .ref a1, .ref a2, .ref a3, .ref a4, .ref a5, .ref a6, .ref a7, .ref a8, .int mn])), (a1, .inl (cI, 25, .inl (kI K0))), (a2, .inl (cI, 25, .inl NX)), (a3, .inl (cZ, 25, .inl (zB T0))), (a4, .inl (cI, 100, .inl (bI wn hn))), (a5, .inl (cI, 25, .inl KP)), (a6, .inl (cI, 25, .inl RG)), (a7, .inl (cI, 26, .inl SZ)), (a8, .inl (cI, 25, .inl LN))]) u) t.heap) A) args s 0 0 A = Q
  have F9 : CallFix p m c cX2_cellsWith 4 s args wsX2_cellsWith RX2 := ⟨hx, hb, hml, hown, hts⟩
  obtain ⟨g1, g2, g3, g4⟩ := id g
  have g5 := wh_le g
  have g6 := wh_pos g
  refine z_entry (R := rmX2_cellsWith) ha (Nat.le_of_ble_eq_true rfl) (fun ls hl => ?_)
  have hl : lv_has ls 4 [(0, .ref m0), (1, .int (nI j0))] := hl
  refine lv_iconst (v := 0) hx hb dX2_cellsWith_0 (by decide) ?_
  refine lv_istore_n (lv' := [(2, .int 0), (0, .ref m0), (1, .int (nI j0))]) hx hb dX2_cellsWith_1 rfl hl (by decide) rfl (fun ls hl => ?_)
  refine lv_iconst (v := 0) hx hb dX2_cellsWith_2 (by decide) ?_
  refine lv_istore_n (lv' := [(3, .int 0), (2, .int 0), (0, .ref m0), (1, .int (nI j0))]) hx hb dX2_cellsWith_3 rfl hl (by decide) rfl (fun ls hl => ?_)
  have loop_4 : ∀ (n : Nat) (cq : Nat) (hkn : cq + n = wn * hn) (H : Heap) (locs : List Loc) (ls : Array Slot) (hP : va_P (dC, dI) vwCl [(m0, .inr (2, [.int th, .int (nI wn), .int (nI hn), .int (nI q0), .int wv, .ref a1, .ref a2, .ref a3, .ref a4, .ref a5, .ref a6, .ref a7, .ref a8, .int mn])), (a1, .inl (cI, 25, .inl (kI K0))), (a2, .inl (cI, 25, .inl NX)), (a3, .inl (cZ, 25, .inl (zB T0))), (a4, .inl (cI, 100, .inl (bI wn hn))), (a5, .inl (cI, 25, .inl KP)), (a6, .inl (cI, 25, .inl RG)), (a7, .inl (cI, 26, .inl SZ)), (a8, .inl (cI, 25, .inl LN))] H) (hD : va_D A [(m0, .inr (2, [.int th, .int (nI wn), .int (nI hn), .int (nI q0), .int wv, .ref a1, .ref a2, .ref a3, .ref a4, .ref a5, .ref a6, .ref a7, .ref a8, .int mn])), (a1, .inl (cI, 25, .inl (kI K0))), (a2, .inl (cI, 25, .inl NX)), (a3, .inl (cZ, 25, .inl (zB T0))), (a4, .inl (cI, 100, .inl (bI wn hn))), (a5, .inl (cI, 25, .inl KP)), (a6, .inl (cI, 25, .inl RG)), (a7, .inl (cI, 26, .inl SZ)), (a8, .inl (cI, 25, .inl LN))]) (hS : va_S A s.heap H locs) (hl : lv_has ls 4 [(0, .ref m0), (1, .int (nI j0)), (2, .int (nI (ccN K0 j0 cq))), (3, .int (nI cq))]), W p l e rmX2_cellsWith s m args below meth c H locs 0 0 Q (F0 m 4 ls []) := by
    intro n
    induction n with
    | zero =>
      intro cq hkn  H locs ls hP hD hS hl
      refine lv_iload_n hx hb dX2_cellsWith_4 rfl (lv_at hl 3 rfl) ?_
      refine lv_aload_n hx hb dX2_cellsWith_5 rfl (lv_at hl 0 rfl) ?_
      refine z_callVi (As := []) (rest := [.int (nI cq)]) F9 (m_X2_cells l dC dI cI cZ cJ cD m0 a1 a2 a3 a4 a5 a6 a7 a8 th wn hn q0 wv K0 NX T0 KP RG SZ LN mn ) (cwV 0 hts gX2_cellsWith_X2_cells rfl rfl rfl (by decide +kernel) ⟨Nat.le_of_ble_eq_true rfl, Nat.le_of_ble_eq_true rfl⟩) hK hN hP hD hS hA [0, 1, 2, 3, 4, 5, 6, 7, 8] rfl rfl (fun _ => rfl) 0 (ci := 2) rfl rfl rfl rfl hl.1 rfl (Nat.le_of_ble_eq_true rfl) dX2_cellsWith_6 ⟨Nat.zero_le _, Nat.zero_le _⟩ (fun r_1 u H locs hp_6 hP hD hS => ?_)
      have hP : va_P (dC, dI) vwCl [(m0, .inr (2, [.int th, .int (nI wn), .int (nI hn), .int (nI q0), .int wv, .ref a1, .ref a2, .ref a3, .ref a4, .ref a5, .ref a6, .ref a7, .ref a8, .int mn])), (a1, .inl (cI, 25, .inl (kI K0))), (a2, .inl (cI, 25, .inl NX)), (a3, .inl (cZ, 25, .inl (zB T0))), (a4, .inl (cI, 100, .inl (bI wn hn))), (a5, .inl (cI, 25, .inl KP)), (a6, .inl (cI, 25, .inl RG)), (a7, .inl (cI, 26, .inl SZ)), (a8, .inl (cI, 25, .inl LN))] H := hP
      have hD : va_D A [(m0, .inr (2, [.int th, .int (nI wn), .int (nI hn), .int (nI q0), .int wv, .ref a1, .ref a2, .ref a3, .ref a4, .ref a5, .ref a6, .ref a7, .ref a8, .int mn])), (a1, .inl (cI, 25, .inl (kI K0))), (a2, .inl (cI, 25, .inl NX)), (a3, .inl (cZ, 25, .inl (zB T0))), (a4, .inl (cI, 100, .inl (bI wn hn))), (a5, .inl (cI, 25, .inl KP)), (a6, .inl (cI, 25, .inl RG)), (a7, .inl (cI, 26, .inl SZ)), (a8, .inl (cI, 25, .inl LN))] := hD
      have hp_6 : r_1 = nI (wn * hn) := hp_6
      refine z_topi (y := nI (wn * hn)) hp_6 ?_
      refine lv_icmp_ge (tgt := 36) hx hb dX2_cellsWith_9 (by decide) (fun c_9 => ?_) (fun c_9 => ?_)
      · skip
        have n_9 := zc_le_t (a := (wn * hn)) (b := cq) (by omega) (by omega) c_9
        refine lv_iload_n hx hb dX2_cellsWith_36 rfl (lv_at hl 2 rfl) ?_
        rw [← hQ]
        exact z_iret (W1 := (fun (_ : Unit) => [(m0, .inr (2, [.int th, .int (nI wn), .int (nI hn), .int (nI q0), .int wv, .ref a1, .ref a2, .ref a3, .ref a4, .ref a5, .ref a6, .ref a7, .ref a8, .int mn])), (a1, .inl (cI, 25, .inl (kI K0))), (a2, .inl (cI, 25, .inl NX)), (a3, .inl (cZ, 25, .inl (zB T0))), (a4, .inl (cI, 100, .inl (bI wn hn))), (a5, .inl (cI, 25, .inl KP)), (a6, .inl (cI, 25, .inl RG)), (a7, .inl (cI, 26, .inl SZ)), (a8, .inl (cI, 25, .inl LN))])) hx hb hr hlocks hP hS () (rfl) (by rw [show cq = wn * hn by omega]) dX2_cellsWith_37
      · skip
        have n_9 := zc_le_f (a := (wn * hn)) (b := cq) (by omega) (by omega) c_9
        exact absurd n_9 (by omega)
    | succ n ih_4 =>
      intro cq hkn  H locs ls hP hD hS hl
      refine lv_iload_n hx hb dX2_cellsWith_4 rfl (lv_at hl 3 rfl) ?_
      refine lv_aload_n hx hb dX2_cellsWith_5 rfl (lv_at hl 0 rfl) ?_
      refine z_callVi (As := []) (rest := [.int (nI cq)]) F9 (m_X2_cells l dC dI cI cZ cJ cD m0 a1 a2 a3 a4 a5 a6 a7 a8 th wn hn q0 wv K0 NX T0 KP RG SZ LN mn ) (cwV 0 hts gX2_cellsWith_X2_cells rfl rfl rfl (by decide +kernel) ⟨Nat.le_of_ble_eq_true rfl, Nat.le_of_ble_eq_true rfl⟩) hK hN hP hD hS hA [0, 1, 2, 3, 4, 5, 6, 7, 8] rfl rfl (fun _ => rfl) 0 (ci := 2) rfl rfl rfl rfl hl.1 rfl (Nat.le_of_ble_eq_true rfl) dX2_cellsWith_6 ⟨Nat.zero_le _, Nat.zero_le _⟩ (fun r_2 u H locs hp_6 hP hD hS => ?_)
      have hP : va_P (dC, dI) vwCl [(m0, .inr (2, [.int th, .int (nI wn), .int (nI hn), .int (nI q0), .int wv, .ref a1, .ref a2, .ref a3, .ref a4, .ref a5, .ref a6, .ref a7, .ref a8, .int mn])), (a1, .inl (cI, 25, .inl (kI K0))), (a2, .inl (cI, 25, .inl NX)), (a3, .inl (cZ, 25, .inl (zB T0))), (a4, .inl (cI, 100, .inl (bI wn hn))), (a5, .inl (cI, 25, .inl KP)), (a6, .inl (cI, 25, .inl RG)), (a7, .inl (cI, 26, .inl SZ)), (a8, .inl (cI, 25, .inl LN))] H := hP
      have hD : va_D A [(m0, .inr (2, [.int th, .int (nI wn), .int (nI hn), .int (nI q0), .int wv, .ref a1, .ref a2, .ref a3, .ref a4, .ref a5, .ref a6, .ref a7, .ref a8, .int mn])), (a1, .inl (cI, 25, .inl (kI K0))), (a2, .inl (cI, 25, .inl NX)), (a3, .inl (cZ, 25, .inl (zB T0))), (a4, .inl (cI, 100, .inl (bI wn hn))), (a5, .inl (cI, 25, .inl KP)), (a6, .inl (cI, 25, .inl RG)), (a7, .inl (cI, 26, .inl SZ)), (a8, .inl (cI, 25, .inl LN))] := hD
      have hp_6 : r_2 = nI (wn * hn) := hp_6
      refine z_topi (y := nI (wn * hn)) hp_6 ?_
      refine lv_icmp_ge (tgt := 36) hx hb dX2_cellsWith_9 (by decide) (fun c_9 => ?_) (fun c_9 => ?_)
      · skip
        have n_9 := zc_le_t (a := (wn * hn)) (b := cq) (by omega) (by omega) c_9
        exact absurd n_9 (by omega)
      · skip
        have n_9 := zc_le_f (a := (wn * hn)) (b := cq) (by omega) (by omega) c_9
        refine lv_iload_n hx hb dX2_cellsWith_12 rfl (lv_at hl 2 rfl) ?_
        refine lv_aload_n hx hb dX2_cellsWith_13 rfl (lv_at hl 0 rfl) ?_
        refine va_get (D := (dC, dI)) (ci := 2) (v := .ref a1) (C := RX2) (T := TX2) (N := 14) hx hb hts iX2_cellsWith_X2 hown hK hP 0 rfl rfl 5 (by decide) (hts (.fieldLink RX2 13 "ColourTideModel" "colours" "[I") (List.mem_of_getElem? (i := 1) rfl)) (fun _ h9 => h9) rfl dX2_cellsWith_14 ?_
        refine lv_iload_n hx hb dX2_cellsWith_17 rfl (lv_at hl 3 rfl) ?_
        refine z_iald hx hb hK hP 1 0 rfl rfl cq (rfl) (by omega) (by decide) dX2_cellsWith_18 ?_
        refine z_topi (y := nI (K0 cq)) (rfl) ?_
        refine lv_iload_n hx hb dX2_cellsWith_19 rfl (lv_at hl 1 rfl) ?_
        suffices j_28 : ∀ v_28 : Int32, v_28 = (nI (if decide (K0 cq = j0) = true then 1 else 0)) → W p l e rmX2_cellsWith s m args below meth c H locs 0 0 Q (F0 m 28 ls [.int v_28, .int (nI (ccN K0 j0 cq))]) by
          refine lv_icmp_ne (tgt := 27) hx hb dX2_cellsWith_20 (by decide) (fun c_20 => ?_) (fun c_20 => ?_)
          · skip
            have n_20 := zc_eq_f (a := (K0 cq)) (b := j0) (by have := hK4 cq; omega) (by have := hK4 cq; omega) c_20
            refine lv_iconst (v := 0) hx hb dX2_cellsWith_27 (by decide) ?_
            exact j_28 _ (by rw [ite_dec0 n_20]; rfl)
          · skip
            have n_20 := zc_eq_t (a := (K0 cq)) (b := j0) (by have := hK4 cq; omega) (by have := hK4 cq; omega) c_20
            refine lv_iconst (v := 1) hx hb dX2_cellsWith_23 (by decide) ?_
            refine lv_goto (tgt := 28) hx hb dX2_cellsWith_24 (by decide) ?_
            exact j_28 _ (by rw [ite_dec n_20]; rfl)
        intro v_28 h_v_28
        refine lv_iadd hx hb dX2_cellsWith_28 ?_
        refine z_topi (y := nI (ccN K0 j0 (cq + 1))) (by rw [h_v_28]; exact nI_add _ _) ?_
        refine lv_istore_n (lv' := [(2, .int (nI (ccN K0 j0 (cq + 1)))), (0, .ref m0), (1, .int (nI j0)), (3, .int (nI cq))]) hx hb dX2_cellsWith_29 rfl hl (by decide) rfl (fun ls hl => ?_)
        refine lv_iinc (v := nI (cq + 1)) (lv' := [(3, .int (nI (cq + 1))), (2, .int (nI (ccN K0 j0 (cq + 1)))), (0, .ref m0), (1, .int (nI j0))]) hx hb dX2_cellsWith_30 hl (k := 3) rfl (nI_1 cq) (by decide) rfl (fun ls hl => ?_)
        refine lv_goto (tgt := 4) hx hb dX2_cellsWith_33 (by decide) ?_
        exact ih_4 (cq + 1) (by omega)  _ _ _ hP hD hS (lv_sub hl [2, 3, 1, 0] rfl)
  exact loop_4 (wn * hn) 0 (by omega)  _ _ _ hP hD hS (lv_sub hl [2, 3, 1, 0] rfl)
