abbrev rmL_build : Room := { frames := 6, cells := 13300, slots := 66100, locals := 144 }
set_option maxRecDepth 20000 in
theorem iL_build_X0 : ∀ w ∈ wsX00, w ∈ wsL_build := fun w h => (goodIn_r (big := wsL_build) wsX00 [159, 160, 161, 162, 163, 164] rfl (by decide +kernel) w h).1
set_option maxRecDepth 20000 in
theorem iL_build_X1 : ∀ w ∈ wsX10, w ∈ wsL_build := fun w h => (goodIn_r (big := wsL_build) wsX10 [154, 155, 156, 157, 158] rfl (by decide +kernel) w h).1
set_option maxRecDepth 20000 in
theorem iL_build_X2 : ∀ w ∈ wsX20, w ∈ wsL_build := fun w h => (goodIn_r (big := wsL_build) wsX20 [148, 149, 150, 151, 152, 153] rfl (by decide +kernel) w h).1
set_option maxHeartbeats 4000000 in
set_option maxRecDepth 100000 in
theorem m_L_build (l : Launch) (dC : Nat → ClassId) (dI : Nat → Nat → Nat) (cI cZ cJ cD : ClassId) (b0 L0 : Nat) (xs0 : Nat → Int32) (w : Nat) (h : Nat) (wv : Int32) (T : Nat → Bool) (K : Nat → Nat) (g : va_W) (h0 : Nat) (hg : CT cI w h 2 wv T K h0 g) (hL0 : L0 ≤ 260) : sXR l (dC, dI) (wT cI cZ cJ cD) b0 L0 xs0 yL_build wsL_build rmL_build [g] [.ref h0, .ref b0] (fun (u : va_W × Nat × Nat × Nat × Nat × Int32 × Nat × (Nat → Nat) × (Nat → Nat) × Nat × (Nat → Nat) × (Nat → Bool)) => ([u.1, [(u.2.1, .inr (2, [.int (nI u.2.2.1), .int (nI u.2.2.2.1), .int (nI u.2.2.2.2.1), .int u.2.2.2.2.2.1, .ref u.2.2.2.2.2.2.1, .ref u.2.2.2.2.2.2.2.2.2.1]))], [(u.2.2.2.2.2.2.1, .inl (cJ, u.2.2.1, .inr (.inr (.inr (.inr (gQ u.2.2.1 u.2.2.2.2.2.2.2.1))))))], gB u.2.2.1 u.2.2.2.2.2.2.2.1 cI u.2.2.2.1 (gM u.2.2.1 u.2.2.2.2.2.2.2.2.1), [(u.2.2.2.2.2.2.2.2.2.1, .inl (cD, u.2.2.1, .inr (.inr (.inr (.inr (gQ u.2.2.1 u.2.2.2.2.2.2.2.2.2.2.1))))))], gB u.2.2.1 u.2.2.2.2.2.2.2.2.2.2.1 cZ u.2.2.2.1 (gZ u.2.2.1 u.2.2.2.2.2.2.2.2.2.2.2)] : gW)) (fun (u : va_W × Nat × Nat × Nat × Nat × Int32 × Nat × (Nat → Nat) × (Nat → Nat) × Nat × (Nat → Nat) × (Nat → Bool)) => u.2.1) (fun (u : va_W × Nat × Nat × Nat × Nat × Int32 × Nat × (Nat → Nat) × (Nat → Nat) × Nat × (Nat → Nat) × (Nat → Bool)) => CT cI u.2.2.1 u.2.2.2.1 u.2.2.2.2.1 u.2.2.2.2.2.1 u.2.2.2.2.2.2.2.2.2.2.2 u.2.2.2.2.2.2.2.2.1 h0 u.1 ∧ gok u.2.2.1 u.2.2.2.1 ∧ 1 ≤ u.2.2.2.2.1 ∧ u.2.2.2.2.1 ≤ 4 ∧ ∀ c, u.2.2.2.2.2.2.2.2.1 c ≤ 4) 13300 66100 := by
  intro sz
  refine Met.ofW (cc := cL_build) (maxL := 5) (ret := (some (.object "ColourTideLaw$Sim"))) (by decide) rfl ?_
  intro p e s m args below meth c s₁ B hml hv
  obtain ⟨ha, hsz, hP, hK, hD0, hN, hX, hbl, hbw⟩ := hv
  have hx := B.exec
  have hb := B.bytes
  have hr := B.returns
  have hts := atoms_spec (ws := wsL_build) B.pre
  have hown : s.vm.findClass RL = some m.cls := findClass_of_methodNamed B.named
  have hlocks := B.notSynchronized
  subst hsz
  have hD := hD0.self (sz := s.heap.size)
  generalize hAe : va_A (List.flatten ([g] : gW)) s.heap.size = A at hD ⊢
  have hA : ∀ q : Nat, s.heap.size ≤ q → A q := fun q h => by rw [← hAe]; exact Or.inr h
  have hbA : ¬ A b0 := by rw [← hAe]; exact fun z => (sg_memA.mp z).elim (fun z => hbw z) (fun z => Nat.not_le.mpr hbl z)
  have hS : va_S A s.heap s.heap [] := va_S.rf
  generalize hQ : MQ below (va_Qr (fun (u : va_W × Nat × Nat × Nat × Nat × Int32 × Nat × (Nat → Nat) × (Nat → Nat) × Nat × (Nat → Nat) × (Nat → Bool)) => CT cI u.2.2.1 u.2.2.2.1 u.2.2.2.2.1 u.2.2.2.2.2.1 u.2.2.2.2.2.2.2.2.2.2.2 u.2.2.2.2.2.2.2.2.1 h0 u.1 ∧ gok u.2.2.1 u.2.2.2.1 ∧ 1 ≤ u.2.2.2.2.1 ∧ u.2.2.2.2.1 ≤ 4 ∧ ∀ c, u.2.2.2.2.2.2.2.2.1 c ≤ 4) (fun u ra t => ra = (fun (u : va_W × Nat × Nat × Nat × Nat × Int32 × Nat × (Nat → Nat) × (Nat → Nat) × Nat × (Nat → Nat) × (Nat → Bool)) => u.2.1) u ∧ va_P (dC, dI) vwCl (List.flatten ((fun (u : va_W × Nat × Nat × Nat × Nat × Int32 × Nat × (Nat → Nat) × (Nat → Nat) × Nat × (Nat → Nat) × (Nat → Bool)) => ([u.1, [(u.2.1, .inr (2, [.int (nI u.2.2.1), .int (nI u.2.2.2.1), .int (nI u.2.2.2.2.1), .int u.2.2.2.2.2.1, .ref u.2.2.2.2.2.2.1, .ref u.2.2.2.2.2.2.2.2.2.1]))], [(u.2.2.2.2.2.2.1, .inl (cJ, u.2.2.1, .inr (.inr (.inr (.inr (gQ u.2.2.1 u.2.2.2.2.2.2.2.1))))))], gB u.2.2.1 u.2.2.2.2.2.2.2.1 cI u.2.2.2.1 (gM u.2.2.1 u.2.2.2.2.2.2.2.2.1), [(u.2.2.2.2.2.2.2.2.2.1, .inl (cD, u.2.2.1, .inr (.inr (.inr (.inr (gQ u.2.2.1 u.2.2.2.2.2.2.2.2.2.2.1))))))], gB u.2.2.1 u.2.2.2.2.2.2.2.2.2.2.1 cZ u.2.2.2.1 (gZ u.2.2.1 u.2.2.2.2.2.2.2.2.2.2.2)] : gW)) u)) t.heap ∧ va_D A (List.flatten ((fun (u : va_W × Nat × Nat × Nat × Nat × Int32 × Nat × (Nat → Nat) × (Nat → Nat) × Nat × (Nat → Nat) × (Nat → Bool)) => ([u.1, [(u.2.1, .inr (2, [.int (nI u.2.2.1), .int (nI u.2.2.2.1), .int (nI u.2.2.2.2.1), .int u.2.2.2.2.2.1, .ref u.2.2.2.2.2.2.1, .ref u.2.2.2.2.2.2.2.2.2.1]))], [(u.2.2.2.2.2.2.1, .inl (cJ, u.2.2.1, .inr (.inr (.inr (.inr (gQ u.2.2.1 u.2.2.2.2.2.2.2.1))))))], gB u.2.2.1 u.2.2.2.2.2.2.2.1 cI u.2.2.2.1 (gM u.2.2.1 u.2.2.2.2.2.2.2.2.1), [(u.2.2.2.2.2.2.2.2.2.1, .inl (cD, u.2.2.1, .inr (.inr (.inr (.inr (gQ u.2.2.1 u.2.2.2.2.2.2.2.2.2.2.1))))))], gB u.2.2.1 u.2.2.2.2.2.2.2.2.2.2.1 cZ u.2.2.2.1 (gZ u.2.2.1 u.2.2.2.2.2.2.2.2.2.2.2)] : gW)) u))) A) args s 13300 66100 A = Q
  have F9 : CallFix p m c cL_build 5 s args wsL_build RL := ⟨hx, hb, hml, hown, hts⟩
  refine z_entry (R := rmL_build) ha (Nat.le_of_ble_eq_true rfl) (fun ls hl => ?_)
  have hl : lv_has ls 5 [(0, .ref h0), (1, .ref b0)] := hl
  refine s_new (ci := 2) (fs := [.int 0, .int 0, .int 0, .int 0, .null, .null]) (C := RX2) (T := TX2) (N := 6) hx hb hts iL_build_X2 tyX2 tyX2_ok hown (hts (.classLink RL 10 RX2) (List.mem_of_getElem? (i := 1) rfl)) (hts (.instantiable RX2 6) (List.mem_of_getElem? (i := 2) rfl)) (hts (.initialized RX2) (List.mem_of_getElem? (i := 3) rfl)) hK hP hD hS hA rfl (fun j hj => by rcases (show j = 0 ∨ j = 1 ∨ j = 2 ∨ j = 3 ∨ j = 4 ∨ j = 5 by omega) with rfl | rfl | rfl | rfl | rfl | rfl <;> rfl) (by show 0 + 1 ≤ 13300; omega) (by show 0 + 6 ≤ 66100; omega) dL_build_0 (fun q_0 H hP hD hS => ?_)
  have hP : va_P (dC, dI) vwCl (List.flatten ([g, [(q_0, .inr (2, [.int 0, .int 0, .int 0, .int 0, .null, .null]))]] : gW)) H := hP
  have hD : va_D A (List.flatten ([g, [(q_0, .inr (2, [.int 0, .int 0, .int 0, .int 0, .null, .null]))]] : gW)) := hD
  refine W.widen (k := 1) (n := 6) (by omega) (by omega) ?_
  refine lv_dup hx hb dL_build_3 rfl ?_
  refine lv_iconst (v := 2) hx hb dL_build_4 (by decide) ?_
  refine lv_aload_n hx hb dL_build_5 rfl (lv_at hl 1 rfl) ?_
  refine lv_iconst (v := 0) hx hb dL_build_6 (by decide) ?_
  refine sx_callSi (As := [.ref b0, .int 0]) (rest := [.int 2, .ref q_0, .ref q_0]) F9 (m_L_cell l dC dI cI cZ cJ cD b0 L0 xs0 0 (hL0) (by omega)) (va_cwS 2 hts gL_build_L_cell rfl rfl rfl (by decide +kernel) ⟨Nat.le_of_ble_eq_true rfl, Nat.le_of_ble_eq_true rfl⟩) hK hN hX hbl hbA hP hD hS hA [] [0, 1] 2 rfl rfl (by decide) (fun (_ : Unit) => ([g, [(q_0, .inr (2, [.int 0, .int 0, .int 0, .int 0, .null, .null]))]] : gW)) [] [0, 1] 2 (fun _ => rfl) (fun _ => rfl) (fun _ => rfl) (by decide) rfl hl.1 rfl (Nat.le_of_ble_eq_true rfl) dL_build_7 ⟨by show 1 + 0 ≤ 13300; omega, by show 6 + 0 ≤ 66100; omega⟩ (fun r_7 u H locs hp_7 hP hD hS => ?_)
  have hP : va_P (dC, dI) vwCl (List.flatten ([g, [(q_0, .inr (2, [.int 0, .int 0, .int 0, .int 0, .null, .null]))]] : gW)) H := hP
  have hD : va_D A (List.flatten ([g, [(q_0, .inr (2, [.int 0, .int 0, .int 0, .int 0, .null, .null]))]] : gW)) := hD
  refine lv_iconst (v := 4) hx hb dL_build_10 (by decide) ?_
  refine s_callSi (As := [.int r_7, .int 4]) (rest := [.int 2, .ref q_0, .ref q_0]) F9 (m_L_below l dC dI cI cZ cJ cD r_7 4 (by omega) (by omega)) (va_cwS 2 hts gL_build_L_below rfl rfl rfl (by decide +kernel) ⟨Nat.le_of_ble_eq_true rfl, Nat.le_of_ble_eq_true rfl⟩) hK hN hP hD hS hA [] [0, 1] 2 rfl rfl (by decide) (fun (u : Nat) => ([g, [(q_0, .inr (2, [.int 0, .int 0, .int 0, .int 0, .null, .null]))]] : gW)) [] [0, 1] 2 (fun _ => rfl) (fun _ => rfl) (fun _ => rfl) (by decide) rfl hl.1 rfl (Nat.le_of_ble_eq_true rfl) dL_build_11 ⟨by show 1 + 0 ≤ 13300; omega, by show 6 + 0 ≤ 66100; omega⟩ (fun r_11 u H locs hp_11 hP hD hS => ?_)
  obtain ⟨qa, rfl⟩ : ∃ z, z = u := ⟨_, rfl⟩
  have hP : va_P (dC, dI) vwCl (List.flatten ([g, [(q_0, .inr (2, [.int 0, .int 0, .int 0, .int 0, .null, .null]))]] : gW)) H := hP
  have hD : va_D A (List.flatten ([g, [(q_0, .inr (2, [.int 0, .int 0, .int 0, .int 0, .null, .null]))]] : gW)) := hD
  have hp_11 : r_11 = nI qa ∧ qa < 4 := hp_11
  refine z_topi (y := nI qa) (hp_11.1) ?_
  have hqa := hp_11.2
  refine lv_iadd hx hb dL_build_14 ?_
  refine z_topi (y := nI (2 + qa)) (nI_add 2 qa) ?_
  refine lv_iconst (v := 2) hx hb dL_build_15 (by decide) ?_
  refine lv_aload_n hx hb dL_build_16 rfl (lv_at hl 1 rfl) ?_
  refine lv_iconst (v := 0) hx hb dL_build_17 (by decide) ?_
  refine sx_callSi (As := [.ref b0, .int 0]) (rest := [.int 2, .int (nI (2 + qa)), .ref q_0, .ref q_0]) F9 (m_L_cell l dC dI cI cZ cJ cD b0 L0 xs0 0 (hL0) (by omega)) (va_cwS 2 hts gL_build_L_cell rfl rfl rfl (by decide +kernel) ⟨Nat.le_of_ble_eq_true rfl, Nat.le_of_ble_eq_true rfl⟩) hK hN hX hbl hbA hP hD hS hA [] [0, 1] 2 rfl rfl (by decide) (fun (_ : Unit) => ([g, [(q_0, .inr (2, [.int 0, .int 0, .int 0, .int 0, .null, .null]))]] : gW)) [] [0, 1] 2 (fun _ => rfl) (fun _ => rfl) (fun _ => rfl) (by decide) rfl hl.1 rfl (Nat.le_of_ble_eq_true rfl) dL_build_18 ⟨by show 1 + 0 ≤ 13300; omega, by show 6 + 0 ≤ 66100; omega⟩ (fun r_18 u H locs hp_18 hP hD hS => ?_)
  have hP : va_P (dC, dI) vwCl (List.flatten ([g, [(q_0, .inr (2, [.int 0, .int 0, .int 0, .int 0, .null, .null]))]] : gW)) H := hP
  have hD : va_D A (List.flatten ([g, [(q_0, .inr (2, [.int 0, .int 0, .int 0, .int 0, .null, .null]))]] : gW)) := hD
  refine lv_iconst (v := 3) hx hb dL_build_21 (by decide) ?_
  refine lv_ishr hx hb dL_build_22 ?_
  refine lv_iconst (v := 4) hx hb dL_build_23 (by decide) ?_
  refine s_callSi (As := [.int (r_18 >>> (3 &&& 31)), .int 4]) (rest := [.int 2, .int (nI (2 + qa)), .ref q_0, .ref q_0]) F9 (m_L_below l dC dI cI cZ cJ cD (r_18 >>> (3 &&& 31)) 4 (by omega) (by omega)) (va_cwS 2 hts gL_build_L_below rfl rfl rfl (by decide +kernel) ⟨Nat.le_of_ble_eq_true rfl, Nat.le_of_ble_eq_true rfl⟩) hK hN hP hD hS hA [] [0, 1] 2 rfl rfl (by decide) (fun (u : Nat) => ([g, [(q_0, .inr (2, [.int 0, .int 0, .int 0, .int 0, .null, .null]))]] : gW)) [] [0, 1] 2 (fun _ => rfl) (fun _ => rfl) (fun _ => rfl) (by decide) rfl hl.1 rfl (Nat.le_of_ble_eq_true rfl) dL_build_24 ⟨by show 1 + 0 ≤ 13300; omega, by show 6 + 0 ≤ 66100; omega⟩ (fun r_24 u H locs hp_24 hP hD hS => ?_)
  obtain ⟨qb, rfl⟩ : ∃ z, z = u := ⟨_, rfl⟩
  have hP : va_P (dC, dI) vwCl (List.flatten ([g, [(q_0, .inr (2, [.int 0, .int 0, .int 0, .int 0, .null, .null]))]] : gW)) H := hP
  have hD : va_D A (List.flatten ([g, [(q_0, .inr (2, [.int 0, .int 0, .int 0, .int 0, .null, .null]))]] : gW)) := hD
  have hp_24 : r_24 = nI qb ∧ qb < 4 := hp_24
  refine z_topi (y := nI qb) (hp_24.1) ?_
  have hqb := hp_24.2
  have gk9 : gok (2 + qa) (2 + qb) := ⟨by omega, by omega, by omega, by omega⟩
  refine lv_iadd hx hb dL_build_27 ?_
  refine z_topi (y := nI (2 + qb)) (nI_add 2 qb) ?_
  refine s_callI (As := [.int (nI (2 + qa)), .int (nI (2 + qb))]) (rest := [.ref q_0]) F9 (m_X2_init l dC dI cI cZ cJ cD q_0 (2 + qa) (2 + qb) (gk9)) (cwI 2 hts gL_build_X2_init rfl rfl rfl (hts (.initialized RX2) (List.mem_of_getElem? (i := 3) rfl)) (hts (.methodLink RL 24 yX2_init) (List.mem_of_getElem? (i := 15) rfl)) (hts (.instanceMethod yX2_init) (List.mem_of_getElem? (i := 16) rfl)) rfl (by decide +kernel) ⟨Nat.le_of_ble_eq_true rfl, Nat.le_of_ble_eq_true rfl⟩) hK hN hP hD hS hA [1] [0] 2 rfl rfl (by decide) (fun (u : Nat × (Nat → Nat) × Nat × (Nat → Nat)) => ([g, [(q_0, .inr (2, [.int (nI (2 + qa)), .int (nI (2 + qb)), .int (nI 2), .int 0, .ref u.1, .ref u.2.2.1]))], [(u.1, .inl (cJ, (2 + qa), .inr (.inr (.inr (.inr (gQ (2 + qa) u.2.1))))))], gB (2 + qa) u.2.1 cI (2 + qb) (gM (2 + qa) (fun _ => 0)), [(u.2.2.1, .inl (cD, (2 + qa), .inr (.inr (.inr (.inr (gQ (2 + qa) u.2.2.2))))))], gB (2 + qa) u.2.2.2 cZ (2 + qb) (gZ (2 + qa) (fun _ => false))] : gW)) [1, 2, 3, 4, 5] [0] 6 (fun _ => rfl) (fun _ => rfl) (fun _ => rfl) (by decide) rfl hl.1 rfl (Nat.le_of_ble_eq_true rfl) dL_build_28 ⟨by show 1 + 12 ≤ 13300; omega, by show 6 + 60 ≤ 66100; omega⟩ (fun u H locs hp_28 hP hD hS => ?_)
  obtain ⟨mB_1, rB_2, tB_3, sB_4⟩ := u
  have hP : va_P (dC, dI) vwCl (List.flatten ([g, [(q_0, .inr (2, [.int (nI (2 + qa)), .int (nI (2 + qb)), .int (nI 2), .int 0, .ref mB_1, .ref tB_3]))], [(mB_1, .inl (cJ, (2 + qa), .inr (.inr (.inr (.inr (gQ (2 + qa) rB_2))))))], gB (2 + qa) rB_2 cI (2 + qb) (gM (2 + qa) (fun _ => 0)), [(tB_3, .inl (cD, (2 + qa), .inr (.inr (.inr (.inr (gQ (2 + qa) sB_4))))))], gB (2 + qa) sB_4 cZ (2 + qb) (gZ (2 + qa) (fun _ => false))] : gW)) H := hP
  have hD : va_D A (List.flatten ([g, [(q_0, .inr (2, [.int (nI (2 + qa)), .int (nI (2 + qb)), .int (nI 2), .int 0, .ref mB_1, .ref tB_3]))], [(mB_1, .inl (cJ, (2 + qa), .inr (.inr (.inr (.inr (gQ (2 + qa) rB_2))))))], gB (2 + qa) rB_2 cI (2 + qb) (gM (2 + qa) (fun _ => 0)), [(tB_3, .inl (cD, (2 + qa), .inr (.inr (.inr (.inr (gQ (2 + qa) sB_4))))))], gB (2 + qa) sB_4 cZ (2 + qb) (gZ (2 + qa) (fun _ => false))] : gW)) := hD
  refine lv_astore_n (lv' := [(2, .ref q_0), (0, .ref h0), (1, .ref b0)]) hx hb dL_build_31 rfl hl (by decide) rfl (fun ls hl => ?_)
  refine lv_aload_n hx hb dL_build_32 rfl (lv_at hl 1 rfl) ?_
  refine lv_aload_n hx hb dL_build_33 rfl (lv_at hl 0 rfl) ?_
  refine s_get (D := (dC, dI)) (ci := 2) (v := .int (nI (2 + qa))) (C := RX2) (T := TX2) (N := 6) hx hb hts iL_build_X2 hown hK hP 1 0 rfl rfl rfl 0 (by decide) (hts (.fieldLink RL 9 "ColourTideLaw$Sim" "w" "I") (List.mem_of_getElem? (i := 4) rfl)) (fun _ h9 => h9) rfl dL_build_34 ?_
  refine lv_aload_n hx hb dL_build_37 rfl (lv_at hl 0 rfl) ?_
  refine s_get (D := (dC, dI)) (ci := 2) (v := .int (nI (2 + qb))) (C := RX2) (T := TX2) (N := 6) hx hb hts iL_build_X2 hown hK hP 1 0 rfl rfl rfl 1 (by decide) (hts (.fieldLink RL 21 "ColourTideLaw$Sim" "h" "I") (List.mem_of_getElem? (i := 5) rfl)) (fun _ h9 => h9) rfl dL_build_38 ?_
  obtain ⟨fs9, ho9⟩ := CT_obj hg
  refine s_callVi (As := [.int (nI (2 + qa)), .int (nI (2 + qb))]) (rest := []) F9 (k_newMap l dC dI cI cZ cJ cD hg  (2 + qa) (2 + qb) (gk9)) (cwV 2 hts gL_build_X1_newMap rfl rfl rfl (by decide +kernel) ⟨Nat.le_of_ble_eq_true rfl, Nat.le_of_ble_eq_true rfl⟩) hK hN hP hD hS hA [0] [1, 2, 3, 4, 5] 6 rfl rfl (by decide) (fun (u : va_W) => ([u, [(q_0, .inr (2, [.int (nI (2 + qa)), .int (nI (2 + qb)), .int (nI 2), .int 0, .ref mB_1, .ref tB_3]))], [(mB_1, .inl (cJ, (2 + qa), .inr (.inr (.inr (.inr (gQ (2 + qa) rB_2))))))], gB (2 + qa) rB_2 cI (2 + qb) (gM (2 + qa) (fun _ => 0)), [(tB_3, .inl (cD, (2 + qa), .inr (.inr (.inr (.inr (gQ (2 + qa) sB_4))))))], gB (2 + qa) sB_4 cZ (2 + qb) (gZ (2 + qa) (fun _ => false))] : gW)) [0] [1, 2, 3, 4, 5] 6 (fun _ => rfl) (fun _ => rfl) (fun _ => rfl) (by decide) 0 0 (ci := 1) rfl ho9 rfl rfl rfl hl.1 rfl (Nat.le_of_ble_eq_true rfl) dL_build_41 ⟨by show 1 + 12 + 0 ≤ 13300; omega, by show 6 + 60 + 0 ≤ 66100; omega⟩ (fun r_41 g_41 H locs hp_41 hP hD hS => ?_)
  have hP : va_P (dC, dI) vwCl (List.flatten ([g_41, [(q_0, .inr (2, [.int (nI (2 + qa)), .int (nI (2 + qb)), .int (nI 2), .int 0, .ref mB_1, .ref tB_3]))], [(mB_1, .inl (cJ, (2 + qa), .inr (.inr (.inr (.inr (gQ (2 + qa) rB_2))))))], gB (2 + qa) rB_2 cI (2 + qb) (gM (2 + qa) (fun _ => 0)), [(tB_3, .inl (cD, (2 + qa), .inr (.inr (.inr (.inr (gQ (2 + qa) sB_4))))))], gB (2 + qa) sB_4 cZ (2 + qb) (gZ (2 + qa) (fun _ => false))] : gW)) H := hP
  have hD : va_D A (List.flatten ([g_41, [(q_0, .inr (2, [.int (nI (2 + qa)), .int (nI (2 + qb)), .int (nI 2), .int 0, .ref mB_1, .ref tB_3]))], [(mB_1, .inl (cJ, (2 + qa), .inr (.inr (.inr (.inr (gQ (2 + qa) rB_2))))))], gB (2 + qa) rB_2 cI (2 + qb) (gM (2 + qa) (fun _ => 0)), [(tB_3, .inl (cD, (2 + qa), .inr (.inr (.inr (.inr (gQ (2 + qa) sB_4))))))], gB (2 + qa) sB_4 cZ (2 + qb) (gZ (2 + qa) (fun _ => false))] : gW)) := hD
  obtain ⟨hp_41, hg_41⟩ := hp_41
  have hg_41 : CT cI (2 + qa) (2 + qb) 2 0 (fun _ => false) (fun _ => 0) h0 g_41 := hg_41
  refine z_topi (y := nI ((2 + qa) * (2 + qb))) (hp_41) ?_
  refine lv_aload_n hx hb dL_build_44 rfl (lv_at hl 0 rfl) ?_
  refine s_get (D := (dC, dI)) (ci := 2) (v := .int (nI (2 + qa))) (C := RX2) (T := TX2) (N := 6) hx hb hts iL_build_X2 hown hK hP 1 0 rfl rfl rfl 0 (by decide) (hts (.fieldLink RL 9 "ColourTideLaw$Sim" "w" "I") (List.mem_of_getElem? (i := 4) rfl)) (fun _ h9 => h9) rfl dL_build_45 ?_
  refine lv_aload_n hx hb dL_build_48 rfl (lv_at hl 0 rfl) ?_
  refine s_get (D := (dC, dI)) (ci := 2) (v := .int (nI (2 + qb))) (C := RX2) (T := TX2) (N := 6) hx hb hts iL_build_X2 hown hK hP 1 0 rfl rfl rfl 1 (by decide) (hts (.fieldLink RL 21 "ColourTideLaw$Sim" "h" "I") (List.mem_of_getElem? (i := 5) rfl)) (fun _ h9 => h9) rfl dL_build_49 ?_
  refine lv_imul hx hb dL_build_52 ?_
  refine z_topi (y := nI ((2 + qa) * (2 + qb))) (pk_mul (2 + qa) (2 + qb)) ?_
  refine lv_icmp_eq (tgt := 58) hx hb dL_build_53 (by decide) (fun c_53 => ?_) (fun c_53 => ?_)
  · skip
    refine lv_bipush (v := 16) hx hb dL_build_58 (by decide +kernel) ?_
    refine lv_aload_n hx hb dL_build_60 rfl (lv_at hl 2 rfl) ?_
    refine lv_iconst (v := 1) hx hb dL_build_61 (by decide) ?_
    refine sx_callSi (As := [.ref b0, .int 1]) (rest := [.int 16]) F9 (m_L_cell l dC dI cI cZ cJ cD b0 L0 xs0 1 (hL0) (by omega)) (va_cwS 2 hts gL_build_L_cell rfl rfl rfl (by decide +kernel) ⟨Nat.le_of_ble_eq_true rfl, Nat.le_of_ble_eq_true rfl⟩) hK hN hX hbl hbA hP hD hS hA [] [0, 1, 2, 3, 4, 5] 6 rfl rfl (by decide) (fun (_ : Unit) => ([g_41, [(q_0, .inr (2, [.int (nI (2 + qa)), .int (nI (2 + qb)), .int (nI 2), .int 0, .ref mB_1, .ref tB_3]))], [(mB_1, .inl (cJ, (2 + qa), .inr (.inr (.inr (.inr (gQ (2 + qa) rB_2))))))], gB (2 + qa) rB_2 cI (2 + qb) (gM (2 + qa) (fun _ => 0)), [(tB_3, .inl (cD, (2 + qa), .inr (.inr (.inr (.inr (gQ (2 + qa) sB_4))))))], gB (2 + qa) sB_4 cZ (2 + qb) (gZ (2 + qa) (fun _ => false))] : gW)) [] [0, 1, 2, 3, 4, 5] 6 (fun _ => rfl) (fun _ => rfl) (fun _ => rfl) (by decide) rfl hl.1 rfl (Nat.le_of_ble_eq_true rfl) dL_build_62 ⟨by show 1 + 12 + 0 ≤ 13300; omega, by show 6 + 60 + 0 ≤ 66100; omega⟩ (fun r_62 u H locs hp_62 hP hD hS => ?_)
    have hP : va_P (dC, dI) vwCl (List.flatten ([g_41, [(q_0, .inr (2, [.int (nI (2 + qa)), .int (nI (2 + qb)), .int (nI 2), .int 0, .ref mB_1, .ref tB_3]))], [(mB_1, .inl (cJ, (2 + qa), .inr (.inr (.inr (.inr (gQ (2 + qa) rB_2))))))], gB (2 + qa) rB_2 cI (2 + qb) (gM (2 + qa) (fun _ => 0)), [(tB_3, .inl (cD, (2 + qa), .inr (.inr (.inr (.inr (gQ (2 + qa) sB_4))))))], gB (2 + qa) sB_4 cZ (2 + qb) (gZ (2 + qa) (fun _ => false))] : gW)) H := hP
    have hD : va_D A (List.flatten ([g_41, [(q_0, .inr (2, [.int (nI (2 + qa)), .int (nI (2 + qb)), .int (nI 2), .int 0, .ref mB_1, .ref tB_3]))], [(mB_1, .inl (cJ, (2 + qa), .inr (.inr (.inr (.inr (gQ (2 + qa) rB_2))))))], gB (2 + qa) rB_2 cI (2 + qb) (gM (2 + qa) (fun _ => 0)), [(tB_3, .inl (cD, (2 + qa), .inr (.inr (.inr (.inr (gQ (2 + qa) sB_4))))))], gB (2 + qa) sB_4 cZ (2 + qb) (gZ (2 + qa) (fun _ => false))] : gW)) := hD
    refine lv_bipush (v := 40) hx hb dL_build_65 (by decide +kernel) ?_
    refine s_callSi (As := [.int r_62, .int 40]) (rest := [.int 16]) F9 (m_L_below l dC dI cI cZ cJ cD r_62 40 (by omega) (by omega)) (va_cwS 2 hts gL_build_L_below rfl rfl rfl (by decide +kernel) ⟨Nat.le_of_ble_eq_true rfl, Nat.le_of_ble_eq_true rfl⟩) hK hN hP hD hS hA [] [0, 1, 2, 3, 4, 5] 6 rfl rfl (by decide) (fun (u : Nat) => ([g_41, [(q_0, .inr (2, [.int (nI (2 + qa)), .int (nI (2 + qb)), .int (nI 2), .int 0, .ref mB_1, .ref tB_3]))], [(mB_1, .inl (cJ, (2 + qa), .inr (.inr (.inr (.inr (gQ (2 + qa) rB_2))))))], gB (2 + qa) rB_2 cI (2 + qb) (gM (2 + qa) (fun _ => 0)), [(tB_3, .inl (cD, (2 + qa), .inr (.inr (.inr (.inr (gQ (2 + qa) sB_4))))))], gB (2 + qa) sB_4 cZ (2 + qb) (gZ (2 + qa) (fun _ => false))] : gW)) [] [0, 1, 2, 3, 4, 5] 6 (fun _ => rfl) (fun _ => rfl) (fun _ => rfl) (by decide) rfl hl.1 rfl (Nat.le_of_ble_eq_true rfl) dL_build_67 ⟨by show 1 + 12 + 0 ≤ 13300; omega, by show 6 + 60 + 0 ≤ 66100; omega⟩ (fun r_67 u H locs hp_67 hP hD hS => ?_)
    obtain ⟨qn, rfl⟩ : ∃ z, z = u := ⟨_, rfl⟩
    have hP : va_P (dC, dI) vwCl (List.flatten ([g_41, [(q_0, .inr (2, [.int (nI (2 + qa)), .int (nI (2 + qb)), .int (nI 2), .int 0, .ref mB_1, .ref tB_3]))], [(mB_1, .inl (cJ, (2 + qa), .inr (.inr (.inr (.inr (gQ (2 + qa) rB_2))))))], gB (2 + qa) rB_2 cI (2 + qb) (gM (2 + qa) (fun _ => 0)), [(tB_3, .inl (cD, (2 + qa), .inr (.inr (.inr (.inr (gQ (2 + qa) sB_4))))))], gB (2 + qa) sB_4 cZ (2 + qb) (gZ (2 + qa) (fun _ => false))] : gW)) H := hP
    have hD : va_D A (List.flatten ([g_41, [(q_0, .inr (2, [.int (nI (2 + qa)), .int (nI (2 + qb)), .int (nI 2), .int 0, .ref mB_1, .ref tB_3]))], [(mB_1, .inl (cJ, (2 + qa), .inr (.inr (.inr (.inr (gQ (2 + qa) rB_2))))))], gB (2 + qa) rB_2 cI (2 + qb) (gM (2 + qa) (fun _ => 0)), [(tB_3, .inl (cD, (2 + qa), .inr (.inr (.inr (.inr (gQ (2 + qa) sB_4))))))], gB (2 + qa) sB_4 cZ (2 + qb) (gZ (2 + qa) (fun _ => false))] : gW)) := hD
    have hp_67 : r_67 = nI qn ∧ qn < 40 := hp_67
    refine z_topi (y := nI qn) (hp_67.1) ?_
    have hqn := hp_67.2
    refine lv_iadd hx hb dL_build_70 ?_
    refine z_topi (y := nI (16 + qn)) (nI_add 16 qn) ?_
    refine lv_istore_n (lv' := [(3, .int (nI (16 + qn))), (2, .ref q_0), (0, .ref h0), (1, .ref b0)]) hx hb dL_build_71 rfl hl (by decide) rfl (fun ls hl => ?_)
    refine lv_iconst (v := 0) hx hb dL_build_72 (by decide) ?_
    refine lv_istore (lv' := [(4, .int 0), (3, .int (nI (16 + qn))), (2, .ref q_0), (0, .ref h0), (1, .ref b0)]) hx hb dL_build_73 hl (by decide) rfl (fun ls hl => ?_)
    have loop_75 : ∀ (n : Nat) (k : Nat) (gB2 : va_W) (m2 : Nat) (w2 : Nat) (h2 : Nat) (nd2 : Nat) (wv2 : Int32) (mA2 : Nat) (rM2 : Nat → Nat) (K2 : Nat → Nat) (tA2 : Nat) (rT2 : Nat → Nat) (T2 : Nat → Bool) (hkn : k + n = (16 + qn)) (hg2 : CT cI w2 h2 nd2 wv2 T2 K2 h0 gB2) (gk2 : gok w2 h2) (h12 : 1 ≤ nd2) (h42 : nd2 ≤ 4) (hK42 : ∀ c, K2 c ≤ 4) (H : Heap) (locs : List Loc) (ls : Array Slot) (hP : va_P (dC, dI) vwCl (List.flatten ([gB2, [(m2, .inr (2, [.int (nI w2), .int (nI h2), .int (nI nd2), .int wv2, .ref mA2, .ref tA2]))], [(mA2, .inl (cJ, w2, .inr (.inr (.inr (.inr (gQ w2 rM2))))))], gB w2 rM2 cI h2 (gM w2 K2), [(tA2, .inl (cD, w2, .inr (.inr (.inr (.inr (gQ w2 rT2))))))], gB w2 rT2 cZ h2 (gZ w2 T2)] : gW)) H) (hD : va_D A (List.flatten ([gB2, [(m2, .inr (2, [.int (nI w2), .int (nI h2), .int (nI nd2), .int wv2, .ref mA2, .ref tA2]))], [(mA2, .inl (cJ, w2, .inr (.inr (.inr (.inr (gQ w2 rM2))))))], gB w2 rM2 cI h2 (gM w2 K2), [(tA2, .inl (cD, w2, .inr (.inr (.inr (.inr (gQ w2 rT2))))))], gB w2 rT2 cZ h2 (gZ w2 T2)] : gW))) (hS : va_S A s.heap H locs) (hl : lv_has ls 5 [(0, .ref h0), (1, .ref b0), (2, .ref m2), (3, .int (nI (16 + qn))), (4, .int (nI k))]), W p l e rmL_build s m args below meth c H locs (13 + 240 * k) (66 + 1200 * k) Q (F0 m 75 ls []) := by
      intro n
      induction n with
      | zero =>
        intro k gB2 m2 w2 h2 nd2 wv2 mA2 rM2 K2 tA2 rT2 T2 hkn hg2 gk2 h12 h42 hK42 H locs ls hP hD hS hl
        refine lv_iload hx hb dL_build_75 (lv_at hl 4 rfl) ?_
        refine lv_iload_n hx hb dL_build_77 rfl (lv_at hl 3 rfl) ?_
        refine lv_icmp_ge (tgt := 121) hx hb dL_build_78 (by decide) (fun c_78 => ?_) (fun c_78 => ?_)
        · skip
          have n_78 := zc_le_t (a := (16 + qn)) (b := k) (by omega) (by omega) c_78
          refine lv_aload_n hx hb dL_build_121 rfl (lv_at hl 2 rfl) ?_
          rw [← hQ]
          exact s_aret (W1 := (fun (u : va_W × Nat × Nat × Nat × Nat × Int32 × Nat × (Nat → Nat) × (Nat → Nat) × Nat × (Nat → Nat) × (Nat → Bool)) => ([u.1, [(u.2.1, .inr (2, [.int (nI u.2.2.1), .int (nI u.2.2.2.1), .int (nI u.2.2.2.2.1), .int u.2.2.2.2.2.1, .ref u.2.2.2.2.2.2.1, .ref u.2.2.2.2.2.2.2.2.2.1]))], [(u.2.2.2.2.2.2.1, .inl (cJ, u.2.2.1, .inr (.inr (.inr (.inr (gQ u.2.2.1 u.2.2.2.2.2.2.2.1))))))], gB u.2.2.1 u.2.2.2.2.2.2.2.1 cI u.2.2.2.1 (gM u.2.2.1 u.2.2.2.2.2.2.2.2.1), [(u.2.2.2.2.2.2.2.2.2.1, .inl (cD, u.2.2.1, .inr (.inr (.inr (.inr (gQ u.2.2.1 u.2.2.2.2.2.2.2.2.2.2.1))))))], gB u.2.2.1 u.2.2.2.2.2.2.2.2.2.2.1 cZ u.2.2.2.1 (gZ u.2.2.1 u.2.2.2.2.2.2.2.2.2.2.2)] : gW))) (ad := (fun (u : va_W × Nat × Nat × Nat × Nat × Int32 × Nat × (Nat → Nat) × (Nat → Nat) × Nat × (Nat → Nat) × (Nat → Bool)) => u.2.1)) hx hb hr (Or.inl ⟨_, rfl⟩) hlocks hP hD hS (gB2, m2, w2, h2, nd2, wv2, mA2, rM2, K2, tA2, rT2, T2) rfl [0, 1, 2, 3, 4, 5] [] 6 rfl rfl (by decide) (⟨hg2, gk2, h12, h42, hK42⟩) (by omega) (by omega) dL_build_122
        · skip
          have n_78 := zc_le_f (a := (16 + qn)) (b := k) (by omega) (by omega) c_78
          exact absurd n_78 (by omega)
      | succ n ih_75 =>
        intro k gB2 m2 w2 h2 nd2 wv2 mA2 rM2 K2 tA2 rT2 T2 hkn hg2 gk2 h12 h42 hK42 H locs ls hP hD hS hl
        refine lv_iload hx hb dL_build_75 (lv_at hl 4 rfl) ?_
        refine lv_iload_n hx hb dL_build_77 rfl (lv_at hl 3 rfl) ?_
        refine lv_icmp_ge (tgt := 121) hx hb dL_build_78 (by decide) (fun c_78 => ?_) (fun c_78 => ?_)
        · skip
          have n_78 := zc_le_t (a := (16 + qn)) (b := k) (by omega) (by omega) c_78
          exact absurd n_78 (by omega)
        · skip
          have n_78 := zc_le_f (a := (16 + qn)) (b := k) (by omega) (by omega) c_78
          refine lv_aload_n hx hb dL_build_81 rfl (lv_at hl 2 rfl) ?_
          refine lv_ifnull hx hb dL_build_82 ?_
          refine lv_aload_n hx hb dL_build_85 rfl (lv_at hl 0 rfl) ?_
          refine lv_aload_n hx hb dL_build_86 rfl (lv_at hl 2 rfl) ?_
          refine lv_aload_n hx hb dL_build_87 rfl (lv_at hl 1 rfl) ?_
          refine lv_iload hx hb dL_build_88 (lv_at hl 4 rfl) ?_
          refine lv_bipush (v := 16) hx hb dL_build_90 (by decide +kernel) ?_
          refine lv_irem hx hb dL_build_92 (by decide) ?_
          refine z_topi (y := nI (k % 16)) (irem_nI (c := k) (w := 16) (by omega) (by omega) (by omega)) ?_
          refine sx_callSi (As := [.ref b0, .int (nI (k % 16))]) (rest := [.ref m2, .ref h0]) F9 (m_L_cell l dC dI cI cZ cJ cD b0 L0 xs0 (k % 16) (hL0) (by omega)) (va_cwS 2 hts gL_build_L_cell rfl rfl rfl (by decide +kernel) ⟨Nat.le_of_ble_eq_true rfl, Nat.le_of_ble_eq_true rfl⟩) hK hN hX hbl hbA hP hD hS hA [] [0, 1, 2, 3, 4, 5] 6 rfl rfl (by decide) (fun (_ : Unit) => ([gB2, [(m2, .inr (2, [.int (nI w2), .int (nI h2), .int (nI nd2), .int wv2, .ref mA2, .ref tA2]))], [(mA2, .inl (cJ, w2, .inr (.inr (.inr (.inr (gQ w2 rM2))))))], gB w2 rM2 cI h2 (gM w2 K2), [(tA2, .inl (cD, w2, .inr (.inr (.inr (.inr (gQ w2 rT2))))))], gB w2 rT2 cZ h2 (gZ w2 T2)] : gW)) [] [0, 1, 2, 3, 4, 5] 6 (fun _ => rfl) (fun _ => rfl) (fun _ => rfl) (by decide) rfl hl.1 rfl (Nat.le_of_ble_eq_true rfl) dL_build_93 ⟨by show 13 + 240 * k + 0 ≤ 13300; omega, by show 66 + 1200 * k + 0 ≤ 66100; omega⟩ (fun r_93 u H locs hp_93 hP hD hS => ?_)
          have hP : va_P (dC, dI) vwCl (List.flatten ([gB2, [(m2, .inr (2, [.int (nI w2), .int (nI h2), .int (nI nd2), .int wv2, .ref mA2, .ref tA2]))], [(mA2, .inl (cJ, w2, .inr (.inr (.inr (.inr (gQ w2 rM2))))))], gB w2 rM2 cI h2 (gM w2 K2), [(tA2, .inl (cD, w2, .inr (.inr (.inr (.inr (gQ w2 rT2))))))], gB w2 rT2 cZ h2 (gZ w2 T2)] : gW)) H := hP
          have hD : va_D A (List.flatten ([gB2, [(m2, .inr (2, [.int (nI w2), .int (nI h2), .int (nI nd2), .int wv2, .ref mA2, .ref tA2]))], [(mA2, .inl (cJ, w2, .inr (.inr (.inr (.inr (gQ w2 rM2))))))], gB w2 rM2 cI h2 (gM w2 K2), [(tA2, .inl (cD, w2, .inr (.inr (.inr (.inr (gQ w2 rT2))))))], gB w2 rT2 cZ h2 (gZ w2 T2)] : gW)) := hD
          refine lv_iload hx hb dL_build_96 (lv_at hl 4 rfl) ?_
          refine lv_bipush (v := 16) hx hb dL_build_98 (by decide +kernel) ?_
          refine lv_idiv hx hb dL_build_100 (by decide) ?_
          refine z_topi (y := nI (k / 16)) (idiv_nI (c := k) (w := 16) (by omega) (by omega) (by omega)) ?_
          refine lv_iconst (v := 3) hx hb dL_build_101 (by decide) ?_
          refine lv_imul hx hb dL_build_102 ?_
          refine z_topi (y := nI ((k / 16) * 3)) (pk_mul (k / 16) 3) ?_
          refine lv_ishr hx hb dL_build_103 ?_
          refine lv_sipush (v := 503) hx hb dL_build_104 (by decide +kernel) ?_
          refine lv_iload hx hb dL_build_107 (lv_at hl 4 rfl) ?_
          refine lv_imul hx hb dL_build_109 ?_
          refine z_topi (y := nI (503 * k)) (pk_mul 503 k) ?_
          refine lv_iadd hx hb dL_build_110 ?_
          refine s_callSr (As := [.ref h0, .ref m2, .int ((r_93 >>> ((nI ((k / 16) * 3)) &&& 31)) + (nI (503 * k)))]) (rest := []) F9 (m_L_act l dC dI cI cZ cJ cD m2 w2 h2 nd2 wv2 mA2 rM2 K2 tA2 rT2 T2 gB2 h0 ((r_93 >>> ((nI ((k / 16) * 3)) &&& 31)) + (nI (503 * k))) (hg2) (gk2) (h12) (h42) (hK42)) (va_cwS 3 hts gL_build_L_act rfl rfl rfl (by decide +kernel) ⟨Nat.le_of_ble_eq_true rfl, Nat.le_of_ble_eq_true rfl⟩) hK hN hP hD hS hA [0, 1, 2, 3, 4, 5] [] 6 rfl rfl (by decide) (fun (u : va_W × Nat × Nat × Nat × Nat × Int32 × Nat × (Nat → Nat) × (Nat → Nat) × Nat × (Nat → Nat) × (Nat → Bool)) => ([u.1, [(u.2.1, .inr (2, [.int (nI u.2.2.1), .int (nI u.2.2.2.1), .int (nI u.2.2.2.2.1), .int u.2.2.2.2.2.1, .ref u.2.2.2.2.2.2.1, .ref u.2.2.2.2.2.2.2.2.2.1]))], [(u.2.2.2.2.2.2.1, .inl (cJ, u.2.2.1, .inr (.inr (.inr (.inr (gQ u.2.2.1 u.2.2.2.2.2.2.2.1))))))], gB u.2.2.1 u.2.2.2.2.2.2.2.1 cI u.2.2.2.1 (gM u.2.2.1 u.2.2.2.2.2.2.2.2.1), [(u.2.2.2.2.2.2.2.2.2.1, .inl (cD, u.2.2.1, .inr (.inr (.inr (.inr (gQ u.2.2.1 u.2.2.2.2.2.2.2.2.2.2.1))))))], gB u.2.2.1 u.2.2.2.2.2.2.2.2.2.2.1 cZ u.2.2.2.1 (gZ u.2.2.1 u.2.2.2.2.2.2.2.2.2.2.2)] : gW)) [0, 1, 2, 3, 4, 5] [] 6 (fun _ => rfl) (fun _ => rfl) (fun _ => rfl) (by decide) rfl hl.1 rfl (Nat.le_of_ble_eq_true rfl) dL_build_111 ⟨by show 13 + 240 * k + 240 ≤ 13300; omega, by show 66 + 1200 * k + 1200 ≤ 66100; omega⟩ (fun u H locs hp_111 hP hD hS => ?_)
          obtain ⟨g2_111, m1_111, w1_111, hh1_111, nd1_111, wv1_111, mB_111, rB_111, K1_111, tB_111, sB_111, T1_111⟩ := u
          have hP : va_P (dC, dI) vwCl (List.flatten ([g2_111, [(m1_111, .inr (2, [.int (nI w1_111), .int (nI hh1_111), .int (nI nd1_111), .int wv1_111, .ref mB_111, .ref tB_111]))], [(mB_111, .inl (cJ, w1_111, .inr (.inr (.inr (.inr (gQ w1_111 rB_111))))))], gB w1_111 rB_111 cI hh1_111 (gM w1_111 K1_111), [(tB_111, .inl (cD, w1_111, .inr (.inr (.inr (.inr (gQ w1_111 sB_111))))))], gB w1_111 sB_111 cZ hh1_111 (gZ w1_111 T1_111)] : gW)) H := hP
          have hD : va_D A (List.flatten ([g2_111, [(m1_111, .inr (2, [.int (nI w1_111), .int (nI hh1_111), .int (nI nd1_111), .int wv1_111, .ref mB_111, .ref tB_111]))], [(mB_111, .inl (cJ, w1_111, .inr (.inr (.inr (.inr (gQ w1_111 rB_111))))))], gB w1_111 rB_111 cI hh1_111 (gM w1_111 K1_111), [(tB_111, .inl (cD, w1_111, .inr (.inr (.inr (.inr (gQ w1_111 sB_111))))))], gB w1_111 sB_111 cZ hh1_111 (gZ w1_111 T1_111)] : gW)) := hD
          have hp_111 : CT cI w1_111 hh1_111 nd1_111 wv1_111 T1_111 K1_111 h0 g2_111 ∧ gok w1_111 hh1_111 ∧ 1 ≤ nd1_111 ∧ nd1_111 ≤ 4 ∧ ∀ c, K1_111 c ≤ 4 := hp_111
          have hg_111 := hp_111.1
          refine lv_astore_n (lv' := [(2, .ref m1_111), (0, .ref h0), (1, .ref b0), (3, .int (nI (16 + qn))), (4, .int (nI k))]) hx hb dL_build_114 rfl hl (by decide) rfl (fun ls hl => ?_)
          refine lv_iinc (v := nI (k + 1)) (lv' := [(4, .int (nI (k + 1))), (2, .ref m1_111), (0, .ref h0), (1, .ref b0), (3, .int (nI (16 + qn)))]) hx hb dL_build_115 hl (k := 4) rfl (nI_1 k) (by decide) rfl (fun ls hl => ?_)
          refine lv_goto (tgt := 75) hx hb dL_build_118 (by decide) ?_
          refine W.widen (k := 13 + 240 * (k + 1)) (n := 66 + 1200 * (k + 1)) (by omega) (by omega) ?_
          exact ih_75 (k + 1) g2_111 m1_111 w1_111 hh1_111 nd1_111 wv1_111 mB_111 rB_111 K1_111 tB_111 sB_111 T1_111 (by omega) (hp_111.1) (hp_111.2.1) (hp_111.2.2.1) (hp_111.2.2.2.1) (hp_111.2.2.2.2) _ _ _ hP hD hS (lv_sub hl [2, 3, 1, 4, 0] rfl)
    refine W.widen (k := 13 + 240 * 0) (n := 66 + 1200 * 0) (by omega) (by omega) ?_
    exact loop_75 (16 + qn) 0 g_41 q_0 (2 + qa) (2 + qb) 2 0 mB_1 rB_2 (fun _ => 0) tB_3 sB_4 (fun _ => false) (by omega) (hg_41) (gk9) (by decide) (by decide) (fun _ => Nat.zero_le _) _ _ _ hP hD hS (lv_sub hl [3, 4, 2, 1, 0] rfl)
  · skip
    exact absurd rfl c_53
