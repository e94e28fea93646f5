abbrev rmL_act : Room := { frames := 5, cells := 240, slots := 1200, locals := 115 }
set_option maxRecDepth 20000 in
theorem iL_act_X0 : ∀ w ∈ wsX00, w ∈ wsL_act := fun w h => (goodIn_r (big := wsL_act) wsX00 [152, 153, 154, 155, 156, 157] rfl (by decide +kernel) w h).1
set_option maxRecDepth 20000 in
theorem iL_act_X1 : ∀ w ∈ wsX10, w ∈ wsL_act := fun w h => (goodIn_r (big := wsL_act) wsX10 [147, 148, 149, 150, 151] rfl (by decide +kernel) w h).1
set_option maxRecDepth 20000 in
theorem iL_act_X2 : ∀ w ∈ wsX20, w ∈ wsL_act := fun w h => (goodIn_r (big := wsL_act) wsX20 [141, 142, 143, 144, 145, 146] rfl (by decide +kernel) w h).1
set_option maxHeartbeats 4000000 in
set_option maxRecDepth 100000 in
theorem m_L_act (l : Launch) (dC : Nat → ClassId) (dI : Nat → Nat → Nat) (cI cZ cJ cD : ClassId) (m0 : Nat) (w : Nat) (h : Nat) (nd : Nat) (wv : Int32) (mA : Nat) (rM : Nat → Nat) (K : Nat → Nat) (tA : Nat) (rT : Nat → Nat) (T : Nat → Bool) (g : va_W) (h0 : Nat) (s0 : Int32) (hg : CT cI w h nd wv T K h0 g) (gk : gok w h) (h1 : 1 ≤ nd) (h4 : nd ≤ 4) (hK4 : ∀ c, K c ≤ 4) : sR l (dC, dI) (wT cI cZ cJ cD) yL_act wsL_act rmL_act [g, [(m0, .inr (2, [.int (nI w), .int (nI h), .int (nI nd), .int wv, .ref mA, .ref tA]))], [(mA, .inl (cJ, w, .inr (.inr (.inr (.inr (gQ w rM))))))], gB w rM cI h (gM w K), [(tA, .inl (cD, w, .inr (.inr (.inr (.inr (gQ w rT))))))], gB w rT cZ h (gZ w T)] [.ref h0, .ref m0, .int s0] (fun (u : va_W × Nat × Nat × Nat × Nat × Int32 × Nat × (Nat → Nat) × (Nat → Nat) × Nat × (Nat → Nat) × (Nat → Bool)) => ([u.1, [(u.2.1, .inr (2, [.int (nI u.2.2.1), .int (nI u.2.2.2.1), .int (nI u.2.2.2.2.1), .int u.2.2.2.2.2.1, .ref u.2.2.2.2.2.2.1, .ref u.2.2.2.2.2.2.2.2.2.1]))], [(u.2.2.2.2.2.2.1, .inl (cJ, u.2.2.1, .inr (.inr (.inr (.inr (gQ u.2.2.1 u.2.2.2.2.2.2.2.1))))))], gB u.2.2.1 u.2.2.2.2.2.2.2.1 cI u.2.2.2.1 (gM u.2.2.1 u.2.2.2.2.2.2.2.2.1), [(u.2.2.2.2.2.2.2.2.2.1, .inl (cD, u.2.2.1, .inr (.inr (.inr (.inr (gQ u.2.2.1 u.2.2.2.2.2.2.2.2.2.2.1))))))], gB u.2.2.1 u.2.2.2.2.2.2.2.2.2.2.1 cZ u.2.2.2.1 (gZ u.2.2.1 u.2.2.2.2.2.2.2.2.2.2.2)] : gW)) (fun (u : va_W × Nat × Nat × Nat × Nat × Int32 × Nat × (Nat → Nat) × (Nat → Nat) × Nat × (Nat → Nat) × (Nat → Bool)) => u.2.1) (fun (u : va_W × Nat × Nat × Nat × Nat × Int32 × Nat × (Nat → Nat) × (Nat → Nat) × Nat × (Nat → Nat) × (Nat → Bool)) => CT cI u.2.2.1 u.2.2.2.1 u.2.2.2.2.1 u.2.2.2.2.2.1 u.2.2.2.2.2.2.2.2.2.2.2 u.2.2.2.2.2.2.2.2.1 h0 u.1 ∧ gok u.2.2.1 u.2.2.2.1 ∧ 1 ≤ u.2.2.2.2.1 ∧ u.2.2.2.2.1 ≤ 4 ∧ ∀ c, u.2.2.2.2.2.2.2.2.1 c ≤ 4) 240 1200 := by
  intro sz
  refine Met.ofW (cc := cL_act) (maxL := 10) (ret := (some (.object "ColourTideLaw$Sim"))) (by decide) rfl ?_
  intro p e s m args below meth c s₁ B hml hv
  obtain ⟨ha, hsz, hP, hK, hD0, hN⟩ := hv
  have hx := B.exec
  have hb := B.bytes
  have hr := B.returns
  have hts := atoms_spec (ws := wsL_act) B.pre
  have hown : s.vm.findClass RL = some m.cls := findClass_of_methodNamed B.named
  have hlocks := B.notSynchronized
  subst hsz
  have hD := hD0.self (sz := s.heap.size)
  generalize hAe : va_A (List.flatten ([g, [(m0, .inr (2, [.int (nI w), .int (nI h), .int (nI nd), .int wv, .ref mA, .ref tA]))], [(mA, .inl (cJ, w, .inr (.inr (.inr (.inr (gQ w rM))))))], gB w rM cI h (gM w K), [(tA, .inl (cD, w, .inr (.inr (.inr (.inr (gQ w rT))))))], gB w rT cZ h (gZ w T)] : gW)) s.heap.size = A at hD ⊢
  have hA : ∀ q : Nat, s.heap.size ≤ q → A q := fun q h => by rw [← hAe]; exact Or.inr h
  have hS : va_S A s.heap s.heap [] := va_S.rf
  generalize hQ : MQ below (va_Qr (fun (u : va_W × Nat × Nat × Nat × Nat × Int32 × Nat × (Nat → Nat) × (Nat → Nat) × Nat × (Nat → Nat) × (Nat → Bool)) => CT cI u.2.2.1 u.2.2.2.1 u.2.2.2.2.1 u.2.2.2.2.2.1 u.2.2.2.2.2.2.2.2.2.2.2 u.2.2.2.2.2.2.2.2.1 h0 u.1 ∧ gok u.2.2.1 u.2.2.2.1 ∧ 1 ≤ u.2.2.2.2.1 ∧ u.2.2.2.2.1 ≤ 4 ∧ ∀ c, u.2.2.2.2.2.2.2.2.1 c ≤ 4) (fun u ra t => ra = (fun (u : va_W × Nat × Nat × Nat × Nat × Int32 × Nat × (Nat → Nat) × (Nat → Nat) × Nat × (Nat → Nat) × (Nat → Bool)) => u.2.1) u ∧ va_P (dC, dI) vwCl (List.flatten ((fun (u : va_W × Nat × Nat × Nat × Nat × Int32 × Nat × (Nat → Nat) × (Nat → Nat) × Nat × (Nat → Nat) × (Nat → Bool)) => ([u.1, [(u.2.1, .inr (2, [.int (nI u.2.2.1), .int (nI u.2.2.2.1), .int (nI u.2.2.2.2.1), .int u.2.2.2.2.2.1, .ref u.2.2.2.2.2.2.1, .ref u.2.2.2.2.2.2.2.2.2.1]))], [(u.2.2.2.2.2.2.1, .inl (cJ, u.2.2.1, .inr (.inr (.inr (.inr (gQ u.2.2.1 u.2.2.2.2.2.2.2.1))))))], gB u.2.2.1 u.2.2.2.2.2.2.2.1 cI u.2.2.2.1 (gM u.2.2.1 u.2.2.2.2.2.2.2.2.1), [(u.2.2.2.2.2.2.2.2.2.1, .inl (cD, u.2.2.1, .inr (.inr (.inr (.inr (gQ u.2.2.1 u.2.2.2.2.2.2.2.2.2.2.1))))))], gB u.2.2.1 u.2.2.2.2.2.2.2.2.2.2.1 cZ u.2.2.2.1 (gZ u.2.2.1 u.2.2.2.2.2.2.2.2.2.2.2)] : gW)) u)) t.heap ∧ va_D A (List.flatten ((fun (u : va_W × Nat × Nat × Nat × Nat × Int32 × Nat × (Nat → Nat) × (Nat → Nat) × Nat × (Nat → Nat) × (Nat → Bool)) => ([u.1, [(u.2.1, .inr (2, [.int (nI u.2.2.1), .int (nI u.2.2.2.1), .int (nI u.2.2.2.2.1), .int u.2.2.2.2.2.1, .ref u.2.2.2.2.2.2.1, .ref u.2.2.2.2.2.2.2.2.2.1]))], [(u.2.2.2.2.2.2.1, .inl (cJ, u.2.2.1, .inr (.inr (.inr (.inr (gQ u.2.2.1 u.2.2.2.2.2.2.2.1))))))], gB u.2.2.1 u.2.2.2.2.2.2.2.1 cI u.2.2.2.1 (gM u.2.2.1 u.2.2.2.2.2.2.2.2.1), [(u.2.2.2.2.2.2.2.2.2.1, .inl (cD, u.2.2.1, .inr (.inr (.inr (.inr (gQ u.2.2.1 u.2.2.2.2.2.2.2.2.2.2.1))))))], gB u.2.2.1 u.2.2.2.2.2.2.2.2.2.2.1 cZ u.2.2.2.1 (gZ u.2.2.1 u.2.2.2.2.2.2.2.2.2.2.2)] : gW)) u))) A) args s 240 1200 A = Q
  have F9 : CallFix p m c cL_act 10 s args wsL_act RL := ⟨hx, hb, hml, hown, hts⟩
  obtain ⟨gw2, gw5, gh2, gh5⟩ := id gk
  have wh25 := wh_le gk
  refine z_entry (R := rmL_act) ha (Nat.le_of_ble_eq_true rfl) (fun ls hl => ?_)
  have hl : lv_has ls 10 [(0, .ref h0), (1, .ref m0), (2, .int s0)] := hl
  refine lv_iload_n hx hb dL_act_0 rfl (lv_at hl 2 rfl) ?_
  refine lv_iconst (v := 1) hx hb dL_act_1 (by decide) ?_
  refine lv_ishr hx hb dL_act_2 ?_
  refine lv_aload_n hx hb dL_act_3 rfl (lv_at hl 1 rfl) ?_
  refine s_get (D := (dC, dI)) (ci := 2) (v := .int (nI w)) (C := RX2) (T := TX2) (N := 6) hx hb hts iL_act_X2 hown hK hP 1 0 rfl rfl rfl 0 (by decide) (hts (.fieldLink RL 9 "ColourTideLaw$Sim" "w" "I") (List.mem_of_getElem? (i := 1) rfl)) (fun _ h9 => h9) rfl dL_act_4 ?_
  refine s_callSi (As := [.int (s0 >>> (1 &&& 31)), .int (nI w)]) (rest := []) F9 (m_L_below l dC dI cI cZ cJ cD (s0 >>> (1 &&& 31)) w (by omega) (by omega)) (va_cwS 2 hts gL_act_L_below rfl rfl rfl (by decide +kernel) ⟨Nat.le_of_ble_eq_true rfl, Nat.le_of_ble_eq_true rfl⟩) hK hN hP hD hS hA [] [0, 1, 2, 3, 4, 5] 6 rfl rfl (by decide) (fun (u : Nat) => ([g, [(m0, .inr (2, [.int (nI w), .int (nI h), .int (nI nd), .int wv, .ref mA, .ref tA]))], [(mA, .inl (cJ, w, .inr (.inr (.inr (.inr (gQ w rM))))))], gB w rM cI h (gM w K), [(tA, .inl (cD, w, .inr (.inr (.inr (.inr (gQ w rT))))))], gB w rT cZ h (gZ w T)] : gW)) [] [0, 1, 2, 3, 4, 5] 6 (fun _ => rfl) (fun _ => rfl) (fun _ => rfl) (by decide) rfl hl.1 rfl (Nat.le_of_ble_eq_true rfl) dL_act_7 ⟨by show 0 + 0 ≤ 240; omega, by show 0 + 0 ≤ 1200; omega⟩ (fun r_7 u H locs hp_7 hP hD hS => ?_)
  obtain ⟨x, rfl⟩ : ∃ z, z = u := ⟨_, rfl⟩
  have hP : va_P (dC, dI) vwCl (List.flatten ([g, [(m0, .inr (2, [.int (nI w), .int (nI h), .int (nI nd), .int wv, .ref mA, .ref tA]))], [(mA, .inl (cJ, w, .inr (.inr (.inr (.inr (gQ w rM))))))], gB w rM cI h (gM w K), [(tA, .inl (cD, w, .inr (.inr (.inr (.inr (gQ w rT))))))], gB w rT cZ h (gZ w T)] : gW)) H := hP
  have hD : va_D A (List.flatten ([g, [(m0, .inr (2, [.int (nI w), .int (nI h), .int (nI nd), .int wv, .ref mA, .ref tA]))], [(mA, .inl (cJ, w, .inr (.inr (.inr (.inr (gQ w rM))))))], gB w rM cI h (gM w K), [(tA, .inl (cD, w, .inr (.inr (.inr (.inr (gQ w rT))))))], gB w rT cZ h (gZ w T)] : gW)) := hD
  have hp_7 : r_7 = nI x ∧ x < w := hp_7
  refine z_topi (y := nI x) (hp_7.1) ?_
  have hxw := hp_7.2
  refine lv_istore_n (lv' := [(3, .int (nI x)), (0, .ref h0), (1, .ref m0), (2, .int s0)]) hx hb dL_act_10 rfl hl (by decide) rfl (fun ls hl => ?_)
  refine lv_iload_n hx hb dL_act_11 rfl (lv_at hl 3 rfl) ?_
  refine lv_iconst (v := 4) hx hb dL_act_12 (by decide) ?_
  refine lv_ishr hx hb dL_act_13 ?_
  refine lv_aload_n hx hb dL_act_14 rfl (lv_at hl 2 rfl) ?_
  refine s_get (D := (dC, dI)) (ci := 2) (v := .int (nI h)) (C := RX2) (T := TX2) (N := 6) hx hb hts iL_act_X2 hown hK hP 1 0 rfl rfl rfl 1 (by decide) (hts (.fieldLink RL 21 "ColourTideLaw$Sim" "h" "I") (List.mem_of_getElem? (i := 2) rfl)) (fun _ h9 => h9) rfl dL_act_15 ?_
  refine s_callSi (As := [.int (s0 >>> (4 &&& 31)), .int (nI h)]) (rest := []) F9 (m_L_below l dC dI cI cZ cJ cD (s0 >>> (4 &&& 31)) h (by omega) (by omega)) (va_cwS 2 hts gL_act_L_below rfl rfl rfl (by decide +kernel) ⟨Nat.le_of_ble_eq_true rfl, Nat.le_of_ble_eq_true rfl⟩) hK hN hP hD hS hA [] [0, 1, 2, 3, 4, 5] 6 rfl rfl (by decide) (fun (u : Nat) => ([g, [(m0, .inr (2, [.int (nI w), .int (nI h), .int (nI nd), .int wv, .ref mA, .ref tA]))], [(mA, .inl (cJ, w, .inr (.inr (.inr (.inr (gQ w rM))))))], gB w rM cI h (gM w K), [(tA, .inl (cD, w, .inr (.inr (.inr (.inr (gQ w rT))))))], gB w rT cZ h (gZ w T)] : gW)) [] [0, 1, 2, 3, 4, 5] 6 (fun _ => rfl) (fun _ => rfl) (fun _ => rfl) (by decide) rfl hl.1 rfl (Nat.le_of_ble_eq_true rfl) dL_act_18 ⟨by show 0 + 0 ≤ 240; omega, by show 0 + 0 ≤ 1200; omega⟩ (fun r_18 u H locs hp_18 hP hD hS => ?_)
  obtain ⟨y, rfl⟩ : ∃ z, z = u := ⟨_, rfl⟩
  have hP : va_P (dC, dI) vwCl (List.flatten ([g, [(m0, .inr (2, [.int (nI w), .int (nI h), .int (nI nd), .int wv, .ref mA, .ref tA]))], [(mA, .inl (cJ, w, .inr (.inr (.inr (.inr (gQ w rM))))))], gB w rM cI h (gM w K), [(tA, .inl (cD, w, .inr (.inr (.inr (.inr (gQ w rT))))))], gB w rT cZ h (gZ w T)] : gW)) H := hP
  have hD : va_D A (List.flatten ([g, [(m0, .inr (2, [.int (nI w), .int (nI h), .int (nI nd), .int wv, .ref mA, .ref tA]))], [(mA, .inl (cJ, w, .inr (.inr (.inr (.inr (gQ w rM))))))], gB w rM cI h (gM w K), [(tA, .inl (cD, w, .inr (.inr (.inr (.inr (gQ w rT))))))], gB w rT cZ h (gZ w T)] : gW)) := hD
  have hp_18 : r_18 = nI y ∧ y < h := hp_18
  refine z_topi (y := nI y) (hp_18.1) ?_
  have hyh := hp_18.2
  have hcc := cell_lt hxw hyh
  refine lv_istore (lv' := [(4, .int (nI y)), (3, .int (nI x)), (0, .ref h0), (1, .ref m0), (2, .int s0)]) hx hb dL_act_21 hl (by decide) rfl (fun ls hl => ?_)
  refine lv_iload_n hx hb dL_act_23 rfl (lv_at hl 4 rfl) ?_
  refine lv_bipush (v := 9) hx hb dL_act_24 (by decide +kernel) ?_
  refine lv_ishr hx hb dL_act_26 ?_
  refine lv_bipush (v := 16) hx hb dL_act_27 (by decide +kernel) ?_
  refine s_callSi (As := [.int (s0 >>> (9 &&& 31)), .int 16]) (rest := []) F9 (m_L_below l dC dI cI cZ cJ cD (s0 >>> (9 &&& 31)) 16 (by omega) (by omega)) (va_cwS 2 hts gL_act_L_below rfl rfl rfl (by decide +kernel) ⟨Nat.le_of_ble_eq_true rfl, Nat.le_of_ble_eq_true rfl⟩) hK hN hP hD hS hA [] [0, 1, 2, 3, 4, 5] 6 rfl rfl (by decide) (fun (u : Nat) => ([g, [(m0, .inr (2, [.int (nI w), .int (nI h), .int (nI nd), .int wv, .ref mA, .ref tA]))], [(mA, .inl (cJ, w, .inr (.inr (.inr (.inr (gQ w rM))))))], gB w rM cI h (gM w K), [(tA, .inl (cD, w, .inr (.inr (.inr (.inr (gQ w rT))))))], gB w rT cZ h (gZ w T)] : gW)) [] [0, 1, 2, 3, 4, 5] 6 (fun _ => rfl) (fun _ => rfl) (fun _ => rfl) (by decide) rfl hl.1 rfl (Nat.le_of_ble_eq_true rfl) dL_act_29 ⟨by show 0 + 0 ≤ 240; omega, by show 0 + 0 ≤ 1200; omega⟩ (fun r_29 u H locs hp_29 hP hD hS => ?_)
  obtain ⟨q9, rfl⟩ : ∃ z, z = u := ⟨_, rfl⟩
  have hP : va_P (dC, dI) vwCl (List.flatten ([g, [(m0, .inr (2, [.int (nI w), .int (nI h), .int (nI nd), .int wv, .ref mA, .ref tA]))], [(mA, .inl (cJ, w, .inr (.inr (.inr (.inr (gQ w rM))))))], gB w rM cI h (gM w K), [(tA, .inl (cD, w, .inr (.inr (.inr (.inr (gQ w rT))))))], gB w rT cZ h (gZ w T)] : gW)) H := hP
  have hD : va_D A (List.flatten ([g, [(m0, .inr (2, [.int (nI w), .int (nI h), .int (nI nd), .int wv, .ref mA, .ref tA]))], [(mA, .inl (cJ, w, .inr (.inr (.inr (.inr (gQ w rM))))))], gB w rM cI h (gM w K), [(tA, .inl (cD, w, .inr (.inr (.inr (.inr (gQ w rT))))))], gB w rT cZ h (gZ w T)] : gW)) := hD
  have hp_29 : r_29 = nI q9 ∧ q9 < 16 := hp_29
  refine z_topi (y := nI q9) (hp_29.1) ?_
  have hq9 := hp_29.2
  have t_76 : W p l e rmL_act s m args below meth c H locs (0) (0) Q (F0 m 76 ls []) := by
    refine lv_iload_n hx hb dL_act_76 rfl (lv_at hl 4 rfl) ?_
    refine lv_iconst (v := 4) hx hb dL_act_77 (by decide) ?_
    refine s_callSi (As := [.int s0, .int 4]) (rest := []) F9 (m_L_below l dC dI cI cZ cJ cD s0 4 (by omega) (by omega)) (va_cwS 2 hts gL_act_L_below rfl rfl rfl (by decide +kernel) ⟨Nat.le_of_ble_eq_true rfl, Nat.le_of_ble_eq_true rfl⟩) hK hN hP hD hS hA [] [0, 1, 2, 3, 4, 5] 6 rfl rfl (by decide) (fun (u : Nat) => ([g, [(m0, .inr (2, [.int (nI w), .int (nI h), .int (nI nd), .int wv, .ref mA, .ref tA]))], [(mA, .inl (cJ, w, .inr (.inr (.inr (.inr (gQ w rM))))))], gB w rM cI h (gM w K), [(tA, .inl (cD, w, .inr (.inr (.inr (.inr (gQ w rT))))))], gB w rT cZ h (gZ w T)] : gW)) [] [0, 1, 2, 3, 4, 5] 6 (fun _ => rfl) (fun _ => rfl) (fun _ => rfl) (by decide) rfl hl.1 rfl (Nat.le_of_ble_eq_true rfl) dL_act_78 ⟨by show 0 + 0 ≤ 240; omega, by show 0 + 0 ≤ 1200; omega⟩ (fun r_78 u H locs hp_78 hP hD hS => ?_)
    obtain ⟨qz, rfl⟩ : ∃ z, z = u := ⟨_, rfl⟩
    have hP : va_P (dC, dI) vwCl (List.flatten ([g, [(m0, .inr (2, [.int (nI w), .int (nI h), .int (nI nd), .int wv, .ref mA, .ref tA]))], [(mA, .inl (cJ, w, .inr (.inr (.inr (.inr (gQ w rM))))))], gB w rM cI h (gM w K), [(tA, .inl (cD, w, .inr (.inr (.inr (.inr (gQ w rT))))))], gB w rT cZ h (gZ w T)] : gW)) H := hP
    have hD : va_D A (List.flatten ([g, [(m0, .inr (2, [.int (nI w), .int (nI h), .int (nI nd), .int wv, .ref mA, .ref tA]))], [(mA, .inl (cJ, w, .inr (.inr (.inr (.inr (gQ w rM))))))], gB w rM cI h (gM w K), [(tA, .inl (cD, w, .inr (.inr (.inr (.inr (gQ w rT))))))], gB w rT cZ h (gZ w T)] : gW)) := hD
    have hp_78 : r_78 = nI qz ∧ qz < 4 := hp_78
    refine z_topi (y := nI qz) (hp_78.1) ?_
    refine lv_if_le (tgt := 86) hx hb dL_act_81 (by decide) (fun c_81 => ?_) (fun c_81 => ?_)
    · skip
      have n_81 := zc_le_t (a := qz) (b := 0) (by omega) (by omega) c_81
      refine s_new (ci := 2) (fs := [.int 0, .int 0, .int 0, .int 0, .null, .null]) (C := RX2) (T := TX2) (N := 6) hx hb hts iL_act_X2 tyX2 tyX2_ok hown (hts (.classLink RL 10 RX2) (List.mem_of_getElem? (i := 3) rfl)) (hts (.instantiable RX2 6) (List.mem_of_getElem? (i := 4) rfl)) (hts (.initialized RX2) (List.mem_of_getElem? (i := 5) rfl)) hK hP hD hS hA rfl (fun j hj => by rcases (show j = 0 ∨ j = 1 ∨ j = 2 ∨ j = 3 ∨ j = 4 ∨ j = 5 by omega) with rfl | rfl | rfl | rfl | rfl | rfl <;> rfl) (by show 0 + 1 ≤ 240; omega) (by show 0 + 6 ≤ 1200; omega) dL_act_86 (fun q_86 H hP hD hS => ?_)
      have hP : va_P (dC, dI) vwCl (List.flatten ([g, [(m0, .inr (2, [.int (nI w), .int (nI h), .int (nI nd), .int wv, .ref mA, .ref tA]))], [(mA, .inl (cJ, w, .inr (.inr (.inr (.inr (gQ w rM))))))], gB w rM cI h (gM w K), [(tA, .inl (cD, w, .inr (.inr (.inr (.inr (gQ w rT))))))], gB w rT cZ h (gZ w T), [(q_86, .inr (2, [.int 0, .int 0, .int 0, .int 0, .null, .null]))]] : gW)) H := hP
      have hD : va_D A (List.flatten ([g, [(m0, .inr (2, [.int (nI w), .int (nI h), .int (nI nd), .int wv, .ref mA, .ref tA]))], [(mA, .inl (cJ, w, .inr (.inr (.inr (.inr (gQ w rM))))))], gB w rM cI h (gM w K), [(tA, .inl (cD, w, .inr (.inr (.inr (.inr (gQ w rT))))))], gB w rT cZ h (gZ w T), [(q_86, .inr (2, [.int 0, .int 0, .int 0, .int 0, .null, .null]))]] : gW)) := hD
      refine W.widen (k := 1) (n := 6) (by omega) (by omega) ?_
      refine lv_dup hx hb dL_act_89 rfl ?_
      refine lv_iconst (v := 2) hx hb dL_act_90 (by decide) ?_
      refine lv_iload_n hx hb dL_act_91 rfl (lv_at hl 4 rfl) ?_
      refine lv_iconst (v := 2) hx hb dL_act_92 (by decide) ?_
      refine lv_ishr hx hb dL_act_93 ?_
      refine lv_iconst (v := 4) hx hb dL_act_94 (by decide) ?_
      refine s_callSi (As := [.int (s0 >>> (2 &&& 31)), .int 4]) (rest := [.int 2, .ref q_86, .ref q_86]) F9 (m_L_below l dC dI cI cZ cJ cD (s0 >>> (2 &&& 31)) 4 (by omega) (by omega)) (va_cwS 2 hts gL_act_L_below rfl rfl rfl (by decide +kernel) ⟨Nat.le_of_ble_eq_true rfl, Nat.le_of_ble_eq_true rfl⟩) hK hN hP hD hS hA [] [0, 1, 2, 3, 4, 5, 6] 7 rfl rfl (by decide) (fun (u : Nat) => ([g, [(m0, .inr (2, [.int (nI w), .int (nI h), .int (nI nd), .int wv, .ref mA, .ref tA]))], [(mA, .inl (cJ, w, .inr (.inr (.inr (.inr (gQ w rM))))))], gB w rM cI h (gM w K), [(tA, .inl (cD, w, .inr (.inr (.inr (.inr (gQ w rT))))))], gB w rT cZ h (gZ w T), [(q_86, .inr (2, [.int 0, .int 0, .int 0, .int 0, .null, .null]))]] : gW)) [] [0, 1, 2, 3, 4, 5, 6] 7 (fun _ => rfl) (fun _ => rfl) (fun _ => rfl) (by decide) rfl hl.1 rfl (Nat.le_of_ble_eq_true rfl) dL_act_95 ⟨by show 1 + 0 ≤ 240; omega, by show 6 + 0 ≤ 1200; omega⟩ (fun r_95 u H locs hp_95 hP hD hS => ?_)
      obtain ⟨qa, rfl⟩ : ∃ z, z = u := ⟨_, rfl⟩
      have hP : va_P (dC, dI) vwCl (List.flatten ([g, [(m0, .inr (2, [.int (nI w), .int (nI h), .int (nI nd), .int wv, .ref mA, .ref tA]))], [(mA, .inl (cJ, w, .inr (.inr (.inr (.inr (gQ w rM))))))], gB w rM cI h (gM w K), [(tA, .inl (cD, w, .inr (.inr (.inr (.inr (gQ w rT))))))], gB w rT cZ h (gZ w T), [(q_86, .inr (2, [.int 0, .int 0, .int 0, .int 0, .null, .null]))]] : gW)) H := hP
      have hD : va_D A (List.flatten ([g, [(m0, .inr (2, [.int (nI w), .int (nI h), .int (nI nd), .int wv, .ref mA, .ref tA]))], [(mA, .inl (cJ, w, .inr (.inr (.inr (.inr (gQ w rM))))))], gB w rM cI h (gM w K), [(tA, .inl (cD, w, .inr (.inr (.inr (.inr (gQ w rT))))))], gB w rT cZ h (gZ w T), [(q_86, .inr (2, [.int 0, .int 0, .int 0, .int 0, .null, .null]))]] : gW)) := hD
      have hp_95 : r_95 = nI qa ∧ qa < 4 := hp_95
      refine z_topi (y := nI qa) (hp_95.1) ?_
      have hqa := hp_95.2
      refine lv_iadd hx hb dL_act_98 ?_
      refine z_topi (y := nI (2 + qa)) (nI_add 2 qa) ?_
      refine lv_iconst (v := 2) hx hb dL_act_99 (by decide) ?_
      refine lv_iload_n hx hb dL_act_100 rfl (lv_at hl 4 rfl) ?_
      refine lv_iconst (v := 5) hx hb dL_act_101 (by decide) ?_
      refine lv_ishr hx hb dL_act_102 ?_
      refine lv_iconst (v := 4) hx hb dL_act_103 (by decide) ?_
      refine s_callSi (As := [.int (s0 >>> (5 &&& 31)), .int 4]) (rest := [.int 2, .int (nI (2 + qa)), .ref q_86, .ref q_86]) F9 (m_L_below l dC dI cI cZ cJ cD (s0 >>> (5 &&& 31)) 4 (by omega) (by omega)) (va_cwS 2 hts gL_act_L_below rfl rfl rfl (by decide +kernel) ⟨Nat.le_of_ble_eq_true rfl, Nat.le_of_ble_eq_true rfl⟩) hK hN hP hD hS hA [] [0, 1, 2, 3, 4, 5, 6] 7 rfl rfl (by decide) (fun (u : Nat) => ([g, [(m0, .inr (2, [.int (nI w), .int (nI h), .int (nI nd), .int wv, .ref mA, .ref tA]))], [(mA, .inl (cJ, w, .inr (.inr (.inr (.inr (gQ w rM))))))], gB w rM cI h (gM w K), [(tA, .inl (cD, w, .inr (.inr (.inr (.inr (gQ w rT))))))], gB w rT cZ h (gZ w T), [(q_86, .inr (2, [.int 0, .int 0, .int 0, .int 0, .null, .null]))]] : gW)) [] [0, 1, 2, 3, 4, 5, 6] 7 (fun _ => rfl) (fun _ => rfl) (fun _ => rfl) (by decide) rfl hl.1 rfl (Nat.le_of_ble_eq_true rfl) dL_act_104 ⟨by show 1 + 0 ≤ 240; omega, by show 6 + 0 ≤ 1200; omega⟩ (fun r_104 u H locs hp_104 hP hD hS => ?_)
      obtain ⟨qb, rfl⟩ : ∃ z, z = u := ⟨_, rfl⟩
      have hP : va_P (dC, dI) vwCl (List.flatten ([g, [(m0, .inr (2, [.int (nI w), .int (nI h), .int (nI nd), .int wv, .ref mA, .ref tA]))], [(mA, .inl (cJ, w, .inr (.inr (.inr (.inr (gQ w rM))))))], gB w rM cI h (gM w K), [(tA, .inl (cD, w, .inr (.inr (.inr (.inr (gQ w rT))))))], gB w rT cZ h (gZ w T), [(q_86, .inr (2, [.int 0, .int 0, .int 0, .int 0, .null, .null]))]] : gW)) H := hP
      have hD : va_D A (List.flatten ([g, [(m0, .inr (2, [.int (nI w), .int (nI h), .int (nI nd), .int wv, .ref mA, .ref tA]))], [(mA, .inl (cJ, w, .inr (.inr (.inr (.inr (gQ w rM))))))], gB w rM cI h (gM w K), [(tA, .inl (cD, w, .inr (.inr (.inr (.inr (gQ w rT))))))], gB w rT cZ h (gZ w T), [(q_86, .inr (2, [.int 0, .int 0, .int 0, .int 0, .null, .null]))]] : gW)) := hD
      have hp_104 : r_104 = nI qb ∧ qb < 4 := hp_104
      refine z_topi (y := nI qb) (hp_104.1) ?_
      have hqb := hp_104.2
      have gk2 : gok (2 + qa) (2 + qb) := ⟨by omega, by omega, by omega, by omega⟩
      refine lv_iadd hx hb dL_act_107 ?_
      refine z_topi (y := nI (2 + qb)) (nI_add 2 qb) ?_
      refine s_callI (As := [.int (nI (2 + qa)), .int (nI (2 + qb))]) (rest := [.ref q_86]) F9 (m_X2_init l dC dI cI cZ cJ cD q_86 (2 + qa) (2 + qb) (gk2)) (cwI 2 hts gL_act_X2_init rfl rfl rfl (hts (.initialized RX2) (List.mem_of_getElem? (i := 5) rfl)) (hts (.methodLink RL 24 yX2_init) (List.mem_of_getElem? (i := 15) rfl)) (hts (.instanceMethod yX2_init) (List.mem_of_getElem? (i := 16) rfl)) rfl (by decide +kernel) ⟨Nat.le_of_ble_eq_true rfl, Nat.le_of_ble_eq_true rfl⟩) hK hN hP hD hS hA [6] [0, 1, 2, 3, 4, 5] 7 rfl rfl (by decide) (fun (u : Nat × (Nat → Nat) × Nat × (Nat → Nat)) => ([g, [(m0, .inr (2, [.int (nI w), .int (nI h), .int (nI nd), .int wv, .ref mA, .ref tA]))], [(mA, .inl (cJ, w, .inr (.inr (.inr (.inr (gQ w rM))))))], gB w rM cI h (gM w K), [(tA, .inl (cD, w, .inr (.inr (.inr (.inr (gQ w rT))))))], gB w rT cZ h (gZ w T), [(q_86, .inr (2, [.int (nI (2 + qa)), .int (nI (2 + qb)), .int (nI 2), .int 0, .ref u.1, .ref u.2.2.1]))], [(u.1, .inl (cJ, (2 + qa), .inr (.inr (.inr (.inr (gQ (2 + qa) u.2.1))))))], gB (2 + qa) u.2.1 cI (2 + qb) (gM (2 + qa) (fun _ => 0)), [(u.2.2.1, .inl (cD, (2 + qa), .inr (.inr (.inr (.inr (gQ (2 + qa) u.2.2.2))))))], gB (2 + qa) u.2.2.2 cZ (2 + qb) (gZ (2 + qa) (fun _ => false))] : gW)) [6, 7, 8, 9, 10] [0, 1, 2, 3, 4, 5] 11 (fun _ => rfl) (fun _ => rfl) (fun _ => rfl) (by decide) rfl hl.1 rfl (Nat.le_of_ble_eq_true rfl) dL_act_108 ⟨by show 1 + 12 ≤ 240; omega, by show 6 + 60 ≤ 1200; omega⟩ (fun u H locs hp_108 hP hD hS => ?_)
      obtain ⟨mB_1, rB_2, tB_3, sB_4⟩ := u
      have hP : va_P (dC, dI) vwCl (List.flatten ([g, [(m0, .inr (2, [.int (nI w), .int (nI h), .int (nI nd), .int wv, .ref mA, .ref tA]))], [(mA, .inl (cJ, w, .inr (.inr (.inr (.inr (gQ w rM))))))], gB w rM cI h (gM w K), [(tA, .inl (cD, w, .inr (.inr (.inr (.inr (gQ w rT))))))], gB w rT cZ h (gZ w T), [(q_86, .inr (2, [.int (nI (2 + qa)), .int (nI (2 + qb)), .int (nI 2), .int 0, .ref mB_1, .ref tB_3]))], [(mB_1, .inl (cJ, (2 + qa), .inr (.inr (.inr (.inr (gQ (2 + qa) rB_2))))))], gB (2 + qa) rB_2 cI (2 + qb) (gM (2 + qa) (fun _ => 0)), [(tB_3, .inl (cD, (2 + qa), .inr (.inr (.inr (.inr (gQ (2 + qa) sB_4))))))], gB (2 + qa) sB_4 cZ (2 + qb) (gZ (2 + qa) (fun _ => false))] : gW)) H := hP
      have hD : va_D A (List.flatten ([g, [(m0, .inr (2, [.int (nI w), .int (nI h), .int (nI nd), .int wv, .ref mA, .ref tA]))], [(mA, .inl (cJ, w, .inr (.inr (.inr (.inr (gQ w rM))))))], gB w rM cI h (gM w K), [(tA, .inl (cD, w, .inr (.inr (.inr (.inr (gQ w rT))))))], gB w rT cZ h (gZ w T), [(q_86, .inr (2, [.int (nI (2 + qa)), .int (nI (2 + qb)), .int (nI 2), .int 0, .ref mB_1, .ref tB_3]))], [(mB_1, .inl (cJ, (2 + qa), .inr (.inr (.inr (.inr (gQ (2 + qa) rB_2))))))], gB (2 + qa) rB_2 cI (2 + qb) (gM (2 + qa) (fun _ => 0)), [(tB_3, .inl (cD, (2 + qa), .inr (.inr (.inr (.inr (gQ (2 + qa) sB_4))))))], gB (2 + qa) sB_4 cZ (2 + qb) (gZ (2 + qa) (fun _ => false))] : gW)) := hD
      refine lv_astore (lv' := [(5, .ref q_86), (4, .int (nI y)), (3, .int (nI x)), (0, .ref h0), (1, .ref m0), (2, .int s0)]) hx hb dL_act_111 hl (by decide) rfl (fun ls hl => ?_)
      refine lv_aload hx hb dL_act_113 (lv_at hl 0 rfl) ?_
      refine lv_aload_n hx hb dL_act_115 rfl (lv_at hl 4 rfl) ?_
      refine s_get (D := (dC, dI)) (ci := 2) (v := .int (nI nd)) (C := RX2) (T := TX2) (N := 6) hx hb hts iL_act_X2 hown hK hP 1 0 rfl rfl rfl 2 (by decide) (hts (.fieldLink RL 27 "ColourTideLaw$Sim" "need" "I") (List.mem_of_getElem? (i := 6) rfl)) (fun _ h9 => h9) rfl dL_act_116 ?_
      refine s_put (D := (dC, dI)) (ci := 2) (v := .int (nI nd)) (ty := .int) (C := RX2) (T := TX2) (N := 6) hx hb hts iL_act_X2 tyX2 tyX2_ok nmX2 hown hK hP hD hS 6 0 rfl rfl rfl 2 (by decide) (hts (.fieldLink RL 27 "ColourTideLaw$Sim" "need" "I") (List.mem_of_getElem? (i := 6) rfl)) (fun _ h9 => h9) rfl (by decide +kernel) rfl rfl (Nat.le_of_ble_eq_true rfl) dL_act_119 (fun H locs hP hD hS => ?_)
      have hP : va_P (dC, dI) vwCl (List.flatten ([g, [(m0, .inr (2, [.int (nI w), .int (nI h), .int (nI nd), .int wv, .ref mA, .ref tA]))], [(mA, .inl (cJ, w, .inr (.inr (.inr (.inr (gQ w rM))))))], gB w rM cI h (gM w K), [(tA, .inl (cD, w, .inr (.inr (.inr (.inr (gQ w rT))))))], gB w rT cZ h (gZ w T), [(q_86, .inr (2, [.int (nI (2 + qa)), .int (nI (2 + qb)), .int (nI nd), .int 0, .ref mB_1, .ref tB_3]))], [(mB_1, .inl (cJ, (2 + qa), .inr (.inr (.inr (.inr (gQ (2 + qa) rB_2))))))], gB (2 + qa) rB_2 cI (2 + qb) (gM (2 + qa) (fun _ => 0)), [(tB_3, .inl (cD, (2 + qa), .inr (.inr (.inr (.inr (gQ (2 + qa) sB_4))))))], gB (2 + qa) sB_4 cZ (2 + qb) (gZ (2 + qa) (fun _ => false))] : gW)) H := hP
      have hD : va_D A (List.flatten ([g, [(m0, .inr (2, [.int (nI w), .int (nI h), .int (nI nd), .int wv, .ref mA, .ref tA]))], [(mA, .inl (cJ, w, .inr (.inr (.inr (.inr (gQ w rM))))))], gB w rM cI h (gM w K), [(tA, .inl (cD, w, .inr (.inr (.inr (.inr (gQ w rT))))))], gB w rT cZ h (gZ w T), [(q_86, .inr (2, [.int (nI (2 + qa)), .int (nI (2 + qb)), .int (nI nd), .int 0, .ref mB_1, .ref tB_3]))], [(mB_1, .inl (cJ, (2 + qa), .inr (.inr (.inr (.inr (gQ (2 + qa) rB_2))))))], gB (2 + qa) rB_2 cI (2 + qb) (gM (2 + qa) (fun _ => 0)), [(tB_3, .inl (cD, (2 + qa), .inr (.inr (.inr (.inr (gQ (2 + qa) sB_4))))))], gB (2 + qa) sB_4 cZ (2 + qb) (gZ (2 + qa) (fun _ => false))] : gW)) := hD
      refine lv_aload_n hx hb dL_act_122 rfl (lv_at hl 3 rfl) ?_
      refine lv_aload hx hb dL_act_123 (lv_at hl 0 rfl) ?_
      refine s_get (D := (dC, dI)) (ci := 2) (v := .int (nI (2 + qa))) (C := RX2) (T := TX2) (N := 6) hx hb hts iL_act_X2 hown hK hP 6 0 rfl rfl rfl 0 (by decide) (hts (.fieldLink RL 9 "ColourTideLaw$Sim" "w" "I") (List.mem_of_getElem? (i := 1) rfl)) (fun _ h9 => h9) rfl dL_act_125 ?_
      refine lv_aload hx hb dL_act_128 (lv_at hl 0 rfl) ?_
      refine s_get (D := (dC, dI)) (ci := 2) (v := .int (nI (2 + qb))) (C := RX2) (T := TX2) (N := 6) hx hb hts iL_act_X2 hown hK hP 6 0 rfl rfl rfl 1 (by decide) (hts (.fieldLink RL 21 "ColourTideLaw$Sim" "h" "I") (List.mem_of_getElem? (i := 2) rfl)) (fun _ h9 => h9) rfl dL_act_130 ?_
      obtain ⟨fs9, ho9⟩ := CT_obj hg
      refine s_callVi (As := [.int (nI (2 + qa)), .int (nI (2 + qb))]) (rest := []) F9 (k_newMap l dC dI cI cZ cJ cD hg  (2 + qa) (2 + qb) (gk2)) (cwV 2 hts gL_act_X1_newMap rfl rfl rfl (by decide +kernel) ⟨Nat.le_of_ble_eq_true rfl, Nat.le_of_ble_eq_true rfl⟩) hK hN hP hD hS hA [0] [1, 2, 3, 4, 5, 6, 7, 8, 9, 10] 11 rfl rfl (by decide) (fun (u : va_W) => ([u, [(m0, .inr (2, [.int (nI w), .int (nI h), .int (nI nd), .int wv, .ref mA, .ref tA]))], [(mA, .inl (cJ, w, .inr (.inr (.inr (.inr (gQ w rM))))))], gB w rM cI h (gM w K), [(tA, .inl (cD, w, .inr (.inr (.inr (.inr (gQ w rT))))))], gB w rT cZ h (gZ w T), [(q_86, .inr (2, [.int (nI (2 + qa)), .int (nI (2 + qb)), .int (nI nd), .int 0, .ref mB_1, .ref tB_3]))], [(mB_1, .inl (cJ, (2 + qa), .inr (.inr (.inr (.inr (gQ (2 + qa) rB_2))))))], gB (2 + qa) rB_2 cI (2 + qb) (gM (2 + qa) (fun _ => 0)), [(tB_3, .inl (cD, (2 + qa), .inr (.inr (.inr (.inr (gQ (2 + qa) sB_4))))))], gB (2 + qa) sB_4 cZ (2 + qb) (gZ (2 + qa) (fun _ => false))] : gW)) [0] [1, 2, 3, 4, 5, 6, 7, 8, 9, 10] 11 (fun _ => rfl) (fun _ => rfl) (fun _ => rfl) (by decide) 0 0 (ci := 1) rfl ho9 rfl rfl rfl hl.1 rfl (Nat.le_of_ble_eq_true rfl) dL_act_133 ⟨by show 1 + 12 + 0 ≤ 240; omega, by show 6 + 60 + 0 ≤ 1200; omega⟩ (fun r_133 g_133 H locs hp_133 hP hD hS => ?_)
      have hP : va_P (dC, dI) vwCl (List.flatten ([g_133, [(m0, .inr (2, [.int (nI w), .int (nI h), .int (nI nd), .int wv, .ref mA, .ref tA]))], [(mA, .inl (cJ, w, .inr (.inr (.inr (.inr (gQ w rM))))))], gB w rM cI h (gM w K), [(tA, .inl (cD, w, .inr (.inr (.inr (.inr (gQ w rT))))))], gB w rT cZ h (gZ w T), [(q_86, .inr (2, [.int (nI (2 + qa)), .int (nI (2 + qb)), .int (nI nd), .int 0, .ref mB_1, .ref tB_3]))], [(mB_1, .inl (cJ, (2 + qa), .inr (.inr (.inr (.inr (gQ (2 + qa) rB_2))))))], gB (2 + qa) rB_2 cI (2 + qb) (gM (2 + qa) (fun _ => 0)), [(tB_3, .inl (cD, (2 + qa), .inr (.inr (.inr (.inr (gQ (2 + qa) sB_4))))))], gB (2 + qa) sB_4 cZ (2 + qb) (gZ (2 + qa) (fun _ => false))] : gW)) H := hP
      have hD : va_D A (List.flatten ([g_133, [(m0, .inr (2, [.int (nI w), .int (nI h), .int (nI nd), .int wv, .ref mA, .ref tA]))], [(mA, .inl (cJ, w, .inr (.inr (.inr (.inr (gQ w rM))))))], gB w rM cI h (gM w K), [(tA, .inl (cD, w, .inr (.inr (.inr (.inr (gQ w rT))))))], gB w rT cZ h (gZ w T), [(q_86, .inr (2, [.int (nI (2 + qa)), .int (nI (2 + qb)), .int (nI nd), .int 0, .ref mB_1, .ref tB_3]))], [(mB_1, .inl (cJ, (2 + qa), .inr (.inr (.inr (.inr (gQ (2 + qa) rB_2))))))], gB (2 + qa) rB_2 cI (2 + qb) (gM (2 + qa) (fun _ => 0)), [(tB_3, .inl (cD, (2 + qa), .inr (.inr (.inr (.inr (gQ (2 + qa) sB_4))))))], gB (2 + qa) sB_4 cZ (2 + qb) (gZ (2 + qa) (fun _ => false))] : gW)) := hD
      obtain ⟨hp_133, hg_133⟩ := hp_133
      have hg_133 : CT cI (2 + qa) (2 + qb) nd 0 (fun _ => false) (fun _ => 0) h0 g_133 := hg_133
      refine z_topi (y := nI ((2 + qa) * (2 + qb))) (hp_133) ?_
      refine lv_aload hx hb dL_act_136 (lv_at hl 0 rfl) ?_
      refine s_get (D := (dC, dI)) (ci := 2) (v := .int (nI (2 + qa))) (C := RX2) (T := TX2) (N := 6) hx hb hts iL_act_X2 hown hK hP 6 0 rfl rfl rfl 0 (by decide) (hts (.fieldLink RL 9 "ColourTideLaw$Sim" "w" "I") (List.mem_of_getElem? (i := 1) rfl)) (fun _ h9 => h9) rfl dL_act_138 ?_
      refine lv_aload hx hb dL_act_141 (lv_at hl 0 rfl) ?_
      refine s_get (D := (dC, dI)) (ci := 2) (v := .int (nI (2 + qb))) (C := RX2) (T := TX2) (N := 6) hx hb hts iL_act_X2 hown hK hP 6 0 rfl rfl rfl 1 (by decide) (hts (.fieldLink RL 21 "ColourTideLaw$Sim" "h" "I") (List.mem_of_getElem? (i := 2) rfl)) (fun _ h9 => h9) rfl dL_act_143 ?_
      refine lv_imul hx hb dL_act_146 ?_
      refine z_topi (y := nI ((2 + qa) * (2 + qb))) (pk_mul (2 + qa) (2 + qb)) ?_
      refine lv_icmp_ne (tgt := 155) hx hb dL_act_147 (by decide) (fun c_147 => ?_) (fun c_147 => ?_)
      · skip
        exact absurd rfl c_147
      · skip
        refine lv_aload hx hb dL_act_150 (lv_at hl 0 rfl) ?_
        refine lv_goto (tgt := 156) hx hb dL_act_152 (by decide) ?_
        rw [← hQ]
        exact s_aret (W1 := (fun (u : va_W × Nat × Nat × Nat × Nat × Int32 × Nat × (Nat → Nat) × (Nat → Nat) × Nat × (Nat → Nat) × (Nat → Bool)) => ([u.1, [(u.2.1, .inr (2, [.int (nI u.2.2.1), .int (nI u.2.2.2.1), .int (nI u.2.2.2.2.1), .int u.2.2.2.2.2.1, .ref u.2.2.2.2.2.2.1, .ref u.2.2.2.2.2.2.2.2.2.1]))], [(u.2.2.2.2.2.2.1, .inl (cJ, u.2.2.1, .inr (.inr (.inr (.inr (gQ u.2.2.1 u.2.2.2.2.2.2.2.1))))))], gB u.2.2.1 u.2.2.2.2.2.2.2.1 cI u.2.2.2.1 (gM u.2.2.1 u.2.2.2.2.2.2.2.2.1), [(u.2.2.2.2.2.2.2.2.2.1, .inl (cD, u.2.2.1, .inr (.inr (.inr (.inr (gQ u.2.2.1 u.2.2.2.2.2.2.2.2.2.2.1))))))], gB u.2.2.1 u.2.2.2.2.2.2.2.2.2.2.1 cZ u.2.2.2.1 (gZ u.2.2.1 u.2.2.2.2.2.2.2.2.2.2.2)] : gW))) (ad := (fun (u : va_W × Nat × Nat × Nat × Nat × Int32 × Nat × (Nat → Nat) × (Nat → Nat) × Nat × (Nat → Nat) × (Nat → Bool)) => u.2.1)) hx hb hr (Or.inl ⟨_, rfl⟩) hlocks hP hD hS (g_133, q_86, (2 + qa), (2 + qb), nd, 0, mB_1, rB_2, (fun _ => 0), tB_3, sB_4, (fun _ => false)) rfl [0, 6, 7, 8, 9, 10] [1, 2, 3, 4, 5] 11 rfl rfl (by decide) (⟨hg_133, gk2, h1, h4, fun _ => Nat.zero_le _⟩) (by omega) (by omega) dL_act_156
    · skip
      have n_81 := zc_le_f (a := qz) (b := 0) (by omega) (by omega) c_81
      refine lv_aload_n hx hb dL_act_84 rfl (lv_at hl 3 rfl) ?_
      rw [← hQ]
      exact s_aret (W1 := (fun (u : va_W × Nat × Nat × Nat × Nat × Int32 × Nat × (Nat → Nat) × (Nat → Nat) × Nat × (Nat → Nat) × (Nat → Bool)) => ([u.1, [(u.2.1, .inr (2, [.int (nI u.2.2.1), .int (nI u.2.2.2.1), .int (nI u.2.2.2.2.1), .int u.2.2.2.2.2.1, .ref u.2.2.2.2.2.2.1, .ref u.2.2.2.2.2.2.2.2.2.1]))], [(u.2.2.2.2.2.2.1, .inl (cJ, u.2.2.1, .inr (.inr (.inr (.inr (gQ u.2.2.1 u.2.2.2.2.2.2.2.1))))))], gB u.2.2.1 u.2.2.2.2.2.2.2.1 cI u.2.2.2.1 (gM u.2.2.1 u.2.2.2.2.2.2.2.2.1), [(u.2.2.2.2.2.2.2.2.2.1, .inl (cD, u.2.2.1, .inr (.inr (.inr (.inr (gQ u.2.2.1 u.2.2.2.2.2.2.2.2.2.2.1))))))], gB u.2.2.1 u.2.2.2.2.2.2.2.2.2.2.1 cZ u.2.2.2.1 (gZ u.2.2.1 u.2.2.2.2.2.2.2.2.2.2.2)] : gW))) (ad := (fun (u : va_W × Nat × Nat × Nat × Nat × Int32 × Nat × (Nat → Nat) × (Nat → Nat) × Nat × (Nat → Nat) × (Nat → Bool)) => u.2.1)) hx hb hr (Or.inl ⟨_, rfl⟩) hlocks hP hD hS (g, m0, w, h, nd, wv, mA, rM, K, tA, rT, T) rfl [0, 1, 2, 3, 4, 5] [] 6 rfl rfl (by decide) (⟨hg, gk, h1, h4, hK4⟩) (by omega) (by omega) dL_act_85
  have t_157 : W p l e rmL_act s m args below meth c H locs (0) (0) Q (F0 m 157 ls []) := by
    refine lv_aload_n hx hb dL_act_157 rfl (lv_at hl 3 rfl) ?_
    refine s_get (D := (dC, dI)) (ci := 2) (v := .ref tA) (C := RX2) (T := TX2) (N := 6) hx hb hts iL_act_X2 hown hK hP 1 0 rfl rfl rfl 5 (by decide) (hts (.fieldLink RL 35 "ColourTideLaw$Sim" "stubborn" "[[Z") (List.mem_of_getElem? (i := 7) rfl)) (fun _ h9 => h9) rfl dL_act_158 ?_
    refine lv_iload_n hx hb dL_act_161 rfl (lv_at hl 1 rfl) ?_
    refine s_qald hx hb hK hP 4 3 rfl rfl rfl x (rfl) (by omega) (by omega) dL_act_162 ?_
    refine lv_iload hx hb dL_act_163 (lv_at hl 0 rfl) ?_
    refine lv_aload_n hx hb dL_act_165 rfl (lv_at hl 3 rfl) ?_
    refine s_get (D := (dC, dI)) (ci := 2) (v := .ref tA) (C := RX2) (T := TX2) (N := 6) hx hb hts iL_act_X2 hown hK hP 1 0 rfl rfl rfl 5 (by decide) (hts (.fieldLink RL 35 "ColourTideLaw$Sim" "stubborn" "[[Z") (List.mem_of_getElem? (i := 7) rfl)) (fun _ h9 => h9) rfl dL_act_166 ?_
    refine lv_iload_n hx hb dL_act_169 rfl (lv_at hl 1 rfl) ?_
    refine s_qald hx hb hK hP 4 3 rfl rfl rfl x (rfl) (by omega) (by omega) dL_act_170 ?_
    refine lv_iload hx hb dL_act_171 (lv_at hl 0 rfl) ?_
    refine s_gzald hx hb hK hP 5 1 x rfl (by omega) rfl y (rfl) (by omega) (by omega) dL_act_173 ?_
    refine z_topi (y := bz (T (w * y + x))) (rfl) ?_
    suffices j_182 : ∀ v_182 : Int32, v_182 = (bz (!T (w * y + x))) → W p l e rmL_act s m args below meth c H locs (0) (0) Q (F0 m 182 ls [.int v_182, .int (nI y), .ref (rT x)]) by
      refine lv_if_ne (tgt := 181) hx hb dL_act_174 (by decide) (fun c_174 => ?_) (fun c_174 => ?_)
      · skip
        refine lv_iconst (v := 0) hx hb dL_act_181 (by decide) ?_
        exact j_182 _ (by rw [bz_1 c_174]; rfl)
      · skip
        refine lv_iconst (v := 1) hx hb dL_act_177 (by decide) ?_
        refine lv_goto (tgt := 182) hx hb dL_act_178 (by decide) ?_
        exact j_182 _ (by rw [bz_0 c_174]; rfl)
    intro v_182 h_v_182
    rw [h_v_182]
    refine s_gzast hx hb hK hP hD hS 5 1 x rfl (by omega) rfl y (rfl) (by omega) (by omega) (bz_nar _) dL_act_182 (fun H locs hP hD hS => ?_)
    have hP : va_P (dC, dI) vwCl (List.flatten ([g, [(m0, .inr (2, [.int (nI w), .int (nI h), .int (nI nd), .int wv, .ref mA, .ref tA]))], [(mA, .inl (cJ, w, .inr (.inr (.inr (.inr (gQ w rM))))))], gB w rM cI h (gM w K), [(tA, .inl (cD, w, .inr (.inr (.inr (.inr (gQ w rT))))))], gB w rT cZ h (gU (gZ w T) x y (bz (!T (w * y + x))))] : gW)) H := hP
    have hD : va_D A (List.flatten ([g, [(m0, .inr (2, [.int (nI w), .int (nI h), .int (nI nd), .int wv, .ref mA, .ref tA]))], [(mA, .inl (cJ, w, .inr (.inr (.inr (.inr (gQ w rM))))))], gB w rM cI h (gM w K), [(tA, .inl (cD, w, .inr (.inr (.inr (.inr (gQ w rT))))))], gB w rT cZ h (gU (gZ w T) x y (bz (!T (w * y + x))))] : gW)) := hD
    obtain ⟨hP, hD⟩ := sg_ren hP hD 5 rfl (M2 := (gZ w (fun d => if d = w * y + x then !T (w * y + x) else T d))) (fun i j hi hj => gZ_U hxw hi)
    have hP : va_P (dC, dI) vwCl (List.flatten ([g, [(m0, .inr (2, [.int (nI w), .int (nI h), .int (nI nd), .int wv, .ref mA, .ref tA]))], [(mA, .inl (cJ, w, .inr (.inr (.inr (.inr (gQ w rM))))))], gB w rM cI h (gM w K), [(tA, .inl (cD, w, .inr (.inr (.inr (.inr (gQ w rT))))))], gB w rT cZ h (gZ w (fun d => if d = w * y + x then !T (w * y + x) else T d))] : gW)) H := hP
    have hD : va_D A (List.flatten ([g, [(m0, .inr (2, [.int (nI w), .int (nI h), .int (nI nd), .int wv, .ref mA, .ref tA]))], [(mA, .inl (cJ, w, .inr (.inr (.inr (.inr (gQ w rM))))))], gB w rM cI h (gM w K), [(tA, .inl (cD, w, .inr (.inr (.inr (.inr (gQ w rT))))))], gB w rT cZ h (gZ w (fun d => if d = w * y + x then !T (w * y + x) else T d))] : gW)) := hD
    refine lv_aload_n hx hb dL_act_183 rfl (lv_at hl 2 rfl) ?_
    refine lv_iload_n hx hb dL_act_184 rfl (lv_at hl 1 rfl) ?_
    refine lv_iload hx hb dL_act_185 (lv_at hl 0 rfl) ?_
    obtain ⟨fs9, ho9⟩ := CT_obj hg
    refine s_callVi (As := [.int (nI x), .int (nI y)]) (rest := []) F9 (k_turnStubborn l dC dI cI cZ cJ cD hg gk h1 h4 hK4 x y (hxw) (hyh)) (cwV 2 hts gL_act_X1_turnStubborn rfl rfl rfl (by decide +kernel) ⟨Nat.le_of_ble_eq_true rfl, Nat.le_of_ble_eq_true rfl⟩) hK hN hP hD hS hA [0] [1, 2, 3, 4, 5] 6 rfl rfl (by decide) (fun (u : va_W) => ([u, [(m0, .inr (2, [.int (nI w), .int (nI h), .int (nI nd), .int wv, .ref mA, .ref tA]))], [(mA, .inl (cJ, w, .inr (.inr (.inr (.inr (gQ w rM))))))], gB w rM cI h (gM w K), [(tA, .inl (cD, w, .inr (.inr (.inr (.inr (gQ w rT))))))], gB w rT cZ h (gZ w (fun d => if d = w * y + x then !T (w * y + x) else T d))] : gW)) [0] [1, 2, 3, 4, 5] 6 (fun _ => rfl) (fun _ => rfl) (fun _ => rfl) (by decide) 0 0 (ci := 1) rfl ho9 rfl rfl rfl hl.1 rfl (Nat.le_of_ble_eq_true rfl) dL_act_187 ⟨by show 0 + 0 ≤ 240; omega, by show 0 + 0 ≤ 1200; omega⟩ (fun r_187 g_187 H locs hp_187 hP hD hS => ?_)
    have hP : va_P (dC, dI) vwCl (List.flatten ([g_187, [(m0, .inr (2, [.int (nI w), .int (nI h), .int (nI nd), .int wv, .ref mA, .ref tA]))], [(mA, .inl (cJ, w, .inr (.inr (.inr (.inr (gQ w rM))))))], gB w rM cI h (gM w K), [(tA, .inl (cD, w, .inr (.inr (.inr (.inr (gQ w rT))))))], gB w rT cZ h (gZ w (fun d => if d = w * y + x then !T (w * y + x) else T d))] : gW)) H := hP
    have hD : va_D A (List.flatten ([g_187, [(m0, .inr (2, [.int (nI w), .int (nI h), .int (nI nd), .int wv, .ref mA, .ref tA]))], [(mA, .inl (cJ, w, .inr (.inr (.inr (.inr (gQ w rM))))))], gB w rM cI h (gM w K), [(tA, .inl (cD, w, .inr (.inr (.inr (.inr (gQ w rT))))))], gB w rT cZ h (gZ w (fun d => if d = w * y + x then !T (w * y + x) else T d))] : gW)) := hD
    obtain ⟨hp_187, hg_187⟩ := hp_187
    have hg_187 : CT cI w h nd wv (fun d => if d = w * y + x then !T (w * y + x) else T d) K h0 g_187 := hg_187
    refine z_topi (y := bz (!T (w * y + x))) (hp_187) ?_
    refine lv_aload_n hx hb dL_act_190 rfl (lv_at hl 3 rfl) ?_
    refine s_get (D := (dC, dI)) (ci := 2) (v := .ref tA) (C := RX2) (T := TX2) (N := 6) hx hb hts iL_act_X2 hown hK hP 1 0 rfl rfl rfl 5 (by decide) (hts (.fieldLink RL 35 "ColourTideLaw$Sim" "stubborn" "[[Z") (List.mem_of_getElem? (i := 7) rfl)) (fun _ h9 => h9) rfl dL_act_191 ?_
    refine lv_iload_n hx hb dL_act_194 rfl (lv_at hl 1 rfl) ?_
    refine s_qald hx hb hK hP 4 3 rfl rfl rfl x (rfl) (by omega) (by omega) dL_act_195 ?_
    refine lv_iload hx hb dL_act_196 (lv_at hl 0 rfl) ?_
    refine s_gzald hx hb hK hP 5 1 x rfl (by omega) rfl y (rfl) (by omega) (by omega) dL_act_198 ?_
    refine z_topi (y := bz (!T (w * y + x))) (congrArg bz (if_pos rfl)) ?_
    refine lv_icmp_ne (tgt := 206) hx hb dL_act_199 (by decide) (fun c_199 => ?_) (fun c_199 => ?_)
    · skip
      exact absurd rfl c_199
    · skip
      refine lv_aload_n hx hb dL_act_202 rfl (lv_at hl 3 rfl) ?_
      refine lv_goto (tgt := 207) hx hb dL_act_203 (by decide) ?_
      rw [← hQ]
      exact s_aret (W1 := (fun (u : va_W × Nat × Nat × Nat × Nat × Int32 × Nat × (Nat → Nat) × (Nat → Nat) × Nat × (Nat → Nat) × (Nat → Bool)) => ([u.1, [(u.2.1, .inr (2, [.int (nI u.2.2.1), .int (nI u.2.2.2.1), .int (nI u.2.2.2.2.1), .int u.2.2.2.2.2.1, .ref u.2.2.2.2.2.2.1, .ref u.2.2.2.2.2.2.2.2.2.1]))], [(u.2.2.2.2.2.2.1, .inl (cJ, u.2.2.1, .inr (.inr (.inr (.inr (gQ u.2.2.1 u.2.2.2.2.2.2.2.1))))))], gB u.2.2.1 u.2.2.2.2.2.2.2.1 cI u.2.2.2.1 (gM u.2.2.1 u.2.2.2.2.2.2.2.2.1), [(u.2.2.2.2.2.2.2.2.2.1, .inl (cD, u.2.2.1, .inr (.inr (.inr (.inr (gQ u.2.2.1 u.2.2.2.2.2.2.2.2.2.2.1))))))], gB u.2.2.1 u.2.2.2.2.2.2.2.2.2.2.1 cZ u.2.2.2.1 (gZ u.2.2.1 u.2.2.2.2.2.2.2.2.2.2.2)] : gW))) (ad := (fun (u : va_W × Nat × Nat × Nat × Nat × Int32 × Nat × (Nat → Nat) × (Nat → Nat) × Nat × (Nat → Nat) × (Nat → Bool)) => u.2.1)) hx hb hr (Or.inl ⟨_, rfl⟩) hlocks hP hD hS (g_187, m0, w, h, nd, wv, mA, rM, K, tA, rT, (fun d => if d = w * y + x then !T (w * y + x) else T d)) rfl [0, 1, 2, 3, 4, 5] [] 6 rfl rfl (by decide) (⟨hg_187, gk, h1, h4, hK4⟩) (by omega) (by omega) dL_act_207
  have t_208 : W p l e rmL_act s m args below meth c H locs (0) (0) Q (F0 m 208 ls []) := by
    refine lv_aload_n hx hb dL_act_208 rfl (lv_at hl 3 rfl) ?_
    refine s_get (D := (dC, dI)) (ci := 2) (v := .int (nI nd)) (C := RX2) (T := TX2) (N := 6) hx hb hts iL_act_X2 hown hK hP 1 0 rfl rfl rfl 2 (by decide) (hts (.fieldLink RL 27 "ColourTideLaw$Sim" "need" "I") (List.mem_of_getElem? (i := 6) rfl)) (fun _ h9 => h9) rfl dL_act_209 ?_
    refine lv_istore (lv' := [(6, .int (nI nd)), (4, .int (nI y)), (3, .int (nI x)), (0, .ref h0), (1, .ref m0), (2, .int s0)]) hx hb dL_act_212 hl (by decide) rfl (fun ls hl => ?_)
    refine lv_aload_n hx hb dL_act_214 rfl (lv_at hl 4 rfl) ?_
    refine lv_iconst (v := 1) hx hb dL_act_215 (by decide) ?_
    refine lv_iload_n hx hb dL_act_216 rfl (lv_at hl 5 rfl) ?_
    refine lv_iconst (v := 2) hx hb dL_act_217 (by decide) ?_
    refine lv_ishr hx hb dL_act_218 ?_
    refine lv_iconst (v := 4) hx hb dL_act_219 (by decide) ?_
    refine s_callSi (As := [.int (s0 >>> (2 &&& 31)), .int 4]) (rest := [.int 1, .ref m0]) F9 (m_L_below l dC dI cI cZ cJ cD (s0 >>> (2 &&& 31)) 4 (by omega) (by omega)) (va_cwS 2 hts gL_act_L_below rfl rfl rfl (by decide +kernel) ⟨Nat.le_of_ble_eq_true rfl, Nat.le_of_ble_eq_true rfl⟩) hK hN hP hD hS hA [] [0, 1, 2, 3, 4, 5] 6 rfl rfl (by decide) (fun (u : Nat) => ([g, [(m0, .inr (2, [.int (nI w), .int (nI h), .int (nI nd), .int wv, .ref mA, .ref tA]))], [(mA, .inl (cJ, w, .inr (.inr (.inr (.inr (gQ w rM))))))], gB w rM cI h (gM w K), [(tA, .inl (cD, w, .inr (.inr (.inr (.inr (gQ w rT))))))], gB w rT cZ h (gZ w T)] : gW)) [] [0, 1, 2, 3, 4, 5] 6 (fun _ => rfl) (fun _ => rfl) (fun _ => rfl) (by decide) rfl hl.1 rfl (Nat.le_of_ble_eq_true rfl) dL_act_220 ⟨by show 0 + 0 ≤ 240; omega, by show 0 + 0 ≤ 1200; omega⟩ (fun r_220 u H locs hp_220 hP hD hS => ?_)
    obtain ⟨qn, rfl⟩ : ∃ z, z = u := ⟨_, rfl⟩
    have hP : va_P (dC, dI) vwCl (List.flatten ([g, [(m0, .inr (2, [.int (nI w), .int (nI h), .int (nI nd), .int wv, .ref mA, .ref tA]))], [(mA, .inl (cJ, w, .inr (.inr (.inr (.inr (gQ w rM))))))], gB w rM cI h (gM w K), [(tA, .inl (cD, w, .inr (.inr (.inr (.inr (gQ w rT))))))], gB w rT cZ h (gZ w T)] : gW)) H := hP
    have hD : va_D A (List.flatten ([g, [(m0, .inr (2, [.int (nI w), .int (nI h), .int (nI nd), .int wv, .ref mA, .ref tA]))], [(mA, .inl (cJ, w, .inr (.inr (.inr (.inr (gQ w rM))))))], gB w rM cI h (gM w K), [(tA, .inl (cD, w, .inr (.inr (.inr (.inr (gQ w rT))))))], gB w rT cZ h (gZ w T)] : gW)) := hD
    have hp_220 : r_220 = nI qn ∧ qn < 4 := hp_220
    refine z_topi (y := nI qn) (hp_220.1) ?_
    have hqn := hp_220.2
    refine lv_iadd hx hb dL_act_223 ?_
    refine z_topi (y := nI (1 + qn)) (nI_add 1 qn) ?_
    refine s_put (D := (dC, dI)) (ci := 2) (v := .int (nI (1 + qn))) (ty := .int) (C := RX2) (T := TX2) (N := 6) hx hb hts iL_act_X2 tyX2 tyX2_ok nmX2 hown hK hP hD hS 1 0 rfl rfl rfl 2 (by decide) (hts (.fieldLink RL 27 "ColourTideLaw$Sim" "need" "I") (List.mem_of_getElem? (i := 6) rfl)) (fun _ h9 => h9) rfl (by decide +kernel) rfl rfl (Nat.le_of_ble_eq_true rfl) dL_act_224 (fun H locs hP hD hS => ?_)
    have hP : va_P (dC, dI) vwCl (List.flatten ([g, [(m0, .inr (2, [.int (nI w), .int (nI h), .int (nI (1 + qn)), .int wv, .ref mA, .ref tA]))], [(mA, .inl (cJ, w, .inr (.inr (.inr (.inr (gQ w rM))))))], gB w rM cI h (gM w K), [(tA, .inl (cD, w, .inr (.inr (.inr (.inr (gQ w rT))))))], gB w rT cZ h (gZ w T)] : gW)) H := hP
    have hD : va_D A (List.flatten ([g, [(m0, .inr (2, [.int (nI w), .int (nI h), .int (nI (1 + qn)), .int wv, .ref mA, .ref tA]))], [(mA, .inl (cJ, w, .inr (.inr (.inr (.inr (gQ w rM))))))], gB w rM cI h (gM w K), [(tA, .inl (cD, w, .inr (.inr (.inr (.inr (gQ w rT))))))], gB w rT cZ h (gZ w T)] : gW)) := hD
    refine lv_aload_n hx hb dL_act_227 rfl (lv_at hl 3 rfl) ?_
    refine lv_aload_n hx hb dL_act_228 rfl (lv_at hl 4 rfl) ?_
    refine s_get (D := (dC, dI)) (ci := 2) (v := .int (nI (1 + qn))) (C := RX2) (T := TX2) (N := 6) hx hb hts iL_act_X2 hown hK hP 1 0 rfl rfl rfl 2 (by decide) (hts (.fieldLink RL 27 "ColourTideLaw$Sim" "need" "I") (List.mem_of_getElem? (i := 6) rfl)) (fun _ h9 => h9) rfl dL_act_229 ?_
    obtain ⟨fs9, ho9⟩ := CT_obj hg
    refine s_callVi (As := [.int (nI (1 + qn))]) (rest := []) F9 (k_setNeed l dC dI cI cZ cJ cD hg  (1 + qn) (⟨by omega, by omega⟩)) (cwV 1 hts gL_act_X1_setNeed rfl rfl rfl (by decide +kernel) ⟨Nat.le_of_ble_eq_true rfl, Nat.le_of_ble_eq_true rfl⟩) hK hN hP hD hS hA [0] [1, 2, 3, 4, 5] 6 rfl rfl (by decide) (fun (u : va_W) => ([u, [(m0, .inr (2, [.int (nI w), .int (nI h), .int (nI (1 + qn)), .int wv, .ref mA, .ref tA]))], [(mA, .inl (cJ, w, .inr (.inr (.inr (.inr (gQ w rM))))))], gB w rM cI h (gM w K), [(tA, .inl (cD, w, .inr (.inr (.inr (.inr (gQ w rT))))))], gB w rT cZ h (gZ w T)] : gW)) [0] [1, 2, 3, 4, 5] 6 (fun _ => rfl) (fun _ => rfl) (fun _ => rfl) (by decide) 0 0 (ci := 1) rfl ho9 rfl rfl rfl hl.1 rfl (Nat.le_of_ble_eq_true rfl) dL_act_232 ⟨by show 0 + 0 ≤ 240; omega, by show 0 + 0 ≤ 1200; omega⟩ (fun r_232 g_232 H locs hp_232 hP hD hS => ?_)
    have hP : va_P (dC, dI) vwCl (List.flatten ([g_232, [(m0, .inr (2, [.int (nI w), .int (nI h), .int (nI (1 + qn)), .int wv, .ref mA, .ref tA]))], [(mA, .inl (cJ, w, .inr (.inr (.inr (.inr (gQ w rM))))))], gB w rM cI h (gM w K), [(tA, .inl (cD, w, .inr (.inr (.inr (.inr (gQ w rT))))))], gB w rT cZ h (gZ w T)] : gW)) H := hP
    have hD : va_D A (List.flatten ([g_232, [(m0, .inr (2, [.int (nI w), .int (nI h), .int (nI (1 + qn)), .int wv, .ref mA, .ref tA]))], [(mA, .inl (cJ, w, .inr (.inr (.inr (.inr (gQ w rM))))))], gB w rM cI h (gM w K), [(tA, .inl (cD, w, .inr (.inr (.inr (.inr (gQ w rT))))))], gB w rT cZ h (gZ w T)] : gW)) := hD
    obtain ⟨hp_232, hg_232⟩ := hp_232
    have hg_232 : CT cI w h (1 + qn) wv T K h0 g_232 := hg_232
    refine z_topi (y := nI nd) (hp_232) ?_
    refine lv_iload hx hb dL_act_235 (lv_at hl 0 rfl) ?_
    refine lv_icmp_ne (tgt := 244) hx hb dL_act_237 (by decide) (fun c_237 => ?_) (fun c_237 => ?_)
    · skip
      exact absurd rfl c_237
    · skip
      refine lv_aload_n hx hb dL_act_240 rfl (lv_at hl 4 rfl) ?_
      refine lv_goto (tgt := 245) hx hb dL_act_241 (by decide) ?_
      rw [← hQ]
      exact s_aret (W1 := (fun (u : va_W × Nat × Nat × Nat × Nat × Int32 × Nat × (Nat → Nat) × (Nat → Nat) × Nat × (Nat → Nat) × (Nat → Bool)) => ([u.1, [(u.2.1, .inr (2, [.int (nI u.2.2.1), .int (nI u.2.2.2.1), .int (nI u.2.2.2.2.1), .int u.2.2.2.2.2.1, .ref u.2.2.2.2.2.2.1, .ref u.2.2.2.2.2.2.2.2.2.1]))], [(u.2.2.2.2.2.2.1, .inl (cJ, u.2.2.1, .inr (.inr (.inr (.inr (gQ u.2.2.1 u.2.2.2.2.2.2.2.1))))))], gB u.2.2.1 u.2.2.2.2.2.2.2.1 cI u.2.2.2.1 (gM u.2.2.1 u.2.2.2.2.2.2.2.2.1), [(u.2.2.2.2.2.2.2.2.2.1, .inl (cD, u.2.2.1, .inr (.inr (.inr (.inr (gQ u.2.2.1 u.2.2.2.2.2.2.2.2.2.2.1))))))], gB u.2.2.1 u.2.2.2.2.2.2.2.2.2.2.1 cZ u.2.2.2.1 (gZ u.2.2.1 u.2.2.2.2.2.2.2.2.2.2.2)] : gW))) (ad := (fun (u : va_W × Nat × Nat × Nat × Nat × Int32 × Nat × (Nat → Nat) × (Nat → Nat) × Nat × (Nat → Nat) × (Nat → Bool)) => u.2.1)) hx hb hr (Or.inl ⟨_, rfl⟩) hlocks hP hD hS (g_232, m0, w, h, (1 + qn), wv, mA, rM, K, tA, rT, T) rfl [0, 1, 2, 3, 4, 5] [] 6 rfl rfl (by decide) (⟨hg_232, gk, by show 1 ≤ 1 + qn; omega, by show 1 + qn ≤ 4; omega, hK4⟩) (by omega) (by omega) dL_act_245
  have t_246 : W p l e rmL_act s m args below meth c H locs (0) (0) Q (F0 m 246 ls []) := by
    refine lv_iconst (v := 1) hx hb dL_act_246 (by decide) ?_
    refine lv_iload_n hx hb dL_act_247 rfl (lv_at hl 4 rfl) ?_
    refine lv_iconst (v := 3) hx hb dL_act_248 (by decide) ?_
    refine lv_ishr hx hb dL_act_249 ?_
    refine lv_iload_n hx hb dL_act_250 rfl (lv_at hl 4 rfl) ?_
    refine lv_iconst (v := 3) hx hb dL_act_251 (by decide) ?_
    refine s_callSi (As := [.int s0, .int 3]) (rest := [.int (s0 >>> (3 &&& 31)), .int 1]) F9 (m_L_below l dC dI cI cZ cJ cD s0 3 (by omega) (by omega)) (va_cwS 2 hts gL_act_L_below rfl rfl rfl (by decide +kernel) ⟨Nat.le_of_ble_eq_true rfl, Nat.le_of_ble_eq_true rfl⟩) hK hN hP hD hS hA [] [0, 1, 2, 3, 4, 5] 6 rfl rfl (by decide) (fun (u : Nat) => ([g, [(m0, .inr (2, [.int (nI w), .int (nI h), .int (nI nd), .int wv, .ref mA, .ref tA]))], [(mA, .inl (cJ, w, .inr (.inr (.inr (.inr (gQ w rM))))))], gB w rM cI h (gM w K), [(tA, .inl (cD, w, .inr (.inr (.inr (.inr (gQ w rT))))))], gB w rT cZ h (gZ w T)] : gW)) [] [0, 1, 2, 3, 4, 5] 6 (fun _ => rfl) (fun _ => rfl) (fun _ => rfl) (by decide) rfl hl.1 rfl (Nat.le_of_ble_eq_true rfl) dL_act_252 ⟨by show 0 + 0 ≤ 240; omega, by show 0 + 0 ≤ 1200; omega⟩ (fun r_252 u H locs hp_252 hP hD hS => ?_)
    obtain ⟨q0, rfl⟩ : ∃ z, z = u := ⟨_, rfl⟩
    have hP : va_P (dC, dI) vwCl (List.flatten ([g, [(m0, .inr (2, [.int (nI w), .int (nI h), .int (nI nd), .int wv, .ref mA, .ref tA]))], [(mA, .inl (cJ, w, .inr (.inr (.inr (.inr (gQ w rM))))))], gB w rM cI h (gM w K), [(tA, .inl (cD, w, .inr (.inr (.inr (.inr (gQ w rT))))))], gB w rT cZ h (gZ w T)] : gW)) H := hP
    have hD : va_D A (List.flatten ([g, [(m0, .inr (2, [.int (nI w), .int (nI h), .int (nI nd), .int wv, .ref mA, .ref tA]))], [(mA, .inl (cJ, w, .inr (.inr (.inr (.inr (gQ w rM))))))], gB w rM cI h (gM w K), [(tA, .inl (cD, w, .inr (.inr (.inr (.inr (gQ w rT))))))], gB w rT cZ h (gZ w T)] : gW)) := hD
    have hp_252 : r_252 = nI q0 ∧ q0 < 3 := hp_252
    refine z_topi (y := nI q0) (hp_252.1) ?_
    suffices j_264 : ∀ v_264 : Int32, v_264 = (nI (if q0 = 0 then 40 else 2)) → W p l e rmL_act s m args below meth c H locs (0) (0) Q (F0 m 264 ls [.int v_264, .int (s0 >>> (3 &&& 31)), .int 1]) by
      refine lv_if_ne (tgt := 263) hx hb dL_act_255 (by decide) (fun c_255 => ?_) (fun c_255 => ?_)
      · skip
        have n_255 := zc_eq_f (a := q0) (b := 0) (by omega) (by omega) c_255
        refine lv_iconst (v := 2) hx hb dL_act_263 (by decide) ?_
        exact j_264 _ (by rw [if_neg n_255]; rfl)
      · skip
        have n_255 := zc_eq_t (a := q0) (b := 0) (by omega) (by omega) c_255
        refine lv_bipush (v := 40) hx hb dL_act_258 (by decide +kernel) ?_
        refine lv_goto (tgt := 264) hx hb dL_act_260 (by decide) ?_
        exact j_264 _ (by rw [if_pos n_255]; rfl)
    intro v_264 h_v_264
    rw [h_v_264]
    refine s_callSi (As := [.int (s0 >>> (3 &&& 31)), .int (nI (if q0 = 0 then 40 else 2))]) (rest := [.int 1]) F9 (m_L_below l dC dI cI cZ cJ cD (s0 >>> (3 &&& 31)) (if q0 = 0 then 40 else 2) (by split <;> omega) (by split <;> omega)) (va_cwS 2 hts gL_act_L_below rfl rfl rfl (by decide +kernel) ⟨Nat.le_of_ble_eq_true rfl, Nat.le_of_ble_eq_true rfl⟩) hK hN hP hD hS hA [] [0, 1, 2, 3, 4, 5] 6 rfl rfl (by decide) (fun (u : Nat) => ([g, [(m0, .inr (2, [.int (nI w), .int (nI h), .int (nI nd), .int wv, .ref mA, .ref tA]))], [(mA, .inl (cJ, w, .inr (.inr (.inr (.inr (gQ w rM))))))], gB w rM cI h (gM w K), [(tA, .inl (cD, w, .inr (.inr (.inr (.inr (gQ w rT))))))], gB w rT cZ h (gZ w T)] : gW)) [] [0, 1, 2, 3, 4, 5] 6 (fun _ => rfl) (fun _ => rfl) (fun _ => rfl) (by decide) rfl hl.1 rfl (Nat.le_of_ble_eq_true rfl) dL_act_264 ⟨by show 0 + 0 ≤ 240; omega, by show 0 + 0 ≤ 1200; omega⟩ (fun r_264 u H locs hp_264 hP hD hS => ?_)
    obtain ⟨qw, rfl⟩ : ∃ z, z = u := ⟨_, rfl⟩
    have hP : va_P (dC, dI) vwCl (List.flatten ([g, [(m0, .inr (2, [.int (nI w), .int (nI h), .int (nI nd), .int wv, .ref mA, .ref tA]))], [(mA, .inl (cJ, w, .inr (.inr (.inr (.inr (gQ w rM))))))], gB w rM cI h (gM w K), [(tA, .inl (cD, w, .inr (.inr (.inr (.inr (gQ w rT))))))], gB w rT cZ h (gZ w T)] : gW)) H := hP
    have hD : va_D A (List.flatten ([g, [(m0, .inr (2, [.int (nI w), .int (nI h), .int (nI nd), .int wv, .ref mA, .ref tA]))], [(mA, .inl (cJ, w, .inr (.inr (.inr (.inr (gQ w rM))))))], gB w rM cI h (gM w K), [(tA, .inl (cD, w, .inr (.inr (.inr (.inr (gQ w rT))))))], gB w rT cZ h (gZ w T)] : gW)) := hD
    have hp_264 : r_264 = nI qw ∧ qw < (if q0 = 0 then 40 else 2) := hp_264
    refine z_topi (y := nI qw) (hp_264.1) ?_
    have hqw : qw < 40 := by have h9 := hp_264.2; revert h9; split <;> intro h9 <;> omega
    refine lv_iadd hx hb dL_act_267 ?_
    refine z_topi (y := nI (1 + qw)) (nI_add 1 qw) ?_
    refine lv_istore (lv' := [(7, .int (nI (1 + qw))), (4, .int (nI y)), (3, .int (nI x)), (0, .ref h0), (1, .ref m0), (2, .int s0)]) hx hb dL_act_268 hl (by decide) rfl (fun ls hl => ?_)
    refine lv_iconst (v := 0) hx hb dL_act_270 (by decide) ?_
    refine lv_istore (lv' := [(8, .int 0), (7, .int (nI (1 + qw))), (4, .int (nI y)), (3, .int (nI x)), (0, .ref h0), (1, .ref m0), (2, .int s0)]) hx hb dL_act_271 hl (by decide) rfl (fun ls hl => ?_)
    refine lv_iconst (v := 0) hx hb dL_act_273 (by decide) ?_
    refine lv_istore (lv' := [(9, .int 0), (8, .int 0), (7, .int (nI (1 + qw))), (4, .int (nI y)), (3, .int (nI x)), (0, .ref h0), (1, .ref m0), (2, .int s0)]) hx hb dL_act_274 hl (by decide) rfl (fun ls hl => ?_)
    have loop_276 : ∀ (n : Nat) (k : Nat) (mC : Nat) (rC : Nat → Nat) (hkn : k + n = (1 + qw)) (H : Heap) (locs : List Loc) (ls : Array Slot) (hP : va_P (dC, dI) vwCl (List.flatten ([g, [(m0, .inr (2, [.int (nI w), .int (nI h), .int (nI nd), .int wv, .ref mC, .ref tA]))], [(mC, .inl (cJ, w, .inr (.inr (.inr (.inr (gQ w rC))))))], gB w rC cI h (gM w (wavN w h nd T K k)), [(tA, .inl (cD, w, .inr (.inr (.inr (.inr (gQ w rT))))))], gB w rT cZ h (gZ w T)] : gW)) H) (hD : va_D A (List.flatten ([g, [(m0, .inr (2, [.int (nI w), .int (nI h), .int (nI nd), .int wv, .ref mC, .ref tA]))], [(mC, .inl (cJ, w, .inr (.inr (.inr (.inr (gQ w rC))))))], gB w rC cI h (gM w (wavN w h nd T K k)), [(tA, .inl (cD, w, .inr (.inr (.inr (.inr (gQ w rT))))))], gB w rT cZ h (gZ w T)] : gW))) (hS : va_S A s.heap H locs) (hl : lv_has ls 10 [(0, .ref h0), (1, .ref m0), (2, .int s0), (3, .int (nI x)), (4, .int (nI y)), (7, .int (nI (1 + qw))), (8, .int (nI (lchg w h nd T K k))), (9, .int (nI k))]), W p l e rmL_act s m args below meth c H locs (6 * k) (30 * k) Q (F0 m 276 ls []) := by
      intro n
      induction n with
      | zero =>
        intro k mC rC hkn  H locs ls hP hD hS hl
        refine lv_iload hx hb dL_act_276 (lv_at hl 7 rfl) ?_
        refine lv_iload hx hb dL_act_278 (lv_at hl 5 rfl) ?_
        refine lv_icmp_ge (tgt := 295) hx hb dL_act_280 (by decide) (fun c_280 => ?_) (fun c_280 => ?_)
        · skip
          have n_280 := zc_le_t (a := (1 + qw)) (b := k) (by omega) (by omega) c_280
          have hl9 := hl
          have hP9 := hP
          have hD9 := hD
          have hS9 := hS
          obtain rfl : 1 + qw = k := by omega
          have hl := hl9
          have hP := hP9
          have hD := hD9
          have hS := hS9
          refine lv_aload_n hx hb dL_act_295 rfl (lv_at hl 1 rfl) ?_
          refine lv_dup hx hb dL_act_296 rfl ?_
          refine s_get (D := (dC, dI)) (ci := 2) (v := .int wv) (C := RX2) (T := TX2) (N := 6) hx hb hts iL_act_X2 hown hK hP 1 0 rfl rfl rfl 3 (by decide) (hts (.fieldLink RL 51 "ColourTideLaw$Sim" "waves" "I") (List.mem_of_getElem? (i := 8) rfl)) (fun _ h9 => h9) rfl dL_act_297 ?_
          refine lv_iload hx hb dL_act_300 (lv_at hl 5 rfl) ?_
          refine lv_iadd hx hb dL_act_302 ?_
          refine s_put (D := (dC, dI)) (ci := 2) (v := .int (wv + (nI (1 + qw)))) (ty := .int) (C := RX2) (T := TX2) (N := 6) hx hb hts iL_act_X2 tyX2 tyX2_ok nmX2 hown hK hP hD hS 1 0 rfl rfl rfl 3 (by decide) (hts (.fieldLink RL 51 "ColourTideLaw$Sim" "waves" "I") (List.mem_of_getElem? (i := 8) rfl)) (fun _ h9 => h9) rfl (by decide +kernel) rfl rfl (Nat.le_of_ble_eq_true rfl) dL_act_303 (fun H locs hP hD hS => ?_)
          have hP : va_P (dC, dI) vwCl (List.flatten ([g, [(m0, .inr (2, [.int (nI w), .int (nI h), .int (nI nd), .int (wv + (nI (1 + qw))), .ref mC, .ref tA]))], [(mC, .inl (cJ, w, .inr (.inr (.inr (.inr (gQ w rC))))))], gB w rC cI h (gM w (wavN w h nd T K (1 + qw))), [(tA, .inl (cD, w, .inr (.inr (.inr (.inr (gQ w rT))))))], gB w rT cZ h (gZ w T)] : gW)) H := hP
          have hD : va_D A (List.flatten ([g, [(m0, .inr (2, [.int (nI w), .int (nI h), .int (nI nd), .int (wv + (nI (1 + qw))), .ref mC, .ref tA]))], [(mC, .inl (cJ, w, .inr (.inr (.inr (.inr (gQ w rC))))))], gB w rC cI h (gM w (wavN w h nd T K (1 + qw))), [(tA, .inl (cD, w, .inr (.inr (.inr (.inr (gQ w rT))))))], gB w rT cZ h (gZ w T)] : gW)) := hD
          refine lv_aload_n hx hb dL_act_306 rfl (lv_at hl 0 rfl) ?_
          refine lv_iload hx hb dL_act_307 (lv_at hl 5 rfl) ?_
          obtain ⟨fs9, ho9⟩ := CT_obj hg
          refine s_callVi (As := [.int (nI (1 + qw))]) (rest := []) F9 (k_pass l dC dI cI cZ cJ cD hg gk h1 h4 hK4 (1 + qw) (⟨by omega, by omega⟩)) (cwV 1 hts gL_act_X1_pass rfl rfl rfl (by decide +kernel) ⟨Nat.le_of_ble_eq_true rfl, Nat.le_of_ble_eq_true rfl⟩) hK hN hP hD hS hA [0] [1, 2, 3, 4, 5] 6 rfl rfl (by decide) (fun (u : va_W) => ([u, [(m0, .inr (2, [.int (nI w), .int (nI h), .int (nI nd), .int (wv + (nI (1 + qw))), .ref mC, .ref tA]))], [(mC, .inl (cJ, w, .inr (.inr (.inr (.inr (gQ w rC))))))], gB w rC cI h (gM w (wavN w h nd T K (1 + qw))), [(tA, .inl (cD, w, .inr (.inr (.inr (.inr (gQ w rT))))))], gB w rT cZ h (gZ w T)] : gW)) [0] [1, 2, 3, 4, 5] 6 (fun _ => rfl) (fun _ => rfl) (fun _ => rfl) (by decide) 0 0 (ci := 1) rfl ho9 rfl rfl rfl hl.1 rfl (Nat.le_of_ble_eq_true rfl) dL_act_309 ⟨by show 6 * (1 + qw) + 0 ≤ 240; omega, by show 30 * (1 + qw) + 0 ≤ 1200; omega⟩ (fun r_309 g_309 H locs hp_309 hP hD hS => ?_)
          have hP : va_P (dC, dI) vwCl (List.flatten ([g_309, [(m0, .inr (2, [.int (nI w), .int (nI h), .int (nI nd), .int (wv + (nI (1 + qw))), .ref mC, .ref tA]))], [(mC, .inl (cJ, w, .inr (.inr (.inr (.inr (gQ w rC))))))], gB w rC cI h (gM w (wavN w h nd T K (1 + qw))), [(tA, .inl (cD, w, .inr (.inr (.inr (.inr (gQ w rT))))))], gB w rT cZ h (gZ w T)] : gW)) H := hP
          have hD : va_D A (List.flatten ([g_309, [(m0, .inr (2, [.int (nI w), .int (nI h), .int (nI nd), .int (wv + (nI (1 + qw))), .ref mC, .ref tA]))], [(mC, .inl (cJ, w, .inr (.inr (.inr (.inr (gQ w rC))))))], gB w rC cI h (gM w (wavN w h nd T K (1 + qw))), [(tA, .inl (cD, w, .inr (.inr (.inr (.inr (gQ w rT))))))], gB w rT cZ h (gZ w T)] : gW)) := hD
          obtain ⟨hp_309, hg_309⟩ := hp_309
          have hg_309 : CT cI w h nd (wv + nI (1 + qw)) T (wavN w h nd T K (1 + qw)) h0 g_309 := hg_309
          refine z_topi (y := nI (lchg w h nd T K (1 + qw))) (hp_309) ?_
          refine lv_iload hx hb dL_act_312 (lv_at hl 6 rfl) ?_
          refine lv_icmp_ne (tgt := 321) hx hb dL_act_314 (by decide) (fun c_314 => ?_) (fun c_314 => ?_)
          · skip
            exact absurd rfl c_314
          · skip
            refine lv_aload_n hx hb dL_act_317 rfl (lv_at hl 1 rfl) ?_
            refine lv_goto (tgt := 322) hx hb dL_act_318 (by decide) ?_
            rw [← hQ]
            exact s_aret (W1 := (fun (u : va_W × Nat × Nat × Nat × Nat × Int32 × Nat × (Nat → Nat) × (Nat → Nat) × Nat × (Nat → Nat) × (Nat → Bool)) => ([u.1, [(u.2.1, .inr (2, [.int (nI u.2.2.1), .int (nI u.2.2.2.1), .int (nI u.2.2.2.2.1), .int u.2.2.2.2.2.1, .ref u.2.2.2.2.2.2.1, .ref u.2.2.2.2.2.2.2.2.2.1]))], [(u.2.2.2.2.2.2.1, .inl (cJ, u.2.2.1, .inr (.inr (.inr (.inr (gQ u.2.2.1 u.2.2.2.2.2.2.2.1))))))], gB u.2.2.1 u.2.2.2.2.2.2.2.1 cI u.2.2.2.1 (gM u.2.2.1 u.2.2.2.2.2.2.2.2.1), [(u.2.2.2.2.2.2.2.2.2.1, .inl (cD, u.2.2.1, .inr (.inr (.inr (.inr (gQ u.2.2.1 u.2.2.2.2.2.2.2.2.2.2.1))))))], gB u.2.2.1 u.2.2.2.2.2.2.2.2.2.2.1 cZ u.2.2.2.1 (gZ u.2.2.1 u.2.2.2.2.2.2.2.2.2.2.2)] : gW))) (ad := (fun (u : va_W × Nat × Nat × Nat × Nat × Int32 × Nat × (Nat → Nat) × (Nat → Nat) × Nat × (Nat → Nat) × (Nat → Bool)) => u.2.1)) hx hb hr (Or.inl ⟨_, rfl⟩) hlocks hP hD hS (g_309, m0, w, h, nd, (wv + nI (1 + qw)), mC, rC, (wavN w h nd T K (1 + qw)), tA, rT, T) rfl [0, 1, 2, 3, 4, 5] [] 6 rfl rfl (by decide) (⟨hg_309, gk, h1, h4, wavN_le h1 hK4 (1 + qw)⟩) (by omega) (by omega) dL_act_322
        · skip
          have n_280 := zc_le_f (a := (1 + qw)) (b := k) (by omega) (by omega) c_280
          exact absurd n_280 (by omega)
      | succ n ih_276 =>
        intro k mC rC hkn  H locs ls hP hD hS hl
        refine lv_iload hx hb dL_act_276 (lv_at hl 7 rfl) ?_
        refine lv_iload hx hb dL_act_278 (lv_at hl 5 rfl) ?_
        refine lv_icmp_ge (tgt := 295) hx hb dL_act_280 (by decide) (fun c_280 => ?_) (fun c_280 => ?_)
        · skip
          have n_280 := zc_le_t (a := (1 + qw)) (b := k) (by omega) (by omega) c_280
          exact absurd n_280 (by omega)
        · skip
          have n_280 := zc_le_f (a := (1 + qw)) (b := k) (by omega) (by omega) c_280
          refine lv_aload_n hx hb dL_act_283 rfl (lv_at hl 1 rfl) ?_
          refine s_callVi (As := []) (rest := []) F9 (m_X2_wave l dC dI cI cZ cJ cD m0 w h nd wv mC rC (wavN w h nd T K k) tA rT T (gk) (h1) (h4) (wavN_le h1 hK4 k)) (cwV 0 hts gL_act_X2_wave rfl rfl rfl (by decide +kernel) ⟨Nat.le_of_ble_eq_true rfl, Nat.le_of_ble_eq_true rfl⟩) hK hN hP hD hS hA [1, 2, 3, 4, 5] [0] 6 rfl rfl (by decide) (fun (u : Nat × (Nat → Nat)) => ([g, [(m0, .inr (2, [.int (nI w), .int (nI h), .int (nI nd), .int wv, .ref u.1, .ref tA]))], [(u.1, .inl (cJ, w, .inr (.inr (.inr (.inr (gQ w u.2))))))], gB w u.2 cI h (gM w (wav w h nd T (wavN w h nd T K k))), [(tA, .inl (cD, w, .inr (.inr (.inr (.inr (gQ w rT))))))], gB w rT cZ h (gZ w T)] : gW)) [1, 2, 3, 4, 5] [0] 6 (fun _ => rfl) (fun _ => rfl) (fun _ => rfl) (by decide) 1 0 (ci := 2) rfl rfl rfl rfl rfl hl.1 rfl (Nat.le_of_ble_eq_true rfl) dL_act_284 ⟨by show 6 * k + 6 ≤ 240; omega, by show 30 * k + 30 ≤ 1200; omega⟩ (fun r_284 u H locs hp_284 hP hD hS => ?_)
          obtain ⟨mB_5, rB_6⟩ := u
          have hP : va_P (dC, dI) vwCl (List.flatten ([g, [(m0, .inr (2, [.int (nI w), .int (nI h), .int (nI nd), .int wv, .ref mB_5, .ref tA]))], [(mB_5, .inl (cJ, w, .inr (.inr (.inr (.inr (gQ w rB_6))))))], gB w rB_6 cI h (gM w (wav w h nd T (wavN w h nd T K k))), [(tA, .inl (cD, w, .inr (.inr (.inr (.inr (gQ w rT))))))], gB w rT cZ h (gZ w T)] : gW)) H := hP
          have hD : va_D A (List.flatten ([g, [(m0, .inr (2, [.int (nI w), .int (nI h), .int (nI nd), .int wv, .ref mB_5, .ref tA]))], [(mB_5, .inl (cJ, w, .inr (.inr (.inr (.inr (gQ w rB_6))))))], gB w rB_6 cI h (gM w (wav w h nd T (wavN w h nd T K k))), [(tA, .inl (cD, w, .inr (.inr (.inr (.inr (gQ w rT))))))], gB w rT cZ h (gZ w T)] : gW)) := hD
          have hp_284 : r_284 = nI (chg w h nd T (wavN w h nd T K k)) := hp_284
          refine z_topi (y := nI (chg w h nd T (wavN w h nd T K k))) (hp_284) ?_
          refine lv_istore (lv' := [(8, .int (nI (chg w h nd T (wavN w h nd T K k)))), (0, .ref h0), (1, .ref m0), (2, .int s0), (3, .int (nI x)), (4, .int (nI y)), (7, .int (nI (1 + qw))), (9, .int (nI k))]) hx hb dL_act_287 hl (by decide) rfl (fun ls hl => ?_)
          refine lv_iinc (v := nI (k + 1)) (lv' := [(9, .int (nI (k + 1))), (8, .int (nI (chg w h nd T (wavN w h nd T K k)))), (0, .ref h0), (1, .ref m0), (2, .int s0), (3, .int (nI x)), (4, .int (nI y)), (7, .int (nI (1 + qw)))]) hx hb dL_act_289 hl (k := 7) rfl (nI_1 k) (by decide) rfl (fun ls hl => ?_)
          refine lv_goto (tgt := 276) hx hb dL_act_292 (by decide) ?_
          refine W.widen (k := 6 * (k + 1)) (n := 30 * (k + 1)) (by omega) (by omega) ?_
          exact ih_276 (k + 1) mB_5 rB_6 (by omega)  _ _ _ hP hD hS (lv_sub hl [2, 3, 4, 5, 6, 7, 1, 0] rfl)
    refine W.widen (k := 6 * 0) (n := 30 * 0) (by omega) (by omega) ?_
    exact loop_276 (1 + qw) 0 mA rM (by omega)  _ _ _ hP hD hS (lv_sub hl [5, 6, 7, 4, 3, 2, 1, 0] rfl)
  have t_323 : W p l e rmL_act s m args below meth c H locs (0) (0) Q (F0 m 323 ls []) := by
    refine lv_aload_n hx hb dL_act_323 rfl (lv_at hl 3 rfl) ?_
    refine s_get (D := (dC, dI)) (ci := 2) (v := .ref mA) (C := RX2) (T := TX2) (N := 6) hx hb hts iL_act_X2 hown hK hP 1 0 rfl rfl rfl 4 (by decide) (hts (.fieldLink RL 57 "ColourTideLaw$Sim" "map" "[[I") (List.mem_of_getElem? (i := 9) rfl)) (fun _ h9 => h9) rfl dL_act_324 ?_
    refine lv_iload_n hx hb dL_act_327 rfl (lv_at hl 1 rfl) ?_
    refine s_qald hx hb hK hP 2 2 rfl rfl rfl x (rfl) (by omega) (by omega) dL_act_328 ?_
    refine lv_iload hx hb dL_act_329 (lv_at hl 0 rfl) ?_
    refine s_gald hx hb hK hP 3 0 x rfl (by omega) rfl y (rfl) (by omega) (by omega) dL_act_331 ?_
    refine z_topi (y := nI (K (w * y + x))) (rfl) ?_
    refine lv_istore (lv' := [(9, .int (nI (K (w * y + x)))), (4, .int (nI y)), (3, .int (nI x)), (0, .ref h0), (1, .ref m0), (2, .int s0)]) hx hb dL_act_332 hl (by decide) rfl (fun ls hl => ?_)
    refine lv_aload_n hx hb dL_act_334 rfl (lv_at hl 4 rfl) ?_
    refine s_get (D := (dC, dI)) (ci := 2) (v := .ref mA) (C := RX2) (T := TX2) (N := 6) hx hb hts iL_act_X2 hown hK hP 1 0 rfl rfl rfl 4 (by decide) (hts (.fieldLink RL 57 "ColourTideLaw$Sim" "map" "[[I") (List.mem_of_getElem? (i := 9) rfl)) (fun _ h9 => h9) rfl dL_act_335 ?_
    refine lv_iload_n hx hb dL_act_338 rfl (lv_at hl 2 rfl) ?_
    refine s_qald hx hb hK hP 2 2 rfl rfl rfl x (rfl) (by omega) (by omega) dL_act_339 ?_
    refine lv_iload hx hb dL_act_340 (lv_at hl 1 rfl) ?_
    refine lv_iload_n hx hb dL_act_342 rfl (lv_at hl 5 rfl) ?_
    refine lv_bipush (v := 6) hx hb dL_act_343 (by decide +kernel) ?_
    refine lv_ishr hx hb dL_act_345 ?_
    refine lv_iload_n hx hb dL_act_346 rfl (lv_at hl 5 rfl) ?_
    refine lv_iconst (v := 3) hx hb dL_act_347 (by decide) ?_
    refine s_callSi (As := [.int s0, .int 3]) (rest := [.int (s0 >>> (6 &&& 31)), .int (nI y), .ref (rM x)]) F9 (m_L_below l dC dI cI cZ cJ cD s0 3 (by omega) (by omega)) (va_cwS 2 hts gL_act_L_below rfl rfl rfl (by decide +kernel) ⟨Nat.le_of_ble_eq_true rfl, Nat.le_of_ble_eq_true rfl⟩) hK hN hP hD hS hA [] [0, 1, 2, 3, 4, 5] 6 rfl rfl (by decide) (fun (u : Nat) => ([g, [(m0, .inr (2, [.int (nI w), .int (nI h), .int (nI nd), .int wv, .ref mA, .ref tA]))], [(mA, .inl (cJ, w, .inr (.inr (.inr (.inr (gQ w rM))))))], gB w rM cI h (gM w K), [(tA, .inl (cD, w, .inr (.inr (.inr (.inr (gQ w rT))))))], gB w rT cZ h (gZ w T)] : gW)) [] [0, 1, 2, 3, 4, 5] 6 (fun _ => rfl) (fun _ => rfl) (fun _ => rfl) (by decide) rfl hl.1 rfl (Nat.le_of_ble_eq_true rfl) dL_act_348 ⟨by show 0 + 0 ≤ 240; omega, by show 0 + 0 ≤ 1200; omega⟩ (fun r_348 u H locs hp_348 hP hD hS => ?_)
    obtain ⟨q0, rfl⟩ : ∃ z, z = u := ⟨_, rfl⟩
    have hP : va_P (dC, dI) vwCl (List.flatten ([g, [(m0, .inr (2, [.int (nI w), .int (nI h), .int (nI nd), .int wv, .ref mA, .ref tA]))], [(mA, .inl (cJ, w, .inr (.inr (.inr (.inr (gQ w rM))))))], gB w rM cI h (gM w K), [(tA, .inl (cD, w, .inr (.inr (.inr (.inr (gQ w rT))))))], gB w rT cZ h (gZ w T)] : gW)) H := hP
    have hD : va_D A (List.flatten ([g, [(m0, .inr (2, [.int (nI w), .int (nI h), .int (nI nd), .int wv, .ref mA, .ref tA]))], [(mA, .inl (cJ, w, .inr (.inr (.inr (.inr (gQ w rM))))))], gB w rM cI h (gM w K), [(tA, .inl (cD, w, .inr (.inr (.inr (.inr (gQ w rT))))))], gB w rT cZ h (gZ w T)] : gW)) := hD
    have hp_348 : r_348 = nI q0 ∧ q0 < 3 := hp_348
    refine z_topi (y := nI q0) (hp_348.1) ?_
    suffices j_359 : ∀ v_359 : Int32, v_359 = (nI (if q0 = 0 then 5 else 3)) → W p l e rmL_act s m args below meth c H locs (0) (0) Q (F0 m 359 ls [.int v_359, .int (s0 >>> (6 &&& 31)), .int (nI y), .ref (rM x)]) by
      refine lv_if_ne (tgt := 358) hx hb dL_act_351 (by decide) (fun c_351 => ?_) (fun c_351 => ?_)
      · skip
        have n_351 := zc_eq_f (a := q0) (b := 0) (by omega) (by omega) c_351
        refine lv_iconst (v := 3) hx hb dL_act_358 (by decide) ?_
        exact j_359 _ (by rw [if_neg n_351]; rfl)
      · skip
        have n_351 := zc_eq_t (a := q0) (b := 0) (by omega) (by omega) c_351
        refine lv_iconst (v := 5) hx hb dL_act_354 (by decide) ?_
        refine lv_goto (tgt := 359) hx hb dL_act_355 (by decide) ?_
        exact j_359 _ (by rw [if_pos n_351]; rfl)
    intro v_359 h_v_359
    rw [h_v_359]
    refine s_callSi (As := [.int (s0 >>> (6 &&& 31)), .int (nI (if q0 = 0 then 5 else 3))]) (rest := [.int (nI y), .ref (rM x)]) F9 (m_L_below l dC dI cI cZ cJ cD (s0 >>> (6 &&& 31)) (if q0 = 0 then 5 else 3) (by split <;> omega) (by split <;> omega)) (va_cwS 2 hts gL_act_L_below rfl rfl rfl (by decide +kernel) ⟨Nat.le_of_ble_eq_true rfl, Nat.le_of_ble_eq_true rfl⟩) hK hN hP hD hS hA [] [0, 1, 2, 3, 4, 5] 6 rfl rfl (by decide) (fun (u : Nat) => ([g, [(m0, .inr (2, [.int (nI w), .int (nI h), .int (nI nd), .int wv, .ref mA, .ref tA]))], [(mA, .inl (cJ, w, .inr (.inr (.inr (.inr (gQ w rM))))))], gB w rM cI h (gM w K), [(tA, .inl (cD, w, .inr (.inr (.inr (.inr (gQ w rT))))))], gB w rT cZ h (gZ w T)] : gW)) [] [0, 1, 2, 3, 4, 5] 6 (fun _ => rfl) (fun _ => rfl) (fun _ => rfl) (by decide) rfl hl.1 rfl (Nat.le_of_ble_eq_true rfl) dL_act_359 ⟨by show 0 + 0 ≤ 240; omega, by show 0 + 0 ≤ 1200; omega⟩ (fun r_359 u H locs hp_359 hP hD hS => ?_)
    obtain ⟨qc, rfl⟩ : ∃ z, z = u := ⟨_, rfl⟩
    have hP : va_P (dC, dI) vwCl (List.flatten ([g, [(m0, .inr (2, [.int (nI w), .int (nI h), .int (nI nd), .int wv, .ref mA, .ref tA]))], [(mA, .inl (cJ, w, .inr (.inr (.inr (.inr (gQ w rM))))))], gB w rM cI h (gM w K), [(tA, .inl (cD, w, .inr (.inr (.inr (.inr (gQ w rT))))))], gB w rT cZ h (gZ w T)] : gW)) H := hP
    have hD : va_D A (List.flatten ([g, [(m0, .inr (2, [.int (nI w), .int (nI h), .int (nI nd), .int wv, .ref mA, .ref tA]))], [(mA, .inl (cJ, w, .inr (.inr (.inr (.inr (gQ w rM))))))], gB w rM cI h (gM w K), [(tA, .inl (cD, w, .inr (.inr (.inr (.inr (gQ w rT))))))], gB w rT cZ h (gZ w T)] : gW)) := hD
    have hp_359 : r_359 = nI qc ∧ qc < (if q0 = 0 then 5 else 3) := hp_359
    refine z_topi (y := nI qc) (hp_359.1) ?_
    have hqc : qc < 5 := by have h9 := hp_359.2; revert h9; split <;> intro h9 <;> omega
    refine s_gast hx hb hK hP hD hS 3 0 x rfl (by omega) rfl y (rfl) (by omega) (by omega) dL_act_362 (fun H locs hP hD hS => ?_)
    have hP : va_P (dC, dI) vwCl (List.flatten ([g, [(m0, .inr (2, [.int (nI w), .int (nI h), .int (nI nd), .int wv, .ref mA, .ref tA]))], [(mA, .inl (cJ, w, .inr (.inr (.inr (.inr (gQ w rM))))))], gB w rM cI h (gU (gM w K) x y (nI qc)), [(tA, .inl (cD, w, .inr (.inr (.inr (.inr (gQ w rT))))))], gB w rT cZ h (gZ w T)] : gW)) H := hP
    have hD : va_D A (List.flatten ([g, [(m0, .inr (2, [.int (nI w), .int (nI h), .int (nI nd), .int wv, .ref mA, .ref tA]))], [(mA, .inl (cJ, w, .inr (.inr (.inr (.inr (gQ w rM))))))], gB w rM cI h (gU (gM w K) x y (nI qc)), [(tA, .inl (cD, w, .inr (.inr (.inr (.inr (gQ w rT))))))], gB w rT cZ h (gZ w T)] : gW)) := hD
    obtain ⟨hP, hD⟩ := sg_ren hP hD 3 rfl (M2 := (gM w (fun d => if d = w * y + x then qc else K d))) (fun i j hi hj => gM_U hxw hi)
    have hP : va_P (dC, dI) vwCl (List.flatten ([g, [(m0, .inr (2, [.int (nI w), .int (nI h), .int (nI nd), .int wv, .ref mA, .ref tA]))], [(mA, .inl (cJ, w, .inr (.inr (.inr (.inr (gQ w rM))))))], gB w rM cI h (gM w (fun d => if d = w * y + x then qc else K d)), [(tA, .inl (cD, w, .inr (.inr (.inr (.inr (gQ w rT))))))], gB w rT cZ h (gZ w T)] : gW)) H := hP
    have hD : va_D A (List.flatten ([g, [(m0, .inr (2, [.int (nI w), .int (nI h), .int (nI nd), .int wv, .ref mA, .ref tA]))], [(mA, .inl (cJ, w, .inr (.inr (.inr (.inr (gQ w rM))))))], gB w rM cI h (gM w (fun d => if d = w * y + x then qc else K d)), [(tA, .inl (cD, w, .inr (.inr (.inr (.inr (gQ w rT))))))], gB w rT cZ h (gZ w T)] : gW)) := hD
    refine lv_aload_n hx hb dL_act_363 rfl (lv_at hl 3 rfl) ?_
    refine lv_iload_n hx hb dL_act_364 rfl (lv_at hl 2 rfl) ?_
    refine lv_iload hx hb dL_act_365 (lv_at hl 1 rfl) ?_
    refine lv_aload_n hx hb dL_act_367 rfl (lv_at hl 4 rfl) ?_
    refine s_get (D := (dC, dI)) (ci := 2) (v := .ref mA) (C := RX2) (T := TX2) (N := 6) hx hb hts iL_act_X2 hown hK hP 1 0 rfl rfl rfl 4 (by decide) (hts (.fieldLink RL 57 "ColourTideLaw$Sim" "map" "[[I") (List.mem_of_getElem? (i := 9) rfl)) (fun _ h9 => h9) rfl dL_act_368 ?_
    refine lv_iload_n hx hb dL_act_371 rfl (lv_at hl 2 rfl) ?_
    refine s_qald hx hb hK hP 2 2 rfl rfl rfl x (rfl) (by omega) (by omega) dL_act_372 ?_
    refine lv_iload hx hb dL_act_373 (lv_at hl 1 rfl) ?_
    refine s_gald hx hb hK hP 3 0 x rfl (by omega) rfl y (rfl) (by omega) (by omega) dL_act_375 ?_
    refine z_topi (y := nI qc) (congrArg nI (if_pos rfl)) ?_
    obtain ⟨fs9, ho9⟩ := CT_obj hg
    refine s_callVi (As := [.int (nI x), .int (nI y), .int (nI qc)]) (rest := []) F9 (k_paint l dC dI cI cZ cJ cD hg gk h1 h4 hK4 x y (hxw) (hyh) qc (hqc)) (cwV 3 hts gL_act_X1_paint rfl rfl rfl (by decide +kernel) ⟨Nat.le_of_ble_eq_true rfl, Nat.le_of_ble_eq_true rfl⟩) hK hN hP hD hS hA [0] [1, 2, 3, 4, 5] 6 rfl rfl (by decide) (fun (u : va_W) => ([u, [(m0, .inr (2, [.int (nI w), .int (nI h), .int (nI nd), .int wv, .ref mA, .ref tA]))], [(mA, .inl (cJ, w, .inr (.inr (.inr (.inr (gQ w rM))))))], gB w rM cI h (gM w (fun d => if d = w * y + x then qc else K d)), [(tA, .inl (cD, w, .inr (.inr (.inr (.inr (gQ w rT))))))], gB w rT cZ h (gZ w T)] : gW)) [0] [1, 2, 3, 4, 5] 6 (fun _ => rfl) (fun _ => rfl) (fun _ => rfl) (by decide) 0 0 (ci := 1) rfl ho9 rfl rfl rfl hl.1 rfl (Nat.le_of_ble_eq_true rfl) dL_act_376 ⟨by show 0 + 0 ≤ 240; omega, by show 0 + 0 ≤ 1200; omega⟩ (fun r_376 g_376 H locs hp_376 hP hD hS => ?_)
    have hP : va_P (dC, dI) vwCl (List.flatten ([g_376, [(m0, .inr (2, [.int (nI w), .int (nI h), .int (nI nd), .int wv, .ref mA, .ref tA]))], [(mA, .inl (cJ, w, .inr (.inr (.inr (.inr (gQ w rM))))))], gB w rM cI h (gM w (fun d => if d = w * y + x then qc else K d)), [(tA, .inl (cD, w, .inr (.inr (.inr (.inr (gQ w rT))))))], gB w rT cZ h (gZ w T)] : gW)) H := hP
    have hD : va_D A (List.flatten ([g_376, [(m0, .inr (2, [.int (nI w), .int (nI h), .int (nI nd), .int wv, .ref mA, .ref tA]))], [(mA, .inl (cJ, w, .inr (.inr (.inr (.inr (gQ w rM))))))], gB w rM cI h (gM w (fun d => if d = w * y + x then qc else K d)), [(tA, .inl (cD, w, .inr (.inr (.inr (.inr (gQ w rT))))))], gB w rT cZ h (gZ w T)] : gW)) := hD
    obtain ⟨hp_376, hg_376⟩ := hp_376
    have hg_376 : CT cI w h nd wv T (fun d => if d = w * y + x then qc else K d) h0 g_376 := hg_376
    refine z_topi (y := nI (K (w * y + x))) (hp_376) ?_
    refine lv_iload hx hb dL_act_379 (lv_at hl 0 rfl) ?_
    refine lv_icmp_ne (tgt := 388) hx hb dL_act_381 (by decide) (fun c_381 => ?_) (fun c_381 => ?_)
    · skip
      exact absurd rfl c_381
    · skip
      refine lv_aload_n hx hb dL_act_384 rfl (lv_at hl 4 rfl) ?_
      refine lv_goto (tgt := 389) hx hb dL_act_385 (by decide) ?_
      rw [← hQ]
      exact s_aret (W1 := (fun (u : va_W × Nat × Nat × Nat × Nat × Int32 × Nat × (Nat → Nat) × (Nat → Nat) × Nat × (Nat → Nat) × (Nat → Bool)) => ([u.1, [(u.2.1, .inr (2, [.int (nI u.2.2.1), .int (nI u.2.2.2.1), .int (nI u.2.2.2.2.1), .int u.2.2.2.2.2.1, .ref u.2.2.2.2.2.2.1, .ref u.2.2.2.2.2.2.2.2.2.1]))], [(u.2.2.2.2.2.2.1, .inl (cJ, u.2.2.1, .inr (.inr (.inr (.inr (gQ u.2.2.1 u.2.2.2.2.2.2.2.1))))))], gB u.2.2.1 u.2.2.2.2.2.2.2.1 cI u.2.2.2.1 (gM u.2.2.1 u.2.2.2.2.2.2.2.2.1), [(u.2.2.2.2.2.2.2.2.2.1, .inl (cD, u.2.2.1, .inr (.inr (.inr (.inr (gQ u.2.2.1 u.2.2.2.2.2.2.2.2.2.2.1))))))], gB u.2.2.1 u.2.2.2.2.2.2.2.2.2.2.1 cZ u.2.2.2.1 (gZ u.2.2.1 u.2.2.2.2.2.2.2.2.2.2.2)] : gW))) (ad := (fun (u : va_W × Nat × Nat × Nat × Nat × Int32 × Nat × (Nat → Nat) × (Nat → Nat) × Nat × (Nat → Nat) × (Nat → Bool)) => u.2.1)) hx hb hr (Or.inl ⟨_, rfl⟩) hlocks hP hD hS (g_376, m0, w, h, nd, wv, mA, rM, (fun d => if d = w * y + x then qc else K d), tA, rT, T) rfl [0, 1, 2, 3, 4, 5] [] 6 rfl rfl (by decide) (⟨hg_376, gk, h1, h4, fun d => by show (if _ then _ else _) ≤ 4; split; omega; exact hK4 d⟩) (by omega) (by omega) dL_act_389
  rcases (show q9 = 0 ∨ q9 = 1 ∨ q9 = 2 ∨ q9 = 3 ∨ q9 = 4 ∨ q9 = 5 ∨ q9 = 6 ∨ q9 = 7 ∨ q9 = 8 ∨ q9 = 9 ∨ q9 = 10 ∨ q9 = 11 ∨ q9 = 12 ∨ q9 = 13 ∨ q9 = 14 ∨ q9 = 15 by omega) with rfl | rfl | rfl | rfl | rfl | rfl | rfl | rfl | rfl | rfl | rfl | rfl | rfl | rfl | rfl | rfl
  · exact lv_tableIn (off := 44) (tgt := 76) hx hb dL_act_32 (by decide +kernel) (by decide +kernel) rfl (by decide) t_76
  · exact lv_tableIn (off := 125) (tgt := 157) hx hb dL_act_32 (by decide +kernel) (by decide +kernel) rfl (by decide) t_157
  · exact lv_tableIn (off := 125) (tgt := 157) hx hb dL_act_32 (by decide +kernel) (by decide +kernel) rfl (by decide) t_157
  · exact lv_tableIn (off := 176) (tgt := 208) hx hb dL_act_32 (by decide +kernel) (by decide +kernel) rfl (by decide) t_208
  · exact lv_tableIn (off := 214) (tgt := 246) hx hb dL_act_32 (by decide +kernel) (by decide +kernel) rfl (by decide) t_246
  · exact lv_tableIn (off := 214) (tgt := 246) hx hb dL_act_32 (by decide +kernel) (by decide +kernel) rfl (by decide) t_246
  · exact lv_tableIn (off := 214) (tgt := 246) hx hb dL_act_32 (by decide +kernel) (by decide +kernel) rfl (by decide) t_246
  · exact lv_tableOut (tgt := 323) hx hb dL_act_32 (by decide +kernel) (by decide) t_323
  · exact lv_tableOut (tgt := 323) hx hb dL_act_32 (by decide +kernel) (by decide) t_323
  · exact lv_tableOut (tgt := 323) hx hb dL_act_32 (by decide +kernel) (by decide) t_323
  · exact lv_tableOut (tgt := 323) hx hb dL_act_32 (by decide +kernel) (by decide) t_323
  · exact lv_tableOut (tgt := 323) hx hb dL_act_32 (by decide +kernel) (by decide) t_323
  · exact lv_tableOut (tgt := 323) hx hb dL_act_32 (by decide +kernel) (by decide) t_323
  · exact lv_tableOut (tgt := 323) hx hb dL_act_32 (by decide +kernel) (by decide) t_323
  · exact lv_tableOut (tgt := 323) hx hb dL_act_32 (by decide +kernel) (by decide) t_323
  · exact lv_tableOut (tgt := 323) hx hb dL_act_32 (by decide +kernel) (by decide) t_323
