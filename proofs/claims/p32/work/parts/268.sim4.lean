abbrev rmX2_isSame : Room := { frames := 4, cells := 7, slots := 55, locals := 93 }
set_option maxRecDepth 20000 in
theorem iX2_isSame_X0 : ∀ w ∈ wsX00, w ∈ wsX2_isSame := fun w h => (goodIn_r (big := wsX2_isSame) wsX00 [223, 224, 225, 226, 227, 228] rfl (by decide +kernel) w h).1
set_option maxRecDepth 20000 in
theorem iX2_isSame_X1 : ∀ w ∈ wsX10, w ∈ wsX2_isSame := fun w h => (goodIn_r (big := wsX2_isSame) wsX10 [218, 219, 220, 221, 222] rfl (by decide +kernel) w h).1
set_option maxRecDepth 20000 in
theorem iX2_isSame_X2 : ∀ w ∈ wsX20, w ∈ wsX2_isSame := fun w h => (goodIn_r (big := wsX2_isSame) wsX20 [212, 213, 214, 215, 216, 217] rfl (by decide +kernel) w h).1
set_option maxHeartbeats 4000000 in
set_option maxRecDepth 100000 in
theorem m_X2_isSame (l : Launch) (dC : Nat → ClassId) (dI : Nat → Nat → Nat) (cI cZ cJ cD : ClassId) (m0 : Nat) (w : Nat) (h : Nat) (nd : Nat) (wv : Int32) (mA : Nat) (rM : Nat → Nat) (K : Nat → Nat) (tA : Nat) (rT : Nat → Nat) (T : Nat → Bool) (g : va_W) (h0 : Nat) (hg : CT cI w h nd wv T K h0 g) (gk : gok w h) (h1 : 1 ≤ nd) (h4 : nd ≤ 4) (hK4 : ∀ c, K c ≤ 4) : sI l (dC, dI) (wT cI cZ cJ cD) yX2_isSame wsX2_isSame rmX2_isSame [g, [(m0, .inr (2, [.int (nI w), .int (nI h), .int (nI nd), .int wv, .ref mA, .ref tA]))], [(mA, .inl (cJ, w, .inr (.inr (.inr (.inr (gQ w rM))))))], gB w rM cI h (gM w K), [(tA, .inl (cD, w, .inr (.inr (.inr (.inr (gQ w rT))))))], gB w rT cZ h (gZ w T)] [.ref m0, .ref h0] (fun (u : va_W) => ([u, [(m0, .inr (2, [.int (nI w), .int (nI h), .int (nI nd), .int wv, .ref mA, .ref tA]))], [(mA, .inl (cJ, w, .inr (.inr (.inr (.inr (gQ w rM))))))], gB w rM cI h (gM w K), [(tA, .inl (cD, w, .inr (.inr (.inr (.inr (gQ w rT))))))], gB w rT cZ h (gZ w T)] : gW)) (fun (r : Int32) (u : va_W) => r = 1 ∧ CT cI w h nd wv T K h0 u) 7 55 := by
  intro sz
  refine Met.ofW (cc := cX2_isSame) (maxL := 14) (ret := (some .boolean)) (by decide) rfl ?_
  intro p e s m args below meth c s₁ B hml hv
  obtain ⟨ha, hsz, hP, hK, hD0, hN⟩ := hv
  have hx := B.exec
  have hb := B.bytes
  have hr := B.returns
  have hts := atoms_spec (ws := wsX2_isSame) B.pre
  have hown : s.vm.findClass RX2 = some m.cls := findClass_of_methodNamed B.named
  have hlocks := B.notSynchronized
  subst hsz
  have hD := hD0.self (sz := s.heap.size)
  generalize hAe : va_A (List.flatten ([g, [(m0, .inr (2, [.int (nI w), .int (nI h), .int (nI nd), .int wv, .ref mA, .ref tA]))], [(mA, .inl (cJ, w, .inr (.inr (.inr (.inr (gQ w rM))))))], gB w rM cI h (gM w K), [(tA, .inl (cD, w, .inr (.inr (.inr (.inr (gQ w rT))))))], gB w rT cZ h (gZ w T)] : gW)) s.heap.size = A at hD ⊢
  have hA : ∀ q : Nat, s.heap.size ≤ q → A q := fun q h => by rw [← hAe]; exact Or.inr h
  have hS : va_S A s.heap s.heap [] := va_S.rf
  generalize hQ : MQ below (va_Qi (fun (r : Int32) (u : va_W) => r = 1 ∧ CT cI w h nd wv T K h0 u) (fun u t => va_P (dC, dI) vwCl (List.flatten ((fun (u : va_W) => ([u, [(m0, .inr (2, [.int (nI w), .int (nI h), .int (nI nd), .int wv, .ref mA, .ref tA]))], [(mA, .inl (cJ, w, .inr (.inr (.inr (.inr (gQ w rM))))))], gB w rM cI h (gM w K), [(tA, .inl (cD, w, .inr (.inr (.inr (.inr (gQ w rT))))))], gB w rT cZ h (gZ w T)] : gW)) u)) t.heap ∧ va_D A (List.flatten ((fun (u : va_W) => ([u, [(m0, .inr (2, [.int (nI w), .int (nI h), .int (nI nd), .int wv, .ref mA, .ref tA]))], [(mA, .inl (cJ, w, .inr (.inr (.inr (.inr (gQ w rM))))))], gB w rM cI h (gM w K), [(tA, .inl (cD, w, .inr (.inr (.inr (.inr (gQ w rT))))))], gB w rT cZ h (gZ w T)] : gW)) u))) A) args s 7 55 A = Q
  have F9 : CallFix p m c cX2_isSame 14 s args wsX2_isSame RX2 := ⟨hx, hb, hml, hown, hts⟩
  obtain ⟨gw2, gw5, gh2, gh5⟩ := id gk
  have wh25 := wh_le gk
  have wh4 := wh_pos gk
  refine z_entry (R := rmX2_isSame) ha (Nat.le_of_ble_eq_true rfl) (fun ls hl => ?_)
  have hl : lv_has ls 14 [(0, .ref m0), (1, .ref h0)] := hl
  refine lv_aload_n hx hb dX2_isSame_0 rfl (lv_at hl 1 rfl) ?_
  obtain ⟨fs9, ho9⟩ := CT_obj hg
  refine s_callVi (As := []) (rest := []) F9 (k_width l dC dI cI cZ cJ cD hg  ) (cwV 0 hts gX2_isSame_X1_width rfl rfl rfl (by decide +kernel) ⟨Nat.le_of_ble_eq_true rfl, Nat.le_of_ble_eq_true rfl⟩) hK hN hP hD hS hA [0] [1, 2, 3, 4, 5] 6 rfl rfl (by decide) (fun (u : va_W) => ([u, [(m0, .inr (2, [.int (nI w), .int (nI h), .int (nI nd), .int wv, .ref mA, .ref tA]))], [(mA, .inl (cJ, w, .inr (.inr (.inr (.inr (gQ w rM))))))], gB w rM cI h (gM w K), [(tA, .inl (cD, w, .inr (.inr (.inr (.inr (gQ w rT))))))], gB w rT cZ h (gZ w T)] : gW)) [0] [1, 2, 3, 4, 5] 6 (fun _ => rfl) (fun _ => rfl) (fun _ => rfl) (by decide) 0 0 (ci := 1) rfl ho9 rfl rfl rfl hl.1 rfl (Nat.le_of_ble_eq_true rfl) dX2_isSame_1 ⟨by show 0 + 0 ≤ 7; omega, by show 0 + 0 ≤ 55; omega⟩ (fun r_1 g_1 H locs hp_1 hP hD hS => ?_)
  have hP : va_P (dC, dI) vwCl (List.flatten ([g_1, [(m0, .inr (2, [.int (nI w), .int (nI h), .int (nI nd), .int wv, .ref mA, .ref tA]))], [(mA, .inl (cJ, w, .inr (.inr (.inr (.inr (gQ w rM))))))], gB w rM cI h (gM w K), [(tA, .inl (cD, w, .inr (.inr (.inr (.inr (gQ w rT))))))], gB w rT cZ h (gZ w T)] : gW)) H := hP
  have hD : va_D A (List.flatten ([g_1, [(m0, .inr (2, [.int (nI w), .int (nI h), .int (nI nd), .int wv, .ref mA, .ref tA]))], [(mA, .inl (cJ, w, .inr (.inr (.inr (.inr (gQ w rM))))))], gB w rM cI h (gM w K), [(tA, .inl (cD, w, .inr (.inr (.inr (.inr (gQ w rT))))))], gB w rT cZ h (gZ w T)] : gW)) := hD
  obtain ⟨hp_1, hg_1⟩ := hp_1
  have hg_1 : CT cI w h nd wv T K h0 g_1 := hg_1
  refine z_topi (y := nI w) (hp_1) ?_
  refine lv_aload_n hx hb dX2_isSame_4 rfl (lv_at hl 0 rfl) ?_
  refine s_get (D := (dC, dI)) (ci := 2) (v := .int (nI w)) (C := RX2) (T := TX2) (N := 6) hx hb hts iX2_isSame_X2 hown hK hP 1 0 rfl rfl rfl 0 (by decide) (hts (.fieldLink RX2 13 "ColourTideLaw$Sim" "w" "I") (List.mem_of_getElem? (i := 1) rfl)) (fun _ h9 => h9) rfl dX2_isSame_5 ?_
  refine lv_icmp_ne (tgt := 44) hx hb dX2_isSame_8 (by decide) (fun c_8 => ?_) (fun c_8 => ?_)
  · skip
    exact absurd rfl c_8
  · skip
    refine lv_aload_n hx hb dX2_isSame_11 rfl (lv_at hl 1 rfl) ?_
    obtain ⟨fs9, ho9⟩ := CT_obj hg_1
    refine s_callVi (As := []) (rest := []) F9 (k_height l dC dI cI cZ cJ cD hg_1  ) (cwV 0 hts gX2_isSame_X1_height rfl rfl rfl (by decide +kernel) ⟨Nat.le_of_ble_eq_true rfl, Nat.le_of_ble_eq_true rfl⟩) hK hN hP hD hS hA [0] [1, 2, 3, 4, 5] 6 rfl rfl (by decide) (fun (u : va_W) => ([u, [(m0, .inr (2, [.int (nI w), .int (nI h), .int (nI nd), .int wv, .ref mA, .ref tA]))], [(mA, .inl (cJ, w, .inr (.inr (.inr (.inr (gQ w rM))))))], gB w rM cI h (gM w K), [(tA, .inl (cD, w, .inr (.inr (.inr (.inr (gQ w rT))))))], gB w rT cZ h (gZ w T)] : gW)) [0] [1, 2, 3, 4, 5] 6 (fun _ => rfl) (fun _ => rfl) (fun _ => rfl) (by decide) 0 0 (ci := 1) rfl ho9 rfl rfl rfl hl.1 rfl (Nat.le_of_ble_eq_true rfl) dX2_isSame_12 ⟨by show 0 + 0 ≤ 7; omega, by show 0 + 0 ≤ 55; omega⟩ (fun r_12 g_12 H locs hp_12 hP hD hS => ?_)
    have hP : va_P (dC, dI) vwCl (List.flatten ([g_12, [(m0, .inr (2, [.int (nI w), .int (nI h), .int (nI nd), .int wv, .ref mA, .ref tA]))], [(mA, .inl (cJ, w, .inr (.inr (.inr (.inr (gQ w rM))))))], gB w rM cI h (gM w K), [(tA, .inl (cD, w, .inr (.inr (.inr (.inr (gQ w rT))))))], gB w rT cZ h (gZ w T)] : gW)) H := hP
    have hD : va_D A (List.flatten ([g_12, [(m0, .inr (2, [.int (nI w), .int (nI h), .int (nI nd), .int wv, .ref mA, .ref tA]))], [(mA, .inl (cJ, w, .inr (.inr (.inr (.inr (gQ w rM))))))], gB w rM cI h (gM w K), [(tA, .inl (cD, w, .inr (.inr (.inr (.inr (gQ w rT))))))], gB w rT cZ h (gZ w T)] : gW)) := hD
    obtain ⟨hp_12, hg_12⟩ := hp_12
    have hg_12 : CT cI w h nd wv T K h0 g_12 := hg_12
    refine z_topi (y := nI h) (hp_12) ?_
    refine lv_aload_n hx hb dX2_isSame_15 rfl (lv_at hl 0 rfl) ?_
    refine s_get (D := (dC, dI)) (ci := 2) (v := .int (nI h)) (C := RX2) (T := TX2) (N := 6) hx hb hts iX2_isSame_X2 hown hK hP 1 0 rfl rfl rfl 1 (by decide) (hts (.fieldLink RX2 16 "ColourTideLaw$Sim" "h" "I") (List.mem_of_getElem? (i := 2) rfl)) (fun _ h9 => h9) rfl dX2_isSame_16 ?_
    refine lv_icmp_ne (tgt := 44) hx hb dX2_isSame_19 (by decide) (fun c_19 => ?_) (fun c_19 => ?_)
    · skip
      exact absurd rfl c_19
    · skip
      refine lv_aload_n hx hb dX2_isSame_22 rfl (lv_at hl 1 rfl) ?_
      obtain ⟨fs9, ho9⟩ := CT_obj hg_12
      refine s_callVi (As := []) (rest := []) F9 (k_need l dC dI cI cZ cJ cD hg_12  ) (cwV 0 hts gX2_isSame_X1_need rfl rfl rfl (by decide +kernel) ⟨Nat.le_of_ble_eq_true rfl, Nat.le_of_ble_eq_true rfl⟩) hK hN hP hD hS hA [0] [1, 2, 3, 4, 5] 6 rfl rfl (by decide) (fun (u : va_W) => ([u, [(m0, .inr (2, [.int (nI w), .int (nI h), .int (nI nd), .int wv, .ref mA, .ref tA]))], [(mA, .inl (cJ, w, .inr (.inr (.inr (.inr (gQ w rM))))))], gB w rM cI h (gM w K), [(tA, .inl (cD, w, .inr (.inr (.inr (.inr (gQ w rT))))))], gB w rT cZ h (gZ w T)] : gW)) [0] [1, 2, 3, 4, 5] 6 (fun _ => rfl) (fun _ => rfl) (fun _ => rfl) (by decide) 0 0 (ci := 1) rfl ho9 rfl rfl rfl hl.1 rfl (Nat.le_of_ble_eq_true rfl) dX2_isSame_23 ⟨by show 0 + 0 ≤ 7; omega, by show 0 + 0 ≤ 55; omega⟩ (fun r_23 g_23 H locs hp_23 hP hD hS => ?_)
      have hP : va_P (dC, dI) vwCl (List.flatten ([g_23, [(m0, .inr (2, [.int (nI w), .int (nI h), .int (nI nd), .int wv, .ref mA, .ref tA]))], [(mA, .inl (cJ, w, .inr (.inr (.inr (.inr (gQ w rM))))))], gB w rM cI h (gM w K), [(tA, .inl (cD, w, .inr (.inr (.inr (.inr (gQ w rT))))))], gB w rT cZ h (gZ w T)] : gW)) H := hP
      have hD : va_D A (List.flatten ([g_23, [(m0, .inr (2, [.int (nI w), .int (nI h), .int (nI nd), .int wv, .ref mA, .ref tA]))], [(mA, .inl (cJ, w, .inr (.inr (.inr (.inr (gQ w rM))))))], gB w rM cI h (gM w K), [(tA, .inl (cD, w, .inr (.inr (.inr (.inr (gQ w rT))))))], gB w rT cZ h (gZ w T)] : gW)) := hD
      obtain ⟨hp_23, hg_23⟩ := hp_23
      have hg_23 : CT cI w h nd wv T K h0 g_23 := hg_23
      refine z_topi (y := nI nd) (hp_23) ?_
      refine lv_aload_n hx hb dX2_isSame_26 rfl (lv_at hl 0 rfl) ?_
      refine s_get (D := (dC, dI)) (ci := 2) (v := .int (nI nd)) (C := RX2) (T := TX2) (N := 6) hx hb hts iX2_isSame_X2 hown hK hP 1 0 rfl rfl rfl 2 (by decide) (hts (.fieldLink RX2 7 "ColourTideLaw$Sim" "need" "I") (List.mem_of_getElem? (i := 3) rfl)) (fun _ h9 => h9) rfl dX2_isSame_27 ?_
      refine lv_icmp_ne (tgt := 44) hx hb dX2_isSame_30 (by decide) (fun c_30 => ?_) (fun c_30 => ?_)
      · skip
        exact absurd rfl c_30
      · skip
        refine lv_aload_n hx hb dX2_isSame_33 rfl (lv_at hl 1 rfl) ?_
        obtain ⟨fs9, ho9⟩ := CT_obj hg_23
        refine s_callVi (As := []) (rest := []) F9 (k_waves l dC dI cI cZ cJ cD hg_23  ) (cwV 0 hts gX2_isSame_X1_waves rfl rfl rfl (by decide +kernel) ⟨Nat.le_of_ble_eq_true rfl, Nat.le_of_ble_eq_true rfl⟩) hK hN hP hD hS hA [0] [1, 2, 3, 4, 5] 6 rfl rfl (by decide) (fun (u : va_W) => ([u, [(m0, .inr (2, [.int (nI w), .int (nI h), .int (nI nd), .int wv, .ref mA, .ref tA]))], [(mA, .inl (cJ, w, .inr (.inr (.inr (.inr (gQ w rM))))))], gB w rM cI h (gM w K), [(tA, .inl (cD, w, .inr (.inr (.inr (.inr (gQ w rT))))))], gB w rT cZ h (gZ w T)] : gW)) [0] [1, 2, 3, 4, 5] 6 (fun _ => rfl) (fun _ => rfl) (fun _ => rfl) (by decide) 0 0 (ci := 1) rfl ho9 rfl rfl rfl hl.1 rfl (Nat.le_of_ble_eq_true rfl) dX2_isSame_34 ⟨by show 0 + 0 ≤ 7; omega, by show 0 + 0 ≤ 55; omega⟩ (fun r_34 g_34 H locs hp_34 hP hD hS => ?_)
        have hP : va_P (dC, dI) vwCl (List.flatten ([g_34, [(m0, .inr (2, [.int (nI w), .int (nI h), .int (nI nd), .int wv, .ref mA, .ref tA]))], [(mA, .inl (cJ, w, .inr (.inr (.inr (.inr (gQ w rM))))))], gB w rM cI h (gM w K), [(tA, .inl (cD, w, .inr (.inr (.inr (.inr (gQ w rT))))))], gB w rT cZ h (gZ w T)] : gW)) H := hP
        have hD : va_D A (List.flatten ([g_34, [(m0, .inr (2, [.int (nI w), .int (nI h), .int (nI nd), .int wv, .ref mA, .ref tA]))], [(mA, .inl (cJ, w, .inr (.inr (.inr (.inr (gQ w rM))))))], gB w rM cI h (gM w K), [(tA, .inl (cD, w, .inr (.inr (.inr (.inr (gQ w rT))))))], gB w rT cZ h (gZ w T)] : gW)) := hD
        obtain ⟨hp_34, hg_34⟩ := hp_34
        have hg_34 : CT cI w h nd wv T K h0 g_34 := hg_34
        refine z_topi (y := wv) (hp_34) ?_
        refine lv_aload_n hx hb dX2_isSame_37 rfl (lv_at hl 0 rfl) ?_
        refine s_get (D := (dC, dI)) (ci := 2) (v := .int wv) (C := RX2) (T := TX2) (N := 6) hx hb hts iX2_isSame_X2 hown hK hP 1 0 rfl rfl rfl 3 (by decide) (hts (.fieldLink RX2 43 "ColourTideLaw$Sim" "waves" "I") (List.mem_of_getElem? (i := 4) rfl)) (fun _ h9 => h9) rfl dX2_isSame_38 ?_
        refine lv_icmp_eq (tgt := 46) hx hb dX2_isSame_41 (by decide) (fun c_41 => ?_) (fun c_41 => ?_)
        · skip
          refine lv_aload_n hx hb dX2_isSame_46 rfl (lv_at hl 0 rfl) ?_
          refine s_callVr (As := []) (rest := []) F9 (m_X2_regions l dC dI cI cZ cJ cD m0 w h nd wv mA rM K tA rT T (gk) (hK4)) (cwV 0 hts gX2_isSame_X2_regions rfl rfl rfl (by decide +kernel) ⟨Nat.le_of_ble_eq_true rfl, Nat.le_of_ble_eq_true rfl⟩) hK hN hP hD hS hA [1, 2, 3, 4, 5] [0] 6 rfl rfl (by decide) (fun (u : Nat × (Nat → Nat) × (Nat → Nat)) => ([g_34, [(m0, .inr (2, [.int (nI w), .int (nI h), .int (nI nd), .int wv, .ref mA, .ref tA]))], [(mA, .inl (cJ, w, .inr (.inr (.inr (.inr (gQ w rM))))))], gB w rM cI h (gM w K), [(tA, .inl (cD, w, .inr (.inr (.inr (.inr (gQ w rT))))))], gB w rT cZ h (gZ w T), [(u.1, .inl (cJ, w, .inr (.inr (.inr (.inr (gQ w u.2.1))))))], gB w u.2.1 cI h (gV w (lV K u.2.2))] : gW)) [1, 2, 3, 4, 5, 6, 7] [0] 8 (fun _ => rfl) (fun _ => rfl) (fun _ => rfl) (by decide) 1 0 (ci := 2) rfl rfl rfl rfl rfl hl.1 rfl (Nat.le_of_ble_eq_true rfl) dX2_isSame_47 ⟨by show 0 + 6 ≤ 7; omega, by show 0 + 30 ≤ 55; omega⟩ (fun u H locs hp_47 hP hD hS => ?_)
          obtain ⟨qR, rR, LL⟩ := u
          have hP : va_P (dC, dI) vwCl (List.flatten ([g_34, [(m0, .inr (2, [.int (nI w), .int (nI h), .int (nI nd), .int wv, .ref mA, .ref tA]))], [(mA, .inl (cJ, w, .inr (.inr (.inr (.inr (gQ w rM))))))], gB w rM cI h (gM w K), [(tA, .inl (cD, w, .inr (.inr (.inr (.inr (gQ w rT))))))], gB w rT cZ h (gZ w T), [(qR, .inl (cJ, w, .inr (.inr (.inr (.inr (gQ w rR))))))], gB w rR cI h (gV w (lV K LL))] : gW)) H := hP
          have hD : va_D A (List.flatten ([g_34, [(m0, .inr (2, [.int (nI w), .int (nI h), .int (nI nd), .int wv, .ref mA, .ref tA]))], [(mA, .inl (cJ, w, .inr (.inr (.inr (.inr (gQ w rM))))))], gB w rM cI h (gM w K), [(tA, .inl (cD, w, .inr (.inr (.inr (.inr (gQ w rT))))))], gB w rT cZ h (gZ w T), [(qR, .inl (cJ, w, .inr (.inr (.inr (.inr (gQ w rR))))))], gB w rR cI h (gV w (lV K LL))] : gW)) := hD
          refine W.widen (k := 6) (n := 30) (by omega) (by omega) ?_
          have hp_47 : RLb w h K LL := hp_47
          have hRL := hp_47
          refine lv_astore_n (lv' := [(2, .ref qR), (0, .ref m0), (1, .ref h0)]) hx hb dX2_isSame_50 rfl hl (by decide) rfl (fun ls hl => ?_)
          refine lv_aload_n hx hb dX2_isSame_51 rfl (lv_at hl 1 rfl) ?_
          refine s_get (D := (dC, dI)) (ci := 2) (v := .int (nI w)) (C := RX2) (T := TX2) (N := 6) hx hb hts iX2_isSame_X2 hown hK hP 1 0 rfl rfl rfl 0 (by decide) (hts (.fieldLink RX2 13 "ColourTideLaw$Sim" "w" "I") (List.mem_of_getElem? (i := 1) rfl)) (fun _ h9 => h9) rfl dX2_isSame_52 ?_
          refine lv_aload_n hx hb dX2_isSame_55 rfl (lv_at hl 1 rfl) ?_
          refine s_get (D := (dC, dI)) (ci := 2) (v := .int (nI h)) (C := RX2) (T := TX2) (N := 6) hx hb hts iX2_isSame_X2 hown hK hP 1 0 rfl rfl rfl 1 (by decide) (hts (.fieldLink RX2 16 "ColourTideLaw$Sim" "h" "I") (List.mem_of_getElem? (i := 2) rfl)) (fun _ h9 => h9) rfl dX2_isSame_56 ?_
          refine lv_imul hx hb dX2_isSame_59 ?_
          refine z_topi (y := nI (w * h)) (pk_mul w h) ?_
          refine s_newa (atype := .int) (ty := .int) (cA := cI) hx hb (hts (.arrayClass .int) (List.mem_of_getElem? (i := 5) rfl)) rfl hK hP hD hS hA 0 rfl (w * h) rfl ((w * h), .inl (fun _ => 0)) (fun _ => rfl) (by omega) (by show _ * 4 ≤ _; omega) (by show 6 + 1 ≤ 7; omega) (by show 30 + (w * h) ≤ 55; omega) dX2_isSame_60 (fun q_60 H hP hD hS => ?_)
          have hP : va_P (dC, dI) vwCl (List.flatten ([g_34, [(m0, .inr (2, [.int (nI w), .int (nI h), .int (nI nd), .int wv, .ref mA, .ref tA]))], [(mA, .inl (cJ, w, .inr (.inr (.inr (.inr (gQ w rM))))))], gB w rM cI h (gM w K), [(tA, .inl (cD, w, .inr (.inr (.inr (.inr (gQ w rT))))))], gB w rT cZ h (gZ w T), [(qR, .inl (cJ, w, .inr (.inr (.inr (.inr (gQ w rR))))))], gB w rR cI h (gV w (lV K LL)), [(q_60, .inl (cI, (w * h), .inl (fun _ => 0)))]] : gW)) H := hP
          have hD : va_D A (List.flatten ([g_34, [(m0, .inr (2, [.int (nI w), .int (nI h), .int (nI nd), .int wv, .ref mA, .ref tA]))], [(mA, .inl (cJ, w, .inr (.inr (.inr (.inr (gQ w rM))))))], gB w rM cI h (gM w K), [(tA, .inl (cD, w, .inr (.inr (.inr (.inr (gQ w rT))))))], gB w rT cZ h (gZ w T), [(qR, .inl (cJ, w, .inr (.inr (.inr (.inr (gQ w rR))))))], gB w rR cI h (gV w (lV K LL)), [(q_60, .inl (cI, (w * h), .inl (fun _ => 0)))]] : gW)) := hD
          refine W.widen (k := 7) (n := 55) (by omega) (by omega) ?_
          refine lv_astore_n (lv' := [(3, .ref q_60), (2, .ref qR), (0, .ref m0), (1, .ref h0)]) hx hb dX2_isSame_62 rfl hl (by decide) rfl (fun ls hl => ?_)
          refine lv_iconst (v := 0) hx hb dX2_isSame_63 (by decide) ?_
          refine lv_istore (lv' := [(4, .int 0), (3, .ref q_60), (2, .ref qR), (0, .ref m0), (1, .ref h0)]) hx hb dX2_isSame_64 hl (by decide) rfl (fun ls hl => ?_)
          refine lv_iconst (v := 0) hx hb dX2_isSame_66 (by decide) ?_
          refine lv_istore (lv' := [(5, .int 0), (4, .int 0), (3, .ref q_60), (2, .ref qR), (0, .ref m0), (1, .ref h0)]) hx hb dX2_isSame_67 hl (by decide) rfl (fun ls hl => ?_)
          refine lv_iconst (v := 1) hx hb dX2_isSame_69 (by decide) ?_
          refine lv_istore (lv' := [(6, .int 1), (5, .int 0), (4, .int 0), (3, .ref q_60), (2, .ref qR), (0, .ref m0), (1, .ref h0)]) hx hb dX2_isSame_70 hl (by decide) rfl (fun ls hl => ?_)
          refine lv_iconst (v := 0) hx hb dX2_isSame_72 (by decide) ?_
          refine lv_istore (lv' := [(7, .int 0), (6, .int 1), (5, .int 0), (4, .int 0), (3, .ref q_60), (2, .ref qR), (0, .ref m0), (1, .ref h0)]) hx hb dX2_isSame_73 hl (by decide) rfl (fun ls hl => ?_)
          have loop_75 : ∀ (n : Nat) (x : Nat) (hkn : x + n = w) (H : Heap) (locs : List Loc) (ls : Array Slot) (hP : va_P (dC, dI) vwCl (List.flatten ([g_34, [(m0, .inr (2, [.int (nI w), .int (nI h), .int (nI nd), .int wv, .ref mA, .ref tA]))], [(mA, .inl (cJ, w, .inr (.inr (.inr (.inr (gQ w rM))))))], gB w rM cI h (gM w K), [(tA, .inl (cD, w, .inr (.inr (.inr (.inr (gQ w rT))))))], gB w rT cZ h (gZ w T), [(qR, .inl (cJ, w, .inr (.inr (.inr (.inr (gQ w rR))))))], gB w rR cI h (gV w (lV K LL)), [(q_60, .inl (cI, (w * h), .inl (sX K LL w h x 0)))]] : gW)) H) (hD : va_D A (List.flatten ([g_34, [(m0, .inr (2, [.int (nI w), .int (nI h), .int (nI nd), .int wv, .ref mA, .ref tA]))], [(mA, .inl (cJ, w, .inr (.inr (.inr (.inr (gQ w rM))))))], gB w rM cI h (gM w K), [(tA, .inl (cD, w, .inr (.inr (.inr (.inr (gQ w rT))))))], gB w rT cZ h (gZ w T), [(qR, .inl (cJ, w, .inr (.inr (.inr (.inr (gQ w rR))))))], gB w rR cI h (gV w (lV K LL)), [(q_60, .inl (cI, (w * h), .inl (sX K LL w h x 0)))]] : gW))) (hS : va_S A s.heap H locs) (hl : lv_has ls 14 [(0, .ref m0), (1, .ref h0), (2, .ref qR), (3, .ref q_60), (4, .int (nI (cN T w h x 0))), (5, .int (nI (cN (bQ w h K 1) w h x 0 + cN (bQ w h K 3) w h x 0))), (6, .int (bz (decide (cN (chQ w h nd T K) w h x 0 = 0)))), (7, .int (nI x))]), W p l e rmX2_isSame s m args below meth c H locs (7) (55) Q (F0 m 75 ls []) := by
            intro n
            induction n with
            | zero =>
              intro x hkn  H locs ls hP hD hS hl
              refine lv_iload hx hb dX2_isSame_75 (lv_at hl 7 rfl) ?_
              refine lv_aload_n hx hb dX2_isSame_77 rfl (lv_at hl 0 rfl) ?_
              refine s_get (D := (dC, dI)) (ci := 2) (v := .int (nI w)) (C := RX2) (T := TX2) (N := 6) hx hb hts iX2_isSame_X2 hown hK hP 1 0 rfl rfl rfl 0 (by decide) (hts (.fieldLink RX2 13 "ColourTideLaw$Sim" "w" "I") (List.mem_of_getElem? (i := 1) rfl)) (fun _ h9 => h9) rfl dX2_isSame_78 ?_
              refine lv_icmp_ge (tgt := 271) hx hb dX2_isSame_81 (by decide) (fun c_81 => ?_) (fun c_81 => ?_)
              · skip
                have n_81 := zc_le_t (a := w) (b := x) (by omega) (by omega) c_81
                refine lv_iconst (v := 0) hx hb dX2_isSame_271 (by decide) ?_
                refine lv_istore (lv' := [(7, .int 0), (0, .ref m0), (1, .ref h0), (2, .ref qR), (3, .ref q_60), (4, .int (nI (cN T w h x 0))), (5, .int (nI (cN (bQ w h K 1) w h x 0 + cN (bQ w h K 3) w h x 0))), (6, .int (bz (decide (cN (chQ w h nd T K) w h x 0 = 0))))]) hx hb dX2_isSame_272 hl (by decide) rfl (fun ls hl => ?_)
                refine lv_iconst (v := 0) hx hb dX2_isSame_274 (by decide) ?_
                refine lv_istore (lv' := [(8, .int 0), (7, .int 0), (0, .ref m0), (1, .ref h0), (2, .ref qR), (3, .ref q_60), (4, .int (nI (cN T w h x 0))), (5, .int (nI (cN (bQ w h K 1) w h x 0 + cN (bQ w h K 3) w h x 0))), (6, .int (bz (decide (cN (chQ w h nd T K) w h x 0 = 0))))]) hx hb dX2_isSame_275 hl (by decide) rfl (fun ls hl => ?_)
                refine lv_iconst (v := 4) hx hb dX2_isSame_277 (by decide) ?_
                refine lv_istore (lv' := [(9, .int 4), (8, .int 0), (7, .int 0), (0, .ref m0), (1, .ref h0), (2, .ref qR), (3, .ref q_60), (4, .int (nI (cN T w h x 0))), (5, .int (nI (cN (bQ w h K 1) w h x 0 + cN (bQ w h K 3) w h x 0))), (6, .int (bz (decide (cN (chQ w h nd T K) w h x 0 = 0))))]) hx hb dX2_isSame_278 hl (by decide) rfl (fun ls hl => ?_)
                have loop_280 : ∀ (n : Nat) (mm : Nat) (ld : Nat) (wn : Nat) (gBB : va_W) (hkn : mm = n) (hm : mm ≤ 4) (hld : ldI (ccF K (w * h)) mm ld) (hwn : wnI (ccF K (w * h)) (w * h) mm wn) (hgB : CT cI w h nd wv T K h0 gBB) (H : Heap) (locs : List Loc) (ls : Array Slot) (hP : va_P (dC, dI) vwCl (List.flatten ([gBB, [(m0, .inr (2, [.int (nI w), .int (nI h), .int (nI nd), .int wv, .ref mA, .ref tA]))], [(mA, .inl (cJ, w, .inr (.inr (.inr (.inr (gQ w rM))))))], gB w rM cI h (gM w K), [(tA, .inl (cD, w, .inr (.inr (.inr (.inr (gQ w rT))))))], gB w rT cZ h (gZ w T), [(qR, .inl (cJ, w, .inr (.inr (.inr (.inr (gQ w rR))))))], gB w rR cI h (gV w (lV K LL)), [(q_60, .inl (cI, (w * h), .inl (sX K LL w h w 0)))]] : gW)) H) (hD : va_D A (List.flatten ([gBB, [(m0, .inr (2, [.int (nI w), .int (nI h), .int (nI nd), .int wv, .ref mA, .ref tA]))], [(mA, .inl (cJ, w, .inr (.inr (.inr (.inr (gQ w rM))))))], gB w rM cI h (gM w K), [(tA, .inl (cD, w, .inr (.inr (.inr (.inr (gQ w rT))))))], gB w rT cZ h (gZ w T), [(qR, .inl (cJ, w, .inr (.inr (.inr (.inr (gQ w rR))))))], gB w rR cI h (gV w (lV K LL)), [(q_60, .inl (cI, (w * h), .inl (sX K LL w h w 0)))]] : gW))) (hS : va_S A s.heap H locs) (hl : lv_has ls 14 [(0, .ref m0), (1, .ref h0), (2, .ref qR), (3, .ref q_60), (4, .int (nI (cN T w h w 0))), (5, .int (nI (cN (bQ w h K 1) w h w 0 + cN (bQ w h K 3) w h w 0))), (6, .int (bz (decide (cN (chQ w h nd T K) w h w 0 = 0)))), (7, .int (nI ld)), (8, .int (nI wn)), (9, .int (nI mm))]), W p l e rmX2_isSame s m args below meth c H locs (7) (55) Q (F0 m 280 ls []) := by
                  intro n
                  induction n with
                  | zero =>
                    intro mm ld wn gBB hkn hm hld hwn hgB H locs ls hP hD hS hl
                    refine lv_iload hx hb dX2_isSame_280 (lv_at hl 9 rfl) ?_
                    refine lv_if_le (tgt := 485) hx hb dX2_isSame_282 (by decide) (fun c_282 => ?_) (fun c_282 => ?_)
                    · skip
                      have n_282 := zc_le_t (a := mm) (b := 0) (by omega) (by omega) c_282
                      have hld0 : ld = bestL (ccF K (w * h)) 1 4 := ld_end (by have e9 : mm = 0 := hkn; rw [e9] at hld; exact hld)
                      have hwn0 : wn = allN K (w * h) := wn_end (by omega) hK4 (by have e9 : mm = 0 := hkn; rw [e9] at hwn; exact hwn)
                      refine lv_iconst (v := 0) hx hb dX2_isSame_485 (by decide) ?_
                      refine lv_istore (lv' := [(9, .int 0), (0, .ref m0), (1, .ref h0), (2, .ref qR), (3, .ref q_60), (4, .int (nI (cN T w h w 0))), (5, .int (nI (cN (bQ w h K 1) w h w 0 + cN (bQ w h K 3) w h w 0))), (6, .int (bz (decide (cN (chQ w h nd T K) w h w 0 = 0)))), (7, .int (nI ld)), (8, .int (nI wn))]) hx hb dX2_isSame_486 hl (by decide) rfl (fun ls hl => ?_)
                      have loop_488 : ∀ (n : Nat) (i : Nat) (gC : va_W) (hkn : i + n = 5) (hgC : CT cI w h nd wv T K h0 gC) (H : Heap) (locs : List Loc) (ls : Array Slot) (hP : va_P (dC, dI) vwCl (List.flatten ([gC, [(m0, .inr (2, [.int (nI w), .int (nI h), .int (nI nd), .int wv, .ref mA, .ref tA]))], [(mA, .inl (cJ, w, .inr (.inr (.inr (.inr (gQ w rM))))))], gB w rM cI h (gM w K), [(tA, .inl (cD, w, .inr (.inr (.inr (.inr (gQ w rT))))))], gB w rT cZ h (gZ w T), [(qR, .inl (cJ, w, .inr (.inr (.inr (.inr (gQ w rR))))))], gB w rR cI h (gV w (lV K LL)), [(q_60, .inl (cI, (w * h), .inl (sX K LL w h w 0)))]] : gW)) H) (hD : va_D A (List.flatten ([gC, [(m0, .inr (2, [.int (nI w), .int (nI h), .int (nI nd), .int wv, .ref mA, .ref tA]))], [(mA, .inl (cJ, w, .inr (.inr (.inr (.inr (gQ w rM))))))], gB w rM cI h (gM w K), [(tA, .inl (cD, w, .inr (.inr (.inr (.inr (gQ w rT))))))], gB w rT cZ h (gZ w T), [(qR, .inl (cJ, w, .inr (.inr (.inr (.inr (gQ w rR))))))], gB w rR cI h (gV w (lV K LL)), [(q_60, .inl (cI, (w * h), .inl (sX K LL w h w 0)))]] : gW))) (hS : va_S A s.heap H locs) (hl : lv_has ls 14 [(0, .ref m0), (1, .ref h0), (2, .ref qR), (3, .ref q_60), (4, .int (nI (cN T w h w 0))), (5, .int (nI (cN (bQ w h K 1) w h w 0 + cN (bQ w h K 3) w h w 0))), (6, .int (bz (decide (cN (chQ w h nd T K) w h w 0 = 0)))), (7, .int (nI ld)), (8, .int (nI wn)), (9, .int (nI i))]), W p l e rmX2_isSame s m args below meth c H locs (7) (55) Q (F0 m 488 ls []) := by
                        intro n
                        induction n with
                        | zero =>
                          intro i gC hkn hgC H locs ls hP hD hS hl
                          refine lv_iload hx hb dX2_isSame_488 (lv_at hl 9 rfl) ?_
                          refine lv_iconst (v := 5) hx hb dX2_isSame_490 (by decide) ?_
                          refine lv_icmp_ge (tgt := 545) hx hb dX2_isSame_491 (by decide) (fun c_491 => ?_) (fun c_491 => ?_)
                          · skip
                            have n_491 := zc_le_t (a := 5) (b := i) (by omega) (by omega) c_491
                            refine lv_iconst (v := 0) hx hb dX2_isSame_545 (by decide) ?_
                            refine lv_istore (lv' := [(9, .int 0), (0, .ref m0), (1, .ref h0), (2, .ref qR), (3, .ref q_60), (4, .int (nI (cN T w h w 0))), (5, .int (nI (cN (bQ w h K 1) w h w 0 + cN (bQ w h K 3) w h w 0))), (6, .int (bz (decide (cN (chQ w h nd T K) w h w 0 = 0)))), (7, .int (nI ld)), (8, .int (nI wn))]) hx hb dX2_isSame_546 hl (by decide) rfl (fun ls hl => ?_)
                            have loop_548 : ∀ (n : Nat) (x : Nat) (gD : va_W) (hkn : x + n = w) (hgD : CT cI w h nd wv T K h0 gD) (H : Heap) (locs : List Loc) (ls : Array Slot) (hP : va_P (dC, dI) vwCl (List.flatten ([gD, [(m0, .inr (2, [.int (nI w), .int (nI h), .int (nI nd), .int wv, .ref mA, .ref tA]))], [(mA, .inl (cJ, w, .inr (.inr (.inr (.inr (gQ w rM))))))], gB w rM cI h (gM w K), [(tA, .inl (cD, w, .inr (.inr (.inr (.inr (gQ w rT))))))], gB w rT cZ h (gZ w T), [(qR, .inl (cJ, w, .inr (.inr (.inr (.inr (gQ w rR))))))], gB w rR cI h (gV w (lV K LL)), [(q_60, .inl (cI, (w * h), .inl (sX K LL w h w 0)))]] : gW)) H) (hD : va_D A (List.flatten ([gD, [(m0, .inr (2, [.int (nI w), .int (nI h), .int (nI nd), .int wv, .ref mA, .ref tA]))], [(mA, .inl (cJ, w, .inr (.inr (.inr (.inr (gQ w rM))))))], gB w rM cI h (gM w K), [(tA, .inl (cD, w, .inr (.inr (.inr (.inr (gQ w rT))))))], gB w rT cZ h (gZ w T), [(qR, .inl (cJ, w, .inr (.inr (.inr (.inr (gQ w rR))))))], gB w rR cI h (gV w (lV K LL)), [(q_60, .inl (cI, (w * h), .inl (sX K LL w h w 0)))]] : gW))) (hS : va_S A s.heap H locs) (hl : lv_has ls 14 [(0, .ref m0), (1, .ref h0), (2, .ref qR), (3, .ref q_60), (4, .int (nI (cN T w h w 0))), (5, .int (nI (cN (bQ w h K 1) w h w 0 + cN (bQ w h K 3) w h w 0))), (6, .int (bz (decide (cN (chQ w h nd T K) w h w 0 = 0)))), (7, .int (nI ld)), (8, .int (nI wn)), (9, .int (nI x))]), W p l e rmX2_isSame s m args below meth c H locs (7) (55) Q (F0 m 548 ls []) := by
                              intro n
                              induction n with
                              | zero =>
                                intro x gD hkn hgD H locs ls hP hD hS hl
                                refine lv_iload hx hb dX2_isSame_548 (lv_at hl 9 rfl) ?_
                                refine lv_aload_n hx hb dX2_isSame_550 rfl (lv_at hl 0 rfl) ?_
                                refine s_get (D := (dC, dI)) (ci := 2) (v := .int (nI w)) (C := RX2) (T := TX2) (N := 6) hx hb hts iX2_isSame_X2 hown hK hP 1 0 rfl rfl rfl 0 (by decide) (hts (.fieldLink RX2 13 "ColourTideLaw$Sim" "w" "I") (List.mem_of_getElem? (i := 1) rfl)) (fun _ h9 => h9) rfl dX2_isSame_551 ?_
                                refine lv_icmp_ge (tgt := 741) hx hb dX2_isSame_554 (by decide) (fun c_554 => ?_) (fun c_554 => ?_)
                                · skip
                                  have n_554 := zc_le_t (a := w) (b := x) (by omega) (by omega) c_554
                                  refine lv_aload_n hx hb dX2_isSame_741 rfl (lv_at hl 1 rfl) ?_
                                  obtain ⟨fs9, ho9⟩ := CT_obj hgD
                                  refine s_callVi (As := []) (rest := []) F9 (k_stubbornCells l dC dI cI cZ cJ cD hgD gk h1 h4 hK4 ) (cwV 0 hts gX2_isSame_X1_stubbornCells rfl rfl rfl (by decide +kernel) ⟨Nat.le_of_ble_eq_true rfl, Nat.le_of_ble_eq_true rfl⟩) hK hN hP hD hS hA [0] [1, 2, 3, 4, 5, 6, 7, 8] 9 rfl rfl (by decide) (fun (u : va_W) => ([u, [(m0, .inr (2, [.int (nI w), .int (nI h), .int (nI nd), .int wv, .ref mA, .ref tA]))], [(mA, .inl (cJ, w, .inr (.inr (.inr (.inr (gQ w rM))))))], gB w rM cI h (gM w K), [(tA, .inl (cD, w, .inr (.inr (.inr (.inr (gQ w rT))))))], gB w rT cZ h (gZ w T), [(qR, .inl (cJ, w, .inr (.inr (.inr (.inr (gQ w rR))))))], gB w rR cI h (gV w (lV K LL)), [(q_60, .inl (cI, (w * h), .inl (sX K LL w h w 0)))]] : gW)) [0] [1, 2, 3, 4, 5, 6, 7, 8] 9 (fun _ => rfl) (fun _ => rfl) (fun _ => rfl) (by decide) 0 0 (ci := 1) rfl ho9 rfl rfl rfl hl.1 rfl (Nat.le_of_ble_eq_true rfl) dX2_isSame_742 ⟨by show 7 + 0 ≤ 7; omega, by show 55 + 0 ≤ 55; omega⟩ (fun r_742 g_742 H locs hp_742 hP hD hS => ?_)
                                  have hP : va_P (dC, dI) vwCl (List.flatten ([g_742, [(m0, .inr (2, [.int (nI w), .int (nI h), .int (nI nd), .int wv, .ref mA, .ref tA]))], [(mA, .inl (cJ, w, .inr (.inr (.inr (.inr (gQ w rM))))))], gB w rM cI h (gM w K), [(tA, .inl (cD, w, .inr (.inr (.inr (.inr (gQ w rT))))))], gB w rT cZ h (gZ w T), [(qR, .inl (cJ, w, .inr (.inr (.inr (.inr (gQ w rR))))))], gB w rR cI h (gV w (lV K LL)), [(q_60, .inl (cI, (w * h), .inl (sX K LL w h w 0)))]] : gW)) H := hP
                                  have hD : va_D A (List.flatten ([g_742, [(m0, .inr (2, [.int (nI w), .int (nI h), .int (nI nd), .int wv, .ref mA, .ref tA]))], [(mA, .inl (cJ, w, .inr (.inr (.inr (.inr (gQ w rM))))))], gB w rM cI h (gM w K), [(tA, .inl (cD, w, .inr (.inr (.inr (.inr (gQ w rT))))))], gB w rT cZ h (gZ w T), [(qR, .inl (cJ, w, .inr (.inr (.inr (.inr (gQ w rR))))))], gB w rR cI h (gV w (lV K LL)), [(q_60, .inl (cI, (w * h), .inl (sX K LL w h w 0)))]] : gW)) := hD
                                  obtain ⟨hp_742, hg_742⟩ := hp_742
                                  have hg_742 : CT cI w h nd wv T K h0 g_742 := hg_742
                                  refine z_topi (y := nI (ct T (w * h))) (hp_742) ?_
                                  refine lv_iload hx hb dX2_isSame_745 (lv_at hl 4 rfl) ?_
                                  refine z_topi (y := nI (ct T (w * h))) (congrArg nI (cN_all T w h)) ?_
                                  refine lv_icmp_ne (tgt := 790) hx hb dX2_isSame_747 (by decide) (fun c_747 => ?_) (fun c_747 => ?_)
                                  · skip
                                    exact absurd rfl c_747
                                  · skip
                                    refine lv_aload_n hx hb dX2_isSame_750 rfl (lv_at hl 1 rfl) ?_
                                    obtain ⟨fs9, ho9⟩ := CT_obj hg_742
                                    refine s_callVi (As := []) (rest := []) F9 (k_borders l dC dI cI cZ cJ cD hg_742 gk h1 h4 hK4 ) (cwV 0 hts gX2_isSame_X1_borders rfl rfl rfl (by decide +kernel) ⟨Nat.le_of_ble_eq_true rfl, Nat.le_of_ble_eq_true rfl⟩) hK hN hP hD hS hA [0] [1, 2, 3, 4, 5, 6, 7, 8] 9 rfl rfl (by decide) (fun (u : va_W) => ([u, [(m0, .inr (2, [.int (nI w), .int (nI h), .int (nI nd), .int wv, .ref mA, .ref tA]))], [(mA, .inl (cJ, w, .inr (.inr (.inr (.inr (gQ w rM))))))], gB w rM cI h (gM w K), [(tA, .inl (cD, w, .inr (.inr (.inr (.inr (gQ w rT))))))], gB w rT cZ h (gZ w T), [(qR, .inl (cJ, w, .inr (.inr (.inr (.inr (gQ w rR))))))], gB w rR cI h (gV w (lV K LL)), [(q_60, .inl (cI, (w * h), .inl (sX K LL w h w 0)))]] : gW)) [0] [1, 2, 3, 4, 5, 6, 7, 8] 9 (fun _ => rfl) (fun _ => rfl) (fun _ => rfl) (by decide) 0 0 (ci := 1) rfl ho9 rfl rfl rfl hl.1 rfl (Nat.le_of_ble_eq_true rfl) dX2_isSame_751 ⟨by show 7 + 0 ≤ 7; omega, by show 55 + 0 ≤ 55; omega⟩ (fun r_751 g_751 H locs hp_751 hP hD hS => ?_)
                                    have hP : va_P (dC, dI) vwCl (List.flatten ([g_751, [(m0, .inr (2, [.int (nI w), .int (nI h), .int (nI nd), .int wv, .ref mA, .ref tA]))], [(mA, .inl (cJ, w, .inr (.inr (.inr (.inr (gQ w rM))))))], gB w rM cI h (gM w K), [(tA, .inl (cD, w, .inr (.inr (.inr (.inr (gQ w rT))))))], gB w rT cZ h (gZ w T), [(qR, .inl (cJ, w, .inr (.inr (.inr (.inr (gQ w rR))))))], gB w rR cI h (gV w (lV K LL)), [(q_60, .inl (cI, (w * h), .inl (sX K LL w h w 0)))]] : gW)) H := hP
                                    have hD : va_D A (List.flatten ([g_751, [(m0, .inr (2, [.int (nI w), .int (nI h), .int (nI nd), .int wv, .ref mA, .ref tA]))], [(mA, .inl (cJ, w, .inr (.inr (.inr (.inr (gQ w rM))))))], gB w rM cI h (gM w K), [(tA, .inl (cD, w, .inr (.inr (.inr (.inr (gQ w rT))))))], gB w rT cZ h (gZ w T), [(qR, .inl (cJ, w, .inr (.inr (.inr (.inr (gQ w rR))))))], gB w rR cI h (gV w (lV K LL)), [(q_60, .inl (cI, (w * h), .inl (sX K LL w h w 0)))]] : gW)) := hD
                                    obtain ⟨hp_751, hg_751⟩ := hp_751
                                    have hg_751 : CT cI w h nd wv T K h0 g_751 := hg_751
                                    refine z_topi (y := nI (boN w h K (w * h))) (hp_751) ?_
                                    refine lv_iload hx hb dX2_isSame_754 (lv_at hl 5 rfl) ?_
                                    refine z_topi (y := nI (boN w h K (w * h))) (congrArg nI (bo_tot w h K)) ?_
                                    refine lv_icmp_ne (tgt := 790) hx hb dX2_isSame_756 (by decide) (fun c_756 => ?_) (fun c_756 => ?_)
                                    · skip
                                      exact absurd rfl c_756
                                    · skip
                                      refine lv_aload_n hx hb dX2_isSame_759 rfl (lv_at hl 1 rfl) ?_
                                      obtain ⟨fs9, ho9⟩ := CT_obj hg_751
                                      refine s_callVi (As := []) (rest := []) F9 (k_leader l dC dI cI cZ cJ cD hg_751 gk h1 h4 hK4 ) (cwV 0 hts gX2_isSame_X1_leader rfl rfl rfl (by decide +kernel) ⟨Nat.le_of_ble_eq_true rfl, Nat.le_of_ble_eq_true rfl⟩) hK hN hP hD hS hA [0] [1, 2, 3, 4, 5, 6, 7, 8] 9 rfl rfl (by decide) (fun (u : va_W) => ([u, [(m0, .inr (2, [.int (nI w), .int (nI h), .int (nI nd), .int wv, .ref mA, .ref tA]))], [(mA, .inl (cJ, w, .inr (.inr (.inr (.inr (gQ w rM))))))], gB w rM cI h (gM w K), [(tA, .inl (cD, w, .inr (.inr (.inr (.inr (gQ w rT))))))], gB w rT cZ h (gZ w T), [(qR, .inl (cJ, w, .inr (.inr (.inr (.inr (gQ w rR))))))], gB w rR cI h (gV w (lV K LL)), [(q_60, .inl (cI, (w * h), .inl (sX K LL w h w 0)))]] : gW)) [0] [1, 2, 3, 4, 5, 6, 7, 8] 9 (fun _ => rfl) (fun _ => rfl) (fun _ => rfl) (by decide) 0 0 (ci := 1) rfl ho9 rfl rfl rfl hl.1 rfl (Nat.le_of_ble_eq_true rfl) dX2_isSame_760 ⟨by show 7 + 0 ≤ 7; omega, by show 55 + 0 ≤ 55; omega⟩ (fun r_760 g_760 H locs hp_760 hP hD hS => ?_)
                                      have hP : va_P (dC, dI) vwCl (List.flatten ([g_760, [(m0, .inr (2, [.int (nI w), .int (nI h), .int (nI nd), .int wv, .ref mA, .ref tA]))], [(mA, .inl (cJ, w, .inr (.inr (.inr (.inr (gQ w rM))))))], gB w rM cI h (gM w K), [(tA, .inl (cD, w, .inr (.inr (.inr (.inr (gQ w rT))))))], gB w rT cZ h (gZ w T), [(qR, .inl (cJ, w, .inr (.inr (.inr (.inr (gQ w rR))))))], gB w rR cI h (gV w (lV K LL)), [(q_60, .inl (cI, (w * h), .inl (sX K LL w h w 0)))]] : gW)) H := hP
                                      have hD : va_D A (List.flatten ([g_760, [(m0, .inr (2, [.int (nI w), .int (nI h), .int (nI nd), .int wv, .ref mA, .ref tA]))], [(mA, .inl (cJ, w, .inr (.inr (.inr (.inr (gQ w rM))))))], gB w rM cI h (gM w K), [(tA, .inl (cD, w, .inr (.inr (.inr (.inr (gQ w rT))))))], gB w rT cZ h (gZ w T), [(qR, .inl (cJ, w, .inr (.inr (.inr (.inr (gQ w rR))))))], gB w rR cI h (gV w (lV K LL)), [(q_60, .inl (cI, (w * h), .inl (sX K LL w h w 0)))]] : gW)) := hD
                                      obtain ⟨hp_760, hg_760⟩ := hp_760
                                      have hg_760 : CT cI w h nd wv T K h0 g_760 := hg_760
                                      refine z_topi (y := nI (bestL (ccF K (w * h)) 1 4)) (hp_760) ?_
                                      refine lv_iload hx hb dX2_isSame_763 (lv_at hl 7 rfl) ?_
                                      refine z_topi (y := nI (bestL (ccF K (w * h)) 1 4)) (congrArg nI hld0) ?_
                                      refine lv_icmp_ne (tgt := 790) hx hb dX2_isSame_765 (by decide) (fun c_765 => ?_) (fun c_765 => ?_)
                                      · skip
                                        exact absurd rfl c_765
                                      · skip
                                        refine lv_aload_n hx hb dX2_isSame_768 rfl (lv_at hl 1 rfl) ?_
                                        obtain ⟨fs9, ho9⟩ := CT_obj hg_760
                                        refine s_callVi (As := []) (rest := []) F9 (k_winner l dC dI cI cZ cJ cD hg_760 gk h1 h4 hK4 ) (cwV 0 hts gX2_isSame_X1_winner rfl rfl rfl (by decide +kernel) ⟨Nat.le_of_ble_eq_true rfl, Nat.le_of_ble_eq_true rfl⟩) hK hN hP hD hS hA [0] [1, 2, 3, 4, 5, 6, 7, 8] 9 rfl rfl (by decide) (fun (u : va_W) => ([u, [(m0, .inr (2, [.int (nI w), .int (nI h), .int (nI nd), .int wv, .ref mA, .ref tA]))], [(mA, .inl (cJ, w, .inr (.inr (.inr (.inr (gQ w rM))))))], gB w rM cI h (gM w K), [(tA, .inl (cD, w, .inr (.inr (.inr (.inr (gQ w rT))))))], gB w rT cZ h (gZ w T), [(qR, .inl (cJ, w, .inr (.inr (.inr (.inr (gQ w rR))))))], gB w rR cI h (gV w (lV K LL)), [(q_60, .inl (cI, (w * h), .inl (sX K LL w h w 0)))]] : gW)) [0] [1, 2, 3, 4, 5, 6, 7, 8] 9 (fun _ => rfl) (fun _ => rfl) (fun _ => rfl) (by decide) 0 0 (ci := 1) rfl ho9 rfl rfl rfl hl.1 rfl (Nat.le_of_ble_eq_true rfl) dX2_isSame_769 ⟨by show 7 + 0 ≤ 7; omega, by show 55 + 0 ≤ 55; omega⟩ (fun r_769 g_769 H locs hp_769 hP hD hS => ?_)
                                        have hP : va_P (dC, dI) vwCl (List.flatten ([g_769, [(m0, .inr (2, [.int (nI w), .int (nI h), .int (nI nd), .int wv, .ref mA, .ref tA]))], [(mA, .inl (cJ, w, .inr (.inr (.inr (.inr (gQ w rM))))))], gB w rM cI h (gM w K), [(tA, .inl (cD, w, .inr (.inr (.inr (.inr (gQ w rT))))))], gB w rT cZ h (gZ w T), [(qR, .inl (cJ, w, .inr (.inr (.inr (.inr (gQ w rR))))))], gB w rR cI h (gV w (lV K LL)), [(q_60, .inl (cI, (w * h), .inl (sX K LL w h w 0)))]] : gW)) H := hP
                                        have hD : va_D A (List.flatten ([g_769, [(m0, .inr (2, [.int (nI w), .int (nI h), .int (nI nd), .int wv, .ref mA, .ref tA]))], [(mA, .inl (cJ, w, .inr (.inr (.inr (.inr (gQ w rM))))))], gB w rM cI h (gM w K), [(tA, .inl (cD, w, .inr (.inr (.inr (.inr (gQ w rT))))))], gB w rT cZ h (gZ w T), [(qR, .inl (cJ, w, .inr (.inr (.inr (.inr (gQ w rR))))))], gB w rR cI h (gV w (lV K LL)), [(q_60, .inl (cI, (w * h), .inl (sX K LL w h w 0)))]] : gW)) := hD
                                        obtain ⟨hp_769, hg_769⟩ := hp_769
                                        have hg_769 : CT cI w h nd wv T K h0 g_769 := hg_769
                                        refine z_topi (y := nI (allN K (w * h))) (hp_769) ?_
                                        refine lv_iload hx hb dX2_isSame_772 (lv_at hl 8 rfl) ?_
                                        refine z_topi (y := nI (allN K (w * h))) (congrArg nI hwn0) ?_
                                        refine lv_icmp_ne (tgt := 790) hx hb dX2_isSame_774 (by decide) (fun c_774 => ?_) (fun c_774 => ?_)
                                        · skip
                                          exact absurd rfl c_774
                                        · skip
                                          refine lv_aload_n hx hb dX2_isSame_777 rfl (lv_at hl 1 rfl) ?_
                                          obtain ⟨fs9, ho9⟩ := CT_obj hg_769
                                          refine s_callVi (As := []) (rest := []) F9 (k_isStill l dC dI cI cZ cJ cD hg_769 gk h1 h4 hK4 ) (cwV 0 hts gX2_isSame_X1_isStill rfl rfl rfl (by decide +kernel) ⟨Nat.le_of_ble_eq_true rfl, Nat.le_of_ble_eq_true rfl⟩) hK hN hP hD hS hA [0] [1, 2, 3, 4, 5, 6, 7, 8] 9 rfl rfl (by decide) (fun (u : va_W) => ([u, [(m0, .inr (2, [.int (nI w), .int (nI h), .int (nI nd), .int wv, .ref mA, .ref tA]))], [(mA, .inl (cJ, w, .inr (.inr (.inr (.inr (gQ w rM))))))], gB w rM cI h (gM w K), [(tA, .inl (cD, w, .inr (.inr (.inr (.inr (gQ w rT))))))], gB w rT cZ h (gZ w T), [(qR, .inl (cJ, w, .inr (.inr (.inr (.inr (gQ w rR))))))], gB w rR cI h (gV w (lV K LL)), [(q_60, .inl (cI, (w * h), .inl (sX K LL w h w 0)))]] : gW)) [0] [1, 2, 3, 4, 5, 6, 7, 8] 9 (fun _ => rfl) (fun _ => rfl) (fun _ => rfl) (by decide) 0 0 (ci := 1) rfl ho9 rfl rfl rfl hl.1 rfl (Nat.le_of_ble_eq_true rfl) dX2_isSame_778 ⟨by show 7 + 0 ≤ 7; omega, by show 55 + 0 ≤ 55; omega⟩ (fun r_778 g_778 H locs hp_778 hP hD hS => ?_)
                                          have hP : va_P (dC, dI) vwCl (List.flatten ([g_778, [(m0, .inr (2, [.int (nI w), .int (nI h), .int (nI nd), .int wv, .ref mA, .ref tA]))], [(mA, .inl (cJ, w, .inr (.inr (.inr (.inr (gQ w rM))))))], gB w rM cI h (gM w K), [(tA, .inl (cD, w, .inr (.inr (.inr (.inr (gQ w rT))))))], gB w rT cZ h (gZ w T), [(qR, .inl (cJ, w, .inr (.inr (.inr (.inr (gQ w rR))))))], gB w rR cI h (gV w (lV K LL)), [(q_60, .inl (cI, (w * h), .inl (sX K LL w h w 0)))]] : gW)) H := hP
                                          have hD : va_D A (List.flatten ([g_778, [(m0, .inr (2, [.int (nI w), .int (nI h), .int (nI nd), .int wv, .ref mA, .ref tA]))], [(mA, .inl (cJ, w, .inr (.inr (.inr (.inr (gQ w rM))))))], gB w rM cI h (gM w K), [(tA, .inl (cD, w, .inr (.inr (.inr (.inr (gQ w rT))))))], gB w rT cZ h (gZ w T), [(qR, .inl (cJ, w, .inr (.inr (.inr (.inr (gQ w rR))))))], gB w rR cI h (gV w (lV K LL)), [(q_60, .inl (cI, (w * h), .inl (sX K LL w h w 0)))]] : gW)) := hD
                                          obtain ⟨hp_778, hg_778⟩ := hp_778
                                          have hg_778 : CT cI w h nd wv T K h0 g_778 := hg_778
                                          refine z_topi (y := bz (stN w h nd T K (w * h))) (hp_778) ?_
                                          refine lv_iload hx hb dX2_isSame_781 (lv_at hl 6 rfl) ?_
                                          refine z_topi (y := bz (stN w h nd T K (w * h))) (congrArg bz (st_tot w h nd T K)) ?_
                                          refine lv_icmp_ne (tgt := 790) hx hb dX2_isSame_783 (by decide) (fun c_783 => ?_) (fun c_783 => ?_)
                                          · skip
                                            exact absurd rfl c_783
                                          · skip
                                            refine lv_iconst (v := 1) hx hb dX2_isSame_786 (by decide) ?_
                                            refine lv_goto (tgt := 791) hx hb dX2_isSame_787 (by decide) ?_
                                            rw [← hQ]
                                            exact s_zret (W1 := (fun (u : va_W) => ([u, [(m0, .inr (2, [.int (nI w), .int (nI h), .int (nI nd), .int wv, .ref mA, .ref tA]))], [(mA, .inl (cJ, w, .inr (.inr (.inr (.inr (gQ w rM))))))], gB w rM cI h (gM w K), [(tA, .inl (cD, w, .inr (.inr (.inr (.inr (gQ w rT))))))], gB w rT cZ h (gZ w T)] : gW))) hx hb hr hlocks (by decide +kernel) hP hD hS g_778 [0, 1, 2, 3, 4, 5] [6, 7, 8] 9 rfl rfl (by decide) (⟨rfl, hg_778⟩) (by omega) (by omega) dX2_isSame_791
                                · skip
                                  have n_554 := zc_le_f (a := w) (b := x) (by omega) (by omega) c_554
                                  exact absurd n_554 (by omega)
                              | succ n ih_548 =>
                                intro x gD hkn hgD H locs ls hP hD hS hl
                                refine lv_iload hx hb dX2_isSame_548 (lv_at hl 9 rfl) ?_
                                refine lv_aload_n hx hb dX2_isSame_550 rfl (lv_at hl 0 rfl) ?_
                                refine s_get (D := (dC, dI)) (ci := 2) (v := .int (nI w)) (C := RX2) (T := TX2) (N := 6) hx hb hts iX2_isSame_X2 hown hK hP 1 0 rfl rfl rfl 0 (by decide) (hts (.fieldLink RX2 13 "ColourTideLaw$Sim" "w" "I") (List.mem_of_getElem? (i := 1) rfl)) (fun _ h9 => h9) rfl dX2_isSame_551 ?_
                                refine lv_icmp_ge (tgt := 741) hx hb dX2_isSame_554 (by decide) (fun c_554 => ?_) (fun c_554 => ?_)
                                · skip
                                  have n_554 := zc_le_t (a := w) (b := x) (by omega) (by omega) c_554
                                  exact absurd n_554 (by omega)
                                · skip
                                  have n_554 := zc_le_f (a := w) (b := x) (by omega) (by omega) c_554
                                  refine lv_iconst (v := 0) hx hb dX2_isSame_557 (by decide) ?_
                                  refine lv_istore (lv' := [(10, .int 0), (0, .ref m0), (1, .ref h0), (2, .ref qR), (3, .ref q_60), (4, .int (nI (cN T w h w 0))), (5, .int (nI (cN (bQ w h K 1) w h w 0 + cN (bQ w h K 3) w h w 0))), (6, .int (bz (decide (cN (chQ w h nd T K) w h w 0 = 0)))), (7, .int (nI ld)), (8, .int (nI wn)), (9, .int (nI x))]) hx hb dX2_isSame_558 hl (by decide) rfl (fun ls hl => ?_)
                                  have loop_560 : ∀ (n : Nat) (y : Nat) (gE : va_W) (hkn : y + n = h) (hgE : CT cI w h nd wv T K h0 gE) (H : Heap) (locs : List Loc) (ls : Array Slot) (hP : va_P (dC, dI) vwCl (List.flatten ([gE, [(m0, .inr (2, [.int (nI w), .int (nI h), .int (nI nd), .int wv, .ref mA, .ref tA]))], [(mA, .inl (cJ, w, .inr (.inr (.inr (.inr (gQ w rM))))))], gB w rM cI h (gM w K), [(tA, .inl (cD, w, .inr (.inr (.inr (.inr (gQ w rT))))))], gB w rT cZ h (gZ w T), [(qR, .inl (cJ, w, .inr (.inr (.inr (.inr (gQ w rR))))))], gB w rR cI h (gV w (lV K LL)), [(q_60, .inl (cI, (w * h), .inl (sX K LL w h w 0)))]] : gW)) H) (hD : va_D A (List.flatten ([gE, [(m0, .inr (2, [.int (nI w), .int (nI h), .int (nI nd), .int wv, .ref mA, .ref tA]))], [(mA, .inl (cJ, w, .inr (.inr (.inr (.inr (gQ w rM))))))], gB w rM cI h (gM w K), [(tA, .inl (cD, w, .inr (.inr (.inr (.inr (gQ w rT))))))], gB w rT cZ h (gZ w T), [(qR, .inl (cJ, w, .inr (.inr (.inr (.inr (gQ w rR))))))], gB w rR cI h (gV w (lV K LL)), [(q_60, .inl (cI, (w * h), .inl (sX K LL w h w 0)))]] : gW))) (hS : va_S A s.heap H locs) (hl : lv_has ls 14 [(0, .ref m0), (1, .ref h0), (2, .ref qR), (3, .ref q_60), (4, .int (nI (cN T w h w 0))), (5, .int (nI (cN (bQ w h K 1) w h w 0 + cN (bQ w h K 3) w h w 0))), (6, .int (bz (decide (cN (chQ w h nd T K) w h w 0 = 0)))), (7, .int (nI ld)), (8, .int (nI wn)), (9, .int (nI x)), (10, .int (nI y))]), W p l e rmX2_isSame s m args below meth c H locs (7) (55) Q (F0 m 560 ls []) := by
                                    intro n
                                    induction n with
                                    | zero =>
                                      intro y gE hkn hgE H locs ls hP hD hS hl
                                      refine lv_iload hx hb dX2_isSame_560 (lv_at hl 10 rfl) ?_
                                      refine lv_aload_n hx hb dX2_isSame_562 rfl (lv_at hl 0 rfl) ?_
                                      refine s_get (D := (dC, dI)) (ci := 2) (v := .int (nI h)) (C := RX2) (T := TX2) (N := 6) hx hb hts iX2_isSame_X2 hown hK hP 1 0 rfl rfl rfl 1 (by decide) (hts (.fieldLink RX2 16 "ColourTideLaw$Sim" "h" "I") (List.mem_of_getElem? (i := 2) rfl)) (fun _ h9 => h9) rfl dX2_isSame_563 ?_
                                      refine lv_icmp_ge (tgt := 735) hx hb dX2_isSame_566 (by decide) (fun c_566 => ?_) (fun c_566 => ?_)
                                      · skip
                                        have n_566 := zc_le_t (a := h) (b := y) (by omega) (by omega) c_566
                                        refine lv_iinc (v := nI (x + 1)) (lv' := [(9, .int (nI (x + 1))), (0, .ref m0), (1, .ref h0), (2, .ref qR), (3, .ref q_60), (4, .int (nI (cN T w h w 0))), (5, .int (nI (cN (bQ w h K 1) w h w 0 + cN (bQ w h K 3) w h w 0))), (6, .int (bz (decide (cN (chQ w h nd T K) w h w 0 = 0)))), (7, .int (nI ld)), (8, .int (nI wn)), (10, .int (nI y))]) hx hb dX2_isSame_735 hl (k := 9) rfl (nI_1 x) (by decide) rfl (fun ls hl => ?_)
                                        refine lv_goto (tgt := 548) hx hb dX2_isSame_738 (by decide) ?_
                                        exact ih_548 (x + 1) gE (by omega) (hgE) _ _ _ hP hD hS (lv_sub hl [1, 2, 3, 4, 5, 6, 7, 8, 9, 0] rfl)
                                      · skip
                                        have n_566 := zc_le_f (a := h) (b := y) (by omega) (by omega) c_566
                                        exact absurd n_566 (by omega)
                                    | succ n ih_560 =>
                                      intro y gE hkn hgE H locs ls hP hD hS hl
                                      refine lv_iload hx hb dX2_isSame_560 (lv_at hl 10 rfl) ?_
                                      refine lv_aload_n hx hb dX2_isSame_562 rfl (lv_at hl 0 rfl) ?_
                                      refine s_get (D := (dC, dI)) (ci := 2) (v := .int (nI h)) (C := RX2) (T := TX2) (N := 6) hx hb hts iX2_isSame_X2 hown hK hP 1 0 rfl rfl rfl 1 (by decide) (hts (.fieldLink RX2 16 "ColourTideLaw$Sim" "h" "I") (List.mem_of_getElem? (i := 2) rfl)) (fun _ h9 => h9) rfl dX2_isSame_563 ?_
                                      refine lv_icmp_ge (tgt := 735) hx hb dX2_isSame_566 (by decide) (fun c_566 => ?_) (fun c_566 => ?_)
                                      · skip
                                        have n_566 := zc_le_t (a := h) (b := y) (by omega) (by omega) c_566
                                        exact absurd n_566 (by omega)
                                      · skip
                                        have n_566 := zc_le_f (a := h) (b := y) (by omega) (by omega) c_566
                                        have hxw : x < w := by omega
                                        have hyh : y < h := by omega
                                        have hcc := cell_lt hxw hyh
                                        have hk9 := hK4 (w * y + x)
                                        refine lv_aload_n hx hb dX2_isSame_569 rfl (lv_at hl 1 rfl) ?_
                                        refine lv_iload hx hb dX2_isSame_570 (lv_at hl 9 rfl) ?_
                                        refine lv_iload hx hb dX2_isSame_572 (lv_at hl 10 rfl) ?_
                                        obtain ⟨fs9, ho9⟩ := CT_obj hgE
                                        refine s_callVi (As := [.int (nI x), .int (nI y)]) (rest := []) F9 (k_colourAt l dC dI cI cZ cJ cD hgE gk h1 h4 hK4 x y (hxw) (hyh)) (cwV 2 hts gX2_isSame_X1_colourAt rfl rfl rfl (by decide +kernel) ⟨Nat.le_of_ble_eq_true rfl, Nat.le_of_ble_eq_true rfl⟩) hK hN hP hD hS hA [0] [1, 2, 3, 4, 5, 6, 7, 8] 9 rfl rfl (by decide) (fun (u : va_W) => ([u, [(m0, .inr (2, [.int (nI w), .int (nI h), .int (nI nd), .int wv, .ref mA, .ref tA]))], [(mA, .inl (cJ, w, .inr (.inr (.inr (.inr (gQ w rM))))))], gB w rM cI h (gM w K), [(tA, .inl (cD, w, .inr (.inr (.inr (.inr (gQ w rT))))))], gB w rT cZ h (gZ w T), [(qR, .inl (cJ, w, .inr (.inr (.inr (.inr (gQ w rR))))))], gB w rR cI h (gV w (lV K LL)), [(q_60, .inl (cI, (w * h), .inl (sX K LL w h w 0)))]] : gW)) [0] [1, 2, 3, 4, 5, 6, 7, 8] 9 (fun _ => rfl) (fun _ => rfl) (fun _ => rfl) (by decide) 0 0 (ci := 1) rfl ho9 rfl rfl rfl hl.1 rfl (Nat.le_of_ble_eq_true rfl) dX2_isSame_574 ⟨by show 7 + 0 ≤ 7; omega, by show 55 + 0 ≤ 55; omega⟩ (fun r_574 g_574 H locs hp_574 hP hD hS => ?_)
                                        have hP : va_P (dC, dI) vwCl (List.flatten ([g_574, [(m0, .inr (2, [.int (nI w), .int (nI h), .int (nI nd), .int wv, .ref mA, .ref tA]))], [(mA, .inl (cJ, w, .inr (.inr (.inr (.inr (gQ w rM))))))], gB w rM cI h (gM w K), [(tA, .inl (cD, w, .inr (.inr (.inr (.inr (gQ w rT))))))], gB w rT cZ h (gZ w T), [(qR, .inl (cJ, w, .inr (.inr (.inr (.inr (gQ w rR))))))], gB w rR cI h (gV w (lV K LL)), [(q_60, .inl (cI, (w * h), .inl (sX K LL w h w 0)))]] : gW)) H := hP
                                        have hD : va_D A (List.flatten ([g_574, [(m0, .inr (2, [.int (nI w), .int (nI h), .int (nI nd), .int wv, .ref mA, .ref tA]))], [(mA, .inl (cJ, w, .inr (.inr (.inr (.inr (gQ w rM))))))], gB w rM cI h (gM w K), [(tA, .inl (cD, w, .inr (.inr (.inr (.inr (gQ w rT))))))], gB w rT cZ h (gZ w T), [(qR, .inl (cJ, w, .inr (.inr (.inr (.inr (gQ w rR))))))], gB w rR cI h (gV w (lV K LL)), [(q_60, .inl (cI, (w * h), .inl (sX K LL w h w 0)))]] : gW)) := hD
                                        obtain ⟨hp_574, hg_574⟩ := hp_574
                                        have hg_574 : CT cI w h nd wv T K h0 g_574 := hg_574
                                        refine z_topi (y := nI (K (w * y + x))) (hp_574) ?_
                                        refine lv_aload_n hx hb dX2_isSame_577 rfl (lv_at hl 0 rfl) ?_
                                        refine s_get (D := (dC, dI)) (ci := 2) (v := .ref mA) (C := RX2) (T := TX2) (N := 6) hx hb hts iX2_isSame_X2 hown hK hP 1 0 rfl rfl rfl 4 (by decide) (hts (.fieldLink RX2 21 "ColourTideLaw$Sim" "map" "[[I") (List.mem_of_getElem? (i := 7) rfl)) (fun _ h9 => h9) rfl dX2_isSame_578 ?_
                                        refine lv_iload hx hb dX2_isSame_581 (lv_at hl 9 rfl) ?_
                                        refine s_qald hx hb hK hP 2 2 rfl rfl rfl x (rfl) (by omega) (by omega) dX2_isSame_583 ?_
                                        refine lv_iload hx hb dX2_isSame_584 (lv_at hl 10 rfl) ?_
                                        refine s_gald hx hb hK hP 3 0 x rfl (by omega) rfl y (rfl) (by omega) (by omega) dX2_isSame_586 ?_
                                        refine z_topi (y := nI (K (w * y + x))) (rfl) ?_
                                        refine lv_icmp_ne (tgt := 687) hx hb dX2_isSame_587 (by decide) (fun c_587 => ?_) (fun c_587 => ?_)
                                        · skip
                                          exact absurd rfl c_587
                                        · skip
                                          refine lv_aload_n hx hb dX2_isSame_590 rfl (lv_at hl 1 rfl) ?_
                                          refine lv_iload hx hb dX2_isSame_591 (lv_at hl 9 rfl) ?_
                                          refine lv_iload hx hb dX2_isSame_593 (lv_at hl 10 rfl) ?_
                                          obtain ⟨fs9, ho9⟩ := CT_obj hg_574
                                          refine s_callVi (As := [.int (nI x), .int (nI y)]) (rest := []) F9 (k_isStubborn l dC dI cI cZ cJ cD hg_574 gk h1 h4 hK4 x y (hxw) (hyh)) (cwV 2 hts gX2_isSame_X1_isStubborn rfl rfl rfl (by decide +kernel) ⟨Nat.le_of_ble_eq_true rfl, Nat.le_of_ble_eq_true rfl⟩) hK hN hP hD hS hA [0] [1, 2, 3, 4, 5, 6, 7, 8] 9 rfl rfl (by decide) (fun (u : va_W) => ([u, [(m0, .inr (2, [.int (nI w), .int (nI h), .int (nI nd), .int wv, .ref mA, .ref tA]))], [(mA, .inl (cJ, w, .inr (.inr (.inr (.inr (gQ w rM))))))], gB w rM cI h (gM w K), [(tA, .inl (cD, w, .inr (.inr (.inr (.inr (gQ w rT))))))], gB w rT cZ h (gZ w T), [(qR, .inl (cJ, w, .inr (.inr (.inr (.inr (gQ w rR))))))], gB w rR cI h (gV w (lV K LL)), [(q_60, .inl (cI, (w * h), .inl (sX K LL w h w 0)))]] : gW)) [0] [1, 2, 3, 4, 5, 6, 7, 8] 9 (fun _ => rfl) (fun _ => rfl) (fun _ => rfl) (by decide) 0 0 (ci := 1) rfl ho9 rfl rfl rfl hl.1 rfl (Nat.le_of_ble_eq_true rfl) dX2_isSame_595 ⟨by show 7 + 0 ≤ 7; omega, by show 55 + 0 ≤ 55; omega⟩ (fun r_595 g_595 H locs hp_595 hP hD hS => ?_)
                                          have hP : va_P (dC, dI) vwCl (List.flatten ([g_595, [(m0, .inr (2, [.int (nI w), .int (nI h), .int (nI nd), .int wv, .ref mA, .ref tA]))], [(mA, .inl (cJ, w, .inr (.inr (.inr (.inr (gQ w rM))))))], gB w rM cI h (gM w K), [(tA, .inl (cD, w, .inr (.inr (.inr (.inr (gQ w rT))))))], gB w rT cZ h (gZ w T), [(qR, .inl (cJ, w, .inr (.inr (.inr (.inr (gQ w rR))))))], gB w rR cI h (gV w (lV K LL)), [(q_60, .inl (cI, (w * h), .inl (sX K LL w h w 0)))]] : gW)) H := hP
                                          have hD : va_D A (List.flatten ([g_595, [(m0, .inr (2, [.int (nI w), .int (nI h), .int (nI nd), .int wv, .ref mA, .ref tA]))], [(mA, .inl (cJ, w, .inr (.inr (.inr (.inr (gQ w rM))))))], gB w rM cI h (gM w K), [(tA, .inl (cD, w, .inr (.inr (.inr (.inr (gQ w rT))))))], gB w rT cZ h (gZ w T), [(qR, .inl (cJ, w, .inr (.inr (.inr (.inr (gQ w rR))))))], gB w rR cI h (gV w (lV K LL)), [(q_60, .inl (cI, (w * h), .inl (sX K LL w h w 0)))]] : gW)) := hD
                                          obtain ⟨hp_595, hg_595⟩ := hp_595
                                          have hg_595 : CT cI w h nd wv T K h0 g_595 := hg_595
                                          refine z_topi (y := bz (T (w * y + x))) (hp_595) ?_
                                          refine lv_aload_n hx hb dX2_isSame_598 rfl (lv_at hl 0 rfl) ?_
                                          refine s_get (D := (dC, dI)) (ci := 2) (v := .ref tA) (C := RX2) (T := TX2) (N := 6) hx hb hts iX2_isSame_X2 hown hK hP 1 0 rfl rfl rfl 5 (by decide) (hts (.fieldLink RX2 26 "ColourTideLaw$Sim" "stubborn" "[[Z") (List.mem_of_getElem? (i := 6) rfl)) (fun _ h9 => h9) rfl dX2_isSame_599 ?_
                                          refine lv_iload hx hb dX2_isSame_602 (lv_at hl 9 rfl) ?_
                                          refine s_qald hx hb hK hP 4 3 rfl rfl rfl x (rfl) (by omega) (by omega) dX2_isSame_604 ?_
                                          refine lv_iload hx hb dX2_isSame_605 (lv_at hl 10 rfl) ?_
                                          refine s_gzald hx hb hK hP 5 1 x rfl (by omega) rfl y (rfl) (by omega) (by omega) dX2_isSame_607 ?_
                                          refine z_topi (y := bz (T (w * y + x))) (rfl) ?_
                                          refine lv_icmp_ne (tgt := 687) hx hb dX2_isSame_608 (by decide) (fun c_608 => ?_) (fun c_608 => ?_)
                                          · skip
                                            exact absurd rfl c_608
                                          · skip
                                            refine lv_aload_n hx hb dX2_isSame_611 rfl (lv_at hl 1 rfl) ?_
                                            refine lv_iload hx hb dX2_isSame_612 (lv_at hl 9 rfl) ?_
                                            refine lv_iload hx hb dX2_isSame_614 (lv_at hl 10 rfl) ?_
                                            obtain ⟨fs9, ho9⟩ := CT_obj hg_595
                                            refine s_callVi (As := [.int (nI x), .int (nI y)]) (rest := []) F9 (k_nextColour l dC dI cI cZ cJ cD hg_595 gk h1 h4 hK4 x y (hxw) (hyh)) (cwV 2 hts gX2_isSame_X1_nextColour rfl rfl rfl (by decide +kernel) ⟨Nat.le_of_ble_eq_true rfl, Nat.le_of_ble_eq_true rfl⟩) hK hN hP hD hS hA [0] [1, 2, 3, 4, 5, 6, 7, 8] 9 rfl rfl (by decide) (fun (u : va_W) => ([u, [(m0, .inr (2, [.int (nI w), .int (nI h), .int (nI nd), .int wv, .ref mA, .ref tA]))], [(mA, .inl (cJ, w, .inr (.inr (.inr (.inr (gQ w rM))))))], gB w rM cI h (gM w K), [(tA, .inl (cD, w, .inr (.inr (.inr (.inr (gQ w rT))))))], gB w rT cZ h (gZ w T), [(qR, .inl (cJ, w, .inr (.inr (.inr (.inr (gQ w rR))))))], gB w rR cI h (gV w (lV K LL)), [(q_60, .inl (cI, (w * h), .inl (sX K LL w h w 0)))]] : gW)) [0] [1, 2, 3, 4, 5, 6, 7, 8] 9 (fun _ => rfl) (fun _ => rfl) (fun _ => rfl) (by decide) 0 0 (ci := 1) rfl ho9 rfl rfl rfl hl.1 rfl (Nat.le_of_ble_eq_true rfl) dX2_isSame_616 ⟨by show 7 + 0 ≤ 7; omega, by show 55 + 0 ≤ 55; omega⟩ (fun r_616 g_616 H locs hp_616 hP hD hS => ?_)
                                            have hP : va_P (dC, dI) vwCl (List.flatten ([g_616, [(m0, .inr (2, [.int (nI w), .int (nI h), .int (nI nd), .int wv, .ref mA, .ref tA]))], [(mA, .inl (cJ, w, .inr (.inr (.inr (.inr (gQ w rM))))))], gB w rM cI h (gM w K), [(tA, .inl (cD, w, .inr (.inr (.inr (.inr (gQ w rT))))))], gB w rT cZ h (gZ w T), [(qR, .inl (cJ, w, .inr (.inr (.inr (.inr (gQ w rR))))))], gB w rR cI h (gV w (lV K LL)), [(q_60, .inl (cI, (w * h), .inl (sX K LL w h w 0)))]] : gW)) H := hP
                                            have hD : va_D A (List.flatten ([g_616, [(m0, .inr (2, [.int (nI w), .int (nI h), .int (nI nd), .int wv, .ref mA, .ref tA]))], [(mA, .inl (cJ, w, .inr (.inr (.inr (.inr (gQ w rM))))))], gB w rM cI h (gM w K), [(tA, .inl (cD, w, .inr (.inr (.inr (.inr (gQ w rT))))))], gB w rT cZ h (gZ w T), [(qR, .inl (cJ, w, .inr (.inr (.inr (.inr (gQ w rR))))))], gB w rR cI h (gV w (lV K LL)), [(q_60, .inl (cI, (w * h), .inl (sX K LL w h w 0)))]] : gW)) := hD
                                            obtain ⟨hp_616, hg_616⟩ := hp_616
                                            have hg_616 : CT cI w h nd wv T K h0 g_616 := hg_616
                                            refine z_topi (y := nI (nxt w h nd T K (w * y + x))) (hp_616) ?_
                                            refine lv_aload_n hx hb dX2_isSame_619 rfl (lv_at hl 0 rfl) ?_
                                            refine lv_iload hx hb dX2_isSame_620 (lv_at hl 9 rfl) ?_
                                            refine lv_iload hx hb dX2_isSame_622 (lv_at hl 10 rfl) ?_
                                            refine s_callVi (As := [.int (nI x), .int (nI y)]) (rest := [.int (nI (nxt w h nd T K (w * y + x)))]) F9 (m_X2_next l dC dI cI cZ cJ cD m0 w h nd wv mA rM K tA rT T x y (gk) (h1) (h4) (hK4) (hxw) (hyh)) (cwV 2 hts gX2_isSame_X2_next rfl rfl rfl (by decide +kernel) ⟨Nat.le_of_ble_eq_true rfl, Nat.le_of_ble_eq_true rfl⟩) hK hN hP hD hS hA [1, 2, 3, 4, 5] [0, 6, 7, 8] 9 rfl rfl (by decide) (fun (_ : Unit) => ([g_616, [(m0, .inr (2, [.int (nI w), .int (nI h), .int (nI nd), .int wv, .ref mA, .ref tA]))], [(mA, .inl (cJ, w, .inr (.inr (.inr (.inr (gQ w rM))))))], gB w rM cI h (gM w K), [(tA, .inl (cD, w, .inr (.inr (.inr (.inr (gQ w rT))))))], gB w rT cZ h (gZ w T), [(qR, .inl (cJ, w, .inr (.inr (.inr (.inr (gQ w rR))))))], gB w rR cI h (gV w (lV K LL)), [(q_60, .inl (cI, (w * h), .inl (sX K LL w h w 0)))]] : gW)) [1, 2, 3, 4, 5] [0, 6, 7, 8] 9 (fun _ => rfl) (fun _ => rfl) (fun _ => rfl) (by decide) 1 0 (ci := 2) rfl rfl rfl rfl rfl hl.1 rfl (Nat.le_of_ble_eq_true rfl) dX2_isSame_624 ⟨by show 7 + 0 ≤ 7; omega, by show 55 + 0 ≤ 55; omega⟩ (fun r_624 u H locs hp_624 hP hD hS => ?_)
                                            have hP : va_P (dC, dI) vwCl (List.flatten ([g_616, [(m0, .inr (2, [.int (nI w), .int (nI h), .int (nI nd), .int wv, .ref mA, .ref tA]))], [(mA, .inl (cJ, w, .inr (.inr (.inr (.inr (gQ w rM))))))], gB w rM cI h (gM w K), [(tA, .inl (cD, w, .inr (.inr (.inr (.inr (gQ w rT))))))], gB w rT cZ h (gZ w T), [(qR, .inl (cJ, w, .inr (.inr (.inr (.inr (gQ w rR))))))], gB w rR cI h (gV w (lV K LL)), [(q_60, .inl (cI, (w * h), .inl (sX K LL w h w 0)))]] : gW)) H := hP
                                            have hD : va_D A (List.flatten ([g_616, [(m0, .inr (2, [.int (nI w), .int (nI h), .int (nI nd), .int wv, .ref mA, .ref tA]))], [(mA, .inl (cJ, w, .inr (.inr (.inr (.inr (gQ w rM))))))], gB w rM cI h (gM w K), [(tA, .inl (cD, w, .inr (.inr (.inr (.inr (gQ w rT))))))], gB w rT cZ h (gZ w T), [(qR, .inl (cJ, w, .inr (.inr (.inr (.inr (gQ w rR))))))], gB w rR cI h (gV w (lV K LL)), [(q_60, .inl (cI, (w * h), .inl (sX K LL w h w 0)))]] : gW)) := hD
                                            have hp_624 : r_624 = nI (nxt w h nd T K (w * y + x)) := hp_624
                                            refine z_topi (y := nI (nxt w h nd T K (w * y + x))) (hp_624) ?_
                                            refine lv_icmp_ne (tgt := 687) hx hb dX2_isSame_627 (by decide) (fun c_627 => ?_) (fun c_627 => ?_)
                                            · skip
                                              exact absurd rfl c_627
                                            · skip
                                              refine lv_aload_n hx hb dX2_isSame_630 rfl (lv_at hl 1 rfl) ?_
                                              refine lv_iload hx hb dX2_isSame_631 (lv_at hl 9 rfl) ?_
                                              refine lv_iload hx hb dX2_isSame_633 (lv_at hl 10 rfl) ?_
                                              obtain ⟨fs9, ho9⟩ := CT_obj hg_616
                                              refine s_callVi (As := [.int (nI x), .int (nI y)]) (rest := []) F9 (k_regionSize l dC dI cI cZ cJ cD hg_616 gk h1 h4 hK4 x y (hxw) (hyh)) (cwV 2 hts gX2_isSame_X1_regionSize rfl rfl rfl (by decide +kernel) ⟨Nat.le_of_ble_eq_true rfl, Nat.le_of_ble_eq_true rfl⟩) hK hN hP hD hS hA [0] [1, 2, 3, 4, 5, 6, 7, 8] 9 rfl rfl (by decide) (fun (u : va_W) => ([u, [(m0, .inr (2, [.int (nI w), .int (nI h), .int (nI nd), .int wv, .ref mA, .ref tA]))], [(mA, .inl (cJ, w, .inr (.inr (.inr (.inr (gQ w rM))))))], gB w rM cI h (gM w K), [(tA, .inl (cD, w, .inr (.inr (.inr (.inr (gQ w rT))))))], gB w rT cZ h (gZ w T), [(qR, .inl (cJ, w, .inr (.inr (.inr (.inr (gQ w rR))))))], gB w rR cI h (gV w (lV K LL)), [(q_60, .inl (cI, (w * h), .inl (sX K LL w h w 0)))]] : gW)) [0] [1, 2, 3, 4, 5, 6, 7, 8] 9 (fun _ => rfl) (fun _ => rfl) (fun _ => rfl) (by decide) 0 0 (ci := 1) rfl ho9 rfl rfl rfl hl.1 rfl (Nat.le_of_ble_eq_true rfl) dX2_isSame_635 ⟨by show 7 + 0 ≤ 7; omega, by show 55 + 0 ≤ 55; omega⟩ (fun r_635 g_635 H locs hp_635 hP hD hS => ?_)
                                              have hP : va_P (dC, dI) vwCl (List.flatten ([g_635, [(m0, .inr (2, [.int (nI w), .int (nI h), .int (nI nd), .int wv, .ref mA, .ref tA]))], [(mA, .inl (cJ, w, .inr (.inr (.inr (.inr (gQ w rM))))))], gB w rM cI h (gM w K), [(tA, .inl (cD, w, .inr (.inr (.inr (.inr (gQ w rT))))))], gB w rT cZ h (gZ w T), [(qR, .inl (cJ, w, .inr (.inr (.inr (.inr (gQ w rR))))))], gB w rR cI h (gV w (lV K LL)), [(q_60, .inl (cI, (w * h), .inl (sX K LL w h w 0)))]] : gW)) H := hP
                                              have hD : va_D A (List.flatten ([g_635, [(m0, .inr (2, [.int (nI w), .int (nI h), .int (nI nd), .int wv, .ref mA, .ref tA]))], [(mA, .inl (cJ, w, .inr (.inr (.inr (.inr (gQ w rM))))))], gB w rM cI h (gM w K), [(tA, .inl (cD, w, .inr (.inr (.inr (.inr (gQ w rT))))))], gB w rT cZ h (gZ w T), [(qR, .inl (cJ, w, .inr (.inr (.inr (.inr (gQ w rR))))))], gB w rR cI h (gV w (lV K LL)), [(q_60, .inl (cI, (w * h), .inl (sX K LL w h w 0)))]] : gW)) := hD
                                              obtain ⟨hp_635, hg_635⟩ := hp_635
                                              have hg_635 : CT cI w h nd wv T K h0 g_635 := hg_635
                                              refine z_topi (y := nI (sz0 w h K (w * y + x))) (hp_635) ?_
                                              refine lv_aload_n hx hb dX2_isSame_638 rfl (lv_at hl 0 rfl) ?_
                                              refine s_get (D := (dC, dI)) (ci := 2) (v := .ref mA) (C := RX2) (T := TX2) (N := 6) hx hb hts iX2_isSame_X2 hown hK hP 1 0 rfl rfl rfl 4 (by decide) (hts (.fieldLink RX2 21 "ColourTideLaw$Sim" "map" "[[I") (List.mem_of_getElem? (i := 7) rfl)) (fun _ h9 => h9) rfl dX2_isSame_639 ?_
                                              refine lv_iload hx hb dX2_isSame_642 (lv_at hl 9 rfl) ?_
                                              refine s_qald hx hb hK hP 2 2 rfl rfl rfl x (rfl) (by omega) (by omega) dX2_isSame_644 ?_
                                              refine lv_iload hx hb dX2_isSame_645 (lv_at hl 10 rfl) ?_
                                              refine s_gald hx hb hK hP 3 0 x rfl (by omega) rfl y (rfl) (by omega) (by omega) dX2_isSame_647 ?_
                                              refine z_topi (y := nI (K (w * y + x))) (rfl) ?_
                                              suffices j_664 : ∀ v_664 : Int32, v_664 = (nI (sz0 w h K (w * y + x))) → W p l e rmX2_isSame s m args below meth c H locs (7) (55) Q (F0 m 664 ls [.int v_664, .int (nI (sz0 w h K (w * y + x)))]) by
                                                refine lv_if_ne (tgt := 655) hx hb dX2_isSame_648 (by decide) (fun c_648 => ?_) (fun c_648 => ?_)
                                                · skip
                                                  have n_648 := zc_eq_f (a := (K (w * y + x))) (b := 0) (by omega) (by omega) c_648
                                                  have hk0 : K (w * y + x) ≠ 0 := n_648
                                                  have hlb := (hRL _ hcc hk0).2.2
                                                  refine lv_aload_n hx hb dX2_isSame_655 rfl (lv_at hl 3 rfl) ?_
                                                  refine lv_aload_n hx hb dX2_isSame_656 rfl (lv_at hl 2 rfl) ?_
                                                  refine lv_iload hx hb dX2_isSame_657 (lv_at hl 9 rfl) ?_
                                                  refine s_qald hx hb hK hP 6 2 rfl rfl rfl x (rfl) (by omega) (by omega) dX2_isSame_659 ?_
                                                  refine lv_iload hx hb dX2_isSame_660 (lv_at hl 10 rfl) ?_
                                                  refine s_gald hx hb hK hP 7 0 x rfl (by omega) rfl y (rfl) (by omega) (by omega) dX2_isSame_662 ?_
                                                  refine z_topi (y := nI (LL (w * y + x))) (lV_n hk0) ?_
                                                  refine s_iald hx hb hK hP 8 0 0 rfl rfl rfl (LL (w * y + x)) (rfl) (by omega) (by omega) dX2_isSame_663 ?_
                                                  refine z_topi (y := nI (rsz w h K (w * y + x))) (sX_size hRL hcc hk0) ?_
                                                  exact j_664 _ (sz0_n hk0)
                                                · skip
                                                  have n_648 := zc_eq_t (a := (K (w * y + x))) (b := 0) (by omega) (by omega) c_648
                                                  refine lv_iconst (v := 0) hx hb dX2_isSame_651 (by decide) ?_
                                                  refine lv_goto (tgt := 664) hx hb dX2_isSame_652 (by decide) ?_
                                                  exact j_664 _ (sz0_0 n_648)
                                              intro v_664 h_v_664
                                              rw [h_v_664]
                                              refine lv_icmp_ne (tgt := 687) hx hb dX2_isSame_664 (by decide) (fun c_664 => ?_) (fun c_664 => ?_)
                                              · skip
                                                exact absurd rfl c_664
                                              · skip
                                                refine lv_aload_n hx hb dX2_isSame_667 rfl (lv_at hl 1 rfl) ?_
                                                refine lv_iload hx hb dX2_isSame_668 (lv_at hl 9 rfl) ?_
                                                refine lv_iload hx hb dX2_isSame_670 (lv_at hl 10 rfl) ?_
                                                refine lv_iconst (v := 0) hx hb dX2_isSame_672 (by decide) ?_
                                                obtain ⟨fs9, ho9⟩ := CT_obj hg_635
                                                refine s_callVi (As := [.int (nI x), .int (nI y), .int 0]) (rest := []) F9 (k_neighboursWith l dC dI cI cZ cJ cD hg_635 gk h1 h4 hK4 x y (hxw) (hyh) 0 (by omega)) (cwV 3 hts gX2_isSame_X1_neighboursWith rfl rfl rfl (by decide +kernel) ⟨Nat.le_of_ble_eq_true rfl, Nat.le_of_ble_eq_true rfl⟩) hK hN hP hD hS hA [0] [1, 2, 3, 4, 5, 6, 7, 8] 9 rfl rfl (by decide) (fun (u : va_W) => ([u, [(m0, .inr (2, [.int (nI w), .int (nI h), .int (nI nd), .int wv, .ref mA, .ref tA]))], [(mA, .inl (cJ, w, .inr (.inr (.inr (.inr (gQ w rM))))))], gB w rM cI h (gM w K), [(tA, .inl (cD, w, .inr (.inr (.inr (.inr (gQ w rT))))))], gB w rT cZ h (gZ w T), [(qR, .inl (cJ, w, .inr (.inr (.inr (.inr (gQ w rR))))))], gB w rR cI h (gV w (lV K LL)), [(q_60, .inl (cI, (w * h), .inl (sX K LL w h w 0)))]] : gW)) [0] [1, 2, 3, 4, 5, 6, 7, 8] 9 (fun _ => rfl) (fun _ => rfl) (fun _ => rfl) (by decide) 0 0 (ci := 1) rfl ho9 rfl rfl rfl hl.1 rfl (Nat.le_of_ble_eq_true rfl) dX2_isSame_673 ⟨by show 7 + 0 ≤ 7; omega, by show 55 + 0 ≤ 55; omega⟩ (fun r_673 g_673 H locs hp_673 hP hD hS => ?_)
                                                have hP : va_P (dC, dI) vwCl (List.flatten ([g_673, [(m0, .inr (2, [.int (nI w), .int (nI h), .int (nI nd), .int wv, .ref mA, .ref tA]))], [(mA, .inl (cJ, w, .inr (.inr (.inr (.inr (gQ w rM))))))], gB w rM cI h (gM w K), [(tA, .inl (cD, w, .inr (.inr (.inr (.inr (gQ w rT))))))], gB w rT cZ h (gZ w T), [(qR, .inl (cJ, w, .inr (.inr (.inr (.inr (gQ w rR))))))], gB w rR cI h (gV w (lV K LL)), [(q_60, .inl (cI, (w * h), .inl (sX K LL w h w 0)))]] : gW)) H := hP
                                                have hD : va_D A (List.flatten ([g_673, [(m0, .inr (2, [.int (nI w), .int (nI h), .int (nI nd), .int wv, .ref mA, .ref tA]))], [(mA, .inl (cJ, w, .inr (.inr (.inr (.inr (gQ w rM))))))], gB w rM cI h (gM w K), [(tA, .inl (cD, w, .inr (.inr (.inr (.inr (gQ w rT))))))], gB w rT cZ h (gZ w T), [(qR, .inl (cJ, w, .inr (.inr (.inr (.inr (gQ w rR))))))], gB w rR cI h (gV w (lV K LL)), [(q_60, .inl (cI, (w * h), .inl (sX K LL w h w 0)))]] : gW)) := hD
                                                obtain ⟨hp_673, hg_673⟩ := hp_673
                                                have hg_673 : CT cI w h nd wv T K h0 g_673 := hg_673
                                                refine z_topi (y := nI (cnbs w h K (w * y + x) 0)) (hp_673) ?_
                                                refine lv_aload_n hx hb dX2_isSame_676 rfl (lv_at hl 0 rfl) ?_
                                                refine lv_iload hx hb dX2_isSame_677 (lv_at hl 9 rfl) ?_
                                                refine lv_iload hx hb dX2_isSame_679 (lv_at hl 10 rfl) ?_
                                                refine s_callVi (As := [.int (nI x), .int (nI y)]) (rest := [.int (nI (cnbs w h K (w * y + x) 0))]) F9 (m_X2_bare l dC dI cI cZ cJ cD m0 w h nd wv mA rM K tA rT T x y (gk) (hK4) (hxw) (hyh)) (cwV 2 hts gX2_isSame_X2_bare rfl rfl rfl (by decide +kernel) ⟨Nat.le_of_ble_eq_true rfl, Nat.le_of_ble_eq_true rfl⟩) hK hN hP hD hS hA [1, 2, 3, 4, 5] [0, 6, 7, 8] 9 rfl rfl (by decide) (fun (_ : Unit) => ([g_673, [(m0, .inr (2, [.int (nI w), .int (nI h), .int (nI nd), .int wv, .ref mA, .ref tA]))], [(mA, .inl (cJ, w, .inr (.inr (.inr (.inr (gQ w rM))))))], gB w rM cI h (gM w K), [(tA, .inl (cD, w, .inr (.inr (.inr (.inr (gQ w rT))))))], gB w rT cZ h (gZ w T), [(qR, .inl (cJ, w, .inr (.inr (.inr (.inr (gQ w rR))))))], gB w rR cI h (gV w (lV K LL)), [(q_60, .inl (cI, (w * h), .inl (sX K LL w h w 0)))]] : gW)) [1, 2, 3, 4, 5] [0, 6, 7, 8] 9 (fun _ => rfl) (fun _ => rfl) (fun _ => rfl) (by decide) 1 0 (ci := 2) rfl rfl rfl rfl rfl hl.1 rfl (Nat.le_of_ble_eq_true rfl) dX2_isSame_681 ⟨by show 7 + 0 ≤ 7; omega, by show 55 + 0 ≤ 55; omega⟩ (fun r_681 u H locs hp_681 hP hD hS => ?_)
                                                have hP : va_P (dC, dI) vwCl (List.flatten ([g_673, [(m0, .inr (2, [.int (nI w), .int (nI h), .int (nI nd), .int wv, .ref mA, .ref tA]))], [(mA, .inl (cJ, w, .inr (.inr (.inr (.inr (gQ w rM))))))], gB w rM cI h (gM w K), [(tA, .inl (cD, w, .inr (.inr (.inr (.inr (gQ w rT))))))], gB w rT cZ h (gZ w T), [(qR, .inl (cJ, w, .inr (.inr (.inr (.inr (gQ w rR))))))], gB w rR cI h (gV w (lV K LL)), [(q_60, .inl (cI, (w * h), .inl (sX K LL w h w 0)))]] : gW)) H := hP
                                                have hD : va_D A (List.flatten ([g_673, [(m0, .inr (2, [.int (nI w), .int (nI h), .int (nI nd), .int wv, .ref mA, .ref tA]))], [(mA, .inl (cJ, w, .inr (.inr (.inr (.inr (gQ w rM))))))], gB w rM cI h (gM w K), [(tA, .inl (cD, w, .inr (.inr (.inr (.inr (gQ w rT))))))], gB w rT cZ h (gZ w T), [(qR, .inl (cJ, w, .inr (.inr (.inr (.inr (gQ w rR))))))], gB w rR cI h (gV w (lV K LL)), [(q_60, .inl (cI, (w * h), .inl (sX K LL w h w 0)))]] : gW)) := hD
                                                have hp_681 : r_681 = nI (cnbs w h K (w * y + x) 0) := hp_681
                                                refine z_topi (y := nI (cnbs w h K (w * y + x) 0)) (hp_681) ?_
                                                refine lv_icmp_eq (tgt := 689) hx hb dX2_isSame_684 (by decide) (fun c_684 => ?_) (fun c_684 => ?_)
                                                · skip
                                                  refine lv_iconst (v := 1) hx hb dX2_isSame_689 (by decide) ?_
                                                  refine lv_istore (lv' := [(11, .int 1), (0, .ref m0), (1, .ref h0), (2, .ref qR), (3, .ref q_60), (4, .int (nI (cN T w h w 0))), (5, .int (nI (cN (bQ w h K 1) w h w 0 + cN (bQ w h K 3) w h w 0))), (6, .int (bz (decide (cN (chQ w h nd T K) w h w 0 = 0)))), (7, .int (nI ld)), (8, .int (nI wn)), (9, .int (nI x)), (10, .int (nI y))]) hx hb dX2_isSame_690 hl (by decide) rfl (fun ls hl => ?_)
                                                  have loop_692 : ∀ (n : Nat) (k : Nat) (gG : va_W) (hkn : k + n = 5) (hk1 : 1 ≤ k) (hgG : CT cI w h nd wv T K h0 gG) (H : Heap) (locs : List Loc) (ls : Array Slot) (hP : va_P (dC, dI) vwCl (List.flatten ([gG, [(m0, .inr (2, [.int (nI w), .int (nI h), .int (nI nd), .int wv, .ref mA, .ref tA]))], [(mA, .inl (cJ, w, .inr (.inr (.inr (.inr (gQ w rM))))))], gB w rM cI h (gM w K), [(tA, .inl (cD, w, .inr (.inr (.inr (.inr (gQ w rT))))))], gB w rT cZ h (gZ w T), [(qR, .inl (cJ, w, .inr (.inr (.inr (.inr (gQ w rR))))))], gB w rR cI h (gV w (lV K LL)), [(q_60, .inl (cI, (w * h), .inl (sX K LL w h w 0)))]] : gW)) H) (hD : va_D A (List.flatten ([gG, [(m0, .inr (2, [.int (nI w), .int (nI h), .int (nI nd), .int wv, .ref mA, .ref tA]))], [(mA, .inl (cJ, w, .inr (.inr (.inr (.inr (gQ w rM))))))], gB w rM cI h (gM w K), [(tA, .inl (cD, w, .inr (.inr (.inr (.inr (gQ w rT))))))], gB w rT cZ h (gZ w T), [(qR, .inl (cJ, w, .inr (.inr (.inr (.inr (gQ w rR))))))], gB w rR cI h (gV w (lV K LL)), [(q_60, .inl (cI, (w * h), .inl (sX K LL w h w 0)))]] : gW))) (hS : va_S A s.heap H locs) (hl : lv_has ls 14 [(0, .ref m0), (1, .ref h0), (2, .ref qR), (3, .ref q_60), (4, .int (nI (cN T w h w 0))), (5, .int (nI (cN (bQ w h K 1) w h w 0 + cN (bQ w h K 3) w h w 0))), (6, .int (bz (decide (cN (chQ w h nd T K) w h w 0 = 0)))), (7, .int (nI ld)), (8, .int (nI wn)), (9, .int (nI x)), (10, .int (nI y)), (11, .int (nI k))]), W p l e rmX2_isSame s m args below meth c H locs (7) (55) Q (F0 m 692 ls []) := by
                                                    intro n
                                                    induction n with
                                                    | zero =>
                                                      intro k gG hkn hk1 hgG H locs ls hP hD hS hl
                                                      refine lv_iload hx hb dX2_isSame_692 (lv_at hl 11 rfl) ?_
                                                      refine lv_iconst (v := 5) hx hb dX2_isSame_694 (by decide) ?_
                                                      refine lv_icmp_ge (tgt := 729) hx hb dX2_isSame_695 (by decide) (fun c_695 => ?_) (fun c_695 => ?_)
                                                      · skip
                                                        have n_695 := zc_le_t (a := 5) (b := k) (by omega) (by omega) c_695
                                                        refine lv_iinc (v := nI (y + 1)) (lv' := [(10, .int (nI (y + 1))), (0, .ref m0), (1, .ref h0), (2, .ref qR), (3, .ref q_60), (4, .int (nI (cN T w h w 0))), (5, .int (nI (cN (bQ w h K 1) w h w 0 + cN (bQ w h K 3) w h w 0))), (6, .int (bz (decide (cN (chQ w h nd T K) w h w 0 = 0)))), (7, .int (nI ld)), (8, .int (nI wn)), (9, .int (nI x)), (11, .int (nI k))]) hx hb dX2_isSame_729 hl (k := 10) rfl (nI_1 y) (by decide) rfl (fun ls hl => ?_)
                                                        refine lv_goto (tgt := 560) hx hb dX2_isSame_732 (by decide) ?_
                                                        exact ih_560 (y + 1) gG (by omega) (hgG) _ _ _ hP hD hS (lv_sub hl [1, 2, 3, 4, 5, 6, 7, 8, 9, 10, 0] rfl)
                                                      · skip
                                                        have n_695 := zc_le_f (a := 5) (b := k) (by omega) (by omega) c_695
                                                        exact absurd n_695 (by omega)
                                                    | succ n ih_692 =>
                                                      intro k gG hkn hk1 hgG H locs ls hP hD hS hl
                                                      refine lv_iload hx hb dX2_isSame_692 (lv_at hl 11 rfl) ?_
                                                      refine lv_iconst (v := 5) hx hb dX2_isSame_694 (by decide) ?_
                                                      refine lv_icmp_ge (tgt := 729) hx hb dX2_isSame_695 (by decide) (fun c_695 => ?_) (fun c_695 => ?_)
                                                      · skip
                                                        have n_695 := zc_le_t (a := 5) (b := k) (by omega) (by omega) c_695
                                                        exact absurd n_695 (by omega)
                                                      · skip
                                                        have n_695 := zc_le_f (a := 5) (b := k) (by omega) (by omega) c_695
                                                        refine lv_aload_n hx hb dX2_isSame_698 rfl (lv_at hl 1 rfl) ?_
                                                        refine lv_iload hx hb dX2_isSame_699 (lv_at hl 9 rfl) ?_
                                                        refine lv_iload hx hb dX2_isSame_701 (lv_at hl 10 rfl) ?_
                                                        refine lv_iload hx hb dX2_isSame_703 (lv_at hl 11 rfl) ?_
                                                        obtain ⟨fs9, ho9⟩ := CT_obj hgG
                                                        refine s_callVi (As := [.int (nI x), .int (nI y), .int (nI k)]) (rest := []) F9 (k_neighboursWith l dC dI cI cZ cJ cD hgG gk h1 h4 hK4 x y (hxw) (hyh) k (by omega)) (cwV 3 hts gX2_isSame_X1_neighboursWith rfl rfl rfl (by decide +kernel) ⟨Nat.le_of_ble_eq_true rfl, Nat.le_of_ble_eq_true rfl⟩) hK hN hP hD hS hA [0] [1, 2, 3, 4, 5, 6, 7, 8] 9 rfl rfl (by decide) (fun (u : va_W) => ([u, [(m0, .inr (2, [.int (nI w), .int (nI h), .int (nI nd), .int wv, .ref mA, .ref tA]))], [(mA, .inl (cJ, w, .inr (.inr (.inr (.inr (gQ w rM))))))], gB w rM cI h (gM w K), [(tA, .inl (cD, w, .inr (.inr (.inr (.inr (gQ w rT))))))], gB w rT cZ h (gZ w T), [(qR, .inl (cJ, w, .inr (.inr (.inr (.inr (gQ w rR))))))], gB w rR cI h (gV w (lV K LL)), [(q_60, .inl (cI, (w * h), .inl (sX K LL w h w 0)))]] : gW)) [0] [1, 2, 3, 4, 5, 6, 7, 8] 9 (fun _ => rfl) (fun _ => rfl) (fun _ => rfl) (by decide) 0 0 (ci := 1) rfl ho9 rfl rfl rfl hl.1 rfl (Nat.le_of_ble_eq_true rfl) dX2_isSame_705 ⟨by show 7 + 0 ≤ 7; omega, by show 55 + 0 ≤ 55; omega⟩ (fun r_705 g_705 H locs hp_705 hP hD hS => ?_)
                                                        have hP : va_P (dC, dI) vwCl (List.flatten ([g_705, [(m0, .inr (2, [.int (nI w), .int (nI h), .int (nI nd), .int wv, .ref mA, .ref tA]))], [(mA, .inl (cJ, w, .inr (.inr (.inr (.inr (gQ w rM))))))], gB w rM cI h (gM w K), [(tA, .inl (cD, w, .inr (.inr (.inr (.inr (gQ w rT))))))], gB w rT cZ h (gZ w T), [(qR, .inl (cJ, w, .inr (.inr (.inr (.inr (gQ w rR))))))], gB w rR cI h (gV w (lV K LL)), [(q_60, .inl (cI, (w * h), .inl (sX K LL w h w 0)))]] : gW)) H := hP
                                                        have hD : va_D A (List.flatten ([g_705, [(m0, .inr (2, [.int (nI w), .int (nI h), .int (nI nd), .int wv, .ref mA, .ref tA]))], [(mA, .inl (cJ, w, .inr (.inr (.inr (.inr (gQ w rM))))))], gB w rM cI h (gM w K), [(tA, .inl (cD, w, .inr (.inr (.inr (.inr (gQ w rT))))))], gB w rT cZ h (gZ w T), [(qR, .inl (cJ, w, .inr (.inr (.inr (.inr (gQ w rR))))))], gB w rR cI h (gV w (lV K LL)), [(q_60, .inl (cI, (w * h), .inl (sX K LL w h w 0)))]] : gW)) := hD
                                                        obtain ⟨hp_705, hg_705⟩ := hp_705
                                                        have hg_705 : CT cI w h nd wv T K h0 g_705 := hg_705
                                                        refine z_topi (y := nI (cnbs w h K (w * y + x) k)) (hp_705) ?_
                                                        refine lv_aload_n hx hb dX2_isSame_708 rfl (lv_at hl 0 rfl) ?_
                                                        refine lv_iload hx hb dX2_isSame_709 (lv_at hl 9 rfl) ?_
                                                        refine lv_iload hx hb dX2_isSame_711 (lv_at hl 10 rfl) ?_
                                                        refine lv_iload hx hb dX2_isSame_713 (lv_at hl 11 rfl) ?_
                                                        refine s_callVi (As := [.int (nI x), .int (nI y), .int (nI k)]) (rest := [.int (nI (cnbs w h K (w * y + x) k))]) F9 (m_X2_beside l dC dI cI cZ cJ cD m0 w h nd wv mA rM K tA rT T x y k (gk) (hK4) (hxw) (hyh) (by omega)) (cwV 3 hts gX2_isSame_X2_beside rfl rfl rfl (by decide +kernel) ⟨Nat.le_of_ble_eq_true rfl, Nat.le_of_ble_eq_true rfl⟩) hK hN hP hD hS hA [1, 2, 3, 4, 5] [0, 6, 7, 8] 9 rfl rfl (by decide) (fun (_ : Unit) => ([g_705, [(m0, .inr (2, [.int (nI w), .int (nI h), .int (nI nd), .int wv, .ref mA, .ref tA]))], [(mA, .inl (cJ, w, .inr (.inr (.inr (.inr (gQ w rM))))))], gB w rM cI h (gM w K), [(tA, .inl (cD, w, .inr (.inr (.inr (.inr (gQ w rT))))))], gB w rT cZ h (gZ w T), [(qR, .inl (cJ, w, .inr (.inr (.inr (.inr (gQ w rR))))))], gB w rR cI h (gV w (lV K LL)), [(q_60, .inl (cI, (w * h), .inl (sX K LL w h w 0)))]] : gW)) [1, 2, 3, 4, 5] [0, 6, 7, 8] 9 (fun _ => rfl) (fun _ => rfl) (fun _ => rfl) (by decide) 1 0 (ci := 2) rfl rfl rfl rfl rfl hl.1 rfl (Nat.le_of_ble_eq_true rfl) dX2_isSame_715 ⟨by show 7 + 0 ≤ 7; omega, by show 55 + 0 ≤ 55; omega⟩ (fun r_715 u H locs hp_715 hP hD hS => ?_)
                                                        have hP : va_P (dC, dI) vwCl (List.flatten ([g_705, [(m0, .inr (2, [.int (nI w), .int (nI h), .int (nI nd), .int wv, .ref mA, .ref tA]))], [(mA, .inl (cJ, w, .inr (.inr (.inr (.inr (gQ w rM))))))], gB w rM cI h (gM w K), [(tA, .inl (cD, w, .inr (.inr (.inr (.inr (gQ w rT))))))], gB w rT cZ h (gZ w T), [(qR, .inl (cJ, w, .inr (.inr (.inr (.inr (gQ w rR))))))], gB w rR cI h (gV w (lV K LL)), [(q_60, .inl (cI, (w * h), .inl (sX K LL w h w 0)))]] : gW)) H := hP
                                                        have hD : va_D A (List.flatten ([g_705, [(m0, .inr (2, [.int (nI w), .int (nI h), .int (nI nd), .int wv, .ref mA, .ref tA]))], [(mA, .inl (cJ, w, .inr (.inr (.inr (.inr (gQ w rM))))))], gB w rM cI h (gM w K), [(tA, .inl (cD, w, .inr (.inr (.inr (.inr (gQ w rT))))))], gB w rT cZ h (gZ w T), [(qR, .inl (cJ, w, .inr (.inr (.inr (.inr (gQ w rR))))))], gB w rR cI h (gV w (lV K LL)), [(q_60, .inl (cI, (w * h), .inl (sX K LL w h w 0)))]] : gW)) := hD
                                                        have hp_715 : r_715 = nI (cnbs w h K (w * y + x) k) := hp_715
                                                        refine z_topi (y := nI (cnbs w h K (w * y + x) k)) (hp_715) ?_
                                                        refine lv_icmp_eq (tgt := 723) hx hb dX2_isSame_718 (by decide) (fun c_718 => ?_) (fun c_718 => ?_)
                                                        · skip
                                                          refine lv_iinc (v := nI (k + 1)) (lv' := [(11, .int (nI (k + 1))), (0, .ref m0), (1, .ref h0), (2, .ref qR), (3, .ref q_60), (4, .int (nI (cN T w h w 0))), (5, .int (nI (cN (bQ w h K 1) w h w 0 + cN (bQ w h K 3) w h w 0))), (6, .int (bz (decide (cN (chQ w h nd T K) w h w 0 = 0)))), (7, .int (nI ld)), (8, .int (nI wn)), (9, .int (nI x)), (10, .int (nI y))]) hx hb dX2_isSame_723 hl (k := 11) rfl (nI_1 k) (by decide) rfl (fun ls hl => ?_)
                                                          refine lv_goto (tgt := 692) hx hb dX2_isSame_726 (by decide) ?_
                                                          exact ih_692 (k + 1) g_705 (by omega) (by omega) (hg_705) _ _ _ hP hD hS (lv_sub hl [1, 2, 3, 4, 5, 6, 7, 8, 9, 10, 11, 0] rfl)
                                                        · skip
                                                          exact absurd rfl c_718
                                                  exact loop_692 4 1 g_673 (by omega) (Nat.le_refl 1) (hg_673) _ _ _ hP hD hS (lv_sub hl [1, 2, 3, 4, 5, 6, 7, 8, 9, 10, 11, 0] rfl)
                                                · skip
                                                  exact absurd rfl c_684
                                  exact loop_560 h 0 gD (by omega) (hgD) _ _ _ hP hD hS (lv_sub hl [1, 2, 3, 4, 5, 6, 7, 8, 9, 10, 0] rfl)
                            exact loop_548 w 0 gC (by omega) (hgC) _ _ _ hP hD hS (lv_sub hl [1, 2, 3, 4, 5, 6, 7, 8, 9, 0] rfl)
                          · skip
                            have n_491 := zc_le_f (a := 5) (b := i) (by omega) (by omega) c_491
                            exact absurd n_491 (by omega)
                        | succ n ih_488 =>
                          intro i gC hkn hgC H locs ls hP hD hS hl
                          refine lv_iload hx hb dX2_isSame_488 (lv_at hl 9 rfl) ?_
                          refine lv_iconst (v := 5) hx hb dX2_isSame_490 (by decide) ?_
                          refine lv_icmp_ge (tgt := 545) hx hb dX2_isSame_491 (by decide) (fun c_491 => ?_) (fun c_491 => ?_)
                          · skip
                            have n_491 := zc_le_t (a := 5) (b := i) (by omega) (by omega) c_491
                            exact absurd n_491 (by omega)
                          · skip
                            have n_491 := zc_le_f (a := 5) (b := i) (by omega) (by omega) c_491
                            refine lv_aload_n hx hb dX2_isSame_494 rfl (lv_at hl 1 rfl) ?_
                            refine lv_iload hx hb dX2_isSame_495 (lv_at hl 9 rfl) ?_
                            obtain ⟨fs9, ho9⟩ := CT_obj hgC
                            refine s_callVi (As := [.int (nI i)]) (rest := []) F9 (k_cellsOf l dC dI cI cZ cJ cD hgC gk h1 h4 hK4 i (by omega)) (cwV 1 hts gX2_isSame_X1_cellsOf rfl rfl rfl (by decide +kernel) ⟨Nat.le_of_ble_eq_true rfl, Nat.le_of_ble_eq_true rfl⟩) hK hN hP hD hS hA [0] [1, 2, 3, 4, 5, 6, 7, 8] 9 rfl rfl (by decide) (fun (u : va_W) => ([u, [(m0, .inr (2, [.int (nI w), .int (nI h), .int (nI nd), .int wv, .ref mA, .ref tA]))], [(mA, .inl (cJ, w, .inr (.inr (.inr (.inr (gQ w rM))))))], gB w rM cI h (gM w K), [(tA, .inl (cD, w, .inr (.inr (.inr (.inr (gQ w rT))))))], gB w rT cZ h (gZ w T), [(qR, .inl (cJ, w, .inr (.inr (.inr (.inr (gQ w rR))))))], gB w rR cI h (gV w (lV K LL)), [(q_60, .inl (cI, (w * h), .inl (sX K LL w h w 0)))]] : gW)) [0] [1, 2, 3, 4, 5, 6, 7, 8] 9 (fun _ => rfl) (fun _ => rfl) (fun _ => rfl) (by decide) 0 0 (ci := 1) rfl ho9 rfl rfl rfl hl.1 rfl (Nat.le_of_ble_eq_true rfl) dX2_isSame_497 ⟨by show 7 + 0 ≤ 7; omega, by show 55 + 0 ≤ 55; omega⟩ (fun r_497 g_497 H locs hp_497 hP hD hS => ?_)
                            have hP : va_P (dC, dI) vwCl (List.flatten ([g_497, [(m0, .inr (2, [.int (nI w), .int (nI h), .int (nI nd), .int wv, .ref mA, .ref tA]))], [(mA, .inl (cJ, w, .inr (.inr (.inr (.inr (gQ w rM))))))], gB w rM cI h (gM w K), [(tA, .inl (cD, w, .inr (.inr (.inr (.inr (gQ w rT))))))], gB w rT cZ h (gZ w T), [(qR, .inl (cJ, w, .inr (.inr (.inr (.inr (gQ w rR))))))], gB w rR cI h (gV w (lV K LL)), [(q_60, .inl (cI, (w * h), .inl (sX K LL w h w 0)))]] : gW)) H := hP
                            have hD : va_D A (List.flatten ([g_497, [(m0, .inr (2, [.int (nI w), .int (nI h), .int (nI nd), .int wv, .ref mA, .ref tA]))], [(mA, .inl (cJ, w, .inr (.inr (.inr (.inr (gQ w rM))))))], gB w rM cI h (gM w K), [(tA, .inl (cD, w, .inr (.inr (.inr (.inr (gQ w rT))))))], gB w rT cZ h (gZ w T), [(qR, .inl (cJ, w, .inr (.inr (.inr (.inr (gQ w rR))))))], gB w rR cI h (gV w (lV K LL)), [(q_60, .inl (cI, (w * h), .inl (sX K LL w h w 0)))]] : gW)) := hD
                            obtain ⟨hp_497, hg_497⟩ := hp_497
                            have hg_497 : CT cI w h nd wv T K h0 g_497 := hg_497
                            refine z_topi (y := nI (ccN K i (w * h))) (hp_497) ?_
                            refine lv_aload_n hx hb dX2_isSame_500 rfl (lv_at hl 0 rfl) ?_
                            refine lv_iload hx hb dX2_isSame_501 (lv_at hl 9 rfl) ?_
                            refine s_callVi (As := [.int (nI i)]) (rest := [.int (nI (ccN K i (w * h)))]) F9 (m_X2_cells l dC dI cI cZ cJ cD m0 w h nd wv mA rM K tA rT T i (gk) (hK4) (by omega)) (cwV 1 hts gX2_isSame_X2_cells rfl rfl rfl (by decide +kernel) ⟨Nat.le_of_ble_eq_true rfl, Nat.le_of_ble_eq_true rfl⟩) hK hN hP hD hS hA [1, 2, 3, 4, 5] [0, 6, 7, 8] 9 rfl rfl (by decide) (fun (_ : Unit) => ([g_497, [(m0, .inr (2, [.int (nI w), .int (nI h), .int (nI nd), .int wv, .ref mA, .ref tA]))], [(mA, .inl (cJ, w, .inr (.inr (.inr (.inr (gQ w rM))))))], gB w rM cI h (gM w K), [(tA, .inl (cD, w, .inr (.inr (.inr (.inr (gQ w rT))))))], gB w rT cZ h (gZ w T), [(qR, .inl (cJ, w, .inr (.inr (.inr (.inr (gQ w rR))))))], gB w rR cI h (gV w (lV K LL)), [(q_60, .inl (cI, (w * h), .inl (sX K LL w h w 0)))]] : gW)) [1, 2, 3, 4, 5] [0, 6, 7, 8] 9 (fun _ => rfl) (fun _ => rfl) (fun _ => rfl) (by decide) 1 0 (ci := 2) rfl rfl rfl rfl rfl hl.1 rfl (Nat.le_of_ble_eq_true rfl) dX2_isSame_503 ⟨by show 7 + 0 ≤ 7; omega, by show 55 + 0 ≤ 55; omega⟩ (fun r_503 u H locs hp_503 hP hD hS => ?_)
                            have hP : va_P (dC, dI) vwCl (List.flatten ([g_497, [(m0, .inr (2, [.int (nI w), .int (nI h), .int (nI nd), .int wv, .ref mA, .ref tA]))], [(mA, .inl (cJ, w, .inr (.inr (.inr (.inr (gQ w rM))))))], gB w rM cI h (gM w K), [(tA, .inl (cD, w, .inr (.inr (.inr (.inr (gQ w rT))))))], gB w rT cZ h (gZ w T), [(qR, .inl (cJ, w, .inr (.inr (.inr (.inr (gQ w rR))))))], gB w rR cI h (gV w (lV K LL)), [(q_60, .inl (cI, (w * h), .inl (sX K LL w h w 0)))]] : gW)) H := hP
                            have hD : va_D A (List.flatten ([g_497, [(m0, .inr (2, [.int (nI w), .int (nI h), .int (nI nd), .int wv, .ref mA, .ref tA]))], [(mA, .inl (cJ, w, .inr (.inr (.inr (.inr (gQ w rM))))))], gB w rM cI h (gM w K), [(tA, .inl (cD, w, .inr (.inr (.inr (.inr (gQ w rT))))))], gB w rT cZ h (gZ w T), [(qR, .inl (cJ, w, .inr (.inr (.inr (.inr (gQ w rR))))))], gB w rR cI h (gV w (lV K LL)), [(q_60, .inl (cI, (w * h), .inl (sX K LL w h w 0)))]] : gW)) := hD
                            have hp_503 : r_503 = nI (ccN K i (w * h)) := hp_503
                            refine z_topi (y := nI (ccN K i (w * h))) (hp_503) ?_
                            refine lv_icmp_ne (tgt := 537) hx hb dX2_isSame_506 (by decide) (fun c_506 => ?_) (fun c_506 => ?_)
                            · skip
                              exact absurd rfl c_506
                            · skip
                              refine lv_aload_n hx hb dX2_isSame_509 rfl (lv_at hl 1 rfl) ?_
                              refine lv_iload hx hb dX2_isSame_510 (lv_at hl 9 rfl) ?_
                              obtain ⟨fs9, ho9⟩ := CT_obj hg_497
                              refine s_callVd (As := [.int (nI i)]) (rest := []) F9 (k_share l dC dI cI cZ cJ cD hg_497 gk i (by omega)) (cwV 1 hts gX2_isSame_X1_share rfl rfl rfl (by decide +kernel) ⟨Nat.le_of_ble_eq_true rfl, Nat.le_of_ble_eq_true rfl⟩) hK hN hP hD hS hA [0] [1, 2, 3, 4, 5, 6, 7, 8] 9 rfl rfl (by decide) (fun (u : va_W) => ([u, [(m0, .inr (2, [.int (nI w), .int (nI h), .int (nI nd), .int wv, .ref mA, .ref tA]))], [(mA, .inl (cJ, w, .inr (.inr (.inr (.inr (gQ w rM))))))], gB w rM cI h (gM w K), [(tA, .inl (cD, w, .inr (.inr (.inr (.inr (gQ w rT))))))], gB w rT cZ h (gZ w T), [(qR, .inl (cJ, w, .inr (.inr (.inr (.inr (gQ w rR))))))], gB w rR cI h (gV w (lV K LL)), [(q_60, .inl (cI, (w * h), .inl (sX K LL w h w 0)))]] : gW)) [0] [1, 2, 3, 4, 5, 6, 7, 8] 9 (fun _ => rfl) (fun _ => rfl) (fun _ => rfl) (by decide) 0 0 (ci := 1) rfl ho9 rfl rfl rfl hl.1 rfl (Nat.le_of_ble_eq_true rfl) dX2_isSame_512 ⟨by show 7 + 0 ≤ 7; omega, by show 55 + 0 ≤ 55; omega⟩ (fun r_512 g_512 H locs hp_512 hP hD hS => ?_)
                              have hP : va_P (dC, dI) vwCl (List.flatten ([g_512, [(m0, .inr (2, [.int (nI w), .int (nI h), .int (nI nd), .int wv, .ref mA, .ref tA]))], [(mA, .inl (cJ, w, .inr (.inr (.inr (.inr (gQ w rM))))))], gB w rM cI h (gM w K), [(tA, .inl (cD, w, .inr (.inr (.inr (.inr (gQ w rT))))))], gB w rT cZ h (gZ w T), [(qR, .inl (cJ, w, .inr (.inr (.inr (.inr (gQ w rR))))))], gB w rR cI h (gV w (lV K LL)), [(q_60, .inl (cI, (w * h), .inl (sX K LL w h w 0)))]] : gW)) H := hP
                              have hD : va_D A (List.flatten ([g_512, [(m0, .inr (2, [.int (nI w), .int (nI h), .int (nI nd), .int wv, .ref mA, .ref tA]))], [(mA, .inl (cJ, w, .inr (.inr (.inr (.inr (gQ w rM))))))], gB w rM cI h (gM w K), [(tA, .inl (cD, w, .inr (.inr (.inr (.inr (gQ w rT))))))], gB w rT cZ h (gZ w T), [(qR, .inl (cJ, w, .inr (.inr (.inr (.inr (gQ w rR))))))], gB w rR cI h (gV w (lV K LL)), [(q_60, .inl (cI, (w * h), .inl (sX K LL w h w 0)))]] : gW)) := hD
                              obtain ⟨hp_512, hg_512⟩ := hp_512
                              have hg_512 : CT cI w h nd wv T K h0 g_512 := hg_512
                              refine z_topd (y := FP.ddiv (FP.i2d (nI (ccN K i (w * h)))) (FP.i2d (nI (w * h)))) (hp_512) ?_
                              refine lv_aload_n hx hb dX2_isSame_515 rfl (lv_at hl 0 rfl) ?_
                              refine lv_iload hx hb dX2_isSame_516 (lv_at hl 9 rfl) ?_
                              refine s_callVi (As := [.int (nI i)]) (rest := [.double (FP.ddiv (FP.i2d (nI (ccN K i (w * h)))) (FP.i2d (nI (w * h))))]) F9 (m_X2_cells l dC dI cI cZ cJ cD m0 w h nd wv mA rM K tA rT T i (gk) (hK4) (by omega)) (cwV 1 hts gX2_isSame_X2_cells rfl rfl rfl (by decide +kernel) ⟨Nat.le_of_ble_eq_true rfl, Nat.le_of_ble_eq_true rfl⟩) hK hN hP hD hS hA [1, 2, 3, 4, 5] [0, 6, 7, 8] 9 rfl rfl (by decide) (fun (_ : Unit) => ([g_512, [(m0, .inr (2, [.int (nI w), .int (nI h), .int (nI nd), .int wv, .ref mA, .ref tA]))], [(mA, .inl (cJ, w, .inr (.inr (.inr (.inr (gQ w rM))))))], gB w rM cI h (gM w K), [(tA, .inl (cD, w, .inr (.inr (.inr (.inr (gQ w rT))))))], gB w rT cZ h (gZ w T), [(qR, .inl (cJ, w, .inr (.inr (.inr (.inr (gQ w rR))))))], gB w rR cI h (gV w (lV K LL)), [(q_60, .inl (cI, (w * h), .inl (sX K LL w h w 0)))]] : gW)) [1, 2, 3, 4, 5] [0, 6, 7, 8] 9 (fun _ => rfl) (fun _ => rfl) (fun _ => rfl) (by decide) 1 0 (ci := 2) rfl rfl rfl rfl rfl hl.1 rfl (Nat.le_of_ble_eq_true rfl) dX2_isSame_518 ⟨by show 7 + 0 ≤ 7; omega, by show 55 + 0 ≤ 55; omega⟩ (fun r_518 u H locs hp_518 hP hD hS => ?_)
                              have hP : va_P (dC, dI) vwCl (List.flatten ([g_512, [(m0, .inr (2, [.int (nI w), .int (nI h), .int (nI nd), .int wv, .ref mA, .ref tA]))], [(mA, .inl (cJ, w, .inr (.inr (.inr (.inr (gQ w rM))))))], gB w rM cI h (gM w K), [(tA, .inl (cD, w, .inr (.inr (.inr (.inr (gQ w rT))))))], gB w rT cZ h (gZ w T), [(qR, .inl (cJ, w, .inr (.inr (.inr (.inr (gQ w rR))))))], gB w rR cI h (gV w (lV K LL)), [(q_60, .inl (cI, (w * h), .inl (sX K LL w h w 0)))]] : gW)) H := hP
                              have hD : va_D A (List.flatten ([g_512, [(m0, .inr (2, [.int (nI w), .int (nI h), .int (nI nd), .int wv, .ref mA, .ref tA]))], [(mA, .inl (cJ, w, .inr (.inr (.inr (.inr (gQ w rM))))))], gB w rM cI h (gM w K), [(tA, .inl (cD, w, .inr (.inr (.inr (.inr (gQ w rT))))))], gB w rT cZ h (gZ w T), [(qR, .inl (cJ, w, .inr (.inr (.inr (.inr (gQ w rR))))))], gB w rR cI h (gV w (lV K LL)), [(q_60, .inl (cI, (w * h), .inl (sX K LL w h w 0)))]] : gW)) := hD
                              have hp_518 : r_518 = nI (ccN K i (w * h)) := hp_518
                              refine z_topi (y := nI (ccN K i (w * h))) (hp_518) ?_
                              refine lv_i2d hx hb dX2_isSame_521 ?_
                              refine lv_aload_n hx hb dX2_isSame_522 rfl (lv_at hl 0 rfl) ?_
                              refine s_get (D := (dC, dI)) (ci := 2) (v := .int (nI w)) (C := RX2) (T := TX2) (N := 6) hx hb hts iX2_isSame_X2 hown hK hP 1 0 rfl rfl rfl 0 (by decide) (hts (.fieldLink RX2 13 "ColourTideLaw$Sim" "w" "I") (List.mem_of_getElem? (i := 1) rfl)) (fun _ h9 => h9) rfl dX2_isSame_523 ?_
                              refine lv_aload_n hx hb dX2_isSame_526 rfl (lv_at hl 0 rfl) ?_
                              refine s_get (D := (dC, dI)) (ci := 2) (v := .int (nI h)) (C := RX2) (T := TX2) (N := 6) hx hb hts iX2_isSame_X2 hown hK hP 1 0 rfl rfl rfl 1 (by decide) (hts (.fieldLink RX2 16 "ColourTideLaw$Sim" "h" "I") (List.mem_of_getElem? (i := 2) rfl)) (fun _ h9 => h9) rfl dX2_isSame_527 ?_
                              refine lv_imul hx hb dX2_isSame_530 ?_
                              refine z_topi (y := nI (w * h)) (pk_mul w h) ?_
                              refine lv_i2d hx hb dX2_isSame_531 ?_
                              have hf1 := ccN_le K i (w * h)
                              refine lv_ddiv hx hb dX2_isSame_532 (z_quot (ccN K i (w * h)) (by omega) (w * h) (by omega) (by omega)) ?_
                              refine lv_dcmp hx hb dX2_isSame_533 ?_
                              refine z_topi (y := 0) (q_same _ (by omega) _ (by omega) (by omega)) ?_
                              refine lv_if_eq (tgt := 539) hx hb dX2_isSame_534 (by decide) (fun c_534 => ?_) (fun c_534 => ?_)
                              · skip
                                refine lv_iinc (v := nI (i + 1)) (lv' := [(9, .int (nI (i + 1))), (0, .ref m0), (1, .ref h0), (2, .ref qR), (3, .ref q_60), (4, .int (nI (cN T w h w 0))), (5, .int (nI (cN (bQ w h K 1) w h w 0 + cN (bQ w h K 3) w h w 0))), (6, .int (bz (decide (cN (chQ w h nd T K) w h w 0 = 0)))), (7, .int (nI ld)), (8, .int (nI wn))]) hx hb dX2_isSame_539 hl (k := 9) rfl (nI_1 i) (by decide) rfl (fun ls hl => ?_)
                                refine lv_goto (tgt := 488) hx hb dX2_isSame_542 (by decide) ?_
                                exact ih_488 (i + 1) g_512 (by omega) (hg_512) _ _ _ hP hD hS (lv_sub hl [1, 2, 3, 4, 5, 6, 7, 8, 9, 0] rfl)
                              · skip
                                exact absurd rfl c_534
                      exact loop_488 5 0 gBB (by omega) (hgB) _ _ _ hP hD hS (lv_sub hl [1, 2, 3, 4, 5, 6, 7, 8, 9, 0] rfl)
                    · skip
                      have n_282 := zc_le_f (a := mm) (b := 0) (by omega) (by omega) c_282
                      exact absurd n_282 (by omega)
                  | succ n ih_280 =>
                    intro mm ld wn gBB hkn hm hld hwn hgB H locs ls hP hD hS hl
                    refine lv_iload hx hb dX2_isSame_280 (lv_at hl 9 rfl) ?_
                    refine lv_if_le (tgt := 485) hx hb dX2_isSame_282 (by decide) (fun c_282 => ?_) (fun c_282 => ?_)
                    · skip
                      have n_282 := zc_le_t (a := mm) (b := 0) (by omega) (by omega) c_282
                      exact absurd n_282 (by omega)
                    · skip
                      have n_282 := zc_le_f (a := mm) (b := 0) (by omega) (by omega) c_282
                      refine lv_iconst (v := 0) hx hb dX2_isSame_285 (by decide) ?_
                      refine lv_istore (lv' := [(10, .int 0), (0, .ref m0), (1, .ref h0), (2, .ref qR), (3, .ref q_60), (4, .int (nI (cN T w h w 0))), (5, .int (nI (cN (bQ w h K 1) w h w 0 + cN (bQ w h K 3) w h w 0))), (6, .int (bz (decide (cN (chQ w h nd T K) w h w 0 = 0)))), (7, .int (nI ld)), (8, .int (nI wn)), (9, .int (nI mm))]) hx hb dX2_isSame_286 hl (by decide) rfl (fun ls hl => ?_)
                      refine lv_iconst (v := 0) hx hb dX2_isSame_288 (by decide) ?_
                      refine lv_istore (lv' := [(11, .int 0), (10, .int 0), (0, .ref m0), (1, .ref h0), (2, .ref qR), (3, .ref q_60), (4, .int (nI (cN T w h w 0))), (5, .int (nI (cN (bQ w h K 1) w h w 0 + cN (bQ w h K 3) w h w 0))), (6, .int (bz (decide (cN (chQ w h nd T K) w h w 0 = 0)))), (7, .int (nI ld)), (8, .int (nI wn)), (9, .int (nI mm))]) hx hb dX2_isSame_289 hl (by decide) rfl (fun ls hl => ?_)
                      refine lv_iconst (v := 0) hx hb dX2_isSame_291 (by decide) ?_
                      refine lv_istore (lv' := [(12, .int 0), (11, .int 0), (10, .int 0), (0, .ref m0), (1, .ref h0), (2, .ref qR), (3, .ref q_60), (4, .int (nI (cN T w h w 0))), (5, .int (nI (cN (bQ w h K 1) w h w 0 + cN (bQ w h K 3) w h w 0))), (6, .int (bz (decide (cN (chQ w h nd T K) w h w 0 = 0)))), (7, .int (nI ld)), (8, .int (nI wn)), (9, .int (nI mm))]) hx hb dX2_isSame_292 hl (by decide) rfl (fun ls hl => ?_)
                      have loop_294 : ∀ (n : Nat) (x : Nat) (mx : Nat) (hkn : x + n = w) (hmx : mxI w h K mm x 0 mx) (H : Heap) (locs : List Loc) (ls : Array Slot) (hP : va_P (dC, dI) vwCl (List.flatten ([gBB, [(m0, .inr (2, [.int (nI w), .int (nI h), .int (nI nd), .int wv, .ref mA, .ref tA]))], [(mA, .inl (cJ, w, .inr (.inr (.inr (.inr (gQ w rM))))))], gB w rM cI h (gM w K), [(tA, .inl (cD, w, .inr (.inr (.inr (.inr (gQ w rT))))))], gB w rT cZ h (gZ w T), [(qR, .inl (cJ, w, .inr (.inr (.inr (.inr (gQ w rR))))))], gB w rR cI h (gV w (lV K LL)), [(q_60, .inl (cI, (w * h), .inl (sX K LL w h w 0)))]] : gW)) H) (hD : va_D A (List.flatten ([gBB, [(m0, .inr (2, [.int (nI w), .int (nI h), .int (nI nd), .int wv, .ref mA, .ref tA]))], [(mA, .inl (cJ, w, .inr (.inr (.inr (.inr (gQ w rM))))))], gB w rM cI h (gM w K), [(tA, .inl (cD, w, .inr (.inr (.inr (.inr (gQ w rT))))))], gB w rT cZ h (gZ w T), [(qR, .inl (cJ, w, .inr (.inr (.inr (.inr (gQ w rR))))))], gB w rR cI h (gV w (lV K LL)), [(q_60, .inl (cI, (w * h), .inl (sX K LL w h w 0)))]] : gW))) (hS : va_S A s.heap H locs) (hl : lv_has ls 14 [(0, .ref m0), (1, .ref h0), (2, .ref qR), (3, .ref q_60), (4, .int (nI (cN T w h w 0))), (5, .int (nI (cN (bQ w h K 1) w h w 0 + cN (bQ w h K 3) w h w 0))), (6, .int (bz (decide (cN (chQ w h nd T K) w h w 0 = 0)))), (7, .int (nI ld)), (8, .int (nI wn)), (9, .int (nI mm)), (10, .int (nI (cN (mQ w h K mm) w h x 0))), (11, .int (nI mx)), (12, .int (nI x))]), W p l e rmX2_isSame s m args below meth c H locs (7) (55) Q (F0 m 294 ls []) := by
                        intro n
                        induction n with
                        | zero =>
                          intro x mx hkn hmx H locs ls hP hD hS hl
                          refine lv_iload hx hb dX2_isSame_294 (lv_at hl 12 rfl) ?_
                          refine lv_aload_n hx hb dX2_isSame_296 rfl (lv_at hl 0 rfl) ?_
                          refine s_get (D := (dC, dI)) (ci := 2) (v := .int (nI w)) (C := RX2) (T := TX2) (N := 6) hx hb hts iX2_isSame_X2 hown hK hP 1 0 rfl rfl rfl 0 (by decide) (hts (.fieldLink RX2 13 "ColourTideLaw$Sim" "w" "I") (List.mem_of_getElem? (i := 1) rfl)) (fun _ h9 => h9) rfl dX2_isSame_297 ?_
                          refine lv_icmp_ge (tgt := 391) hx hb dX2_isSame_300 (by decide) (fun c_300 => ?_) (fun c_300 => ?_)
                          · skip
                            have n_300 := zc_le_t (a := w) (b := x) (by omega) (by omega) c_300
                            have hl9 := hl
                            have hP9 := hP
                            have hD9 := hD
                            have hS9 := hS
                            obtain rfl : w = x := by omega
                            have hl := hl9
                            have hP := hP9
                            have hD := hD9
                            have hS := hS9
                            refine lv_aload_n hx hb dX2_isSame_391 rfl (lv_at hl 1 rfl) ?_
                            refine lv_iload hx hb dX2_isSame_392 (lv_at hl 9 rfl) ?_
                            obtain ⟨fs9, ho9⟩ := CT_obj hgB
                            refine s_callVi (As := [.int (nI mm)]) (rest := []) F9 (k_regionsOf l dC dI cI cZ cJ cD hgB gk h1 h4 hK4 mm (by omega) (by omega)) (cwV 1 hts gX2_isSame_X1_regionsOf rfl rfl rfl (by decide +kernel) ⟨Nat.le_of_ble_eq_true rfl, Nat.le_of_ble_eq_true rfl⟩) hK hN hP hD hS hA [0] [1, 2, 3, 4, 5, 6, 7, 8] 9 rfl rfl (by decide) (fun (u : va_W) => ([u, [(m0, .inr (2, [.int (nI w), .int (nI h), .int (nI nd), .int wv, .ref mA, .ref tA]))], [(mA, .inl (cJ, w, .inr (.inr (.inr (.inr (gQ w rM))))))], gB w rM cI h (gM w K), [(tA, .inl (cD, w, .inr (.inr (.inr (.inr (gQ w rT))))))], gB w rT cZ h (gZ w T), [(qR, .inl (cJ, w, .inr (.inr (.inr (.inr (gQ w rR))))))], gB w rR cI h (gV w (lV K LL)), [(q_60, .inl (cI, (w * h), .inl (sX K LL w h w 0)))]] : gW)) [0] [1, 2, 3, 4, 5, 6, 7, 8] 9 (fun _ => rfl) (fun _ => rfl) (fun _ => rfl) (by decide) 0 0 (ci := 1) rfl ho9 rfl rfl rfl hl.1 rfl (Nat.le_of_ble_eq_true rfl) dX2_isSame_394 ⟨by show 7 + 0 ≤ 7; omega, by show 55 + 0 ≤ 55; omega⟩ (fun r_394 g_394 H locs hp_394 hP hD hS => ?_)
                            have hP : va_P (dC, dI) vwCl (List.flatten ([g_394, [(m0, .inr (2, [.int (nI w), .int (nI h), .int (nI nd), .int wv, .ref mA, .ref tA]))], [(mA, .inl (cJ, w, .inr (.inr (.inr (.inr (gQ w rM))))))], gB w rM cI h (gM w K), [(tA, .inl (cD, w, .inr (.inr (.inr (.inr (gQ w rT))))))], gB w rT cZ h (gZ w T), [(qR, .inl (cJ, w, .inr (.inr (.inr (.inr (gQ w rR))))))], gB w rR cI h (gV w (lV K LL)), [(q_60, .inl (cI, (w * h), .inl (sX K LL w h w 0)))]] : gW)) H := hP
                            have hD : va_D A (List.flatten ([g_394, [(m0, .inr (2, [.int (nI w), .int (nI h), .int (nI nd), .int wv, .ref mA, .ref tA]))], [(mA, .inl (cJ, w, .inr (.inr (.inr (.inr (gQ w rM))))))], gB w rM cI h (gM w K), [(tA, .inl (cD, w, .inr (.inr (.inr (.inr (gQ w rT))))))], gB w rT cZ h (gZ w T), [(qR, .inl (cJ, w, .inr (.inr (.inr (.inr (gQ w rR))))))], gB w rR cI h (gV w (lV K LL)), [(q_60, .inl (cI, (w * h), .inl (sX K LL w h w 0)))]] : gW)) := hD
                            obtain ⟨hp_394, hg_394⟩ := hp_394
                            have hg_394 : CT cI w h nd wv T K h0 g_394 := hg_394
                            refine z_topi (y := nI (rsm w h K mm (w * h))) (hp_394) ?_
                            refine lv_iload hx hb dX2_isSame_397 (lv_at hl 10 rfl) ?_
                            refine z_topi (y := nI (rsm w h K mm (w * h))) (congrArg nI (mQ_tot w h K mm)) ?_
                            refine lv_icmp_ne (tgt := 413) hx hb dX2_isSame_399 (by decide) (fun c_399 => ?_) (fun c_399 => ?_)
                            · skip
                              exact absurd rfl c_399
                            · skip
                              refine lv_aload_n hx hb dX2_isSame_402 rfl (lv_at hl 1 rfl) ?_
                              refine lv_iload hx hb dX2_isSame_403 (lv_at hl 9 rfl) ?_
                              obtain ⟨fs9, ho9⟩ := CT_obj hg_394
                              refine s_callVi (As := [.int (nI mm)]) (rest := []) F9 (k_greatestRegion l dC dI cI cZ cJ cD hg_394 gk h1 h4 hK4 mm (by omega) (by omega)) (cwV 1 hts gX2_isSame_X1_greatestRegion rfl rfl rfl (by decide +kernel) ⟨Nat.le_of_ble_eq_true rfl, Nat.le_of_ble_eq_true rfl⟩) hK hN hP hD hS hA [0] [1, 2, 3, 4, 5, 6, 7, 8] 9 rfl rfl (by decide) (fun (u : va_W) => ([u, [(m0, .inr (2, [.int (nI w), .int (nI h), .int (nI nd), .int wv, .ref mA, .ref tA]))], [(mA, .inl (cJ, w, .inr (.inr (.inr (.inr (gQ w rM))))))], gB w rM cI h (gM w K), [(tA, .inl (cD, w, .inr (.inr (.inr (.inr (gQ w rT))))))], gB w rT cZ h (gZ w T), [(qR, .inl (cJ, w, .inr (.inr (.inr (.inr (gQ w rR))))))], gB w rR cI h (gV w (lV K LL)), [(q_60, .inl (cI, (w * h), .inl (sX K LL w h w 0)))]] : gW)) [0] [1, 2, 3, 4, 5, 6, 7, 8] 9 (fun _ => rfl) (fun _ => rfl) (fun _ => rfl) (by decide) 0 0 (ci := 1) rfl ho9 rfl rfl rfl hl.1 rfl (Nat.le_of_ble_eq_true rfl) dX2_isSame_405 ⟨by show 7 + 0 ≤ 7; omega, by show 55 + 0 ≤ 55; omega⟩ (fun r_405 g_405 H locs hp_405 hP hD hS => ?_)
                              have hP : va_P (dC, dI) vwCl (List.flatten ([g_405, [(m0, .inr (2, [.int (nI w), .int (nI h), .int (nI nd), .int wv, .ref mA, .ref tA]))], [(mA, .inl (cJ, w, .inr (.inr (.inr (.inr (gQ w rM))))))], gB w rM cI h (gM w K), [(tA, .inl (cD, w, .inr (.inr (.inr (.inr (gQ w rT))))))], gB w rT cZ h (gZ w T), [(qR, .inl (cJ, w, .inr (.inr (.inr (.inr (gQ w rR))))))], gB w rR cI h (gV w (lV K LL)), [(q_60, .inl (cI, (w * h), .inl (sX K LL w h w 0)))]] : gW)) H := hP
                              have hD : va_D A (List.flatten ([g_405, [(m0, .inr (2, [.int (nI w), .int (nI h), .int (nI nd), .int wv, .ref mA, .ref tA]))], [(mA, .inl (cJ, w, .inr (.inr (.inr (.inr (gQ w rM))))))], gB w rM cI h (gM w K), [(tA, .inl (cD, w, .inr (.inr (.inr (.inr (gQ w rT))))))], gB w rT cZ h (gZ w T), [(qR, .inl (cJ, w, .inr (.inr (.inr (.inr (gQ w rR))))))], gB w rR cI h (gV w (lV K LL)), [(q_60, .inl (cI, (w * h), .inl (sX K LL w h w 0)))]] : gW)) := hD
                              obtain ⟨hp_405, hg_405⟩ := hp_405
                              have hg_405 : CT cI w h nd wv T K h0 g_405 := hg_405
                              refine z_topi (y := nI (rmx w h K mm (w * h))) (hp_405) ?_
                              refine lv_iload hx hb dX2_isSame_408 (lv_at hl 11 rfl) ?_
                              refine z_topi (y := nI (rmx w h K mm (w * h))) (congrArg nI (mx_end hmx)) ?_
                              refine lv_icmp_eq (tgt := 415) hx hb dX2_isSame_410 (by decide) (fun c_410 => ?_) (fun c_410 => ?_)
                              · skip
                                refine lv_aload_n hx hb dX2_isSame_415 rfl (lv_at hl 0 rfl) ?_
                                refine lv_iload hx hb dX2_isSame_416 (lv_at hl 9 rfl) ?_
                                refine s_callVi (As := [.int (nI mm)]) (rest := []) F9 (m_X2_cells l dC dI cI cZ cJ cD m0 w h nd wv mA rM K tA rT T mm (gk) (hK4) (by omega)) (cwV 1 hts gX2_isSame_X2_cells rfl rfl rfl (by decide +kernel) ⟨Nat.le_of_ble_eq_true rfl, Nat.le_of_ble_eq_true rfl⟩) hK hN hP hD hS hA [1, 2, 3, 4, 5] [0, 6, 7, 8] 9 rfl rfl (by decide) (fun (_ : Unit) => ([g_405, [(m0, .inr (2, [.int (nI w), .int (nI h), .int (nI nd), .int wv, .ref mA, .ref tA]))], [(mA, .inl (cJ, w, .inr (.inr (.inr (.inr (gQ w rM))))))], gB w rM cI h (gM w K), [(tA, .inl (cD, w, .inr (.inr (.inr (.inr (gQ w rT))))))], gB w rT cZ h (gZ w T), [(qR, .inl (cJ, w, .inr (.inr (.inr (.inr (gQ w rR))))))], gB w rR cI h (gV w (lV K LL)), [(q_60, .inl (cI, (w * h), .inl (sX K LL w h w 0)))]] : gW)) [1, 2, 3, 4, 5] [0, 6, 7, 8] 9 (fun _ => rfl) (fun _ => rfl) (fun _ => rfl) (by decide) 1 0 (ci := 2) rfl rfl rfl rfl rfl hl.1 rfl (Nat.le_of_ble_eq_true rfl) dX2_isSame_418 ⟨by show 7 + 0 ≤ 7; omega, by show 55 + 0 ≤ 55; omega⟩ (fun r_418 u H locs hp_418 hP hD hS => ?_)
                                have hP : va_P (dC, dI) vwCl (List.flatten ([g_405, [(m0, .inr (2, [.int (nI w), .int (nI h), .int (nI nd), .int wv, .ref mA, .ref tA]))], [(mA, .inl (cJ, w, .inr (.inr (.inr (.inr (gQ w rM))))))], gB w rM cI h (gM w K), [(tA, .inl (cD, w, .inr (.inr (.inr (.inr (gQ w rT))))))], gB w rT cZ h (gZ w T), [(qR, .inl (cJ, w, .inr (.inr (.inr (.inr (gQ w rR))))))], gB w rR cI h (gV w (lV K LL)), [(q_60, .inl (cI, (w * h), .inl (sX K LL w h w 0)))]] : gW)) H := hP
                                have hD : va_D A (List.flatten ([g_405, [(m0, .inr (2, [.int (nI w), .int (nI h), .int (nI nd), .int wv, .ref mA, .ref tA]))], [(mA, .inl (cJ, w, .inr (.inr (.inr (.inr (gQ w rM))))))], gB w rM cI h (gM w K), [(tA, .inl (cD, w, .inr (.inr (.inr (.inr (gQ w rT))))))], gB w rT cZ h (gZ w T), [(qR, .inl (cJ, w, .inr (.inr (.inr (.inr (gQ w rR))))))], gB w rR cI h (gV w (lV K LL)), [(q_60, .inl (cI, (w * h), .inl (sX K LL w h w 0)))]] : gW)) := hD
                                have hp_418 : r_418 = nI (ccN K mm (w * h)) := hp_418
                                refine z_topi (y := nI (ccN K mm (w * h))) (hp_418) ?_
                                have hf1 := ccN_le K mm (w * h)
                                suffices j_457 : ∀ v_457 : Int32, v_457 = (nI (if (0 < ccN K mm (w * h) ∧ ccN K ld (w * h) ≤ ccN K mm (w * h)) ∨ (ld = 0 ∧ 0 < ccN K mm (w * h)) then mm else ld)) → ∀ (H : Heap) (locs : List Loc) (ls : Array Slot), va_P (dC, dI) vwCl (List.flatten ([g_405, [(m0, .inr (2, [.int (nI w), .int (nI h), .int (nI nd), .int wv, .ref mA, .ref tA]))], [(mA, .inl (cJ, w, .inr (.inr (.inr (.inr (gQ w rM))))))], gB w rM cI h (gM w K), [(tA, .inl (cD, w, .inr (.inr (.inr (.inr (gQ w rT))))))], gB w rT cZ h (gZ w T), [(qR, .inl (cJ, w, .inr (.inr (.inr (.inr (gQ w rR))))))], gB w rR cI h (gV w (lV K LL)), [(q_60, .inl (cI, (w * h), .inl (sX K LL w h w 0)))]] : gW)) H → va_D A (List.flatten ([g_405, [(m0, .inr (2, [.int (nI w), .int (nI h), .int (nI nd), .int wv, .ref mA, .ref tA]))], [(mA, .inl (cJ, w, .inr (.inr (.inr (.inr (gQ w rM))))))], gB w rM cI h (gM w K), [(tA, .inl (cD, w, .inr (.inr (.inr (.inr (gQ w rT))))))], gB w rT cZ h (gZ w T), [(qR, .inl (cJ, w, .inr (.inr (.inr (.inr (gQ w rR))))))], gB w rR cI h (gV w (lV K LL)), [(q_60, .inl (cI, (w * h), .inl (sX K LL w h w 0)))]] : gW)) → va_S A s.heap H locs → lv_has ls 14 [(7, .int v_457), (0, .ref m0), (1, .ref h0), (2, .ref qR), (3, .ref q_60), (4, .int (nI (cN T w h w 0))), (5, .int (nI (cN (bQ w h K 1) w h w 0 + cN (bQ w h K 3) w h w 0))), (6, .int (bz (decide (cN (chQ w h nd T K) w h w 0 = 0)))), (8, .int (nI wn)), (9, .int (nI mm)), (10, .int (nI (cN (mQ w h K mm) w h w 0))), (11, .int (nI mx)), (12, .int (nI w))] → W p l e rmX2_isSame s m args below meth c H locs (7) (55) Q (F0 m 457 ls []) by
                                  refine lv_if_le (tgt := 439) hx hb dX2_isSame_421 (by decide) (fun c_421 => ?_) (fun c_421 => ?_)
                                  · skip
                                    have n_421 := zc_le_t (a := (ccN K mm (w * h))) (b := 0) (by omega) (by omega) c_421
                                    have hf3 := ld_le hld
                                    refine lv_iload hx hb dX2_isSame_439 (lv_at hl 7 rfl) ?_
                                    refine lv_if_ne (tgt := 457) hx hb dX2_isSame_441 (by decide) (fun c_441 => ?_) (fun c_441 => ?_)
                                    · skip
                                      have n_441 := zc_eq_f (a := ld) (b := 0) (by omega) (by omega) c_441
                                      exact j_457 _ (congrArg nI (if_neg (by omega)).symm) _ _ _ hP hD hS (lv_sub hl [7, 0, 1, 2, 3, 4, 5, 6, 8, 9, 10, 11, 12] rfl)
                                    · skip
                                      have n_441 := zc_eq_t (a := ld) (b := 0) (by omega) (by omega) c_441
                                      refine lv_aload_n hx hb dX2_isSame_444 rfl (lv_at hl 0 rfl) ?_
                                      refine lv_iload hx hb dX2_isSame_445 (lv_at hl 9 rfl) ?_
                                      refine s_callVi (As := [.int (nI mm)]) (rest := []) F9 (m_X2_cells l dC dI cI cZ cJ cD m0 w h nd wv mA rM K tA rT T mm (gk) (hK4) (by omega)) (cwV 1 hts gX2_isSame_X2_cells rfl rfl rfl (by decide +kernel) ⟨Nat.le_of_ble_eq_true rfl, Nat.le_of_ble_eq_true rfl⟩) hK hN hP hD hS hA [1, 2, 3, 4, 5] [0, 6, 7, 8] 9 rfl rfl (by decide) (fun (_ : Unit) => ([g_405, [(m0, .inr (2, [.int (nI w), .int (nI h), .int (nI nd), .int wv, .ref mA, .ref tA]))], [(mA, .inl (cJ, w, .inr (.inr (.inr (.inr (gQ w rM))))))], gB w rM cI h (gM w K), [(tA, .inl (cD, w, .inr (.inr (.inr (.inr (gQ w rT))))))], gB w rT cZ h (gZ w T), [(qR, .inl (cJ, w, .inr (.inr (.inr (.inr (gQ w rR))))))], gB w rR cI h (gV w (lV K LL)), [(q_60, .inl (cI, (w * h), .inl (sX K LL w h w 0)))]] : gW)) [1, 2, 3, 4, 5] [0, 6, 7, 8] 9 (fun _ => rfl) (fun _ => rfl) (fun _ => rfl) (by decide) 1 0 (ci := 2) rfl rfl rfl rfl rfl hl.1 rfl (Nat.le_of_ble_eq_true rfl) dX2_isSame_447 ⟨by show 7 + 0 ≤ 7; omega, by show 55 + 0 ≤ 55; omega⟩ (fun r_447 u H locs hp_447 hP hD hS => ?_)
                                      have hP : va_P (dC, dI) vwCl (List.flatten ([g_405, [(m0, .inr (2, [.int (nI w), .int (nI h), .int (nI nd), .int wv, .ref mA, .ref tA]))], [(mA, .inl (cJ, w, .inr (.inr (.inr (.inr (gQ w rM))))))], gB w rM cI h (gM w K), [(tA, .inl (cD, w, .inr (.inr (.inr (.inr (gQ w rT))))))], gB w rT cZ h (gZ w T), [(qR, .inl (cJ, w, .inr (.inr (.inr (.inr (gQ w rR))))))], gB w rR cI h (gV w (lV K LL)), [(q_60, .inl (cI, (w * h), .inl (sX K LL w h w 0)))]] : gW)) H := hP
                                      have hD : va_D A (List.flatten ([g_405, [(m0, .inr (2, [.int (nI w), .int (nI h), .int (nI nd), .int wv, .ref mA, .ref tA]))], [(mA, .inl (cJ, w, .inr (.inr (.inr (.inr (gQ w rM))))))], gB w rM cI h (gM w K), [(tA, .inl (cD, w, .inr (.inr (.inr (.inr (gQ w rT))))))], gB w rT cZ h (gZ w T), [(qR, .inl (cJ, w, .inr (.inr (.inr (.inr (gQ w rR))))))], gB w rR cI h (gV w (lV K LL)), [(q_60, .inl (cI, (w * h), .inl (sX K LL w h w 0)))]] : gW)) := hD
                                      have hp_447 : r_447 = nI (ccN K mm (w * h)) := hp_447
                                      refine z_topi (y := nI (ccN K mm (w * h))) (hp_447) ?_
                                      have hf1 := ccN_le K mm (w * h)
                                      refine lv_if_le (tgt := 457) hx hb dX2_isSame_450 (by decide) (fun c_450 => ?_) (fun c_450 => ?_)
                                      · skip
                                        have n_450 := zc_le_t (a := (ccN K mm (w * h))) (b := 0) (by omega) (by omega) c_450
                                        exact j_457 _ (congrArg nI (if_neg (by omega)).symm) _ _ _ hP hD hS (lv_sub hl [7, 0, 1, 2, 3, 4, 5, 6, 8, 9, 10, 11, 12] rfl)
                                      · skip
                                        have n_450 := zc_le_f (a := (ccN K mm (w * h))) (b := 0) (by omega) (by omega) c_450
                                        refine lv_iload hx hb dX2_isSame_453 (lv_at hl 9 rfl) ?_
                                        refine lv_istore (lv' := [(7, .int (nI mm)), (0, .ref m0), (1, .ref h0), (2, .ref qR), (3, .ref q_60), (4, .int (nI (cN T w h w 0))), (5, .int (nI (cN (bQ w h K 1) w h w 0 + cN (bQ w h K 3) w h w 0))), (6, .int (bz (decide (cN (chQ w h nd T K) w h w 0 = 0)))), (8, .int (nI wn)), (9, .int (nI mm)), (10, .int (nI (cN (mQ w h K mm) w h w 0))), (11, .int (nI mx)), (12, .int (nI w))]) hx hb dX2_isSame_455 hl (by decide) rfl (fun ls hl => ?_)
                                        exact j_457 _ (congrArg nI (if_pos (by omega)).symm) _ _ _ hP hD hS (lv_sub hl [0, 1, 2, 3, 4, 5, 6, 7, 8, 9, 10, 11, 12] rfl)
                                  · skip
                                    have n_421 := zc_le_f (a := (ccN K mm (w * h))) (b := 0) (by omega) (by omega) c_421
                                    refine lv_aload_n hx hb dX2_isSame_424 rfl (lv_at hl 0 rfl) ?_
                                    refine lv_iload hx hb dX2_isSame_425 (lv_at hl 9 rfl) ?_
                                    refine s_callVi (As := [.int (nI mm)]) (rest := []) F9 (m_X2_cells l dC dI cI cZ cJ cD m0 w h nd wv mA rM K tA rT T mm (gk) (hK4) (by omega)) (cwV 1 hts gX2_isSame_X2_cells rfl rfl rfl (by decide +kernel) ⟨Nat.le_of_ble_eq_true rfl, Nat.le_of_ble_eq_true rfl⟩) hK hN hP hD hS hA [1, 2, 3, 4, 5] [0, 6, 7, 8] 9 rfl rfl (by decide) (fun (_ : Unit) => ([g_405, [(m0, .inr (2, [.int (nI w), .int (nI h), .int (nI nd), .int wv, .ref mA, .ref tA]))], [(mA, .inl (cJ, w, .inr (.inr (.inr (.inr (gQ w rM))))))], gB w rM cI h (gM w K), [(tA, .inl (cD, w, .inr (.inr (.inr (.inr (gQ w rT))))))], gB w rT cZ h (gZ w T), [(qR, .inl (cJ, w, .inr (.inr (.inr (.inr (gQ w rR))))))], gB w rR cI h (gV w (lV K LL)), [(q_60, .inl (cI, (w * h), .inl (sX K LL w h w 0)))]] : gW)) [1, 2, 3, 4, 5] [0, 6, 7, 8] 9 (fun _ => rfl) (fun _ => rfl) (fun _ => rfl) (by decide) 1 0 (ci := 2) rfl rfl rfl rfl rfl hl.1 rfl (Nat.le_of_ble_eq_true rfl) dX2_isSame_427 ⟨by show 7 + 0 ≤ 7; omega, by show 55 + 0 ≤ 55; omega⟩ (fun r_427 u H locs hp_427 hP hD hS => ?_)
                                    have hP : va_P (dC, dI) vwCl (List.flatten ([g_405, [(m0, .inr (2, [.int (nI w), .int (nI h), .int (nI nd), .int wv, .ref mA, .ref tA]))], [(mA, .inl (cJ, w, .inr (.inr (.inr (.inr (gQ w rM))))))], gB w rM cI h (gM w K), [(tA, .inl (cD, w, .inr (.inr (.inr (.inr (gQ w rT))))))], gB w rT cZ h (gZ w T), [(qR, .inl (cJ, w, .inr (.inr (.inr (.inr (gQ w rR))))))], gB w rR cI h (gV w (lV K LL)), [(q_60, .inl (cI, (w * h), .inl (sX K LL w h w 0)))]] : gW)) H := hP
                                    have hD : va_D A (List.flatten ([g_405, [(m0, .inr (2, [.int (nI w), .int (nI h), .int (nI nd), .int wv, .ref mA, .ref tA]))], [(mA, .inl (cJ, w, .inr (.inr (.inr (.inr (gQ w rM))))))], gB w rM cI h (gM w K), [(tA, .inl (cD, w, .inr (.inr (.inr (.inr (gQ w rT))))))], gB w rT cZ h (gZ w T), [(qR, .inl (cJ, w, .inr (.inr (.inr (.inr (gQ w rR))))))], gB w rR cI h (gV w (lV K LL)), [(q_60, .inl (cI, (w * h), .inl (sX K LL w h w 0)))]] : gW)) := hD
                                    have hp_427 : r_427 = nI (ccN K mm (w * h)) := hp_427
                                    refine z_topi (y := nI (ccN K mm (w * h))) (hp_427) ?_
                                    refine lv_aload_n hx hb dX2_isSame_430 rfl (lv_at hl 0 rfl) ?_
                                    refine lv_iload hx hb dX2_isSame_431 (lv_at hl 7 rfl) ?_
                                    refine s_callVi (As := [.int (nI ld)]) (rest := [.int (nI (ccN K mm (w * h)))]) F9 (m_X2_cells l dC dI cI cZ cJ cD m0 w h nd wv mA rM K tA rT T ld (gk) (hK4) (by have := ld_le hld; omega)) (cwV 1 hts gX2_isSame_X2_cells rfl rfl rfl (by decide +kernel) ⟨Nat.le_of_ble_eq_true rfl, Nat.le_of_ble_eq_true rfl⟩) hK hN hP hD hS hA [1, 2, 3, 4, 5] [0, 6, 7, 8] 9 rfl rfl (by decide) (fun (_ : Unit) => ([g_405, [(m0, .inr (2, [.int (nI w), .int (nI h), .int (nI nd), .int wv, .ref mA, .ref tA]))], [(mA, .inl (cJ, w, .inr (.inr (.inr (.inr (gQ w rM))))))], gB w rM cI h (gM w K), [(tA, .inl (cD, w, .inr (.inr (.inr (.inr (gQ w rT))))))], gB w rT cZ h (gZ w T), [(qR, .inl (cJ, w, .inr (.inr (.inr (.inr (gQ w rR))))))], gB w rR cI h (gV w (lV K LL)), [(q_60, .inl (cI, (w * h), .inl (sX K LL w h w 0)))]] : gW)) [1, 2, 3, 4, 5] [0, 6, 7, 8] 9 (fun _ => rfl) (fun _ => rfl) (fun _ => rfl) (by decide) 1 0 (ci := 2) rfl rfl rfl rfl rfl hl.1 rfl (Nat.le_of_ble_eq_true rfl) dX2_isSame_433 ⟨by show 7 + 0 ≤ 7; omega, by show 55 + 0 ≤ 55; omega⟩ (fun r_433 u H locs hp_433 hP hD hS => ?_)
                                    have hP : va_P (dC, dI) vwCl (List.flatten ([g_405, [(m0, .inr (2, [.int (nI w), .int (nI h), .int (nI nd), .int wv, .ref mA, .ref tA]))], [(mA, .inl (cJ, w, .inr (.inr (.inr (.inr (gQ w rM))))))], gB w rM cI h (gM w K), [(tA, .inl (cD, w, .inr (.inr (.inr (.inr (gQ w rT))))))], gB w rT cZ h (gZ w T), [(qR, .inl (cJ, w, .inr (.inr (.inr (.inr (gQ w rR))))))], gB w rR cI h (gV w (lV K LL)), [(q_60, .inl (cI, (w * h), .inl (sX K LL w h w 0)))]] : gW)) H := hP
                                    have hD : va_D A (List.flatten ([g_405, [(m0, .inr (2, [.int (nI w), .int (nI h), .int (nI nd), .int wv, .ref mA, .ref tA]))], [(mA, .inl (cJ, w, .inr (.inr (.inr (.inr (gQ w rM))))))], gB w rM cI h (gM w K), [(tA, .inl (cD, w, .inr (.inr (.inr (.inr (gQ w rT))))))], gB w rT cZ h (gZ w T), [(qR, .inl (cJ, w, .inr (.inr (.inr (.inr (gQ w rR))))))], gB w rR cI h (gV w (lV K LL)), [(q_60, .inl (cI, (w * h), .inl (sX K LL w h w 0)))]] : gW)) := hD
                                    have hp_433 : r_433 = nI (ccN K ld (w * h)) := hp_433
                                    refine z_topi (y := nI (ccN K ld (w * h))) (hp_433) ?_
                                    have hf2 := ccN_le K ld (w * h)
                                    refine lv_icmp_ge (tgt := 453) hx hb dX2_isSame_436 (by decide) (fun c_436 => ?_) (fun c_436 => ?_)
                                    · skip
                                      have n_436 := zc_le_t (a := (ccN K ld (w * h))) (b := (ccN K mm (w * h))) (by omega) (by omega) c_436
                                      refine lv_iload hx hb dX2_isSame_453 (lv_at hl 9 rfl) ?_
                                      refine lv_istore (lv' := [(7, .int (nI mm)), (0, .ref m0), (1, .ref h0), (2, .ref qR), (3, .ref q_60), (4, .int (nI (cN T w h w 0))), (5, .int (nI (cN (bQ w h K 1) w h w 0 + cN (bQ w h K 3) w h w 0))), (6, .int (bz (decide (cN (chQ w h nd T K) w h w 0 = 0)))), (8, .int (nI wn)), (9, .int (nI mm)), (10, .int (nI (cN (mQ w h K mm) w h w 0))), (11, .int (nI mx)), (12, .int (nI w))]) hx hb dX2_isSame_455 hl (by decide) rfl (fun ls hl => ?_)
                                      exact j_457 _ (congrArg nI (if_pos (by omega)).symm) _ _ _ hP hD hS (lv_sub hl [0, 1, 2, 3, 4, 5, 6, 7, 8, 9, 10, 11, 12] rfl)
                                    · skip
                                      have n_436 := zc_le_f (a := (ccN K ld (w * h))) (b := (ccN K mm (w * h))) (by omega) (by omega) c_436
                                      have hf3 := ld_le hld
                                      refine lv_iload hx hb dX2_isSame_439 (lv_at hl 7 rfl) ?_
                                      refine lv_if_ne (tgt := 457) hx hb dX2_isSame_441 (by decide) (fun c_441 => ?_) (fun c_441 => ?_)
                                      · skip
                                        have n_441 := zc_eq_f (a := ld) (b := 0) (by omega) (by omega) c_441
                                        exact j_457 _ (congrArg nI (if_neg (by omega)).symm) _ _ _ hP hD hS (lv_sub hl [7, 0, 1, 2, 3, 4, 5, 6, 8, 9, 10, 11, 12] rfl)
                                      · skip
                                        have n_441 := zc_eq_t (a := ld) (b := 0) (by omega) (by omega) c_441
                                        refine lv_aload_n hx hb dX2_isSame_444 rfl (lv_at hl 0 rfl) ?_
                                        refine lv_iload hx hb dX2_isSame_445 (lv_at hl 9 rfl) ?_
                                        refine s_callVi (As := [.int (nI mm)]) (rest := []) F9 (m_X2_cells l dC dI cI cZ cJ cD m0 w h nd wv mA rM K tA rT T mm (gk) (hK4) (by omega)) (cwV 1 hts gX2_isSame_X2_cells rfl rfl rfl (by decide +kernel) ⟨Nat.le_of_ble_eq_true rfl, Nat.le_of_ble_eq_true rfl⟩) hK hN hP hD hS hA [1, 2, 3, 4, 5] [0, 6, 7, 8] 9 rfl rfl (by decide) (fun (_ : Unit) => ([g_405, [(m0, .inr (2, [.int (nI w), .int (nI h), .int (nI nd), .int wv, .ref mA, .ref tA]))], [(mA, .inl (cJ, w, .inr (.inr (.inr (.inr (gQ w rM))))))], gB w rM cI h (gM w K), [(tA, .inl (cD, w, .inr (.inr (.inr (.inr (gQ w rT))))))], gB w rT cZ h (gZ w T), [(qR, .inl (cJ, w, .inr (.inr (.inr (.inr (gQ w rR))))))], gB w rR cI h (gV w (lV K LL)), [(q_60, .inl (cI, (w * h), .inl (sX K LL w h w 0)))]] : gW)) [1, 2, 3, 4, 5] [0, 6, 7, 8] 9 (fun _ => rfl) (fun _ => rfl) (fun _ => rfl) (by decide) 1 0 (ci := 2) rfl rfl rfl rfl rfl hl.1 rfl (Nat.le_of_ble_eq_true rfl) dX2_isSame_447 ⟨by show 7 + 0 ≤ 7; omega, by show 55 + 0 ≤ 55; omega⟩ (fun r_447 u H locs hp_447 hP hD hS => ?_)
                                        have hP : va_P (dC, dI) vwCl (List.flatten ([g_405, [(m0, .inr (2, [.int (nI w), .int (nI h), .int (nI nd), .int wv, .ref mA, .ref tA]))], [(mA, .inl (cJ, w, .inr (.inr (.inr (.inr (gQ w rM))))))], gB w rM cI h (gM w K), [(tA, .inl (cD, w, .inr (.inr (.inr (.inr (gQ w rT))))))], gB w rT cZ h (gZ w T), [(qR, .inl (cJ, w, .inr (.inr (.inr (.inr (gQ w rR))))))], gB w rR cI h (gV w (lV K LL)), [(q_60, .inl (cI, (w * h), .inl (sX K LL w h w 0)))]] : gW)) H := hP
                                        have hD : va_D A (List.flatten ([g_405, [(m0, .inr (2, [.int (nI w), .int (nI h), .int (nI nd), .int wv, .ref mA, .ref tA]))], [(mA, .inl (cJ, w, .inr (.inr (.inr (.inr (gQ w rM))))))], gB w rM cI h (gM w K), [(tA, .inl (cD, w, .inr (.inr (.inr (.inr (gQ w rT))))))], gB w rT cZ h (gZ w T), [(qR, .inl (cJ, w, .inr (.inr (.inr (.inr (gQ w rR))))))], gB w rR cI h (gV w (lV K LL)), [(q_60, .inl (cI, (w * h), .inl (sX K LL w h w 0)))]] : gW)) := hD
                                        have hp_447 : r_447 = nI (ccN K mm (w * h)) := hp_447
                                        refine z_topi (y := nI (ccN K mm (w * h))) (hp_447) ?_
                                        have hf1 := ccN_le K mm (w * h)
                                        refine lv_if_le (tgt := 457) hx hb dX2_isSame_450 (by decide) (fun c_450 => ?_) (fun c_450 => ?_)
                                        · skip
                                          have n_450 := zc_le_t (a := (ccN K mm (w * h))) (b := 0) (by omega) (by omega) c_450
                                          exact j_457 _ (congrArg nI (if_neg (by omega)).symm) _ _ _ hP hD hS (lv_sub hl [7, 0, 1, 2, 3, 4, 5, 6, 8, 9, 10, 11, 12] rfl)
                                        · skip
                                          have n_450 := zc_le_f (a := (ccN K mm (w * h))) (b := 0) (by omega) (by omega) c_450
                                          refine lv_iload hx hb dX2_isSame_453 (lv_at hl 9 rfl) ?_
                                          refine lv_istore (lv' := [(7, .int (nI mm)), (0, .ref m0), (1, .ref h0), (2, .ref qR), (3, .ref q_60), (4, .int (nI (cN T w h w 0))), (5, .int (nI (cN (bQ w h K 1) w h w 0 + cN (bQ w h K 3) w h w 0))), (6, .int (bz (decide (cN (chQ w h nd T K) w h w 0 = 0)))), (8, .int (nI wn)), (9, .int (nI mm)), (10, .int (nI (cN (mQ w h K mm) w h w 0))), (11, .int (nI mx)), (12, .int (nI w))]) hx hb dX2_isSame_455 hl (by decide) rfl (fun ls hl => ?_)
                                          exact j_457 _ (congrArg nI (if_pos (by omega)).symm) _ _ _ hP hD hS (lv_sub hl [0, 1, 2, 3, 4, 5, 6, 7, 8, 9, 10, 11, 12] rfl)
                                intro v_457 h_v_457 H locs ls hP hD hS hl
                                subst h_v_457
                                refine lv_aload_n hx hb dX2_isSame_457 rfl (lv_at hl 1 rfl) ?_
                                refine lv_iload hx hb dX2_isSame_458 (lv_at hl 9 rfl) ?_
                                refine s_callVi (As := [.int (nI mm)]) (rest := []) F9 (m_X2_cells l dC dI cI cZ cJ cD m0 w h nd wv mA rM K tA rT T mm (gk) (hK4) (by omega)) (cwV 1 hts gX2_isSame_X2_cells rfl rfl rfl (by decide +kernel) ⟨Nat.le_of_ble_eq_true rfl, Nat.le_of_ble_eq_true rfl⟩) hK hN hP hD hS hA [1, 2, 3, 4, 5] [0, 6, 7, 8] 9 rfl rfl (by decide) (fun (_ : Unit) => ([g_405, [(m0, .inr (2, [.int (nI w), .int (nI h), .int (nI nd), .int wv, .ref mA, .ref tA]))], [(mA, .inl (cJ, w, .inr (.inr (.inr (.inr (gQ w rM))))))], gB w rM cI h (gM w K), [(tA, .inl (cD, w, .inr (.inr (.inr (.inr (gQ w rT))))))], gB w rT cZ h (gZ w T), [(qR, .inl (cJ, w, .inr (.inr (.inr (.inr (gQ w rR))))))], gB w rR cI h (gV w (lV K LL)), [(q_60, .inl (cI, (w * h), .inl (sX K LL w h w 0)))]] : gW)) [1, 2, 3, 4, 5] [0, 6, 7, 8] 9 (fun _ => rfl) (fun _ => rfl) (fun _ => rfl) (by decide) 1 0 (ci := 2) rfl rfl rfl rfl rfl hl.1 rfl (Nat.le_of_ble_eq_true rfl) dX2_isSame_460 ⟨by show 7 + 0 ≤ 7; omega, by show 55 + 0 ≤ 55; omega⟩ (fun r_460 u H locs hp_460 hP hD hS => ?_)
                                have hP : va_P (dC, dI) vwCl (List.flatten ([g_405, [(m0, .inr (2, [.int (nI w), .int (nI h), .int (nI nd), .int wv, .ref mA, .ref tA]))], [(mA, .inl (cJ, w, .inr (.inr (.inr (.inr (gQ w rM))))))], gB w rM cI h (gM w K), [(tA, .inl (cD, w, .inr (.inr (.inr (.inr (gQ w rT))))))], gB w rT cZ h (gZ w T), [(qR, .inl (cJ, w, .inr (.inr (.inr (.inr (gQ w rR))))))], gB w rR cI h (gV w (lV K LL)), [(q_60, .inl (cI, (w * h), .inl (sX K LL w h w 0)))]] : gW)) H := hP
                                have hD : va_D A (List.flatten ([g_405, [(m0, .inr (2, [.int (nI w), .int (nI h), .int (nI nd), .int wv, .ref mA, .ref tA]))], [(mA, .inl (cJ, w, .inr (.inr (.inr (.inr (gQ w rM))))))], gB w rM cI h (gM w K), [(tA, .inl (cD, w, .inr (.inr (.inr (.inr (gQ w rT))))))], gB w rT cZ h (gZ w T), [(qR, .inl (cJ, w, .inr (.inr (.inr (.inr (gQ w rR))))))], gB w rR cI h (gV w (lV K LL)), [(q_60, .inl (cI, (w * h), .inl (sX K LL w h w 0)))]] : gW)) := hD
                                have hp_460 : r_460 = nI (ccN K mm (w * h)) := hp_460
                                refine z_topi (y := nI (ccN K mm (w * h))) (hp_460) ?_
                                refine lv_aload_n hx hb dX2_isSame_463 rfl (lv_at hl 1 rfl) ?_
                                refine s_get (D := (dC, dI)) (ci := 2) (v := .int (nI w)) (C := RX2) (T := TX2) (N := 6) hx hb hts iX2_isSame_X2 hown hK hP 1 0 rfl rfl rfl 0 (by decide) (hts (.fieldLink RX2 13 "ColourTideLaw$Sim" "w" "I") (List.mem_of_getElem? (i := 1) rfl)) (fun _ h9 => h9) rfl dX2_isSame_464 ?_
                                refine lv_aload_n hx hb dX2_isSame_467 rfl (lv_at hl 1 rfl) ?_
                                refine s_get (D := (dC, dI)) (ci := 2) (v := .int (nI h)) (C := RX2) (T := TX2) (N := 6) hx hb hts iX2_isSame_X2 hown hK hP 1 0 rfl rfl rfl 1 (by decide) (hts (.fieldLink RX2 16 "ColourTideLaw$Sim" "h" "I") (List.mem_of_getElem? (i := 2) rfl)) (fun _ h9 => h9) rfl dX2_isSame_468 ?_
                                refine lv_imul hx hb dX2_isSame_471 ?_
                                refine z_topi (y := nI (w * h)) (pk_mul w h) ?_
                                have hf1 := ccN_le K mm (w * h)
                                suffices j_479 : ∀ v_479 : Int32, v_479 = (nI (if ccN K mm (w * h) = w * h then mm else wn)) → ∀ (H : Heap) (locs : List Loc) (ls : Array Slot), va_P (dC, dI) vwCl (List.flatten ([g_405, [(m0, .inr (2, [.int (nI w), .int (nI h), .int (nI nd), .int wv, .ref mA, .ref tA]))], [(mA, .inl (cJ, w, .inr (.inr (.inr (.inr (gQ w rM))))))], gB w rM cI h (gM w K), [(tA, .inl (cD, w, .inr (.inr (.inr (.inr (gQ w rT))))))], gB w rT cZ h (gZ w T), [(qR, .inl (cJ, w, .inr (.inr (.inr (.inr (gQ w rR))))))], gB w rR cI h (gV w (lV K LL)), [(q_60, .inl (cI, (w * h), .inl (sX K LL w h w 0)))]] : gW)) H → va_D A (List.flatten ([g_405, [(m0, .inr (2, [.int (nI w), .int (nI h), .int (nI nd), .int wv, .ref mA, .ref tA]))], [(mA, .inl (cJ, w, .inr (.inr (.inr (.inr (gQ w rM))))))], gB w rM cI h (gM w K), [(tA, .inl (cD, w, .inr (.inr (.inr (.inr (gQ w rT))))))], gB w rT cZ h (gZ w T), [(qR, .inl (cJ, w, .inr (.inr (.inr (.inr (gQ w rR))))))], gB w rR cI h (gV w (lV K LL)), [(q_60, .inl (cI, (w * h), .inl (sX K LL w h w 0)))]] : gW)) → va_S A s.heap H locs → lv_has ls 14 [(8, .int v_479), (7, .int (nI (if (0 < ccN K mm (w * h) ∧ ccN K ld (w * h) ≤ ccN K mm (w * h)) ∨ (ld = 0 ∧ 0 < ccN K mm (w * h)) then mm else ld))), (0, .ref m0), (1, .ref h0), (2, .ref qR), (3, .ref q_60), (4, .int (nI (cN T w h w 0))), (5, .int (nI (cN (bQ w h K 1) w h w 0 + cN (bQ w h K 3) w h w 0))), (6, .int (bz (decide (cN (chQ w h nd T K) w h w 0 = 0)))), (9, .int (nI mm)), (10, .int (nI (cN (mQ w h K mm) w h w 0))), (11, .int (nI mx)), (12, .int (nI w))] → W p l e rmX2_isSame s m args below meth c H locs (7) (55) Q (F0 m 479 ls []) by
                                  refine lv_icmp_ne (tgt := 479) hx hb dX2_isSame_472 (by decide) (fun c_472 => ?_) (fun c_472 => ?_)
                                  · skip
                                    have n_472 := zc_eq_f (a := (ccN K mm (w * h))) (b := (w * h)) (by omega) (by omega) c_472
                                    exact j_479 _ (congrArg nI (if_neg n_472).symm) _ _ _ hP hD hS (lv_sub hl [8, 0, 1, 2, 3, 4, 5, 6, 7, 9, 10, 11, 12] rfl)
                                  · skip
                                    have n_472 := zc_eq_t (a := (ccN K mm (w * h))) (b := (w * h)) (by omega) (by omega) c_472
                                    refine lv_iload hx hb dX2_isSame_475 (lv_at hl 9 rfl) ?_
                                    refine lv_istore (lv' := [(8, .int (nI mm)), (7, .int (nI (if (0 < ccN K mm (w * h) ∧ ccN K ld (w * h) ≤ ccN K mm (w * h)) ∨ (ld = 0 ∧ 0 < ccN K mm (w * h)) then mm else ld))), (0, .ref m0), (1, .ref h0), (2, .ref qR), (3, .ref q_60), (4, .int (nI (cN T w h w 0))), (5, .int (nI (cN (bQ w h K 1) w h w 0 + cN (bQ w h K 3) w h w 0))), (6, .int (bz (decide (cN (chQ w h nd T K) w h w 0 = 0)))), (9, .int (nI mm)), (10, .int (nI (cN (mQ w h K mm) w h w 0))), (11, .int (nI mx)), (12, .int (nI w))]) hx hb dX2_isSame_477 hl (by decide) rfl (fun ls hl => ?_)
                                    exact j_479 _ (congrArg nI (if_pos n_472).symm) _ _ _ hP hD hS (lv_sub hl [0, 1, 2, 3, 4, 5, 6, 7, 8, 9, 10, 11, 12] rfl)
                                intro v_479 h_v_479 H locs ls hP hD hS hl
                                subst h_v_479
                                refine lv_iinc (v := nI (mm - 1)) (lv' := [(9, .int (nI (mm - 1))), (8, .int (nI (if ccN K mm (w * h) = w * h then mm else wn))), (7, .int (nI (if (0 < ccN K mm (w * h) ∧ ccN K ld (w * h) ≤ ccN K mm (w * h)) ∨ (ld = 0 ∧ 0 < ccN K mm (w * h)) then mm else ld))), (0, .ref m0), (1, .ref h0), (2, .ref qR), (3, .ref q_60), (4, .int (nI (cN T w h w 0))), (5, .int (nI (cN (bQ w h K 1) w h w 0 + cN (bQ w h K 3) w h w 0))), (6, .int (bz (decide (cN (chQ w h nd T K) w h w 0 = 0)))), (10, .int (nI (cN (mQ w h K mm) w h w 0))), (11, .int (nI mx)), (12, .int (nI w))]) hx hb dX2_isSame_479 hl (k := 9) rfl (m1_nI (by omega)) (by decide) rfl (fun ls hl => ?_)
                                refine lv_goto (tgt := 280) hx hb dX2_isSame_482 (by decide) ?_
                                exact ih_280 (mm - 1) (if (0 < ccN K mm (w * h) ∧ ccN K ld (w * h) ≤ ccN K mm (w * h)) ∨ (ld = 0 ∧ 0 < ccN K mm (w * h)) then mm else ld) (if ccN K mm (w * h) = w * h then mm else wn) g_405 (by omega) (by omega) (ld_next (f := (ccF K (w * h))) ⟨by omega, hm⟩ hld) (wn_next (f := (ccF K (w * h))) ⟨by omega, hm⟩ hwn) (hg_405) _ _ _ hP hD hS (lv_sub hl [3, 4, 5, 6, 7, 8, 9, 2, 1, 0] rfl)
                              · skip
                                exact absurd rfl c_410
                          · skip
                            have n_300 := zc_le_f (a := w) (b := x) (by omega) (by omega) c_300
                            exact absurd n_300 (by omega)
                        | succ n ih_294 =>
                          intro x mx hkn hmx H locs ls hP hD hS hl
                          refine lv_iload hx hb dX2_isSame_294 (lv_at hl 12 rfl) ?_
                          refine lv_aload_n hx hb dX2_isSame_296 rfl (lv_at hl 0 rfl) ?_
                          refine s_get (D := (dC, dI)) (ci := 2) (v := .int (nI w)) (C := RX2) (T := TX2) (N := 6) hx hb hts iX2_isSame_X2 hown hK hP 1 0 rfl rfl rfl 0 (by decide) (hts (.fieldLink RX2 13 "ColourTideLaw$Sim" "w" "I") (List.mem_of_getElem? (i := 1) rfl)) (fun _ h9 => h9) rfl dX2_isSame_297 ?_
                          refine lv_icmp_ge (tgt := 391) hx hb dX2_isSame_300 (by decide) (fun c_300 => ?_) (fun c_300 => ?_)
                          · skip
                            have n_300 := zc_le_t (a := w) (b := x) (by omega) (by omega) c_300
                            exact absurd n_300 (by omega)
                          · skip
                            have n_300 := zc_le_f (a := w) (b := x) (by omega) (by omega) c_300
                            refine lv_iconst (v := 0) hx hb dX2_isSame_303 (by decide) ?_
                            refine lv_istore (lv' := [(13, .int 0), (0, .ref m0), (1, .ref h0), (2, .ref qR), (3, .ref q_60), (4, .int (nI (cN T w h w 0))), (5, .int (nI (cN (bQ w h K 1) w h w 0 + cN (bQ w h K 3) w h w 0))), (6, .int (bz (decide (cN (chQ w h nd T K) w h w 0 = 0)))), (7, .int (nI ld)), (8, .int (nI wn)), (9, .int (nI mm)), (10, .int (nI (cN (mQ w h K mm) w h x 0))), (11, .int (nI mx)), (12, .int (nI x))]) hx hb dX2_isSame_304 hl (by decide) rfl (fun ls hl => ?_)
                            have loop_306 : ∀ (n : Nat) (y : Nat) (mx : Nat) (hkn : y + n = h) (hmx : mxI w h K mm x y mx) (H : Heap) (locs : List Loc) (ls : Array Slot) (hP : va_P (dC, dI) vwCl (List.flatten ([gBB, [(m0, .inr (2, [.int (nI w), .int (nI h), .int (nI nd), .int wv, .ref mA, .ref tA]))], [(mA, .inl (cJ, w, .inr (.inr (.inr (.inr (gQ w rM))))))], gB w rM cI h (gM w K), [(tA, .inl (cD, w, .inr (.inr (.inr (.inr (gQ w rT))))))], gB w rT cZ h (gZ w T), [(qR, .inl (cJ, w, .inr (.inr (.inr (.inr (gQ w rR))))))], gB w rR cI h (gV w (lV K LL)), [(q_60, .inl (cI, (w * h), .inl (sX K LL w h w 0)))]] : gW)) H) (hD : va_D A (List.flatten ([gBB, [(m0, .inr (2, [.int (nI w), .int (nI h), .int (nI nd), .int wv, .ref mA, .ref tA]))], [(mA, .inl (cJ, w, .inr (.inr (.inr (.inr (gQ w rM))))))], gB w rM cI h (gM w K), [(tA, .inl (cD, w, .inr (.inr (.inr (.inr (gQ w rT))))))], gB w rT cZ h (gZ w T), [(qR, .inl (cJ, w, .inr (.inr (.inr (.inr (gQ w rR))))))], gB w rR cI h (gV w (lV K LL)), [(q_60, .inl (cI, (w * h), .inl (sX K LL w h w 0)))]] : gW))) (hS : va_S A s.heap H locs) (hl : lv_has ls 14 [(0, .ref m0), (1, .ref h0), (2, .ref qR), (3, .ref q_60), (4, .int (nI (cN T w h w 0))), (5, .int (nI (cN (bQ w h K 1) w h w 0 + cN (bQ w h K 3) w h w 0))), (6, .int (bz (decide (cN (chQ w h nd T K) w h w 0 = 0)))), (7, .int (nI ld)), (8, .int (nI wn)), (9, .int (nI mm)), (10, .int (nI (cN (mQ w h K mm) w h x y))), (11, .int (nI mx)), (12, .int (nI x)), (13, .int (nI y))]), W p l e rmX2_isSame s m args below meth c H locs (7) (55) Q (F0 m 306 ls []) := by
                              intro n
                              induction n with
                              | zero =>
                                intro y mx hkn hmx H locs ls hP hD hS hl
                                refine lv_iload hx hb dX2_isSame_306 (lv_at hl 13 rfl) ?_
                                refine lv_aload_n hx hb dX2_isSame_308 rfl (lv_at hl 0 rfl) ?_
                                refine s_get (D := (dC, dI)) (ci := 2) (v := .int (nI h)) (C := RX2) (T := TX2) (N := 6) hx hb hts iX2_isSame_X2 hown hK hP 1 0 rfl rfl rfl 1 (by decide) (hts (.fieldLink RX2 16 "ColourTideLaw$Sim" "h" "I") (List.mem_of_getElem? (i := 2) rfl)) (fun _ h9 => h9) rfl dX2_isSame_309 ?_
                                refine lv_icmp_ge (tgt := 385) hx hb dX2_isSame_312 (by decide) (fun c_312 => ?_) (fun c_312 => ?_)
                                · skip
                                  have n_312 := zc_le_t (a := h) (b := y) (by omega) (by omega) c_312
                                  refine lv_iinc (v := nI (x + 1)) (lv' := [(12, .int (nI (x + 1))), (0, .ref m0), (1, .ref h0), (2, .ref qR), (3, .ref q_60), (4, .int (nI (cN T w h w 0))), (5, .int (nI (cN (bQ w h K 1) w h w 0 + cN (bQ w h K 3) w h w 0))), (6, .int (bz (decide (cN (chQ w h nd T K) w h w 0 = 0)))), (7, .int (nI ld)), (8, .int (nI wn)), (9, .int (nI mm)), (10, .int (nI (cN (mQ w h K mm) w h x y))), (11, .int (nI mx)), (13, .int (nI y))]) hx hb dX2_isSame_385 hl (k := 12) rfl (nI_1 x) (by decide) rfl (fun ls hl => ?_)
                                  refine lv_goto (tgt := 294) hx hb dX2_isSame_388 (by decide) ?_
                                  have hl9 := hl
                                  have hP9 := hP
                                  have hD9 := hD
                                  have hS9 := hS
                                  obtain rfl : h = y := by omega
                                  have hl := hl9
                                  have hP := hP9
                                  have hD := hD9
                                  have hS := hS9
                                  exact ih_294 (x + 1) mx (by omega) (mx_row hmx) _ _ _ hP hD hS (lv_sub hl [1, 2, 3, 4, 5, 6, 7, 8, 9, 10, 11, 12, 0] rfl)
                                · skip
                                  have n_312 := zc_le_f (a := h) (b := y) (by omega) (by omega) c_312
                                  exact absurd n_312 (by omega)
                              | succ n ih_306 =>
                                intro y mx hkn hmx H locs ls hP hD hS hl
                                refine lv_iload hx hb dX2_isSame_306 (lv_at hl 13 rfl) ?_
                                refine lv_aload_n hx hb dX2_isSame_308 rfl (lv_at hl 0 rfl) ?_
                                refine s_get (D := (dC, dI)) (ci := 2) (v := .int (nI h)) (C := RX2) (T := TX2) (N := 6) hx hb hts iX2_isSame_X2 hown hK hP 1 0 rfl rfl rfl 1 (by decide) (hts (.fieldLink RX2 16 "ColourTideLaw$Sim" "h" "I") (List.mem_of_getElem? (i := 2) rfl)) (fun _ h9 => h9) rfl dX2_isSame_309 ?_
                                refine lv_icmp_ge (tgt := 385) hx hb dX2_isSame_312 (by decide) (fun c_312 => ?_) (fun c_312 => ?_)
                                · skip
                                  have n_312 := zc_le_t (a := h) (b := y) (by omega) (by omega) c_312
                                  exact absurd n_312 (by omega)
                                · skip
                                  have n_312 := zc_le_f (a := h) (b := y) (by omega) (by omega) c_312
                                  have hxw : x < w := by omega
                                  have hyh : y < h := by omega
                                  have hcc := cell_lt hxw hyh
                                  have hk9 := hK4 (w * y + x)
                                  refine lv_aload_n hx hb dX2_isSame_315 rfl (lv_at hl 0 rfl) ?_
                                  refine s_get (D := (dC, dI)) (ci := 2) (v := .ref mA) (C := RX2) (T := TX2) (N := 6) hx hb hts iX2_isSame_X2 hown hK hP 1 0 rfl rfl rfl 4 (by decide) (hts (.fieldLink RX2 21 "ColourTideLaw$Sim" "map" "[[I") (List.mem_of_getElem? (i := 7) rfl)) (fun _ h9 => h9) rfl dX2_isSame_316 ?_
                                  refine lv_iload hx hb dX2_isSame_319 (lv_at hl 12 rfl) ?_
                                  refine s_qald hx hb hK hP 2 2 rfl rfl rfl x (rfl) (by omega) (by omega) dX2_isSame_321 ?_
                                  refine lv_iload hx hb dX2_isSame_322 (lv_at hl 13 rfl) ?_
                                  refine s_gald hx hb hK hP 3 0 x rfl (by omega) rfl y (rfl) (by omega) (by omega) dX2_isSame_324 ?_
                                  refine z_topi (y := nI (K (w * y + x))) (rfl) ?_
                                  refine lv_iload hx hb dX2_isSame_325 (lv_at hl 9 rfl) ?_
                                  refine lv_icmp_eq (tgt := 333) hx hb dX2_isSame_327 (by decide) (fun c_327 => ?_) (fun c_327 => ?_)
                                  · skip
                                    have n_327 := zc_eq_t (a := (K (w * y + x))) (b := mm) (by omega) (by omega) c_327
                                    have hk0 : K (w * y + x) ≠ 0 := by omega
                                    have hlb := (hRL _ hcc hk0).2.2
                                    refine lv_iload hx hb dX2_isSame_333 (lv_at hl 10 rfl) ?_
                                    refine lv_aload_n hx hb dX2_isSame_335 rfl (lv_at hl 2 rfl) ?_
                                    refine lv_iload hx hb dX2_isSame_336 (lv_at hl 12 rfl) ?_
                                    refine s_qald hx hb hK hP 6 2 rfl rfl rfl x (rfl) (by omega) (by omega) dX2_isSame_338 ?_
                                    refine lv_iload hx hb dX2_isSame_339 (lv_at hl 13 rfl) ?_
                                    refine s_gald hx hb hK hP 7 0 x rfl (by omega) rfl y (rfl) (by omega) (by omega) dX2_isSame_341 ?_
                                    refine z_topi (y := nI (LL (w * y + x))) (lV_n hk0) ?_
                                    refine lv_aload_n hx hb dX2_isSame_342 rfl (lv_at hl 0 rfl) ?_
                                    refine s_get (D := (dC, dI)) (ci := 2) (v := .int (nI w)) (C := RX2) (T := TX2) (N := 6) hx hb hts iX2_isSame_X2 hown hK hP 1 0 rfl rfl rfl 0 (by decide) (hts (.fieldLink RX2 13 "ColourTideLaw$Sim" "w" "I") (List.mem_of_getElem? (i := 1) rfl)) (fun _ h9 => h9) rfl dX2_isSame_343 ?_
                                    refine lv_iload hx hb dX2_isSame_346 (lv_at hl 13 rfl) ?_
                                    refine lv_imul hx hb dX2_isSame_348 ?_
                                    refine z_topi (y := nI (w * y)) (pk_mul w y) ?_
                                    refine lv_iload hx hb dX2_isSame_349 (lv_at hl 12 rfl) ?_
                                    refine lv_iadd hx hb dX2_isSame_351 ?_
                                    refine z_topi (y := nI ((w * y) + x)) (nI_add (w * y) x) ?_
                                    suffices j_360 : ∀ v_360 : Int32, v_360 = (nI (bN (mQ w h K mm (w * y + x)))) → W p l e rmX2_isSame s m args below meth c H locs (7) (55) Q (F0 m 360 ls [.int v_360, .int (nI (cN (mQ w h K mm) w h x y))]) by
                                      refine lv_icmp_ne (tgt := 359) hx hb dX2_isSame_352 (by decide) (fun c_352 => ?_) (fun c_352 => ?_)
                                      · skip
                                        have n_352 := zc_eq_f (a := (LL (w * y + x))) (b := ((w * y) + x)) (by omega) (by omega) c_352
                                        refine lv_iconst (v := 0) hx hb dX2_isSame_359 (by decide) ?_
                                        exact j_360 _ (mQ_2 hRL hcc (by omega) n_327 n_352)
                                      · skip
                                        have n_352 := zc_eq_t (a := (LL (w * y + x))) (b := ((w * y) + x)) (by omega) (by omega) c_352
                                        refine lv_iconst (v := 1) hx hb dX2_isSame_355 (by decide) ?_
                                        refine lv_goto (tgt := 360) hx hb dX2_isSame_356 (by decide) ?_
                                        exact j_360 _ (mQ_1 hRL hcc (by omega) n_327 n_352)
                                    intro v_360 h_v_360
                                    rw [h_v_360]
                                    refine lv_iadd hx hb dX2_isSame_360 ?_
                                    refine z_topi (y := nI (cN (mQ w h K mm) w h x (y + 1))) (cN_step _ w h x y) ?_
                                    refine lv_istore (lv' := [(10, .int (nI (cN (mQ w h K mm) w h x (y + 1)))), (0, .ref m0), (1, .ref h0), (2, .ref qR), (3, .ref q_60), (4, .int (nI (cN T w h w 0))), (5, .int (nI (cN (bQ w h K 1) w h w 0 + cN (bQ w h K 3) w h w 0))), (6, .int (bz (decide (cN (chQ w h nd T K) w h w 0 = 0)))), (7, .int (nI ld)), (8, .int (nI wn)), (9, .int (nI mm)), (11, .int (nI mx)), (12, .int (nI x)), (13, .int (nI y))]) hx hb dX2_isSame_361 hl (by decide) rfl (fun ls hl => ?_)
                                    refine lv_iload hx hb dX2_isSame_363 (lv_at hl 11 rfl) ?_
                                    refine lv_aload_n hx hb dX2_isSame_365 rfl (lv_at hl 4 rfl) ?_
                                    refine lv_aload_n hx hb dX2_isSame_366 rfl (lv_at hl 3 rfl) ?_
                                    refine lv_iload hx hb dX2_isSame_367 (lv_at hl 12 rfl) ?_
                                    refine s_qald hx hb hK hP 6 2 rfl rfl rfl x (rfl) (by omega) (by omega) dX2_isSame_369 ?_
                                    refine lv_iload hx hb dX2_isSame_370 (lv_at hl 13 rfl) ?_
                                    refine s_gald hx hb hK hP 7 0 x rfl (by omega) rfl y (rfl) (by omega) (by omega) dX2_isSame_372 ?_
                                    refine z_topi (y := nI (LL (w * y + x))) (lV_n hk0) ?_
                                    refine s_iald hx hb hK hP 8 0 0 rfl rfl rfl (LL (w * y + x)) (rfl) (by omega) (by omega) dX2_isSame_373 ?_
                                    refine z_topi (y := nI (rsz w h K (w * y + x))) (sX_size hRL hcc hk0) ?_
                                    refine va_mmax hx hb (by rw [hml]; exact hl.1.symm) hown (hts (.methodLink RX2 79 Lib.Math.max.name) (List.mem_of_getElem? (i := 8) rfl)) (hts (.static Lib.Math.max.name) (List.mem_of_getElem? (i := 9) rfl)) (hts (.initialized "java/lang/Math") (List.mem_of_getElem? (i := 10) rfl)) (hts (.code Lib.Math.max.name Lib.Math.max.code 2 (some .int)) (List.mem_of_getElem? (i := 11) rfl)) (Nat.le_of_ble_eq_true rfl) (Nat.le_of_ble_eq_true rfl) (by show 7 ≤ 7; omega) (by show 55 ≤ 55; omega) dX2_isSame_374 ?_
                                    refine z_topi (y := nI (if mx < rsz w h K (w * y + x) then rsz w h K (w * y + x) else mx)) (max_nI (by have := mx_bd hmx; omega) (by have := rsz_le w h K (w * y + x); omega)) ?_
                                    refine lv_istore (lv' := [(11, .int (nI (if mx < rsz w h K (w * y + x) then rsz w h K (w * y + x) else mx))), (10, .int (nI (cN (mQ w h K mm) w h x (y + 1)))), (0, .ref m0), (1, .ref h0), (2, .ref qR), (3, .ref q_60), (4, .int (nI (cN T w h w 0))), (5, .int (nI (cN (bQ w h K 1) w h w 0 + cN (bQ w h K 3) w h w 0))), (6, .int (bz (decide (cN (chQ w h nd T K) w h w 0 = 0)))), (7, .int (nI ld)), (8, .int (nI wn)), (9, .int (nI mm)), (12, .int (nI x)), (13, .int (nI y))]) hx hb dX2_isSame_377 hl (by decide) rfl (fun ls hl => ?_)
                                    refine lv_iinc (v := nI (y + 1)) (lv' := [(13, .int (nI (y + 1))), (11, .int (nI (if mx < rsz w h K (w * y + x) then rsz w h K (w * y + x) else mx))), (10, .int (nI (cN (mQ w h K mm) w h x (y + 1)))), (0, .ref m0), (1, .ref h0), (2, .ref qR), (3, .ref q_60), (4, .int (nI (cN T w h w 0))), (5, .int (nI (cN (bQ w h K 1) w h w 0 + cN (bQ w h K 3) w h w 0))), (6, .int (bz (decide (cN (chQ w h nd T K) w h w 0 = 0)))), (7, .int (nI ld)), (8, .int (nI wn)), (9, .int (nI mm)), (12, .int (nI x))]) hx hb dX2_isSame_379 hl (k := 13) rfl (nI_1 y) (by decide) rfl (fun ls hl => ?_)
                                    refine lv_goto (tgt := 306) hx hb dX2_isSame_382 (by decide) ?_
                                    exact ih_306 (y + 1) (if mx < rsz w h K (w * y + x) then rsz w h K (w * y + x) else mx) (by omega) (mx_yes hmx hcc n_327) _ _ _ hP hD hS (lv_sub hl [3, 4, 5, 6, 7, 8, 9, 10, 11, 12, 2, 1, 13, 0] rfl)
                                  · skip
                                    have n_327 := zc_eq_f (a := (K (w * y + x))) (b := mm) (by omega) (by omega) c_327
                                    rw [mQ_no (x := x) (y := y) n_327] at hl
                                    refine lv_goto (tgt := 379) hx hb dX2_isSame_330 (by decide) ?_
                                    refine lv_iinc (v := nI (y + 1)) (lv' := [(13, .int (nI (y + 1))), (0, .ref m0), (1, .ref h0), (2, .ref qR), (3, .ref q_60), (4, .int (nI (cN T w h w 0))), (5, .int (nI (cN (bQ w h K 1) w h w 0 + cN (bQ w h K 3) w h w 0))), (6, .int (bz (decide (cN (chQ w h nd T K) w h w 0 = 0)))), (7, .int (nI ld)), (8, .int (nI wn)), (9, .int (nI mm)), (10, .int (nI (cN (mQ w h K mm) w h x (y + 1)))), (11, .int (nI mx)), (12, .int (nI x))]) hx hb dX2_isSame_379 hl (k := 13) rfl (nI_1 y) (by decide) rfl (fun ls hl => ?_)
                                    refine lv_goto (tgt := 306) hx hb dX2_isSame_382 (by decide) ?_
                                    exact ih_306 (y + 1) mx (by omega) (mx_no hmx n_327) _ _ _ hP hD hS (lv_sub hl [1, 2, 3, 4, 5, 6, 7, 8, 9, 10, 11, 12, 13, 0] rfl)
                            exact loop_306 h 0 mx (by omega) (hmx) _ _ _ hP hD hS (lv_sub hl [1, 2, 3, 4, 5, 6, 7, 8, 9, 10, 11, 12, 13, 0] rfl)
                      exact loop_294 w 0 0 (by omega) (mx_0 w h K mm) _ _ _ hP hD hS (lv_sub hl [3, 4, 5, 6, 7, 8, 9, 10, 11, 12, 2, 1, 0] rfl)
                have hl9 := hl
                have hP9 := hP
                have hD9 := hD
                have hS9 := hS
                obtain rfl : w = x := by omega
                have hl := hl9
                have hP := hP9
                have hD := hD9
                have hS := hS9
                exact loop_280 4 4 0 0 g_34 (rfl) (by omega) (ld_0 _) (wn_0 _ _) (hg_34) _ _ _ hP hD hS (lv_sub hl [3, 4, 5, 6, 7, 8, 9, 2, 1, 0] rfl)
              · skip
                have n_81 := zc_le_f (a := w) (b := x) (by omega) (by omega) c_81
                exact absurd n_81 (by omega)
            | succ n ih_75 =>
              intro x hkn  H locs ls hP hD hS hl
              refine lv_iload hx hb dX2_isSame_75 (lv_at hl 7 rfl) ?_
              refine lv_aload_n hx hb dX2_isSame_77 rfl (lv_at hl 0 rfl) ?_
              refine s_get (D := (dC, dI)) (ci := 2) (v := .int (nI w)) (C := RX2) (T := TX2) (N := 6) hx hb hts iX2_isSame_X2 hown hK hP 1 0 rfl rfl rfl 0 (by decide) (hts (.fieldLink RX2 13 "ColourTideLaw$Sim" "w" "I") (List.mem_of_getElem? (i := 1) rfl)) (fun _ h9 => h9) rfl dX2_isSame_78 ?_
              refine lv_icmp_ge (tgt := 271) hx hb dX2_isSame_81 (by decide) (fun c_81 => ?_) (fun c_81 => ?_)
              · skip
                have n_81 := zc_le_t (a := w) (b := x) (by omega) (by omega) c_81
                exact absurd n_81 (by omega)
              · skip
                have n_81 := zc_le_f (a := w) (b := x) (by omega) (by omega) c_81
                refine lv_iconst (v := 0) hx hb dX2_isSame_84 (by decide) ?_
                refine lv_istore (lv' := [(8, .int 0), (0, .ref m0), (1, .ref h0), (2, .ref qR), (3, .ref q_60), (4, .int (nI (cN T w h x 0))), (5, .int (nI (cN (bQ w h K 1) w h x 0 + cN (bQ w h K 3) w h x 0))), (6, .int (bz (decide (cN (chQ w h nd T K) w h x 0 = 0)))), (7, .int (nI x))]) hx hb dX2_isSame_85 hl (by decide) rfl (fun ls hl => ?_)
                have loop_87 : ∀ (n : Nat) (y : Nat) (hkn : y + n = h) (H : Heap) (locs : List Loc) (ls : Array Slot) (hP : va_P (dC, dI) vwCl (List.flatten ([g_34, [(m0, .inr (2, [.int (nI w), .int (nI h), .int (nI nd), .int wv, .ref mA, .ref tA]))], [(mA, .inl (cJ, w, .inr (.inr (.inr (.inr (gQ w rM))))))], gB w rM cI h (gM w K), [(tA, .inl (cD, w, .inr (.inr (.inr (.inr (gQ w rT))))))], gB w rT cZ h (gZ w T), [(qR, .inl (cJ, w, .inr (.inr (.inr (.inr (gQ w rR))))))], gB w rR cI h (gV w (lV K LL)), [(q_60, .inl (cI, (w * h), .inl (sX K LL w h x y)))]] : gW)) H) (hD : va_D A (List.flatten ([g_34, [(m0, .inr (2, [.int (nI w), .int (nI h), .int (nI nd), .int wv, .ref mA, .ref tA]))], [(mA, .inl (cJ, w, .inr (.inr (.inr (.inr (gQ w rM))))))], gB w rM cI h (gM w K), [(tA, .inl (cD, w, .inr (.inr (.inr (.inr (gQ w rT))))))], gB w rT cZ h (gZ w T), [(qR, .inl (cJ, w, .inr (.inr (.inr (.inr (gQ w rR))))))], gB w rR cI h (gV w (lV K LL)), [(q_60, .inl (cI, (w * h), .inl (sX K LL w h x y)))]] : gW))) (hS : va_S A s.heap H locs) (hl : lv_has ls 14 [(0, .ref m0), (1, .ref h0), (2, .ref qR), (3, .ref q_60), (4, .int (nI (cN T w h x y))), (5, .int (nI (cN (bQ w h K 1) w h x y + cN (bQ w h K 3) w h x y))), (6, .int (bz (decide (cN (chQ w h nd T K) w h x y = 0)))), (7, .int (nI x)), (8, .int (nI y))]), W p l e rmX2_isSame s m args below meth c H locs (7) (55) Q (F0 m 87 ls []) := by
                  intro n
                  induction n with
                  | zero =>
                    intro y hkn  H locs ls hP hD hS hl
                    refine lv_iload hx hb dX2_isSame_87 (lv_at hl 8 rfl) ?_
                    refine lv_aload_n hx hb dX2_isSame_89 rfl (lv_at hl 0 rfl) ?_
                    refine s_get (D := (dC, dI)) (ci := 2) (v := .int (nI h)) (C := RX2) (T := TX2) (N := 6) hx hb hts iX2_isSame_X2 hown hK hP 1 0 rfl rfl rfl 1 (by decide) (hts (.fieldLink RX2 16 "ColourTideLaw$Sim" "h" "I") (List.mem_of_getElem? (i := 2) rfl)) (fun _ h9 => h9) rfl dX2_isSame_90 ?_
                    refine lv_icmp_ge (tgt := 265) hx hb dX2_isSame_93 (by decide) (fun c_93 => ?_) (fun c_93 => ?_)
                    · skip
                      have n_93 := zc_le_t (a := h) (b := y) (by omega) (by omega) c_93
                      refine lv_iinc (v := nI (x + 1)) (lv' := [(7, .int (nI (x + 1))), (0, .ref m0), (1, .ref h0), (2, .ref qR), (3, .ref q_60), (4, .int (nI (cN T w h x y))), (5, .int (nI (cN (bQ w h K 1) w h x y + cN (bQ w h K 3) w h x y))), (6, .int (bz (decide (cN (chQ w h nd T K) w h x y = 0)))), (8, .int (nI y))]) hx hb dX2_isSame_265 hl (k := 7) rfl (nI_1 x) (by decide) rfl (fun ls hl => ?_)
                      refine lv_goto (tgt := 75) hx hb dX2_isSame_268 (by decide) ?_
                      have hl9 := hl
                      have hP9 := hP
                      have hD9 := hD
                      have hS9 := hS
                      obtain rfl : h = y := by omega
                      have hl := hl9
                      have hP := hP9
                      have hD := hD9
                      have hS := hS9
                      exact ih_75 (x + 1) (by omega)  _ _ _ hP hD hS (lv_sub hl [1, 2, 3, 4, 5, 6, 7, 0] rfl)
                    · skip
                      have n_93 := zc_le_f (a := h) (b := y) (by omega) (by omega) c_93
                      exact absurd n_93 (by omega)
                  | succ n ih_87 =>
                    intro y hkn  H locs ls hP hD hS hl
                    refine lv_iload hx hb dX2_isSame_87 (lv_at hl 8 rfl) ?_
                    refine lv_aload_n hx hb dX2_isSame_89 rfl (lv_at hl 0 rfl) ?_
                    refine s_get (D := (dC, dI)) (ci := 2) (v := .int (nI h)) (C := RX2) (T := TX2) (N := 6) hx hb hts iX2_isSame_X2 hown hK hP 1 0 rfl rfl rfl 1 (by decide) (hts (.fieldLink RX2 16 "ColourTideLaw$Sim" "h" "I") (List.mem_of_getElem? (i := 2) rfl)) (fun _ h9 => h9) rfl dX2_isSame_90 ?_
                    refine lv_icmp_ge (tgt := 265) hx hb dX2_isSame_93 (by decide) (fun c_93 => ?_) (fun c_93 => ?_)
                    · skip
                      have n_93 := zc_le_t (a := h) (b := y) (by omega) (by omega) c_93
                      exact absurd n_93 (by omega)
                    · skip
                      have n_93 := zc_le_f (a := h) (b := y) (by omega) (by omega) c_93
                      have hxw : x < w := by omega
                      have hyh : y < h := by omega
                      have hcc := cell_lt hxw hyh
                      have hk9 := hK4 (w * y + x)
                      refine lv_aload_n hx hb dX2_isSame_96 rfl (lv_at hl 2 rfl) ?_
                      refine lv_iload hx hb dX2_isSame_97 (lv_at hl 7 rfl) ?_
                      refine s_qald hx hb hK hP 6 2 rfl rfl rfl x (rfl) (by omega) (by omega) dX2_isSame_99 ?_
                      refine lv_iload hx hb dX2_isSame_100 (lv_at hl 8 rfl) ?_
                      refine s_gald hx hb hK hP 7 0 x rfl (by omega) rfl y (rfl) (by omega) (by omega) dX2_isSame_102 ?_
                      refine z_topi (y := lV K LL (w * y + x)) (rfl) ?_
                      suffices j_119 : ∀ (H : Heap) (locs : List Loc) (ls : Array Slot), va_P (dC, dI) vwCl (List.flatten ([g_34, [(m0, .inr (2, [.int (nI w), .int (nI h), .int (nI nd), .int wv, .ref mA, .ref tA]))], [(mA, .inl (cJ, w, .inr (.inr (.inr (.inr (gQ w rM))))))], gB w rM cI h (gM w K), [(tA, .inl (cD, w, .inr (.inr (.inr (.inr (gQ w rT))))))], gB w rT cZ h (gZ w T), [(qR, .inl (cJ, w, .inr (.inr (.inr (.inr (gQ w rR))))))], gB w rR cI h (gV w (lV K LL)), [(q_60, .inl (cI, (w * h), .inl (sX K LL w h x (y + 1))))]] : gW)) H → va_D A (List.flatten ([g_34, [(m0, .inr (2, [.int (nI w), .int (nI h), .int (nI nd), .int wv, .ref mA, .ref tA]))], [(mA, .inl (cJ, w, .inr (.inr (.inr (.inr (gQ w rM))))))], gB w rM cI h (gM w K), [(tA, .inl (cD, w, .inr (.inr (.inr (.inr (gQ w rT))))))], gB w rT cZ h (gZ w T), [(qR, .inl (cJ, w, .inr (.inr (.inr (.inr (gQ w rR))))))], gB w rR cI h (gV w (lV K LL)), [(q_60, .inl (cI, (w * h), .inl (sX K LL w h x (y + 1))))]] : gW)) → va_S A s.heap H locs → lv_has ls 14 [(0, .ref m0), (1, .ref h0), (2, .ref qR), (3, .ref q_60), (4, .int (nI (cN T w h x y))), (5, .int (nI (cN (bQ w h K 1) w h x y + cN (bQ w h K 3) w h x y))), (6, .int (bz (decide (cN (chQ w h nd T K) w h x y = 0)))), (7, .int (nI x)), (8, .int (nI y))] → W p l e rmX2_isSame s m args below meth c H locs (7) (55) Q (F0 m 119 ls []) by
                        refine lv_if_lt (tgt := 119) hx hb dX2_isSame_103 (by decide) (fun c_103 => ?_) (fun c_103 => ?_)
                        · skip
                          have hk0 : K (w * y + x) = 0 := by rcases Nat.eq_zero_or_pos (K (w * y + x)) with z | z; exact z; exact lV_lt (by have := (hRL _ hcc (by omega)).2.2; omega) c_103
                          rw [sX_bare (x := x) (y := y) hk0] at hP hD
                          exact j_119 _ _ _ hP hD hS (lv_sub hl [0, 1, 2, 3, 4, 5, 6, 7, 8] rfl)
                        · skip
                          have hk0 : K (w * y + x) ≠ 0 := lV_nlt c_103
                          have hlb := (hRL _ hcc hk0).2.2
                          refine lv_aload_n hx hb dX2_isSame_106 rfl (lv_at hl 3 rfl) ?_
                          refine lv_aload_n hx hb dX2_isSame_107 rfl (lv_at hl 2 rfl) ?_
                          refine lv_iload hx hb dX2_isSame_108 (lv_at hl 7 rfl) ?_
                          refine s_qald hx hb hK hP 6 2 rfl rfl rfl x (rfl) (by omega) (by omega) dX2_isSame_110 ?_
                          refine lv_iload hx hb dX2_isSame_111 (lv_at hl 8 rfl) ?_
                          refine s_gald hx hb hK hP 7 0 x rfl (by omega) rfl y (rfl) (by omega) (by omega) dX2_isSame_113 ?_
                          refine z_topi (y := nI (LL (w * y + x))) (lV_n hk0) ?_
                          refine lv_dup2_11 hx hb dX2_isSame_114 rfl rfl ?_
                          refine s_iald hx hb hK hP 8 0 0 rfl rfl rfl (LL (w * y + x)) (rfl) (by omega) (by omega) dX2_isSame_115 ?_
                          refine z_topi (y := nI (cN (lq K LL (LL (w * y + x))) w h x y)) (rfl) ?_
                          refine lv_iconst (v := 1) hx hb dX2_isSame_116 (by decide) ?_
                          refine lv_iadd hx hb dX2_isSame_117 ?_
                          refine z_topi (y := nI ((cN (lq K LL (LL (w * y + x))) w h x y) + 1)) (nI_add (cN (lq K LL (LL (w * y + x))) w h x y) 1) ?_
                          refine s_iast hx hb hK hP hD hS 8 0 0 rfl rfl rfl (LL (w * y + x)) (rfl) (by omega) (by omega) dX2_isSame_118 (fun H locs hP hD hS => ?_)
                          have hP : va_P (dC, dI) vwCl (List.flatten ([g_34, [(m0, .inr (2, [.int (nI w), .int (nI h), .int (nI nd), .int wv, .ref mA, .ref tA]))], [(mA, .inl (cJ, w, .inr (.inr (.inr (.inr (gQ w rM))))))], gB w rM cI h (gM w K), [(tA, .inl (cD, w, .inr (.inr (.inr (.inr (gQ w rT))))))], gB w rT cZ h (gZ w T), [(qR, .inl (cJ, w, .inr (.inr (.inr (.inr (gQ w rR))))))], gB w rR cI h (gV w (lV K LL)), [(q_60, .inl (cI, (w * h), .inl (upd (sX K LL w h x y) (LL (w * y + x)) (nI ((cN (lq K LL (LL (w * y + x))) w h x y) + 1)))))]] : gW)) H := hP
                          have hD : va_D A (List.flatten ([g_34, [(m0, .inr (2, [.int (nI w), .int (nI h), .int (nI nd), .int wv, .ref mA, .ref tA]))], [(mA, .inl (cJ, w, .inr (.inr (.inr (.inr (gQ w rM))))))], gB w rM cI h (gM w K), [(tA, .inl (cD, w, .inr (.inr (.inr (.inr (gQ w rT))))))], gB w rT cZ h (gZ w T), [(qR, .inl (cJ, w, .inr (.inr (.inr (.inr (gQ w rR))))))], gB w rR cI h (gV w (lV K LL)), [(q_60, .inl (cI, (w * h), .inl (upd (sX K LL w h x y) (LL (w * y + x)) (nI ((cN (lq K LL (LL (w * y + x))) w h x y) + 1)))))]] : gW)) := hD
                          have e_118 : upd (sX K LL w h x y) (LL (w * y + x)) (nI ((cN (lq K LL (LL (w * y + x))) w h x y) + 1)) = (sX K LL w h x (y + 1)) := sX_add hk0
                          rw [e_118] at hP hD
                          exact j_119 _ _ _ hP hD hS (lv_sub hl [0, 1, 2, 3, 4, 5, 6, 7, 8] rfl)
                      intro H locs ls hP hD hS hl
                      refine lv_iload hx hb dX2_isSame_119 (lv_at hl 4 rfl) ?_
                      refine lv_aload_n hx hb dX2_isSame_121 rfl (lv_at hl 0 rfl) ?_
                      refine s_get (D := (dC, dI)) (ci := 2) (v := .ref tA) (C := RX2) (T := TX2) (N := 6) hx hb hts iX2_isSame_X2 hown hK hP 1 0 rfl rfl rfl 5 (by decide) (hts (.fieldLink RX2 26 "ColourTideLaw$Sim" "stubborn" "[[Z") (List.mem_of_getElem? (i := 6) rfl)) (fun _ h9 => h9) rfl dX2_isSame_122 ?_
                      refine lv_iload hx hb dX2_isSame_125 (lv_at hl 7 rfl) ?_
                      refine s_qald hx hb hK hP 4 3 rfl rfl rfl x (rfl) (by omega) (by omega) dX2_isSame_127 ?_
                      refine lv_iload hx hb dX2_isSame_128 (lv_at hl 8 rfl) ?_
                      refine s_gzald hx hb hK hP 5 1 x rfl (by omega) rfl y (rfl) (by omega) (by omega) dX2_isSame_130 ?_
                      refine z_topi (y := bz (T (w * y + x))) (rfl) ?_
                      suffices j_139 : ∀ v_139 : Int32, v_139 = (nI (bN (T (w * y + x)))) → W p l e rmX2_isSame s m args below meth c H locs (7) (55) Q (F0 m 139 ls [.int v_139, .int (nI (cN T w h x y))]) by
                        refine lv_if_eq (tgt := 138) hx hb dX2_isSame_131 (by decide) (fun c_131 => ?_) (fun c_131 => ?_)
                        · skip
                          refine lv_iconst (v := 0) hx hb dX2_isSame_138 (by decide) ?_
                          exact j_139 _ (by rw [bz_0 c_131]; rfl)
                        · skip
                          refine lv_iconst (v := 1) hx hb dX2_isSame_134 (by decide) ?_
                          refine lv_goto (tgt := 139) hx hb dX2_isSame_135 (by decide) ?_
                          exact j_139 _ (by rw [bz_1 c_131]; rfl)
                      intro v_139 h_v_139
                      rw [h_v_139]
                      refine lv_iadd hx hb dX2_isSame_139 ?_
                      refine z_topi (y := nI (cN T w h x (y + 1))) (cN_step T w h x y) ?_
                      refine lv_istore (lv' := [(4, .int (nI (cN T w h x (y + 1)))), (0, .ref m0), (1, .ref h0), (2, .ref qR), (3, .ref q_60), (5, .int (nI (cN (bQ w h K 1) w h x y + cN (bQ w h K 3) w h x y))), (6, .int (bz (decide (cN (chQ w h nd T K) w h x y = 0)))), (7, .int (nI x)), (8, .int (nI y))]) hx hb dX2_isSame_140 hl (by decide) rfl (fun ls hl => ?_)
                      refine lv_iload hx hb dX2_isSame_142 (lv_at hl 6 rfl) ?_
                      suffices j_173 : ∀ v_173 : Int32, v_173 = (bz (decide (cN (chQ w h nd T K) w h x (y + 1) = 0))) → ∀ (H : Heap) (locs : List Loc), va_P (dC, dI) vwCl (List.flatten ([g_34, [(m0, .inr (2, [.int (nI w), .int (nI h), .int (nI nd), .int wv, .ref mA, .ref tA]))], [(mA, .inl (cJ, w, .inr (.inr (.inr (.inr (gQ w rM))))))], gB w rM cI h (gM w K), [(tA, .inl (cD, w, .inr (.inr (.inr (.inr (gQ w rT))))))], gB w rT cZ h (gZ w T), [(qR, .inl (cJ, w, .inr (.inr (.inr (.inr (gQ w rR))))))], gB w rR cI h (gV w (lV K LL)), [(q_60, .inl (cI, (w * h), .inl (sX K LL w h x (y + 1))))]] : gW)) H → va_D A (List.flatten ([g_34, [(m0, .inr (2, [.int (nI w), .int (nI h), .int (nI nd), .int wv, .ref mA, .ref tA]))], [(mA, .inl (cJ, w, .inr (.inr (.inr (.inr (gQ w rM))))))], gB w rM cI h (gM w K), [(tA, .inl (cD, w, .inr (.inr (.inr (.inr (gQ w rT))))))], gB w rT cZ h (gZ w T), [(qR, .inl (cJ, w, .inr (.inr (.inr (.inr (gQ w rR))))))], gB w rR cI h (gV w (lV K LL)), [(q_60, .inl (cI, (w * h), .inl (sX K LL w h x (y + 1))))]] : gW)) → va_S A s.heap H locs → W p l e rmX2_isSame s m args below meth c H locs (7) (55) Q (F0 m 173 ls [.int v_173]) by
                        refine lv_if_eq (tgt := 172) hx hb dX2_isSame_144 (by decide) (fun c_144 => ?_) (fun c_144 => ?_)
                        · skip
                          refine lv_iconst (v := 0) hx hb dX2_isSame_172 (by decide) ?_
                          exact j_173 _ (st_f c_144) _ _ hP hD hS
                        · skip
                          refine lv_aload_n hx hb dX2_isSame_147 rfl (lv_at hl 1 rfl) ?_
                          refine lv_iload hx hb dX2_isSame_148 (lv_at hl 7 rfl) ?_
                          refine lv_iload hx hb dX2_isSame_150 (lv_at hl 8 rfl) ?_
                          refine s_callVi (As := [.int (nI x), .int (nI y)]) (rest := []) F9 (m_X2_next l dC dI cI cZ cJ cD m0 w h nd wv mA rM K tA rT T x y (gk) (h1) (h4) (hK4) (hxw) (hyh)) (cwV 2 hts gX2_isSame_X2_next rfl rfl rfl (by decide +kernel) ⟨Nat.le_of_ble_eq_true rfl, Nat.le_of_ble_eq_true rfl⟩) hK hN hP hD hS hA [1, 2, 3, 4, 5] [0, 6, 7, 8] 9 rfl rfl (by decide) (fun (_ : Unit) => ([g_34, [(m0, .inr (2, [.int (nI w), .int (nI h), .int (nI nd), .int wv, .ref mA, .ref tA]))], [(mA, .inl (cJ, w, .inr (.inr (.inr (.inr (gQ w rM))))))], gB w rM cI h (gM w K), [(tA, .inl (cD, w, .inr (.inr (.inr (.inr (gQ w rT))))))], gB w rT cZ h (gZ w T), [(qR, .inl (cJ, w, .inr (.inr (.inr (.inr (gQ w rR))))))], gB w rR cI h (gV w (lV K LL)), [(q_60, .inl (cI, (w * h), .inl (sX K LL w h x (y + 1))))]] : gW)) [1, 2, 3, 4, 5] [0, 6, 7, 8] 9 (fun _ => rfl) (fun _ => rfl) (fun _ => rfl) (by decide) 1 0 (ci := 2) rfl rfl rfl rfl rfl hl.1 rfl (Nat.le_of_ble_eq_true rfl) dX2_isSame_152 ⟨by show 7 + 0 ≤ 7; omega, by show 55 + 0 ≤ 55; omega⟩ (fun r_152 u H locs hp_152 hP hD hS => ?_)
                          have hP : va_P (dC, dI) vwCl (List.flatten ([g_34, [(m0, .inr (2, [.int (nI w), .int (nI h), .int (nI nd), .int wv, .ref mA, .ref tA]))], [(mA, .inl (cJ, w, .inr (.inr (.inr (.inr (gQ w rM))))))], gB w rM cI h (gM w K), [(tA, .inl (cD, w, .inr (.inr (.inr (.inr (gQ w rT))))))], gB w rT cZ h (gZ w T), [(qR, .inl (cJ, w, .inr (.inr (.inr (.inr (gQ w rR))))))], gB w rR cI h (gV w (lV K LL)), [(q_60, .inl (cI, (w * h), .inl (sX K LL w h x (y + 1))))]] : gW)) H := hP
                          have hD : va_D A (List.flatten ([g_34, [(m0, .inr (2, [.int (nI w), .int (nI h), .int (nI nd), .int wv, .ref mA, .ref tA]))], [(mA, .inl (cJ, w, .inr (.inr (.inr (.inr (gQ w rM))))))], gB w rM cI h (gM w K), [(tA, .inl (cD, w, .inr (.inr (.inr (.inr (gQ w rT))))))], gB w rT cZ h (gZ w T), [(qR, .inl (cJ, w, .inr (.inr (.inr (.inr (gQ w rR))))))], gB w rR cI h (gV w (lV K LL)), [(q_60, .inl (cI, (w * h), .inl (sX K LL w h x (y + 1))))]] : gW)) := hD
                          have hp_152 : r_152 = nI (nxt w h nd T K (w * y + x)) := hp_152
                          refine z_topi (y := nI (nxt w h nd T K (w * y + x))) (hp_152) ?_
                          refine lv_aload_n hx hb dX2_isSame_155 rfl (lv_at hl 1 rfl) ?_
                          refine s_get (D := (dC, dI)) (ci := 2) (v := .ref mA) (C := RX2) (T := TX2) (N := 6) hx hb hts iX2_isSame_X2 hown hK hP 1 0 rfl rfl rfl 4 (by decide) (hts (.fieldLink RX2 21 "ColourTideLaw$Sim" "map" "[[I") (List.mem_of_getElem? (i := 7) rfl)) (fun _ h9 => h9) rfl dX2_isSame_156 ?_
                          refine lv_iload hx hb dX2_isSame_159 (lv_at hl 7 rfl) ?_
                          refine s_qald hx hb hK hP 2 2 rfl rfl rfl x (rfl) (by omega) (by omega) dX2_isSame_161 ?_
                          refine lv_iload hx hb dX2_isSame_162 (lv_at hl 8 rfl) ?_
                          refine s_gald hx hb hK hP 3 0 x rfl (by omega) rfl y (rfl) (by omega) (by omega) dX2_isSame_164 ?_
                          refine z_topi (y := nI (K (w * y + x))) (rfl) ?_
                          have hn9 := nxt_le (w := w) (h := h) (T := T) h1 hK4 (w * y + x)
                          refine lv_icmp_ne (tgt := 172) hx hb dX2_isSame_165 (by decide) (fun c_165 => ?_) (fun c_165 => ?_)
                          · skip
                            have n_165 := zc_eq_f (a := (nxt w h nd T K (w * y + x))) (b := (K (w * y + x))) (by omega) (by omega) c_165
                            refine lv_iconst (v := 0) hx hb dX2_isSame_172 (by decide) ?_
                            exact j_173 _ (st_n n_165) _ _ hP hD hS
                          · skip
                            have n_165 := zc_eq_t (a := (nxt w h nd T K (w * y + x))) (b := (K (w * y + x))) (by omega) (by omega) c_165
                            refine lv_iconst (v := 1) hx hb dX2_isSame_168 (by decide) ?_
                            refine lv_goto (tgt := 173) hx hb dX2_isSame_169 (by decide) ?_
                            exact j_173 _ (st_y c_144 n_165) _ _ hP hD hS
                      intro v_173 h_v_173 H locs hP hD hS
                      rw [h_v_173]
                      refine lv_istore (lv' := [(6, .int (bz (decide (cN (chQ w h nd T K) w h x (y + 1) = 0)))), (4, .int (nI (cN T w h x (y + 1)))), (0, .ref m0), (1, .ref h0), (2, .ref qR), (3, .ref q_60), (5, .int (nI (cN (bQ w h K 1) w h x y + cN (bQ w h K 3) w h x y))), (7, .int (nI x)), (8, .int (nI y))]) hx hb dX2_isSame_173 hl (by decide) rfl (fun ls hl => ?_)
                      refine lv_aload_n hx hb dX2_isSame_175 rfl (lv_at hl 2 rfl) ?_
                      refine s_get (D := (dC, dI)) (ci := 2) (v := .ref mA) (C := RX2) (T := TX2) (N := 6) hx hb hts iX2_isSame_X2 hown hK hP 1 0 rfl rfl rfl 4 (by decide) (hts (.fieldLink RX2 21 "ColourTideLaw$Sim" "map" "[[I") (List.mem_of_getElem? (i := 7) rfl)) (fun _ h9 => h9) rfl dX2_isSame_176 ?_
                      refine lv_iload hx hb dX2_isSame_179 (lv_at hl 7 rfl) ?_
                      refine s_qald hx hb hK hP 2 2 rfl rfl rfl x (rfl) (by omega) (by omega) dX2_isSame_181 ?_
                      refine lv_iload hx hb dX2_isSame_182 (lv_at hl 8 rfl) ?_
                      refine s_gald hx hb hK hP 3 0 x rfl (by omega) rfl y (rfl) (by omega) (by omega) dX2_isSame_184 ?_
                      refine z_topi (y := nI (K (w * y + x))) (rfl) ?_
                      refine lv_istore (lv' := [(9, .int (nI (K (w * y + x)))), (6, .int (bz (decide (cN (chQ w h nd T K) w h x (y + 1) = 0)))), (4, .int (nI (cN T w h x (y + 1)))), (0, .ref m0), (1, .ref h0), (2, .ref qR), (3, .ref q_60), (5, .int (nI (cN (bQ w h K 1) w h x y + cN (bQ w h K 3) w h x y))), (7, .int (nI x)), (8, .int (nI y))]) hx hb dX2_isSame_185 hl (by decide) rfl (fun ls hl => ?_)
                      refine lv_iload hx hb dX2_isSame_187 (lv_at hl 0 rfl) ?_
                      suffices j_223 : ∀ v_223 : Int32, v_223 = (nI (cN (bQ w h K 1) w h x (y + 1) + cN (bQ w h K 3) w h x y)) → ∀ (H : Heap) (locs : List Loc) (ls : Array Slot), va_P (dC, dI) vwCl (List.flatten ([g_34, [(m0, .inr (2, [.int (nI w), .int (nI h), .int (nI nd), .int wv, .ref mA, .ref tA]))], [(mA, .inl (cJ, w, .inr (.inr (.inr (.inr (gQ w rM))))))], gB w rM cI h (gM w K), [(tA, .inl (cD, w, .inr (.inr (.inr (.inr (gQ w rT))))))], gB w rT cZ h (gZ w T), [(qR, .inl (cJ, w, .inr (.inr (.inr (.inr (gQ w rR))))))], gB w rR cI h (gV w (lV K LL)), [(q_60, .inl (cI, (w * h), .inl (sX K LL w h x (y + 1))))]] : gW)) H → va_D A (List.flatten ([g_34, [(m0, .inr (2, [.int (nI w), .int (nI h), .int (nI nd), .int wv, .ref mA, .ref tA]))], [(mA, .inl (cJ, w, .inr (.inr (.inr (.inr (gQ w rM))))))], gB w rM cI h (gM w K), [(tA, .inl (cD, w, .inr (.inr (.inr (.inr (gQ w rT))))))], gB w rT cZ h (gZ w T), [(qR, .inl (cJ, w, .inr (.inr (.inr (.inr (gQ w rR))))))], gB w rR cI h (gV w (lV K LL)), [(q_60, .inl (cI, (w * h), .inl (sX K LL w h x (y + 1))))]] : gW)) → va_S A s.heap H locs → lv_has ls 14 [(5, .int v_223), (9, .int (nI (K (w * y + x)))), (6, .int (bz (decide (cN (chQ w h nd T K) w h x (y + 1) = 0)))), (4, .int (nI (cN T w h x (y + 1)))), (0, .ref m0), (1, .ref h0), (2, .ref qR), (3, .ref q_60), (7, .int (nI x)), (8, .int (nI y))] → W p l e rmX2_isSame s m args below meth c H locs (7) (55) Q (F0 m 223 ls []) by
                        refine lv_if_le (tgt := 223) hx hb dX2_isSame_189 (by decide) (fun c_189 => ?_) (fun c_189 => ?_)
                        · skip
                          have n_189 := zc_le_t (a := (K (w * y + x))) (b := 0) (by omega) (by omega) c_189
                          exact j_223 _ (congrArg nI (by have h9 := bo_no hK4 (sv1 gk hxw hyh) (by omega); omega)) _ _ _ hP hD hS (lv_sub hl [7, 0, 1, 2, 3, 4, 5, 6, 8, 9] rfl)
                        · skip
                          have n_189 := zc_le_f (a := (K (w * y + x))) (b := 0) (by omega) (by omega) c_189
                          refine lv_aload_n hx hb dX2_isSame_192 rfl (lv_at hl 3 rfl) ?_
                          refine lv_iload hx hb dX2_isSame_193 (lv_at hl 8 rfl) ?_
                          refine lv_iconst (v := 1) hx hb dX2_isSame_195 (by decide) ?_
                          refine lv_iadd hx hb dX2_isSame_196 ?_
                          refine z_topi (y := nI (x + 1)) (nI_add x 1) ?_
                          refine lv_iload hx hb dX2_isSame_197 (lv_at hl 9 rfl) ?_
                          refine s_callVi (As := [.int (nI (x + 1)), .int (nI y)]) (rest := []) F9 (m_X2_at l dC dI cI cZ cJ cD m0 w h nd wv mA rM K tA rT T (nI (x + 1)) (nI y) (gk)) (cwV 2 hts gX2_isSame_X2_at rfl rfl rfl (by decide +kernel) ⟨Nat.le_of_ble_eq_true rfl, Nat.le_of_ble_eq_true rfl⟩) hK hN hP hD hS hA [1, 2, 3, 4, 5] [0, 6, 7, 8] 9 rfl rfl (by decide) (fun (_ : Unit) => ([g_34, [(m0, .inr (2, [.int (nI w), .int (nI h), .int (nI nd), .int wv, .ref mA, .ref tA]))], [(mA, .inl (cJ, w, .inr (.inr (.inr (.inr (gQ w rM))))))], gB w rM cI h (gM w K), [(tA, .inl (cD, w, .inr (.inr (.inr (.inr (gQ w rT))))))], gB w rT cZ h (gZ w T), [(qR, .inl (cJ, w, .inr (.inr (.inr (.inr (gQ w rR))))))], gB w rR cI h (gV w (lV K LL)), [(q_60, .inl (cI, (w * h), .inl (sX K LL w h x (y + 1))))]] : gW)) [1, 2, 3, 4, 5] [0, 6, 7, 8] 9 (fun _ => rfl) (fun _ => rfl) (fun _ => rfl) (by decide) 1 0 (ci := 2) rfl rfl rfl rfl rfl hl.1 rfl (Nat.le_of_ble_eq_true rfl) dX2_isSame_199 ⟨by show 7 + 0 ≤ 7; omega, by show 55 + 0 ≤ 55; omega⟩ (fun r_199 u H locs hp_199 hP hD hS => ?_)
                          have hP : va_P (dC, dI) vwCl (List.flatten ([g_34, [(m0, .inr (2, [.int (nI w), .int (nI h), .int (nI nd), .int wv, .ref mA, .ref tA]))], [(mA, .inl (cJ, w, .inr (.inr (.inr (.inr (gQ w rM))))))], gB w rM cI h (gM w K), [(tA, .inl (cD, w, .inr (.inr (.inr (.inr (gQ w rT))))))], gB w rT cZ h (gZ w T), [(qR, .inl (cJ, w, .inr (.inr (.inr (.inr (gQ w rR))))))], gB w rR cI h (gV w (lV K LL)), [(q_60, .inl (cI, (w * h), .inl (sX K LL w h x (y + 1))))]] : gW)) H := hP
                          have hD : va_D A (List.flatten ([g_34, [(m0, .inr (2, [.int (nI w), .int (nI h), .int (nI nd), .int wv, .ref mA, .ref tA]))], [(mA, .inl (cJ, w, .inr (.inr (.inr (.inr (gQ w rM))))))], gB w rM cI h (gM w K), [(tA, .inl (cD, w, .inr (.inr (.inr (.inr (gQ w rT))))))], gB w rT cZ h (gZ w T), [(qR, .inl (cJ, w, .inr (.inr (.inr (.inr (gQ w rR))))))], gB w rR cI h (gV w (lV K LL)), [(q_60, .inl (cI, (w * h), .inl (sX K LL w h x (y + 1))))]] : gW)) := hD
                          have hp_199 : r_199 = atI w h K (nI (x + 1)) (nI y) := hp_199
                          refine z_topi (y := atI w h K (nI (x + 1)) (nI y)) (hp_199) ?_
                          have ha9 := atN_le (w := w) (h := h) hK4 (nI (x + 1)) (nI y)
                          refine z_topi (y := nI (atN w h K (nI (x + 1)) (nI y))) (atI_nat _ _ _ _ _) ?_
                          refine lv_if_le (tgt := 223) hx hb dX2_isSame_202 (by decide) (fun c_202 => ?_) (fun c_202 => ?_)
                          · skip
                            have n_202 := zc_le_t (a := (atN w h K (nI (x + 1)) (nI y))) (b := 0) (by omega) (by omega) c_202
                            exact j_223 _ (congrArg nI (by have h9 := bo_no hK4 (sv1 gk hxw hyh) (by omega); omega)) _ _ _ hP hD hS (lv_sub hl [7, 0, 1, 2, 3, 4, 5, 6, 8, 9] rfl)
                          · skip
                            have n_202 := zc_le_f (a := (atN w h K (nI (x + 1)) (nI y))) (b := 0) (by omega) (by omega) c_202
                            refine lv_aload_n hx hb dX2_isSame_205 rfl (lv_at hl 3 rfl) ?_
                            refine lv_iload hx hb dX2_isSame_206 (lv_at hl 8 rfl) ?_
                            refine lv_iconst (v := 1) hx hb dX2_isSame_208 (by decide) ?_
                            refine lv_iadd hx hb dX2_isSame_209 ?_
                            refine z_topi (y := nI (x + 1)) (nI_add x 1) ?_
                            refine lv_iload hx hb dX2_isSame_210 (lv_at hl 9 rfl) ?_
                            refine s_callVi (As := [.int (nI (x + 1)), .int (nI y)]) (rest := []) F9 (m_X2_at l dC dI cI cZ cJ cD m0 w h nd wv mA rM K tA rT T (nI (x + 1)) (nI y) (gk)) (cwV 2 hts gX2_isSame_X2_at rfl rfl rfl (by decide +kernel) ⟨Nat.le_of_ble_eq_true rfl, Nat.le_of_ble_eq_true rfl⟩) hK hN hP hD hS hA [1, 2, 3, 4, 5] [0, 6, 7, 8] 9 rfl rfl (by decide) (fun (_ : Unit) => ([g_34, [(m0, .inr (2, [.int (nI w), .int (nI h), .int (nI nd), .int wv, .ref mA, .ref tA]))], [(mA, .inl (cJ, w, .inr (.inr (.inr (.inr (gQ w rM))))))], gB w rM cI h (gM w K), [(tA, .inl (cD, w, .inr (.inr (.inr (.inr (gQ w rT))))))], gB w rT cZ h (gZ w T), [(qR, .inl (cJ, w, .inr (.inr (.inr (.inr (gQ w rR))))))], gB w rR cI h (gV w (lV K LL)), [(q_60, .inl (cI, (w * h), .inl (sX K LL w h x (y + 1))))]] : gW)) [1, 2, 3, 4, 5] [0, 6, 7, 8] 9 (fun _ => rfl) (fun _ => rfl) (fun _ => rfl) (by decide) 1 0 (ci := 2) rfl rfl rfl rfl rfl hl.1 rfl (Nat.le_of_ble_eq_true rfl) dX2_isSame_212 ⟨by show 7 + 0 ≤ 7; omega, by show 55 + 0 ≤ 55; omega⟩ (fun r_212 u H locs hp_212 hP hD hS => ?_)
                            have hP : va_P (dC, dI) vwCl (List.flatten ([g_34, [(m0, .inr (2, [.int (nI w), .int (nI h), .int (nI nd), .int wv, .ref mA, .ref tA]))], [(mA, .inl (cJ, w, .inr (.inr (.inr (.inr (gQ w rM))))))], gB w rM cI h (gM w K), [(tA, .inl (cD, w, .inr (.inr (.inr (.inr (gQ w rT))))))], gB w rT cZ h (gZ w T), [(qR, .inl (cJ, w, .inr (.inr (.inr (.inr (gQ w rR))))))], gB w rR cI h (gV w (lV K LL)), [(q_60, .inl (cI, (w * h), .inl (sX K LL w h x (y + 1))))]] : gW)) H := hP
                            have hD : va_D A (List.flatten ([g_34, [(m0, .inr (2, [.int (nI w), .int (nI h), .int (nI nd), .int wv, .ref mA, .ref tA]))], [(mA, .inl (cJ, w, .inr (.inr (.inr (.inr (gQ w rM))))))], gB w rM cI h (gM w K), [(tA, .inl (cD, w, .inr (.inr (.inr (.inr (gQ w rT))))))], gB w rT cZ h (gZ w T), [(qR, .inl (cJ, w, .inr (.inr (.inr (.inr (gQ w rR))))))], gB w rR cI h (gV w (lV K LL)), [(q_60, .inl (cI, (w * h), .inl (sX K LL w h x (y + 1))))]] : gW)) := hD
                            have hp_212 : r_212 = atI w h K (nI (x + 1)) (nI y) := hp_212
                            refine z_topi (y := atI w h K (nI (x + 1)) (nI y)) (hp_212) ?_
                            have ha9 := atN_le (w := w) (h := h) hK4 (nI (x + 1)) (nI y)
                            refine z_topi (y := nI (atN w h K (nI (x + 1)) (nI y))) (atI_nat _ _ _ _ _) ?_
                            refine lv_iload hx hb dX2_isSame_215 (lv_at hl 0 rfl) ?_
                            refine lv_icmp_eq (tgt := 223) hx hb dX2_isSame_217 (by decide) (fun c_217 => ?_) (fun c_217 => ?_)
                            · skip
                              have n_217 := zc_eq_t (a := (atN w h K (nI (x + 1)) (nI y))) (b := (K (w * y + x))) (by omega) (by omega) c_217
                              exact j_223 _ (congrArg nI (by have h9 := bo_no hK4 (sv1 gk hxw hyh) (by omega); omega)) _ _ _ hP hD hS (lv_sub hl [7, 0, 1, 2, 3, 4, 5, 6, 8, 9] rfl)
                            · skip
                              have n_217 := zc_eq_f (a := (atN w h K (nI (x + 1)) (nI y))) (b := (K (w * y + x))) (by omega) (by omega) c_217
                              refine lv_iinc (v := nI ((cN (bQ w h K 1) w h x y + cN (bQ w h K 3) w h x y) + 1)) (lv' := [(5, .int (nI ((cN (bQ w h K 1) w h x y + cN (bQ w h K 3) w h x y) + 1))), (9, .int (nI (K (w * y + x)))), (6, .int (bz (decide (cN (chQ w h nd T K) w h x (y + 1) = 0)))), (4, .int (nI (cN T w h x (y + 1)))), (0, .ref m0), (1, .ref h0), (2, .ref qR), (3, .ref q_60), (7, .int (nI x)), (8, .int (nI y))]) hx hb dX2_isSame_220 hl (k := 7) rfl (nI_1 (cN (bQ w h K 1) w h x y + cN (bQ w h K 3) w h x y)) (by decide) rfl (fun ls hl => ?_)
                              exact j_223 _ (congrArg nI (by have h9 := bo_yes 0 hK4 (sv1 gk hxw hyh) (by omega); omega)) _ _ _ hP hD hS (lv_sub hl [0, 1, 2, 3, 4, 5, 6, 7, 8, 9] rfl)
                      intro v_223 h_v_223 H locs ls hP hD hS hl
                      subst h_v_223
                      refine lv_iload hx hb dX2_isSame_223 (lv_at hl 1 rfl) ?_
                      suffices j_259 : ∀ v_259 : Int32, v_259 = (nI (cN (bQ w h K 1) w h x (y + 1) + cN (bQ w h K 3) w h x (y + 1))) → ∀ (H : Heap) (locs : List Loc) (ls : Array Slot), va_P (dC, dI) vwCl (List.flatten ([g_34, [(m0, .inr (2, [.int (nI w), .int (nI h), .int (nI nd), .int wv, .ref mA, .ref tA]))], [(mA, .inl (cJ, w, .inr (.inr (.inr (.inr (gQ w rM))))))], gB w rM cI h (gM w K), [(tA, .inl (cD, w, .inr (.inr (.inr (.inr (gQ w rT))))))], gB w rT cZ h (gZ w T), [(qR, .inl (cJ, w, .inr (.inr (.inr (.inr (gQ w rR))))))], gB w rR cI h (gV w (lV K LL)), [(q_60, .inl (cI, (w * h), .inl (sX K LL w h x (y + 1))))]] : gW)) H → va_D A (List.flatten ([g_34, [(m0, .inr (2, [.int (nI w), .int (nI h), .int (nI nd), .int wv, .ref mA, .ref tA]))], [(mA, .inl (cJ, w, .inr (.inr (.inr (.inr (gQ w rM))))))], gB w rM cI h (gM w K), [(tA, .inl (cD, w, .inr (.inr (.inr (.inr (gQ w rT))))))], gB w rT cZ h (gZ w T), [(qR, .inl (cJ, w, .inr (.inr (.inr (.inr (gQ w rR))))))], gB w rR cI h (gV w (lV K LL)), [(q_60, .inl (cI, (w * h), .inl (sX K LL w h x (y + 1))))]] : gW)) → va_S A s.heap H locs → lv_has ls 14 [(5, .int v_259), (9, .int (nI (K (w * y + x)))), (6, .int (bz (decide (cN (chQ w h nd T K) w h x (y + 1) = 0)))), (4, .int (nI (cN T w h x (y + 1)))), (0, .ref m0), (1, .ref h0), (2, .ref qR), (3, .ref q_60), (7, .int (nI x)), (8, .int (nI y))] → W p l e rmX2_isSame s m args below meth c H locs (7) (55) Q (F0 m 259 ls []) by
                        refine lv_if_le (tgt := 259) hx hb dX2_isSame_225 (by decide) (fun c_225 => ?_) (fun c_225 => ?_)
                        · skip
                          have n_225 := zc_le_t (a := (K (w * y + x))) (b := 0) (by omega) (by omega) c_225
                          exact j_259 _ (congrArg nI (by have h9 := bo_no hK4 (sv3 gk hxw hyh) (by omega); omega)) _ _ _ hP hD hS (lv_sub hl [0, 1, 2, 3, 4, 5, 6, 7, 8, 9] rfl)
                        · skip
                          have n_225 := zc_le_f (a := (K (w * y + x))) (b := 0) (by omega) (by omega) c_225
                          refine lv_aload_n hx hb dX2_isSame_228 rfl (lv_at hl 4 rfl) ?_
                          refine lv_iload hx hb dX2_isSame_229 (lv_at hl 8 rfl) ?_
                          refine lv_iload hx hb dX2_isSame_231 (lv_at hl 9 rfl) ?_
                          refine lv_iconst (v := 1) hx hb dX2_isSame_233 (by decide) ?_
                          refine lv_iadd hx hb dX2_isSame_234 ?_
                          refine z_topi (y := nI (y + 1)) (nI_add y 1) ?_
                          refine s_callVi (As := [.int (nI x), .int (nI (y + 1))]) (rest := []) F9 (m_X2_at l dC dI cI cZ cJ cD m0 w h nd wv mA rM K tA rT T (nI x) (nI (y + 1)) (gk)) (cwV 2 hts gX2_isSame_X2_at rfl rfl rfl (by decide +kernel) ⟨Nat.le_of_ble_eq_true rfl, Nat.le_of_ble_eq_true rfl⟩) hK hN hP hD hS hA [1, 2, 3, 4, 5] [0, 6, 7, 8] 9 rfl rfl (by decide) (fun (_ : Unit) => ([g_34, [(m0, .inr (2, [.int (nI w), .int (nI h), .int (nI nd), .int wv, .ref mA, .ref tA]))], [(mA, .inl (cJ, w, .inr (.inr (.inr (.inr (gQ w rM))))))], gB w rM cI h (gM w K), [(tA, .inl (cD, w, .inr (.inr (.inr (.inr (gQ w rT))))))], gB w rT cZ h (gZ w T), [(qR, .inl (cJ, w, .inr (.inr (.inr (.inr (gQ w rR))))))], gB w rR cI h (gV w (lV K LL)), [(q_60, .inl (cI, (w * h), .inl (sX K LL w h x (y + 1))))]] : gW)) [1, 2, 3, 4, 5] [0, 6, 7, 8] 9 (fun _ => rfl) (fun _ => rfl) (fun _ => rfl) (by decide) 1 0 (ci := 2) rfl rfl rfl rfl rfl hl.1 rfl (Nat.le_of_ble_eq_true rfl) dX2_isSame_235 ⟨by show 7 + 0 ≤ 7; omega, by show 55 + 0 ≤ 55; omega⟩ (fun r_235 u H locs hp_235 hP hD hS => ?_)
                          have hP : va_P (dC, dI) vwCl (List.flatten ([g_34, [(m0, .inr (2, [.int (nI w), .int (nI h), .int (nI nd), .int wv, .ref mA, .ref tA]))], [(mA, .inl (cJ, w, .inr (.inr (.inr (.inr (gQ w rM))))))], gB w rM cI h (gM w K), [(tA, .inl (cD, w, .inr (.inr (.inr (.inr (gQ w rT))))))], gB w rT cZ h (gZ w T), [(qR, .inl (cJ, w, .inr (.inr (.inr (.inr (gQ w rR))))))], gB w rR cI h (gV w (lV K LL)), [(q_60, .inl (cI, (w * h), .inl (sX K LL w h x (y + 1))))]] : gW)) H := hP
                          have hD : va_D A (List.flatten ([g_34, [(m0, .inr (2, [.int (nI w), .int (nI h), .int (nI nd), .int wv, .ref mA, .ref tA]))], [(mA, .inl (cJ, w, .inr (.inr (.inr (.inr (gQ w rM))))))], gB w rM cI h (gM w K), [(tA, .inl (cD, w, .inr (.inr (.inr (.inr (gQ w rT))))))], gB w rT cZ h (gZ w T), [(qR, .inl (cJ, w, .inr (.inr (.inr (.inr (gQ w rR))))))], gB w rR cI h (gV w (lV K LL)), [(q_60, .inl (cI, (w * h), .inl (sX K LL w h x (y + 1))))]] : gW)) := hD
                          have hp_235 : r_235 = atI w h K (nI x) (nI (y + 1)) := hp_235
                          refine z_topi (y := atI w h K (nI x) (nI (y + 1))) (hp_235) ?_
                          have ha9 := atN_le (w := w) (h := h) hK4 (nI x) (nI (y + 1))
                          refine z_topi (y := nI (atN w h K (nI x) (nI (y + 1)))) (atI_nat _ _ _ _ _) ?_
                          refine lv_if_le (tgt := 259) hx hb dX2_isSame_238 (by decide) (fun c_238 => ?_) (fun c_238 => ?_)
                          · skip
                            have n_238 := zc_le_t (a := (atN w h K (nI x) (nI (y + 1)))) (b := 0) (by omega) (by omega) c_238
                            exact j_259 _ (congrArg nI (by have h9 := bo_no hK4 (sv3 gk hxw hyh) (by omega); omega)) _ _ _ hP hD hS (lv_sub hl [0, 1, 2, 3, 4, 5, 6, 7, 8, 9] rfl)
                          · skip
                            have n_238 := zc_le_f (a := (atN w h K (nI x) (nI (y + 1)))) (b := 0) (by omega) (by omega) c_238
                            refine lv_aload_n hx hb dX2_isSame_241 rfl (lv_at hl 4 rfl) ?_
                            refine lv_iload hx hb dX2_isSame_242 (lv_at hl 8 rfl) ?_
                            refine lv_iload hx hb dX2_isSame_244 (lv_at hl 9 rfl) ?_
                            refine lv_iconst (v := 1) hx hb dX2_isSame_246 (by decide) ?_
                            refine lv_iadd hx hb dX2_isSame_247 ?_
                            refine z_topi (y := nI (y + 1)) (nI_add y 1) ?_
                            refine s_callVi (As := [.int (nI x), .int (nI (y + 1))]) (rest := []) F9 (m_X2_at l dC dI cI cZ cJ cD m0 w h nd wv mA rM K tA rT T (nI x) (nI (y + 1)) (gk)) (cwV 2 hts gX2_isSame_X2_at rfl rfl rfl (by decide +kernel) ⟨Nat.le_of_ble_eq_true rfl, Nat.le_of_ble_eq_true rfl⟩) hK hN hP hD hS hA [1, 2, 3, 4, 5] [0, 6, 7, 8] 9 rfl rfl (by decide) (fun (_ : Unit) => ([g_34, [(m0, .inr (2, [.int (nI w), .int (nI h), .int (nI nd), .int wv, .ref mA, .ref tA]))], [(mA, .inl (cJ, w, .inr (.inr (.inr (.inr (gQ w rM))))))], gB w rM cI h (gM w K), [(tA, .inl (cD, w, .inr (.inr (.inr (.inr (gQ w rT))))))], gB w rT cZ h (gZ w T), [(qR, .inl (cJ, w, .inr (.inr (.inr (.inr (gQ w rR))))))], gB w rR cI h (gV w (lV K LL)), [(q_60, .inl (cI, (w * h), .inl (sX K LL w h x (y + 1))))]] : gW)) [1, 2, 3, 4, 5] [0, 6, 7, 8] 9 (fun _ => rfl) (fun _ => rfl) (fun _ => rfl) (by decide) 1 0 (ci := 2) rfl rfl rfl rfl rfl hl.1 rfl (Nat.le_of_ble_eq_true rfl) dX2_isSame_248 ⟨by show 7 + 0 ≤ 7; omega, by show 55 + 0 ≤ 55; omega⟩ (fun r_248 u H locs hp_248 hP hD hS => ?_)
                            have hP : va_P (dC, dI) vwCl (List.flatten ([g_34, [(m0, .inr (2, [.int (nI w), .int (nI h), .int (nI nd), .int wv, .ref mA, .ref tA]))], [(mA, .inl (cJ, w, .inr (.inr (.inr (.inr (gQ w rM))))))], gB w rM cI h (gM w K), [(tA, .inl (cD, w, .inr (.inr (.inr (.inr (gQ w rT))))))], gB w rT cZ h (gZ w T), [(qR, .inl (cJ, w, .inr (.inr (.inr (.inr (gQ w rR))))))], gB w rR cI h (gV w (lV K LL)), [(q_60, .inl (cI, (w * h), .inl (sX K LL w h x (y + 1))))]] : gW)) H := hP
                            have hD : va_D A (List.flatten ([g_34, [(m0, .inr (2, [.int (nI w), .int (nI h), .int (nI nd), .int wv, .ref mA, .ref tA]))], [(mA, .inl (cJ, w, .inr (.inr (.inr (.inr (gQ w rM))))))], gB w rM cI h (gM w K), [(tA, .inl (cD, w, .inr (.inr (.inr (.inr (gQ w rT))))))], gB w rT cZ h (gZ w T), [(qR, .inl (cJ, w, .inr (.inr (.inr (.inr (gQ w rR))))))], gB w rR cI h (gV w (lV K LL)), [(q_60, .inl (cI, (w * h), .inl (sX K LL w h x (y + 1))))]] : gW)) := hD
                            have hp_248 : r_248 = atI w h K (nI x) (nI (y + 1)) := hp_248
                            refine z_topi (y := atI w h K (nI x) (nI (y + 1))) (hp_248) ?_
                            have ha9 := atN_le (w := w) (h := h) hK4 (nI x) (nI (y + 1))
                            refine z_topi (y := nI (atN w h K (nI x) (nI (y + 1)))) (atI_nat _ _ _ _ _) ?_
                            refine lv_iload hx hb dX2_isSame_251 (lv_at hl 1 rfl) ?_
                            refine lv_icmp_eq (tgt := 259) hx hb dX2_isSame_253 (by decide) (fun c_253 => ?_) (fun c_253 => ?_)
                            · skip
                              have n_253 := zc_eq_t (a := (atN w h K (nI x) (nI (y + 1)))) (b := (K (w * y + x))) (by omega) (by omega) c_253
                              exact j_259 _ (congrArg nI (by have h9 := bo_no hK4 (sv3 gk hxw hyh) (by omega); omega)) _ _ _ hP hD hS (lv_sub hl [0, 1, 2, 3, 4, 5, 6, 7, 8, 9] rfl)
                            · skip
                              have n_253 := zc_eq_f (a := (atN w h K (nI x) (nI (y + 1)))) (b := (K (w * y + x))) (by omega) (by omega) c_253
                              refine lv_iinc (v := nI ((cN (bQ w h K 1) w h x (y + 1) + cN (bQ w h K 3) w h x y) + 1)) (lv' := [(5, .int (nI ((cN (bQ w h K 1) w h x (y + 1) + cN (bQ w h K 3) w h x y) + 1))), (9, .int (nI (K (w * y + x)))), (6, .int (bz (decide (cN (chQ w h nd T K) w h x (y + 1) = 0)))), (4, .int (nI (cN T w h x (y + 1)))), (0, .ref m0), (1, .ref h0), (2, .ref qR), (3, .ref q_60), (7, .int (nI x)), (8, .int (nI y))]) hx hb dX2_isSame_256 hl (k := 0) rfl (nI_1 (cN (bQ w h K 1) w h x (y + 1) + cN (bQ w h K 3) w h x y)) (by decide) rfl (fun ls hl => ?_)
                              exact j_259 _ (congrArg nI (by have h9 := bo_yes 0 hK4 (sv3 gk hxw hyh) (by omega); omega)) _ _ _ hP hD hS (lv_sub hl [0, 1, 2, 3, 4, 5, 6, 7, 8, 9] rfl)
                      intro v_259 h_v_259 H locs ls hP hD hS hl
                      subst h_v_259
                      refine lv_iinc (v := nI (y + 1)) (lv' := [(8, .int (nI (y + 1))), (5, .int (nI (cN (bQ w h K 1) w h x (y + 1) + cN (bQ w h K 3) w h x (y + 1)))), (9, .int (nI (K (w * y + x)))), (6, .int (bz (decide (cN (chQ w h nd T K) w h x (y + 1) = 0)))), (4, .int (nI (cN T w h x (y + 1)))), (0, .ref m0), (1, .ref h0), (2, .ref qR), (3, .ref q_60), (7, .int (nI x))]) hx hb dX2_isSame_259 hl (k := 9) rfl (nI_1 y) (by decide) rfl (fun ls hl => ?_)
                      refine lv_goto (tgt := 87) hx hb dX2_isSame_262 (by decide) ?_
                      exact ih_87 (y + 1) (by omega)  _ _ _ hP hD hS (lv_sub hl [5, 6, 7, 8, 4, 1, 3, 9, 0] rfl)
                exact loop_87 h 0 (by omega)  _ _ _ hP hD hS (lv_sub hl [1, 2, 3, 4, 5, 6, 7, 8, 0] rfl)
          exact loop_75 w 0 (by omega)  _ _ _ hP hD hS (lv_sub hl [6, 7, 5, 4, 3, 2, 1, 0] rfl)
        · skip
          exact absurd rfl c_41
