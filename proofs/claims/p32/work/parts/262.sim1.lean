abbrev rmX2_at : Room := { frames := 0, cells := 0, slots := 0, locals := 0 }
set_option maxRecDepth 20000 in
theorem iX2_at_X2 : ∀ w ∈ wsX20, w ∈ wsX2_at := fun w h => (goodIn_r (big := wsX2_at) wsX20 [4, 5, 6, 7, 8, 9] rfl (by decide +kernel) w h).1
set_option maxHeartbeats 4000000 in
set_option maxRecDepth 100000 in
theorem m_X2_at (l : Launch) (dC : Nat → ClassId) (dI : Nat → Nat → Nat) (cI cZ cJ cD : ClassId) (m0 : Nat) (w : Nat) (h : Nat) (nd : Nat) (wv : Int32) (mA : Nat) (rM : Nat → Nat) (K : Nat → Nat) (tA : Nat) (rT : Nat → Nat) (T : Nat → Bool) (x0 : Int32) (y0 : Int32) (gk : gok w h) : sI l (dC, dI) (wT cI cZ cJ cD) yX2_at wsX2_at rmX2_at [[(m0, .inr (2, [.int (nI w), .int (nI h), .int (nI nd), .int wv, .ref mA, .ref tA]))], [(mA, .inl (cJ, w, .inr (.inr (.inr (.inr (gQ w rM))))))], gB w rM cI h (gM w K), [(tA, .inl (cD, w, .inr (.inr (.inr (.inr (gQ w rT))))))], gB w rT cZ h (gZ w T)] [.ref m0, .int x0, .int y0] (fun (_ : Unit) => ([[(m0, .inr (2, [.int (nI w), .int (nI h), .int (nI nd), .int wv, .ref mA, .ref tA]))], [(mA, .inl (cJ, w, .inr (.inr (.inr (.inr (gQ w rM))))))], gB w rM cI h (gM w K), [(tA, .inl (cD, w, .inr (.inr (.inr (.inr (gQ w rT))))))], gB w rT cZ h (gZ w T)] : gW)) (fun (r : Int32) (_ : Unit) => r = atI w h K x0 y0) 0 0 := by
  intro sz
  refine Met.ofW (cc := cX2_at) (maxL := 3) (ret := (some .int)) (by decide) rfl ?_
  intro p e s m args below meth c s₁ B hml hv
  obtain ⟨ha, hsz, hP, hK, hD0, hN⟩ := hv
  have hx := B.exec
  have hb := B.bytes
  have hr := B.returns
  have hts := atoms_spec (ws := wsX2_at) B.pre
  have hown : s.vm.findClass RX2 = some m.cls := findClass_of_methodNamed B.named
  have hlocks := B.notSynchronized
  subst hsz
  have hD := hD0.self (sz := s.heap.size)
  generalize hAe : va_A (List.flatten ([[(m0, .inr (2, [.int (nI w), .int (nI h), .int (nI nd), .int wv, .ref mA, .ref tA]))], [(mA, .inl (cJ, w, .inr (.inr (.inr (.inr (gQ w rM))))))], gB w rM cI h (gM w K), [(tA, .inl (cD, w, .inr (.inr (.inr (.inr (gQ w rT))))))], gB w rT cZ h (gZ w T)] : gW)) s.heap.size = A at hD ⊢
  have hA : ∀ q : Nat, s.heap.size ≤ q → A q := fun q h => by rw [← hAe]; exact Or.inr h
  have hS : va_S A s.heap s.heap [] := va_S.rf
  generalize hQ : MQ below (va_Qi (fun (r : Int32) (_ : Unit) => r = atI w h K x0 y0) (fun u t => va_P (dC, dI) vwCl (List.flatten ((fun (_ : Unit) => ([[(m0, .inr (2, [.int (nI w), .int (nI h), .int (nI nd), .int wv, .ref mA, .ref tA]))], [(mA, .inl (cJ, w, .inr (.inr (.inr (.inr (gQ w rM))))))], gB w rM cI h (gM w K), [(tA, .inl (cD, w, .inr (.inr (.inr (.inr (gQ w rT))))))], gB w rT cZ h (gZ w T)] : gW)) u)) t.heap ∧ va_D A (List.flatten ((fun (_ : Unit) => ([[(m0, .inr (2, [.int (nI w), .int (nI h), .int (nI nd), .int wv, .ref mA, .ref tA]))], [(mA, .inl (cJ, w, .inr (.inr (.inr (.inr (gQ w rM))))))], gB w rM cI h (gM w K), [(tA, .inl (cD, w, .inr (.inr (.inr (.inr (gQ w rT))))))], gB w rT cZ h (gZ w T)] : gW)) u))) A) args s 0 0 A = Q
  have F9 : CallFix p m c cX2_at 3 s args wsX2_at RX2 := ⟨hx, hb, hml, hown, hts⟩
  obtain ⟨gw2, gw5, gh2, gh5⟩ := id gk
  have wh25 := wh_le gk
  refine z_entry (R := rmX2_at) ha (Nat.le_of_ble_eq_true rfl) (fun ls hl => ?_)
  have hl : lv_has ls 3 [(0, .ref m0), (1, .int x0), (2, .int y0)] := hl
  refine lv_iload_n hx hb dX2_at_0 rfl (lv_at hl 1 rfl) ?_
  refine lv_if_lt (tgt := 24) hx hb dX2_at_1 (by decide) (fun c_1 => ?_) (fun c_1 => ?_)
  · skip
    refine lv_iconst (v := 0) hx hb dX2_at_24 (by decide) ?_
    refine lv_goto (tgt := 36) hx hb dX2_at_25 (by decide) ?_
    rw [← hQ]
    exact s_iret (W1 := (fun (_ : Unit) => ([[(m0, .inr (2, [.int (nI w), .int (nI h), .int (nI nd), .int wv, .ref mA, .ref tA]))], [(mA, .inl (cJ, w, .inr (.inr (.inr (.inr (gQ w rM))))))], gB w rM cI h (gM w K), [(tA, .inl (cD, w, .inr (.inr (.inr (.inr (gQ w rT))))))], gB w rT cZ h (gZ w T)] : gW))) hx hb hr hlocks hP hD hS () [0, 1, 2, 3, 4] [] 5 rfl rfl (by decide) (atI_out (Or.inl c_1)) (by omega) (by omega) dX2_at_36
  · skip
    refine lv_iload_n hx hb dX2_at_4 rfl (lv_at hl 2 rfl) ?_
    refine lv_if_lt (tgt := 24) hx hb dX2_at_5 (by decide) (fun c_5 => ?_) (fun c_5 => ?_)
    · skip
      refine lv_iconst (v := 0) hx hb dX2_at_24 (by decide) ?_
      refine lv_goto (tgt := 36) hx hb dX2_at_25 (by decide) ?_
      rw [← hQ]
      exact s_iret (W1 := (fun (_ : Unit) => ([[(m0, .inr (2, [.int (nI w), .int (nI h), .int (nI nd), .int wv, .ref mA, .ref tA]))], [(mA, .inl (cJ, w, .inr (.inr (.inr (.inr (gQ w rM))))))], gB w rM cI h (gM w K), [(tA, .inl (cD, w, .inr (.inr (.inr (.inr (gQ w rT))))))], gB w rT cZ h (gZ w T)] : gW))) hx hb hr hlocks hP hD hS () [0, 1, 2, 3, 4] [] 5 rfl rfl (by decide) (atI_out (Or.inr (Or.inl c_5))) (by omega) (by omega) dX2_at_36
    · skip
      refine lv_iload_n hx hb dX2_at_8 rfl (lv_at hl 1 rfl) ?_
      refine lv_aload_n hx hb dX2_at_9 rfl (lv_at hl 0 rfl) ?_
      refine s_get (D := (dC, dI)) (ci := 2) (v := .int (nI w)) (C := RX2) (T := TX2) (N := 6) hx hb hts iX2_at_X2 hown hK hP 0 0 rfl rfl rfl 0 (by decide) (hts (.fieldLink RX2 13 "ColourTideLaw$Sim" "w" "I") (List.mem_of_getElem? (i := 1) rfl)) (fun _ h9 => h9) rfl dX2_at_10 ?_
      refine lv_icmp_ge (tgt := 24) hx hb dX2_at_13 (by decide) (fun c_13 => ?_) (fun c_13 => ?_)
      · skip
        refine lv_iconst (v := 0) hx hb dX2_at_24 (by decide) ?_
        refine lv_goto (tgt := 36) hx hb dX2_at_25 (by decide) ?_
        rw [← hQ]
        exact s_iret (W1 := (fun (_ : Unit) => ([[(m0, .inr (2, [.int (nI w), .int (nI h), .int (nI nd), .int wv, .ref mA, .ref tA]))], [(mA, .inl (cJ, w, .inr (.inr (.inr (.inr (gQ w rM))))))], gB w rM cI h (gM w K), [(tA, .inl (cD, w, .inr (.inr (.inr (.inr (gQ w rT))))))], gB w rT cZ h (gZ w T)] : gW))) hx hb hr hlocks hP hD hS () [0, 1, 2, 3, 4] [] 5 rfl rfl (by decide) (atI_out (Or.inr (Or.inr (Or.inl c_13)))) (by omega) (by omega) dX2_at_36
      · skip
        refine lv_iload_n hx hb dX2_at_16 rfl (lv_at hl 2 rfl) ?_
        refine lv_aload_n hx hb dX2_at_17 rfl (lv_at hl 0 rfl) ?_
        refine s_get (D := (dC, dI)) (ci := 2) (v := .int (nI h)) (C := RX2) (T := TX2) (N := 6) hx hb hts iX2_at_X2 hown hK hP 0 0 rfl rfl rfl 1 (by decide) (hts (.fieldLink RX2 16 "ColourTideLaw$Sim" "h" "I") (List.mem_of_getElem? (i := 2) rfl)) (fun _ h9 => h9) rfl dX2_at_18 ?_
        refine lv_icmp_lt (tgt := 28) hx hb dX2_at_21 (by decide) (fun c_21 => ?_) (fun c_21 => ?_)
        · skip
          obtain ⟨a9, b9, ha9, hb9, ea, eb⟩ := on_of (w := w) (h := h) (by omega) (by omega) (⟨c_1, c_13, c_5, Int32.not_le.mpr c_21⟩ : pOn x0 y0 (nI w) (nI h))
          refine lv_aload_n hx hb dX2_at_28 rfl (lv_at hl 0 rfl) ?_
          refine s_get (D := (dC, dI)) (ci := 2) (v := .ref mA) (C := RX2) (T := TX2) (N := 6) hx hb hts iX2_at_X2 hown hK hP 0 0 rfl rfl rfl 4 (by decide) (hts (.fieldLink RX2 21 "ColourTideLaw$Sim" "map" "[[I") (List.mem_of_getElem? (i := 3) rfl)) (fun _ h9 => h9) rfl dX2_at_29 ?_
          refine lv_iload_n hx hb dX2_at_32 rfl (lv_at hl 1 rfl) ?_
          refine s_qald hx hb hK hP 1 2 rfl rfl rfl a9 (ea) (ha9) (by omega) dX2_at_33 ?_
          refine lv_iload_n hx hb dX2_at_34 rfl (lv_at hl 2 rfl) ?_
          refine s_gald hx hb hK hP 2 0 a9 rfl (ha9) rfl b9 (eb) (hb9) (by omega) dX2_at_35 ?_
          rw [← hQ]
          exact s_iret (W1 := (fun (_ : Unit) => ([[(m0, .inr (2, [.int (nI w), .int (nI h), .int (nI nd), .int wv, .ref mA, .ref tA]))], [(mA, .inl (cJ, w, .inr (.inr (.inr (.inr (gQ w rM))))))], gB w rM cI h (gM w K), [(tA, .inl (cD, w, .inr (.inr (.inr (.inr (gQ w rT))))))], gB w rT cZ h (gZ w T)] : gW))) hx hb hr hlocks hP hD hS () [0, 1, 2, 3, 4] [] 5 rfl rfl (by decide) (atI_at gk ha9 hb9 ea eb) (by omega) (by omega) dX2_at_36
        · skip
          refine lv_iconst (v := 0) hx hb dX2_at_24 (by decide) ?_
          refine lv_goto (tgt := 36) hx hb dX2_at_25 (by decide) ?_
          rw [← hQ]
          exact s_iret (W1 := (fun (_ : Unit) => ([[(m0, .inr (2, [.int (nI w), .int (nI h), .int (nI nd), .int wv, .ref mA, .ref tA]))], [(mA, .inl (cJ, w, .inr (.inr (.inr (.inr (gQ w rM))))))], gB w rM cI h (gM w K), [(tA, .inl (cD, w, .inr (.inr (.inr (.inr (gQ w rT))))))], gB w rT cZ h (gZ w T)] : gW))) hx hb hr hlocks hP hD hS () [0, 1, 2, 3, 4] [] 5 rfl rfl (by decide) (atI_out (Or.inr (Or.inr (Or.inr (Int32.not_lt.mp c_21))))) (by omega) (by omega) dX2_at_36
abbrev rmX2_beside : Room := { frames := 1, cells := 0, slots := 0, locals := 22 }
set_option maxRecDepth 20000 in
theorem iX2_beside_X2 : ∀ w ∈ wsX20, w ∈ wsX2_beside := fun w h => (goodIn_r (big := wsX2_beside) wsX20 [9, 10, 11, 12, 13, 14] rfl (by decide +kernel) w h).1
set_option maxHeartbeats 4000000 in
set_option maxRecDepth 100000 in
theorem m_X2_beside (l : Launch) (dC : Nat → ClassId) (dI : Nat → Nat → Nat) (cI cZ cJ cD : ClassId) (m0 : Nat) (w : Nat) (h : Nat) (nd : Nat) (wv : Int32) (mA : Nat) (rM : Nat → Nat) (K : Nat → Nat) (tA : Nat) (rT : Nat → Nat) (T : Nat → Bool) (x : Nat) (y : Nat) (j : Nat) (gk : gok w h) (hK4 : ∀ c, K c ≤ 4) (hxw : x < w) (hyh : y < h) (hj : 1 ≤ j ∧ j ≤ 4) : sI l (dC, dI) (wT cI cZ cJ cD) yX2_beside wsX2_beside rmX2_beside [[(m0, .inr (2, [.int (nI w), .int (nI h), .int (nI nd), .int wv, .ref mA, .ref tA]))], [(mA, .inl (cJ, w, .inr (.inr (.inr (.inr (gQ w rM))))))], gB w rM cI h (gM w K), [(tA, .inl (cD, w, .inr (.inr (.inr (.inr (gQ w rT))))))], gB w rT cZ h (gZ w T)] [.ref m0, .int (nI x), .int (nI y), .int (nI j)] (fun (_ : Unit) => ([[(m0, .inr (2, [.int (nI w), .int (nI h), .int (nI nd), .int wv, .ref mA, .ref tA]))], [(mA, .inl (cJ, w, .inr (.inr (.inr (.inr (gQ w rM))))))], gB w rM cI h (gM w K), [(tA, .inl (cD, w, .inr (.inr (.inr (.inr (gQ w rT))))))], gB w rT cZ h (gZ w T)] : gW)) (fun (r : Int32) (_ : Unit) => r = nI (cnbs w h K (w * y + x) j)) 0 0 := by
  intro sz
  refine Met.ofW (cc := cX2_beside) (maxL := 4) (ret := (some .int)) (by decide) rfl ?_
  intro p e s m args below meth c s₁ B hml hv
  obtain ⟨ha, hsz, hP, hK, hD0, hN⟩ := hv
  have hx := B.exec
  have hb := B.bytes
  have hr := B.returns
  have hts := atoms_spec (ws := wsX2_beside) B.pre
  have hown : s.vm.findClass RX2 = some m.cls := findClass_of_methodNamed B.named
  have hlocks := B.notSynchronized
  subst hsz
  have hD := hD0.self (sz := s.heap.size)
  generalize hAe : va_A (List.flatten ([[(m0, .inr (2, [.int (nI w), .int (nI h), .int (nI nd), .int wv, .ref mA, .ref tA]))], [(mA, .inl (cJ, w, .inr (.inr (.inr (.inr (gQ w rM))))))], gB w rM cI h (gM w K), [(tA, .inl (cD, w, .inr (.inr (.inr (.inr (gQ w rT))))))], gB w rT cZ h (gZ w T)] : gW)) s.heap.size = A at hD ⊢
  have hA : ∀ q : Nat, s.heap.size ≤ q → A q := fun q h => by rw [← hAe]; exact Or.inr h
  have hS : va_S A s.heap s.heap [] := va_S.rf
  generalize hQ : MQ below (va_Qi (fun (r : Int32) (_ : Unit) => r = nI (cnbs w h K (w * y + x) j)) (fun u t => va_P (dC, dI) vwCl (List.flatten ((fun (_ : Unit) => ([[(m0, .inr (2, [.int (nI w), .int (nI h), .int (nI nd), .int wv, .ref mA, .ref tA]))], [(mA, .inl (cJ, w, .inr (.inr (.inr (.inr (gQ w rM))))))], gB w rM cI h (gM w K), [(tA, .inl (cD, w, .inr (.inr (.inr (.inr (gQ w rT))))))], gB w rT cZ h (gZ w T)] : gW)) u)) t.heap ∧ va_D A (List.flatten ((fun (_ : Unit) => ([[(m0, .inr (2, [.int (nI w), .int (nI h), .int (nI nd), .int wv, .ref mA, .ref tA]))], [(mA, .inl (cJ, w, .inr (.inr (.inr (.inr (gQ w rM))))))], gB w rM cI h (gM w K), [(tA, .inl (cD, w, .inr (.inr (.inr (.inr (gQ w rT))))))], gB w rT cZ h (gZ w T)] : gW)) u))) A) args s 0 0 A = Q
  have F9 : CallFix p m c cX2_beside 4 s args wsX2_beside RX2 := ⟨hx, hb, hml, hown, hts⟩
  obtain ⟨gw2, gw5, gh2, gh5⟩ := id gk
  have wh25 := wh_le gk
  refine z_entry (R := rmX2_beside) ha (Nat.le_of_ble_eq_true rfl) (fun ls hl => ?_)
  have hl : lv_has ls 4 [(0, .ref m0), (1, .int (nI x)), (2, .int (nI y)), (3, .int (nI j))] := hl
  refine lv_aload_n hx hb dX2_beside_0 rfl (lv_at hl 0 rfl) ?_
  refine lv_iload_n hx hb dX2_beside_1 rfl (lv_at hl 1 rfl) ?_
  refine lv_iconst (v := 1) hx hb dX2_beside_2 (by decide) ?_
  refine lv_isub hx hb dX2_beside_3 ?_
  refine lv_iload_n hx hb dX2_beside_4 rfl (lv_at hl 2 rfl) ?_
  refine s_callVi (As := [.int ((nI x) - 1), .int (nI y)]) (rest := []) F9 (m_X2_at l dC dI cI cZ cJ cD m0 w h nd wv mA rM K tA rT T ((nI x) - 1) (nI y) (gk)) (cwV 2 hts gX2_beside_X2_at rfl rfl rfl (by decide +kernel) ⟨Nat.le_of_ble_eq_true rfl, Nat.le_of_ble_eq_true rfl⟩) hK hN hP hD hS hA [0, 1, 2, 3, 4] [] 5 rfl rfl (by decide) (fun (_ : Unit) => ([[(m0, .inr (2, [.int (nI w), .int (nI h), .int (nI nd), .int wv, .ref mA, .ref tA]))], [(mA, .inl (cJ, w, .inr (.inr (.inr (.inr (gQ w rM))))))], gB w rM cI h (gM w K), [(tA, .inl (cD, w, .inr (.inr (.inr (.inr (gQ w rT))))))], gB w rT cZ h (gZ w T)] : gW)) [0, 1, 2, 3, 4] [] 5 (fun _ => rfl) (fun _ => rfl) (fun _ => rfl) (by decide) 0 0 (ci := 2) rfl rfl rfl rfl rfl hl.1 rfl (Nat.le_of_ble_eq_true rfl) dX2_beside_5 ⟨by show 0 + 0 ≤ 0; omega, by show 0 + 0 ≤ 0; omega⟩ (fun r_5 u H locs hp_5 hP hD hS => ?_)
  have hP : va_P (dC, dI) vwCl (List.flatten ([[(m0, .inr (2, [.int (nI w), .int (nI h), .int (nI nd), .int wv, .ref mA, .ref tA]))], [(mA, .inl (cJ, w, .inr (.inr (.inr (.inr (gQ w rM))))))], gB w rM cI h (gM w K), [(tA, .inl (cD, w, .inr (.inr (.inr (.inr (gQ w rT))))))], gB w rT cZ h (gZ w T)] : gW)) H := hP
  have hD : va_D A (List.flatten ([[(m0, .inr (2, [.int (nI w), .int (nI h), .int (nI nd), .int wv, .ref mA, .ref tA]))], [(mA, .inl (cJ, w, .inr (.inr (.inr (.inr (gQ w rM))))))], gB w rM cI h (gM w K), [(tA, .inl (cD, w, .inr (.inr (.inr (.inr (gQ w rT))))))], gB w rT cZ h (gZ w T)] : gW)) := hD
  have hp_5 : r_5 = atI w h K ((nI x) - 1) (nI y) := hp_5
  refine z_topi (y := atI w h K ((nI x) - 1) (nI y)) (hp_5) ?_
  refine lv_iload_n hx hb dX2_beside_8 rfl (lv_at hl 3 rfl) ?_
  suffices j_17 : ∀ v_17 : Int32, v_17 = (nI (bN (nb1 w h (fun d => decide (K d = j)) (w * y + x) 0))) → W p l e rmX2_beside s m args below meth c H locs (0) (0) Q (F0 m 17 ls [.int v_17]) by
    refine lv_icmp_ne (tgt := 16) hx hb dX2_beside_9 (by decide) (fun c_9 => ?_) (fun c_9 => ?_)
    · skip
      refine lv_iconst (v := 0) hx hb dX2_beside_16 (by decide) ?_
      exact j_17 _ (by rw [← sd0 gk hK4 hxw hyh hj, if_neg c_9])
    · skip
      refine lv_iconst (v := 1) hx hb dX2_beside_12 (by decide) ?_
      refine lv_goto (tgt := 17) hx hb dX2_beside_13 (by decide) ?_
      exact j_17 _ (by rw [← sd0 gk hK4 hxw hyh hj, if_pos c_9])
  intro v_17 h_v_17
  rw [h_v_17]
  refine lv_aload_n hx hb dX2_beside_17 rfl (lv_at hl 0 rfl) ?_
  refine lv_iload_n hx hb dX2_beside_18 rfl (lv_at hl 1 rfl) ?_
  refine lv_iconst (v := 1) hx hb dX2_beside_19 (by decide) ?_
  refine lv_iadd hx hb dX2_beside_20 ?_
  refine z_topi (y := nI (x + 1)) (nI_add x 1) ?_
  refine lv_iload_n hx hb dX2_beside_21 rfl (lv_at hl 2 rfl) ?_
  refine s_callVi (As := [.int (nI (x + 1)), .int (nI y)]) (rest := [.int (nI (bN (nb1 w h (fun d => decide (K d = j)) (w * y + x) 0)))]) F9 (m_X2_at l dC dI cI cZ cJ cD m0 w h nd wv mA rM K tA rT T (nI (x + 1)) (nI y) (gk)) (cwV 2 hts gX2_beside_X2_at rfl rfl rfl (by decide +kernel) ⟨Nat.le_of_ble_eq_true rfl, Nat.le_of_ble_eq_true rfl⟩) hK hN hP hD hS hA [0, 1, 2, 3, 4] [] 5 rfl rfl (by decide) (fun (_ : Unit) => ([[(m0, .inr (2, [.int (nI w), .int (nI h), .int (nI nd), .int wv, .ref mA, .ref tA]))], [(mA, .inl (cJ, w, .inr (.inr (.inr (.inr (gQ w rM))))))], gB w rM cI h (gM w K), [(tA, .inl (cD, w, .inr (.inr (.inr (.inr (gQ w rT))))))], gB w rT cZ h (gZ w T)] : gW)) [0, 1, 2, 3, 4] [] 5 (fun _ => rfl) (fun _ => rfl) (fun _ => rfl) (by decide) 0 0 (ci := 2) rfl rfl rfl rfl rfl hl.1 rfl (Nat.le_of_ble_eq_true rfl) dX2_beside_22 ⟨by show 0 + 0 ≤ 0; omega, by show 0 + 0 ≤ 0; omega⟩ (fun r_22 u H locs hp_22 hP hD hS => ?_)
  have hP : va_P (dC, dI) vwCl (List.flatten ([[(m0, .inr (2, [.int (nI w), .int (nI h), .int (nI nd), .int wv, .ref mA, .ref tA]))], [(mA, .inl (cJ, w, .inr (.inr (.inr (.inr (gQ w rM))))))], gB w rM cI h (gM w K), [(tA, .inl (cD, w, .inr (.inr (.inr (.inr (gQ w rT))))))], gB w rT cZ h (gZ w T)] : gW)) H := hP
  have hD : va_D A (List.flatten ([[(m0, .inr (2, [.int (nI w), .int (nI h), .int (nI nd), .int wv, .ref mA, .ref tA]))], [(mA, .inl (cJ, w, .inr (.inr (.inr (.inr (gQ w rM))))))], gB w rM cI h (gM w K), [(tA, .inl (cD, w, .inr (.inr (.inr (.inr (gQ w rT))))))], gB w rT cZ h (gZ w T)] : gW)) := hD
  have hp_22 : r_22 = atI w h K (nI (x + 1)) (nI y) := hp_22
  refine z_topi (y := atI w h K (nI (x + 1)) (nI y)) (hp_22) ?_
  refine lv_iload_n hx hb dX2_beside_25 rfl (lv_at hl 3 rfl) ?_
  suffices j_34 : ∀ v_34 : Int32, v_34 = (nI (bN (nb1 w h (fun d => decide (K d = j)) (w * y + x) 1))) → W p l e rmX2_beside s m args below meth c H locs (0) (0) Q (F0 m 34 ls [.int v_34, .int (nI (bN (nb1 w h (fun d => decide (K d = j)) (w * y + x) 0)))]) by
    refine lv_icmp_ne (tgt := 33) hx hb dX2_beside_26 (by decide) (fun c_26 => ?_) (fun c_26 => ?_)
    · skip
      refine lv_iconst (v := 0) hx hb dX2_beside_33 (by decide) ?_
      exact j_34 _ (by rw [← sd1 gk hK4 hxw hyh hj, if_neg c_26])
    · skip
      refine lv_iconst (v := 1) hx hb dX2_beside_29 (by decide) ?_
      refine lv_goto (tgt := 34) hx hb dX2_beside_30 (by decide) ?_
      exact j_34 _ (by rw [← sd1 gk hK4 hxw hyh hj, if_pos c_26])
  intro v_34 h_v_34
  rw [h_v_34]
  refine lv_iadd hx hb dX2_beside_34 ?_
  refine z_topi (y := nI ((bN (nb1 w h (fun d => decide (K d = j)) (w * y + x) 0)) + (bN (nb1 w h (fun d => decide (K d = j)) (w * y + x) 1)))) (nI_add (bN (nb1 w h (fun d => decide (K d = j)) (w * y + x) 0)) (bN (nb1 w h (fun d => decide (K d = j)) (w * y + x) 1))) ?_
  refine lv_aload_n hx hb dX2_beside_35 rfl (lv_at hl 0 rfl) ?_
  refine lv_iload_n hx hb dX2_beside_36 rfl (lv_at hl 1 rfl) ?_
  refine lv_iload_n hx hb dX2_beside_37 rfl (lv_at hl 2 rfl) ?_
  refine lv_iconst (v := 1) hx hb dX2_beside_38 (by decide) ?_
  refine lv_isub hx hb dX2_beside_39 ?_
  refine s_callVi (As := [.int (nI x), .int ((nI y) - 1)]) (rest := [.int (nI ((bN (nb1 w h (fun d => decide (K d = j)) (w * y + x) 0)) + (bN (nb1 w h (fun d => decide (K d = j)) (w * y + x) 1))))]) F9 (m_X2_at l dC dI cI cZ cJ cD m0 w h nd wv mA rM K tA rT T (nI x) ((nI y) - 1) (gk)) (cwV 2 hts gX2_beside_X2_at rfl rfl rfl (by decide +kernel) ⟨Nat.le_of_ble_eq_true rfl, Nat.le_of_ble_eq_true rfl⟩) hK hN hP hD hS hA [0, 1, 2, 3, 4] [] 5 rfl rfl (by decide) (fun (_ : Unit) => ([[(m0, .inr (2, [.int (nI w), .int (nI h), .int (nI nd), .int wv, .ref mA, .ref tA]))], [(mA, .inl (cJ, w, .inr (.inr (.inr (.inr (gQ w rM))))))], gB w rM cI h (gM w K), [(tA, .inl (cD, w, .inr (.inr (.inr (.inr (gQ w rT))))))], gB w rT cZ h (gZ w T)] : gW)) [0, 1, 2, 3, 4] [] 5 (fun _ => rfl) (fun _ => rfl) (fun _ => rfl) (by decide) 0 0 (ci := 2) rfl rfl rfl rfl rfl hl.1 rfl (Nat.le_of_ble_eq_true rfl) dX2_beside_40 ⟨by show 0 + 0 ≤ 0; omega, by show 0 + 0 ≤ 0; omega⟩ (fun r_40 u H locs hp_40 hP hD hS => ?_)
  have hP : va_P (dC, dI) vwCl (List.flatten ([[(m0, .inr (2, [.int (nI w), .int (nI h), .int (nI nd), .int wv, .ref mA, .ref tA]))], [(mA, .inl (cJ, w, .inr (.inr (.inr (.inr (gQ w rM))))))], gB w rM cI h (gM w K), [(tA, .inl (cD, w, .inr (.inr (.inr (.inr (gQ w rT))))))], gB w rT cZ h (gZ w T)] : gW)) H := hP
  have hD : va_D A (List.flatten ([[(m0, .inr (2, [.int (nI w), .int (nI h), .int (nI nd), .int wv, .ref mA, .ref tA]))], [(mA, .inl (cJ, w, .inr (.inr (.inr (.inr (gQ w rM))))))], gB w rM cI h (gM w K), [(tA, .inl (cD, w, .inr (.inr (.inr (.inr (gQ w rT))))))], gB w rT cZ h (gZ w T)] : gW)) := hD
  have hp_40 : r_40 = atI w h K (nI x) ((nI y) - 1) := hp_40
  refine z_topi (y := atI w h K (nI x) ((nI y) - 1)) (hp_40) ?_
  refine lv_iload_n hx hb dX2_beside_43 rfl (lv_at hl 3 rfl) ?_
  suffices j_52 : ∀ v_52 : Int32, v_52 = (nI (bN (nb1 w h (fun d => decide (K d = j)) (w * y + x) 2))) → W p l e rmX2_beside s m args below meth c H locs (0) (0) Q (F0 m 52 ls [.int v_52, .int (nI ((bN (nb1 w h (fun d => decide (K d = j)) (w * y + x) 0)) + (bN (nb1 w h (fun d => decide (K d = j)) (w * y + x) 1))))]) by
    refine lv_icmp_ne (tgt := 51) hx hb dX2_beside_44 (by decide) (fun c_44 => ?_) (fun c_44 => ?_)
    · skip
      refine lv_iconst (v := 0) hx hb dX2_beside_51 (by decide) ?_
      exact j_52 _ (by rw [← sd2 gk hK4 hxw hyh hj, if_neg c_44])
    · skip
      refine lv_iconst (v := 1) hx hb dX2_beside_47 (by decide) ?_
      refine lv_goto (tgt := 52) hx hb dX2_beside_48 (by decide) ?_
      exact j_52 _ (by rw [← sd2 gk hK4 hxw hyh hj, if_pos c_44])
  intro v_52 h_v_52
  rw [h_v_52]
  refine lv_iadd hx hb dX2_beside_52 ?_
  refine z_topi (y := nI (((bN (nb1 w h (fun d => decide (K d = j)) (w * y + x) 0)) + (bN (nb1 w h (fun d => decide (K d = j)) (w * y + x) 1))) + (bN (nb1 w h (fun d => decide (K d = j)) (w * y + x) 2)))) (nI_add ((bN (nb1 w h (fun d => decide (K d = j)) (w * y + x) 0)) + (bN (nb1 w h (fun d => decide (K d = j)) (w * y + x) 1))) (bN (nb1 w h (fun d => decide (K d = j)) (w * y + x) 2))) ?_
  refine lv_aload_n hx hb dX2_beside_53 rfl (lv_at hl 0 rfl) ?_
  refine lv_iload_n hx hb dX2_beside_54 rfl (lv_at hl 1 rfl) ?_
  refine lv_iload_n hx hb dX2_beside_55 rfl (lv_at hl 2 rfl) ?_
  refine lv_iconst (v := 1) hx hb dX2_beside_56 (by decide) ?_
  refine lv_iadd hx hb dX2_beside_57 ?_
  refine z_topi (y := nI (y + 1)) (nI_add y 1) ?_
  refine s_callVi (As := [.int (nI x), .int (nI (y + 1))]) (rest := [.int (nI (((bN (nb1 w h (fun d => decide (K d = j)) (w * y + x) 0)) + (bN (nb1 w h (fun d => decide (K d = j)) (w * y + x) 1))) + (bN (nb1 w h (fun d => decide (K d = j)) (w * y + x) 2))))]) F9 (m_X2_at l dC dI cI cZ cJ cD m0 w h nd wv mA rM K tA rT T (nI x) (nI (y + 1)) (gk)) (cwV 2 hts gX2_beside_X2_at rfl rfl rfl (by decide +kernel) ⟨Nat.le_of_ble_eq_true rfl, Nat.le_of_ble_eq_true rfl⟩) hK hN hP hD hS hA [0, 1, 2, 3, 4] [] 5 rfl rfl (by decide) (fun (_ : Unit) => ([[(m0, .inr (2, [.int (nI w), .int (nI h), .int (nI nd), .int wv, .ref mA, .ref tA]))], [(mA, .inl (cJ, w, .inr (.inr (.inr (.inr (gQ w rM))))))], gB w rM cI h (gM w K), [(tA, .inl (cD, w, .inr (.inr (.inr (.inr (gQ w rT))))))], gB w rT cZ h (gZ w T)] : gW)) [0, 1, 2, 3, 4] [] 5 (fun _ => rfl) (fun _ => rfl) (fun _ => rfl) (by decide) 0 0 (ci := 2) rfl rfl rfl rfl rfl hl.1 rfl (Nat.le_of_ble_eq_true rfl) dX2_beside_58 ⟨by show 0 + 0 ≤ 0; omega, by show 0 + 0 ≤ 0; omega⟩ (fun r_58 u H locs hp_58 hP hD hS => ?_)
  have hP : va_P (dC, dI) vwCl (List.flatten ([[(m0, .inr (2, [.int (nI w), .int (nI h), .int (nI nd), .int wv, .ref mA, .ref tA]))], [(mA, .inl (cJ, w, .inr (.inr (.inr (.inr (gQ w rM))))))], gB w rM cI h (gM w K), [(tA, .inl (cD, w, .inr (.inr (.inr (.inr (gQ w rT))))))], gB w rT cZ h (gZ w T)] : gW)) H := hP
  have hD : va_D A (List.flatten ([[(m0, .inr (2, [.int (nI w), .int (nI h), .int (nI nd), .int wv, .ref mA, .ref tA]))], [(mA, .inl (cJ, w, .inr (.inr (.inr (.inr (gQ w rM))))))], gB w rM cI h (gM w K), [(tA, .inl (cD, w, .inr (.inr (.inr (.inr (gQ w rT))))))], gB w rT cZ h (gZ w T)] : gW)) := hD
  have hp_58 : r_58 = atI w h K (nI x) (nI (y + 1)) := hp_58
  refine z_topi (y := atI w h K (nI x) (nI (y + 1))) (hp_58) ?_
  refine lv_iload_n hx hb dX2_beside_61 rfl (lv_at hl 3 rfl) ?_
  suffices j_70 : ∀ v_70 : Int32, v_70 = (nI (bN (nb1 w h (fun d => decide (K d = j)) (w * y + x) 3))) → W p l e rmX2_beside s m args below meth c H locs (0) (0) Q (F0 m 70 ls [.int v_70, .int (nI (((bN (nb1 w h (fun d => decide (K d = j)) (w * y + x) 0)) + (bN (nb1 w h (fun d => decide (K d = j)) (w * y + x) 1))) + (bN (nb1 w h (fun d => decide (K d = j)) (w * y + x) 2))))]) by
    refine lv_icmp_ne (tgt := 69) hx hb dX2_beside_62 (by decide) (fun c_62 => ?_) (fun c_62 => ?_)
    · skip
      refine lv_iconst (v := 0) hx hb dX2_beside_69 (by decide) ?_
      exact j_70 _ (by rw [← sd3 gk hK4 hxw hyh hj, if_neg c_62])
    · skip
      refine lv_iconst (v := 1) hx hb dX2_beside_65 (by decide) ?_
      refine lv_goto (tgt := 70) hx hb dX2_beside_66 (by decide) ?_
      exact j_70 _ (by rw [← sd3 gk hK4 hxw hyh hj, if_pos c_62])
  intro v_70 h_v_70
  rw [h_v_70]
  refine lv_iadd hx hb dX2_beside_70 ?_
  refine z_topi (y := nI ((((bN (nb1 w h (fun d => decide (K d = j)) (w * y + x) 0)) + (bN (nb1 w h (fun d => decide (K d = j)) (w * y + x) 1))) + (bN (nb1 w h (fun d => decide (K d = j)) (w * y + x) 2))) + (bN (nb1 w h (fun d => decide (K d = j)) (w * y + x) 3)))) (nI_add (((bN (nb1 w h (fun d => decide (K d = j)) (w * y + x) 0)) + (bN (nb1 w h (fun d => decide (K d = j)) (w * y + x) 1))) + (bN (nb1 w h (fun d => decide (K d = j)) (w * y + x) 2))) (bN (nb1 w h (fun d => decide (K d = j)) (w * y + x) 3))) ?_
  rw [← hQ]
  exact s_iret (W1 := (fun (_ : Unit) => ([[(m0, .inr (2, [.int (nI w), .int (nI h), .int (nI nd), .int wv, .ref mA, .ref tA]))], [(mA, .inl (cJ, w, .inr (.inr (.inr (.inr (gQ w rM))))))], gB w rM cI h (gM w K), [(tA, .inl (cD, w, .inr (.inr (.inr (.inr (gQ w rT))))))], gB w rT cZ h (gZ w T)] : gW))) hx hb hr hlocks hP hD hS () [0, 1, 2, 3, 4] [] 5 rfl rfl (by decide) (rfl) (by omega) (by omega) dX2_beside_71
abbrev rmX2_bare : Room := { frames := 2, cells := 0, slots := 0, locals := 45 }
set_option maxRecDepth 20000 in
theorem iX2_bare_X2 : ∀ w ∈ wsX20, w ∈ wsX2_bare := fun w h => (goodIn_r (big := wsX2_bare) wsX20 [13, 14, 15, 16, 17, 18] rfl (by decide +kernel) w h).1
set_option maxHeartbeats 4000000 in
set_option maxRecDepth 100000 in
theorem m_X2_bare (l : Launch) (dC : Nat → ClassId) (dI : Nat → Nat → Nat) (cI cZ cJ cD : ClassId) (m0 : Nat) (w : Nat) (h : Nat) (nd : Nat) (wv : Int32) (mA : Nat) (rM : Nat → Nat) (K : Nat → Nat) (tA : Nat) (rT : Nat → Nat) (T : Nat → Bool) (x : Nat) (y : Nat) (gk : gok w h) (hK4 : ∀ c, K c ≤ 4) (hxw : x < w) (hyh : y < h) : sI l (dC, dI) (wT cI cZ cJ cD) yX2_bare wsX2_bare rmX2_bare [[(m0, .inr (2, [.int (nI w), .int (nI h), .int (nI nd), .int wv, .ref mA, .ref tA]))], [(mA, .inl (cJ, w, .inr (.inr (.inr (.inr (gQ w rM))))))], gB w rM cI h (gM w K), [(tA, .inl (cD, w, .inr (.inr (.inr (.inr (gQ w rT))))))], gB w rT cZ h (gZ w T)] [.ref m0, .int (nI x), .int (nI y)] (fun (_ : Unit) => ([[(m0, .inr (2, [.int (nI w), .int (nI h), .int (nI nd), .int wv, .ref mA, .ref tA]))], [(mA, .inl (cJ, w, .inr (.inr (.inr (.inr (gQ w rM))))))], gB w rM cI h (gM w K), [(tA, .inl (cD, w, .inr (.inr (.inr (.inr (gQ w rT))))))], gB w rT cZ h (gZ w T)] : gW)) (fun (r : Int32) (_ : Unit) => r = nI (cnbs w h K (w * y + x) 0)) 0 0 := by
  intro sz
  refine Met.ofW (cc := cX2_bare) (maxL := 4) (ret := (some .int)) (by decide) rfl ?_
  intro p e s m args below meth c s₁ B hml hv
  obtain ⟨ha, hsz, hP, hK, hD0, hN⟩ := hv
  have hx := B.exec
  have hb := B.bytes
  have hr := B.returns
  have hts := atoms_spec (ws := wsX2_bare) B.pre
  have hown : s.vm.findClass RX2 = some m.cls := findClass_of_methodNamed B.named
  have hlocks := B.notSynchronized
  subst hsz
  have hD := hD0.self (sz := s.heap.size)
  generalize hAe : va_A (List.flatten ([[(m0, .inr (2, [.int (nI w), .int (nI h), .int (nI nd), .int wv, .ref mA, .ref tA]))], [(mA, .inl (cJ, w, .inr (.inr (.inr (.inr (gQ w rM))))))], gB w rM cI h (gM w K), [(tA, .inl (cD, w, .inr (.inr (.inr (.inr (gQ w rT))))))], gB w rT cZ h (gZ w T)] : gW)) s.heap.size = A at hD ⊢
  have hA : ∀ q : Nat, s.heap.size ≤ q → A q := fun q h => by rw [← hAe]; exact Or.inr h
  have hS : va_S A s.heap s.heap [] := va_S.rf
  generalize hQ : MQ below (va_Qi (fun (r : Int32) (_ : Unit) => r = nI (cnbs w h K (w * y + x) 0)) (fun u t => va_P (dC, dI) vwCl (List.flatten ((fun (_ : Unit) => ([[(m0, .inr (2, [.int (nI w), .int (nI h), .int (nI nd), .int wv, .ref mA, .ref tA]))], [(mA, .inl (cJ, w, .inr (.inr (.inr (.inr (gQ w rM))))))], gB w rM cI h (gM w K), [(tA, .inl (cD, w, .inr (.inr (.inr (.inr (gQ w rT))))))], gB w rT cZ h (gZ w T)] : gW)) u)) t.heap ∧ va_D A (List.flatten ((fun (_ : Unit) => ([[(m0, .inr (2, [.int (nI w), .int (nI h), .int (nI nd), .int wv, .ref mA, .ref tA]))], [(mA, .inl (cJ, w, .inr (.inr (.inr (.inr (gQ w rM))))))], gB w rM cI h (gM w K), [(tA, .inl (cD, w, .inr (.inr (.inr (.inr (gQ w rT))))))], gB w rT cZ h (gZ w T)] : gW)) u))) A) args s 0 0 A = Q
  have F9 : CallFix p m c cX2_bare 4 s args wsX2_bare RX2 := ⟨hx, hb, hml, hown, hts⟩
  obtain ⟨gw2, gw5, gh2, gh5⟩ := id gk
  have wh25 := wh_le gk
  have hsd := side_sum (h := h) (y := y) hK4 hxw
  refine z_entry (R := rmX2_bare) ha (Nat.le_of_ble_eq_true rfl) (fun ls hl => ?_)
  have hl : lv_has ls 4 [(0, .ref m0), (1, .int (nI x)), (2, .int (nI y))] := hl
  refine lv_iload_n hx hb dX2_bare_0 rfl (lv_at hl 1 rfl) ?_
  suffices j_9 : ∀ v_9 : Int32, v_9 = (nI (bN (decide (0 < x)))) → W p l e rmX2_bare s m args below meth c s.heap [] (0) (0) Q (F0 m 9 ls [.int v_9]) by
    refine lv_if_le (tgt := 8) hx hb dX2_bare_1 (by decide) (fun c_1 => ?_) (fun c_1 => ?_)
    · skip
      have n_1 := zc_le_t (a := x) (b := 0) (by omega) (by omega) c_1
      refine lv_iconst (v := 0) hx hb dX2_bare_8 (by decide) ?_
      exact j_9 _ (by rw [decide_eq_false (show ¬ 0 < x by omega)]; rfl)
    · skip
      have n_1 := zc_le_f (a := x) (b := 0) (by omega) (by omega) c_1
      refine lv_iconst (v := 1) hx hb dX2_bare_4 (by decide) ?_
      refine lv_goto (tgt := 9) hx hb dX2_bare_5 (by decide) ?_
      exact j_9 _ (by rw [decide_eq_true (show 0 < x by omega)]; rfl)
  intro v_9 h_v_9
  rw [h_v_9]
  refine lv_iload_n hx hb dX2_bare_9 rfl (lv_at hl 1 rfl) ?_
  refine lv_aload_n hx hb dX2_bare_10 rfl (lv_at hl 0 rfl) ?_
  refine s_get (D := (dC, dI)) (ci := 2) (v := .int (nI w)) (C := RX2) (T := TX2) (N := 6) hx hb hts iX2_bare_X2 hown hK hP 0 0 rfl rfl rfl 0 (by decide) (hts (.fieldLink RX2 13 "ColourTideLaw$Sim" "w" "I") (List.mem_of_getElem? (i := 1) rfl)) (fun _ h9 => h9) rfl dX2_bare_11 ?_
  refine lv_iconst (v := 1) hx hb dX2_bare_14 (by decide) ?_
  refine lv_isub hx hb dX2_bare_15 ?_
  refine z_topi (y := nI (w - 1)) (pk_sub (a := w) (b := 1) (by omega)) ?_
  suffices j_24 : ∀ v_24 : Int32, v_24 = (nI (bN (decide (x < w - 1)))) → W p l e rmX2_bare s m args below meth c s.heap [] (0) (0) Q (F0 m 24 ls [.int v_24, .int (nI (bN (decide (0 < x))))]) by
    refine lv_icmp_ge (tgt := 23) hx hb dX2_bare_16 (by decide) (fun c_16 => ?_) (fun c_16 => ?_)
    · skip
      have n_16 := zc_le_t (a := (w - 1)) (b := x) (by omega) (by omega) c_16
      refine lv_iconst (v := 0) hx hb dX2_bare_23 (by decide) ?_
      exact j_24 _ (by rw [decide_eq_false (show ¬ x < w - 1 by omega)]; rfl)
    · skip
      have n_16 := zc_le_f (a := (w - 1)) (b := x) (by omega) (by omega) c_16
      refine lv_iconst (v := 1) hx hb dX2_bare_19 (by decide) ?_
      refine lv_goto (tgt := 24) hx hb dX2_bare_20 (by decide) ?_
      exact j_24 _ (by rw [decide_eq_true (show x < w - 1 by omega)]; rfl)
  intro v_24 h_v_24
  rw [h_v_24]
  refine lv_iadd hx hb dX2_bare_24 ?_
  refine z_topi (y := nI ((bN (decide (0 < x))) + (bN (decide (x < w - 1))))) (nI_add (bN (decide (0 < x))) (bN (decide (x < w - 1)))) ?_
  refine lv_iload_n hx hb dX2_bare_25 rfl (lv_at hl 2 rfl) ?_
  suffices j_34 : ∀ v_34 : Int32, v_34 = (nI (bN (decide (0 < y)))) → W p l e rmX2_bare s m args below meth c s.heap [] (0) (0) Q (F0 m 34 ls [.int v_34, .int (nI ((bN (decide (0 < x))) + (bN (decide (x < w - 1)))))]) by
    refine lv_if_le (tgt := 33) hx hb dX2_bare_26 (by decide) (fun c_26 => ?_) (fun c_26 => ?_)
    · skip
      have n_26 := zc_le_t (a := y) (b := 0) (by omega) (by omega) c_26
      refine lv_iconst (v := 0) hx hb dX2_bare_33 (by decide) ?_
      exact j_34 _ (by rw [decide_eq_false (show ¬ 0 < y by omega)]; rfl)
    · skip
      have n_26 := zc_le_f (a := y) (b := 0) (by omega) (by omega) c_26
      refine lv_iconst (v := 1) hx hb dX2_bare_29 (by decide) ?_
      refine lv_goto (tgt := 34) hx hb dX2_bare_30 (by decide) ?_
      exact j_34 _ (by rw [decide_eq_true (show 0 < y by omega)]; rfl)
  intro v_34 h_v_34
  rw [h_v_34]
  refine lv_iadd hx hb dX2_bare_34 ?_
  refine z_topi (y := nI (((bN (decide (0 < x))) + (bN (decide (x < w - 1)))) + (bN (decide (0 < y))))) (nI_add ((bN (decide (0 < x))) + (bN (decide (x < w - 1)))) (bN (decide (0 < y)))) ?_
  refine lv_iload_n hx hb dX2_bare_35 rfl (lv_at hl 2 rfl) ?_
  refine lv_aload_n hx hb dX2_bare_36 rfl (lv_at hl 0 rfl) ?_
  refine s_get (D := (dC, dI)) (ci := 2) (v := .int (nI h)) (C := RX2) (T := TX2) (N := 6) hx hb hts iX2_bare_X2 hown hK hP 0 0 rfl rfl rfl 1 (by decide) (hts (.fieldLink RX2 16 "ColourTideLaw$Sim" "h" "I") (List.mem_of_getElem? (i := 2) rfl)) (fun _ h9 => h9) rfl dX2_bare_37 ?_
  refine lv_iconst (v := 1) hx hb dX2_bare_40 (by decide) ?_
  refine lv_isub hx hb dX2_bare_41 ?_
  refine z_topi (y := nI (h - 1)) (pk_sub (a := h) (b := 1) (by omega)) ?_
  suffices j_50 : ∀ v_50 : Int32, v_50 = (nI (bN (decide (y < h - 1)))) → W p l e rmX2_bare s m args below meth c s.heap [] (0) (0) Q (F0 m 50 ls [.int v_50, .int (nI (((bN (decide (0 < x))) + (bN (decide (x < w - 1)))) + (bN (decide (0 < y)))))]) by
    refine lv_icmp_ge (tgt := 49) hx hb dX2_bare_42 (by decide) (fun c_42 => ?_) (fun c_42 => ?_)
    · skip
      have n_42 := zc_le_t (a := (h - 1)) (b := y) (by omega) (by omega) c_42
      refine lv_iconst (v := 0) hx hb dX2_bare_49 (by decide) ?_
      exact j_50 _ (by rw [decide_eq_false (show ¬ y < h - 1 by omega)]; rfl)
    · skip
      have n_42 := zc_le_f (a := (h - 1)) (b := y) (by omega) (by omega) c_42
      refine lv_iconst (v := 1) hx hb dX2_bare_45 (by decide) ?_
      refine lv_goto (tgt := 50) hx hb dX2_bare_46 (by decide) ?_
      exact j_50 _ (by rw [decide_eq_true (show y < h - 1 by omega)]; rfl)
  intro v_50 h_v_50
  rw [h_v_50]
  refine lv_iadd hx hb dX2_bare_50 ?_
  refine z_topi (y := nI ((((bN (decide (0 < x))) + (bN (decide (x < w - 1)))) + (bN (decide (0 < y)))) + (bN (decide (y < h - 1))))) (nI_add (((bN (decide (0 < x))) + (bN (decide (x < w - 1)))) + (bN (decide (0 < y)))) (bN (decide (y < h - 1)))) ?_
  refine lv_istore_n (lv' := [(3, .int (nI ((((bN (decide (0 < x))) + (bN (decide (x < w - 1)))) + (bN (decide (0 < y)))) + (bN (decide (y < h - 1)))))), (0, .ref m0), (1, .int (nI x)), (2, .int (nI y))]) hx hb dX2_bare_51 rfl hl (by decide) rfl (fun ls hl => ?_)
  refine lv_iload_n hx hb dX2_bare_52 rfl (lv_at hl 0 rfl) ?_
  refine lv_aload_n hx hb dX2_bare_53 rfl (lv_at hl 1 rfl) ?_
  refine lv_iload_n hx hb dX2_bare_54 rfl (lv_at hl 2 rfl) ?_
  refine lv_iload_n hx hb dX2_bare_55 rfl (lv_at hl 3 rfl) ?_
  refine lv_iconst (v := 1) hx hb dX2_bare_56 (by decide) ?_
  refine s_callVi (As := [.int (nI x), .int (nI y), .int 1]) (rest := [.int (nI ((((bN (decide (0 < x))) + (bN (decide (x < w - 1)))) + (bN (decide (0 < y)))) + (bN (decide (y < h - 1)))))]) F9 (m_X2_beside l dC dI cI cZ cJ cD m0 w h nd wv mA rM K tA rT T x y 1 (gk) (hK4) (hxw) (hyh) (by omega)) (cwV 3 hts gX2_bare_X2_beside rfl rfl rfl (by decide +kernel) ⟨Nat.le_of_ble_eq_true rfl, Nat.le_of_ble_eq_true rfl⟩) hK hN hP hD hS hA [0, 1, 2, 3, 4] [] 5 rfl rfl (by decide) (fun (_ : Unit) => ([[(m0, .inr (2, [.int (nI w), .int (nI h), .int (nI nd), .int wv, .ref mA, .ref tA]))], [(mA, .inl (cJ, w, .inr (.inr (.inr (.inr (gQ w rM))))))], gB w rM cI h (gM w K), [(tA, .inl (cD, w, .inr (.inr (.inr (.inr (gQ w rT))))))], gB w rT cZ h (gZ w T)] : gW)) [0, 1, 2, 3, 4] [] 5 (fun _ => rfl) (fun _ => rfl) (fun _ => rfl) (by decide) 0 0 (ci := 2) rfl rfl rfl rfl rfl hl.1 rfl (Nat.le_of_ble_eq_true rfl) dX2_bare_57 ⟨by show 0 + 0 ≤ 0; omega, by show 0 + 0 ≤ 0; omega⟩ (fun r_57 u H locs hp_57 hP hD hS => ?_)
  have hP : va_P (dC, dI) vwCl (List.flatten ([[(m0, .inr (2, [.int (nI w), .int (nI h), .int (nI nd), .int wv, .ref mA, .ref tA]))], [(mA, .inl (cJ, w, .inr (.inr (.inr (.inr (gQ w rM))))))], gB w rM cI h (gM w K), [(tA, .inl (cD, w, .inr (.inr (.inr (.inr (gQ w rT))))))], gB w rT cZ h (gZ w T)] : gW)) H := hP
  have hD : va_D A (List.flatten ([[(m0, .inr (2, [.int (nI w), .int (nI h), .int (nI nd), .int wv, .ref mA, .ref tA]))], [(mA, .inl (cJ, w, .inr (.inr (.inr (.inr (gQ w rM))))))], gB w rM cI h (gM w K), [(tA, .inl (cD, w, .inr (.inr (.inr (.inr (gQ w rT))))))], gB w rT cZ h (gZ w T)] : gW)) := hD
  have hp_57 : r_57 = nI (cnbs w h K (w * y + x) 1) := hp_57
  refine z_topi (y := nI (cnbs w h K (w * y + x) 1)) (hp_57) ?_
  have hsd2 : sidN w h x y = bN (decide (0 < x)) + bN (decide (x < w - 1)) + bN (decide (0 < y)) + bN (decide (y < h - 1)) := rfl
  refine lv_isub hx hb dX2_bare_60 ?_
  refine z_topi (y := nI (((((bN (decide (0 < x))) + (bN (decide (x < w - 1)))) + (bN (decide (0 < y)))) + (bN (decide (y < h - 1)))) - (cnbs w h K (w * y + x) 1))) (pk_sub (a := ((((bN (decide (0 < x))) + (bN (decide (x < w - 1)))) + (bN (decide (0 < y)))) + (bN (decide (y < h - 1))))) (b := (cnbs w h K (w * y + x) 1)) (by omega)) ?_
  refine lv_aload_n hx hb dX2_bare_61 rfl (lv_at hl 1 rfl) ?_
  refine lv_iload_n hx hb dX2_bare_62 rfl (lv_at hl 2 rfl) ?_
  refine lv_iload_n hx hb dX2_bare_63 rfl (lv_at hl 3 rfl) ?_
  refine lv_iconst (v := 2) hx hb dX2_bare_64 (by decide) ?_
  refine s_callVi (As := [.int (nI x), .int (nI y), .int 2]) (rest := [.int (nI (((((bN (decide (0 < x))) + (bN (decide (x < w - 1)))) + (bN (decide (0 < y)))) + (bN (decide (y < h - 1)))) - (cnbs w h K (w * y + x) 1)))]) F9 (m_X2_beside l dC dI cI cZ cJ cD m0 w h nd wv mA rM K tA rT T x y 2 (gk) (hK4) (hxw) (hyh) (by omega)) (cwV 3 hts gX2_bare_X2_beside rfl rfl rfl (by decide +kernel) ⟨Nat.le_of_ble_eq_true rfl, Nat.le_of_ble_eq_true rfl⟩) hK hN hP hD hS hA [0, 1, 2, 3, 4] [] 5 rfl rfl (by decide) (fun (_ : Unit) => ([[(m0, .inr (2, [.int (nI w), .int (nI h), .int (nI nd), .int wv, .ref mA, .ref tA]))], [(mA, .inl (cJ, w, .inr (.inr (.inr (.inr (gQ w rM))))))], gB w rM cI h (gM w K), [(tA, .inl (cD, w, .inr (.inr (.inr (.inr (gQ w rT))))))], gB w rT cZ h (gZ w T)] : gW)) [0, 1, 2, 3, 4] [] 5 (fun _ => rfl) (fun _ => rfl) (fun _ => rfl) (by decide) 0 0 (ci := 2) rfl rfl rfl rfl rfl hl.1 rfl (Nat.le_of_ble_eq_true rfl) dX2_bare_65 ⟨by show 0 + 0 ≤ 0; omega, by show 0 + 0 ≤ 0; omega⟩ (fun r_65 u H locs hp_65 hP hD hS => ?_)
  have hP : va_P (dC, dI) vwCl (List.flatten ([[(m0, .inr (2, [.int (nI w), .int (nI h), .int (nI nd), .int wv, .ref mA, .ref tA]))], [(mA, .inl (cJ, w, .inr (.inr (.inr (.inr (gQ w rM))))))], gB w rM cI h (gM w K), [(tA, .inl (cD, w, .inr (.inr (.inr (.inr (gQ w rT))))))], gB w rT cZ h (gZ w T)] : gW)) H := hP
  have hD : va_D A (List.flatten ([[(m0, .inr (2, [.int (nI w), .int (nI h), .int (nI nd), .int wv, .ref mA, .ref tA]))], [(mA, .inl (cJ, w, .inr (.inr (.inr (.inr (gQ w rM))))))], gB w rM cI h (gM w K), [(tA, .inl (cD, w, .inr (.inr (.inr (.inr (gQ w rT))))))], gB w rT cZ h (gZ w T)] : gW)) := hD
  have hp_65 : r_65 = nI (cnbs w h K (w * y + x) 2) := hp_65
  refine z_topi (y := nI (cnbs w h K (w * y + x) 2)) (hp_65) ?_
  refine lv_isub hx hb dX2_bare_68 ?_
  refine z_topi (y := nI ((((((bN (decide (0 < x))) + (bN (decide (x < w - 1)))) + (bN (decide (0 < y)))) + (bN (decide (y < h - 1)))) - (cnbs w h K (w * y + x) 1)) - (cnbs w h K (w * y + x) 2))) (pk_sub (a := (((((bN (decide (0 < x))) + (bN (decide (x < w - 1)))) + (bN (decide (0 < y)))) + (bN (decide (y < h - 1)))) - (cnbs w h K (w * y + x) 1))) (b := (cnbs w h K (w * y + x) 2)) (by omega)) ?_
  refine lv_aload_n hx hb dX2_bare_69 rfl (lv_at hl 1 rfl) ?_
  refine lv_iload_n hx hb dX2_bare_70 rfl (lv_at hl 2 rfl) ?_
  refine lv_iload_n hx hb dX2_bare_71 rfl (lv_at hl 3 rfl) ?_
  refine lv_iconst (v := 3) hx hb dX2_bare_72 (by decide) ?_
  refine s_callVi (As := [.int (nI x), .int (nI y), .int 3]) (rest := [.int (nI ((((((bN (decide (0 < x))) + (bN (decide (x < w - 1)))) + (bN (decide (0 < y)))) + (bN (decide (y < h - 1)))) - (cnbs w h K (w * y + x) 1)) - (cnbs w h K (w * y + x) 2)))]) F9 (m_X2_beside l dC dI cI cZ cJ cD m0 w h nd wv mA rM K tA rT T x y 3 (gk) (hK4) (hxw) (hyh) (by omega)) (cwV 3 hts gX2_bare_X2_beside rfl rfl rfl (by decide +kernel) ⟨Nat.le_of_ble_eq_true rfl, Nat.le_of_ble_eq_true rfl⟩) hK hN hP hD hS hA [0, 1, 2, 3, 4] [] 5 rfl rfl (by decide) (fun (_ : Unit) => ([[(m0, .inr (2, [.int (nI w), .int (nI h), .int (nI nd), .int wv, .ref mA, .ref tA]))], [(mA, .inl (cJ, w, .inr (.inr (.inr (.inr (gQ w rM))))))], gB w rM cI h (gM w K), [(tA, .inl (cD, w, .inr (.inr (.inr (.inr (gQ w rT))))))], gB w rT cZ h (gZ w T)] : gW)) [0, 1, 2, 3, 4] [] 5 (fun _ => rfl) (fun _ => rfl) (fun _ => rfl) (by decide) 0 0 (ci := 2) rfl rfl rfl rfl rfl hl.1 rfl (Nat.le_of_ble_eq_true rfl) dX2_bare_73 ⟨by show 0 + 0 ≤ 0; omega, by show 0 + 0 ≤ 0; omega⟩ (fun r_73 u H locs hp_73 hP hD hS => ?_)
  have hP : va_P (dC, dI) vwCl (List.flatten ([[(m0, .inr (2, [.int (nI w), .int (nI h), .int (nI nd), .int wv, .ref mA, .ref tA]))], [(mA, .inl (cJ, w, .inr (.inr (.inr (.inr (gQ w rM))))))], gB w rM cI h (gM w K), [(tA, .inl (cD, w, .inr (.inr (.inr (.inr (gQ w rT))))))], gB w rT cZ h (gZ w T)] : gW)) H := hP
  have hD : va_D A (List.flatten ([[(m0, .inr (2, [.int (nI w), .int (nI h), .int (nI nd), .int wv, .ref mA, .ref tA]))], [(mA, .inl (cJ, w, .inr (.inr (.inr (.inr (gQ w rM))))))], gB w rM cI h (gM w K), [(tA, .inl (cD, w, .inr (.inr (.inr (.inr (gQ w rT))))))], gB w rT cZ h (gZ w T)] : gW)) := hD
  have hp_73 : r_73 = nI (cnbs w h K (w * y + x) 3) := hp_73
  refine z_topi (y := nI (cnbs w h K (w * y + x) 3)) (hp_73) ?_
  refine lv_isub hx hb dX2_bare_76 ?_
  refine z_topi (y := nI (((((((bN (decide (0 < x))) + (bN (decide (x < w - 1)))) + (bN (decide (0 < y)))) + (bN (decide (y < h - 1)))) - (cnbs w h K (w * y + x) 1)) - (cnbs w h K (w * y + x) 2)) - (cnbs w h K (w * y + x) 3))) (pk_sub (a := ((((((bN (decide (0 < x))) + (bN (decide (x < w - 1)))) + (bN (decide (0 < y)))) + (bN (decide (y < h - 1)))) - (cnbs w h K (w * y + x) 1)) - (cnbs w h K (w * y + x) 2))) (b := (cnbs w h K (w * y + x) 3)) (by omega)) ?_
  refine lv_aload_n hx hb dX2_bare_77 rfl (lv_at hl 1 rfl) ?_
  refine lv_iload_n hx hb dX2_bare_78 rfl (lv_at hl 2 rfl) ?_
  refine lv_iload_n hx hb dX2_bare_79 rfl (lv_at hl 3 rfl) ?_
  refine lv_iconst (v := 4) hx hb dX2_bare_80 (by decide) ?_
  refine s_callVi (As := [.int (nI x), .int (nI y), .int 4]) (rest := [.int (nI (((((((bN (decide (0 < x))) + (bN (decide (x < w - 1)))) + (bN (decide (0 < y)))) + (bN (decide (y < h - 1)))) - (cnbs w h K (w * y + x) 1)) - (cnbs w h K (w * y + x) 2)) - (cnbs w h K (w * y + x) 3)))]) F9 (m_X2_beside l dC dI cI cZ cJ cD m0 w h nd wv mA rM K tA rT T x y 4 (gk) (hK4) (hxw) (hyh) (by omega)) (cwV 3 hts gX2_bare_X2_beside rfl rfl rfl (by decide +kernel) ⟨Nat.le_of_ble_eq_true rfl, Nat.le_of_ble_eq_true rfl⟩) hK hN hP hD hS hA [0, 1, 2, 3, 4] [] 5 rfl rfl (by decide) (fun (_ : Unit) => ([[(m0, .inr (2, [.int (nI w), .int (nI h), .int (nI nd), .int wv, .ref mA, .ref tA]))], [(mA, .inl (cJ, w, .inr (.inr (.inr (.inr (gQ w rM))))))], gB w rM cI h (gM w K), [(tA, .inl (cD, w, .inr (.inr (.inr (.inr (gQ w rT))))))], gB w rT cZ h (gZ w T)] : gW)) [0, 1, 2, 3, 4] [] 5 (fun _ => rfl) (fun _ => rfl) (fun _ => rfl) (by decide) 0 0 (ci := 2) rfl rfl rfl rfl rfl hl.1 rfl (Nat.le_of_ble_eq_true rfl) dX2_bare_81 ⟨by show 0 + 0 ≤ 0; omega, by show 0 + 0 ≤ 0; omega⟩ (fun r_81 u H locs hp_81 hP hD hS => ?_)
  have hP : va_P (dC, dI) vwCl (List.flatten ([[(m0, .inr (2, [.int (nI w), .int (nI h), .int (nI nd), .int wv, .ref mA, .ref tA]))], [(mA, .inl (cJ, w, .inr (.inr (.inr (.inr (gQ w rM))))))], gB w rM cI h (gM w K), [(tA, .inl (cD, w, .inr (.inr (.inr (.inr (gQ w rT))))))], gB w rT cZ h (gZ w T)] : gW)) H := hP
  have hD : va_D A (List.flatten ([[(m0, .inr (2, [.int (nI w), .int (nI h), .int (nI nd), .int wv, .ref mA, .ref tA]))], [(mA, .inl (cJ, w, .inr (.inr (.inr (.inr (gQ w rM))))))], gB w rM cI h (gM w K), [(tA, .inl (cD, w, .inr (.inr (.inr (.inr (gQ w rT))))))], gB w rT cZ h (gZ w T)] : gW)) := hD
  have hp_81 : r_81 = nI (cnbs w h K (w * y + x) 4) := hp_81
  refine z_topi (y := nI (cnbs w h K (w * y + x) 4)) (hp_81) ?_
  refine lv_isub hx hb dX2_bare_84 ?_
  refine z_topi (y := nI ((((((((bN (decide (0 < x))) + (bN (decide (x < w - 1)))) + (bN (decide (0 < y)))) + (bN (decide (y < h - 1)))) - (cnbs w h K (w * y + x) 1)) - (cnbs w h K (w * y + x) 2)) - (cnbs w h K (w * y + x) 3)) - (cnbs w h K (w * y + x) 4))) (pk_sub (a := (((((((bN (decide (0 < x))) + (bN (decide (x < w - 1)))) + (bN (decide (0 < y)))) + (bN (decide (y < h - 1)))) - (cnbs w h K (w * y + x) 1)) - (cnbs w h K (w * y + x) 2)) - (cnbs w h K (w * y + x) 3))) (b := (cnbs w h K (w * y + x) 4)) (by omega)) ?_
  rw [← hQ]
  exact s_iret (W1 := (fun (_ : Unit) => ([[(m0, .inr (2, [.int (nI w), .int (nI h), .int (nI nd), .int wv, .ref mA, .ref tA]))], [(mA, .inl (cJ, w, .inr (.inr (.inr (.inr (gQ w rM))))))], gB w rM cI h (gM w K), [(tA, .inl (cD, w, .inr (.inr (.inr (.inr (gQ w rT))))))], gB w rT cZ h (gZ w T)] : gW))) hx hb hr hlocks hP hD hS () [0, 1, 2, 3, 4] [] 5 rfl rfl (by decide) (congrArg nI (by omega)) (by omega) (by omega) dX2_bare_85
abbrev rmX2_next : Room := { frames := 2, cells := 0, slots := 0, locals := 45 }
set_option maxRecDepth 20000 in
theorem iX2_next_X2 : ∀ w ∈ wsX20, w ∈ wsX2_next := fun w h => (goodIn_r (big := wsX2_next) wsX20 [15, 16, 17, 18, 19, 20] rfl (by decide +kernel) w h).1
set_option maxHeartbeats 4000000 in
set_option maxRecDepth 100000 in
theorem m_X2_next (l : Launch) (dC : Nat → ClassId) (dI : Nat → Nat → Nat) (cI cZ cJ cD : ClassId) (m0 : Nat) (w : Nat) (h : Nat) (nd : Nat) (wv : Int32) (mA : Nat) (rM : Nat → Nat) (K : Nat → Nat) (tA : Nat) (rT : Nat → Nat) (T : Nat → Bool) (x : Nat) (y : Nat) (gk : gok w h) (h1 : 1 ≤ nd) (h4 : nd ≤ 4) (hK4 : ∀ c, K c ≤ 4) (hxw : x < w) (hyh : y < h) : sI l (dC, dI) (wT cI cZ cJ cD) yX2_next wsX2_next rmX2_next [[(m0, .inr (2, [.int (nI w), .int (nI h), .int (nI nd), .int wv, .ref mA, .ref tA]))], [(mA, .inl (cJ, w, .inr (.inr (.inr (.inr (gQ w rM))))))], gB w rM cI h (gM w K), [(tA, .inl (cD, w, .inr (.inr (.inr (.inr (gQ w rT))))))], gB w rT cZ h (gZ w T)] [.ref m0, .int (nI x), .int (nI y)] (fun (_ : Unit) => ([[(m0, .inr (2, [.int (nI w), .int (nI h), .int (nI nd), .int wv, .ref mA, .ref tA]))], [(mA, .inl (cJ, w, .inr (.inr (.inr (.inr (gQ w rM))))))], gB w rM cI h (gM w K), [(tA, .inl (cD, w, .inr (.inr (.inr (.inr (gQ w rT))))))], gB w rT cZ h (gZ w T)] : gW)) (fun (r : Int32) (_ : Unit) => r = nI (nxt w h nd T K (w * y + x))) 0 0 := by
  intro sz
  refine Met.ofW (cc := cX2_next) (maxL := 7) (ret := (some .int)) (by decide) rfl ?_
  intro p e s m args below meth c s₁ B hml hv
  obtain ⟨ha, hsz, hP, hK, hD0, hN⟩ := hv
  have hx := B.exec
  have hb := B.bytes
  have hr := B.returns
  have hts := atoms_spec (ws := wsX2_next) B.pre
  have hown : s.vm.findClass RX2 = some m.cls := findClass_of_methodNamed B.named
  have hlocks := B.notSynchronized
  subst hsz
  have hD := hD0.self (sz := s.heap.size)
  generalize hAe : va_A (List.flatten ([[(m0, .inr (2, [.int (nI w), .int (nI h), .int (nI nd), .int wv, .ref mA, .ref tA]))], [(mA, .inl (cJ, w, .inr (.inr (.inr (.inr (gQ w rM))))))], gB w rM cI h (gM w K), [(tA, .inl (cD, w, .inr (.inr (.inr (.inr (gQ w rT))))))], gB w rT cZ h (gZ w T)] : gW)) s.heap.size = A at hD ⊢
  have hA : ∀ q : Nat, s.heap.size ≤ q → A q := fun q h => by rw [← hAe]; exact Or.inr h
  have hS : va_S A s.heap s.heap [] := va_S.rf
  generalize hQ : MQ below (va_Qi (fun (r : Int32) (_ : Unit) => r = nI (nxt w h nd T K (w * y + x))) (fun u t => va_P (dC, dI) vwCl (List.flatten ((fun (_ : Unit) => ([[(m0, .inr (2, [.int (nI w), .int (nI h), .int (nI nd), .int wv, .ref mA, .ref tA]))], [(mA, .inl (cJ, w, .inr (.inr (.inr (.inr (gQ w rM))))))], gB w rM cI h (gM w K), [(tA, .inl (cD, w, .inr (.inr (.inr (.inr (gQ w rT))))))], gB w rT cZ h (gZ w T)] : gW)) u)) t.heap ∧ va_D A (List.flatten ((fun (_ : Unit) => ([[(m0, .inr (2, [.int (nI w), .int (nI h), .int (nI nd), .int wv, .ref mA, .ref tA]))], [(mA, .inl (cJ, w, .inr (.inr (.inr (.inr (gQ w rM))))))], gB w rM cI h (gM w K), [(tA, .inl (cD, w, .inr (.inr (.inr (.inr (gQ w rT))))))], gB w rT cZ h (gZ w T)] : gW)) u))) A) args s 0 0 A = Q
  have F9 : CallFix p m c cX2_next 7 s args wsX2_next RX2 := ⟨hx, hb, hml, hown, hts⟩
  obtain ⟨gw2, gw5, gh2, gh5⟩ := id gk
  have wh25 := wh_le gk
  have hc4 : ∀ j, cnbs w h K (w * y + x) j ≤ 4 := fun j => nbs_le w h _ (w * y + x)
  refine z_entry (R := rmX2_next) ha (Nat.le_of_ble_eq_true rfl) (fun ls hl => ?_)
  have hl : lv_has ls 7 [(0, .ref m0), (1, .int (nI x)), (2, .int (nI y))] := hl
  refine lv_aload_n hx hb dX2_next_0 rfl (lv_at hl 0 rfl) ?_
  refine s_get (D := (dC, dI)) (ci := 2) (v := .ref tA) (C := RX2) (T := TX2) (N := 6) hx hb hts iX2_next_X2 hown hK hP 0 0 rfl rfl rfl 5 (by decide) (hts (.fieldLink RX2 26 "ColourTideLaw$Sim" "stubborn" "[[Z") (List.mem_of_getElem? (i := 1) rfl)) (fun _ h9 => h9) rfl dX2_next_1 ?_
  refine lv_iload_n hx hb dX2_next_4 rfl (lv_at hl 1 rfl) ?_
  refine s_qald hx hb hK hP 3 3 rfl rfl rfl x (rfl) (by omega) (by omega) dX2_next_5 ?_
  refine lv_iload_n hx hb dX2_next_6 rfl (lv_at hl 2 rfl) ?_
  refine s_gzald hx hb hK hP 4 1 x rfl (by omega) rfl y (rfl) (by omega) (by omega) dX2_next_7 ?_
  refine lv_if_eq (tgt := 20) hx hb dX2_next_8 (by decide) (fun c_8 => ?_) (fun c_8 => ?_)
  · skip
    refine lv_iconst (v := 1) hx hb dX2_next_20 (by decide) ?_
    refine lv_istore_n (lv' := [(3, .int 1), (0, .ref m0), (1, .int (nI x)), (2, .int (nI y))]) hx hb dX2_next_21 rfl hl (by decide) rfl (fun ls hl => ?_)
    have loop_22 : ∀ (n : Nat) (k : Nat) (hkn : k + n = 5) (hk1 : 1 ≤ k) (hz : ∀ j, 1 ≤ j → j < k → isB (cnbs w h K (w * y + x)) nd j 4 = false) (H : Heap) (locs : List Loc) (ls : Array Slot) (hP : va_P (dC, dI) vwCl (List.flatten ([[(m0, .inr (2, [.int (nI w), .int (nI h), .int (nI nd), .int wv, .ref mA, .ref tA]))], [(mA, .inl (cJ, w, .inr (.inr (.inr (.inr (gQ w rM))))))], gB w rM cI h (gM w K), [(tA, .inl (cD, w, .inr (.inr (.inr (.inr (gQ w rT))))))], gB w rT cZ h (gZ w T)] : gW)) H) (hD : va_D A (List.flatten ([[(m0, .inr (2, [.int (nI w), .int (nI h), .int (nI nd), .int wv, .ref mA, .ref tA]))], [(mA, .inl (cJ, w, .inr (.inr (.inr (.inr (gQ w rM))))))], gB w rM cI h (gM w K), [(tA, .inl (cD, w, .inr (.inr (.inr (.inr (gQ w rT))))))], gB w rT cZ h (gZ w T)] : gW))) (hS : va_S A s.heap H locs) (hl : lv_has ls 7 [(0, .ref m0), (1, .int (nI x)), (2, .int (nI y)), (3, .int (nI k))]), W p l e rmX2_next s m args below meth c H locs (0) (0) Q (F0 m 22 ls []) := by
      intro n
      induction n with
      | zero =>
        intro k hkn hk1 hz H locs ls hP hD hS hl
        refine lv_iload_n hx hb dX2_next_22 rfl (lv_at hl 3 rfl) ?_
        refine lv_iconst (v := 5) hx hb dX2_next_23 (by decide) ?_
        refine lv_icmp_ge (tgt := 111) hx hb dX2_next_24 (by decide) (fun c_24 => ?_) (fun c_24 => ?_)
        · skip
          have n_24 := zc_le_t (a := 5) (b := k) (by omega) (by omega) c_24
          refine lv_aload_n hx hb dX2_next_111 rfl (lv_at hl 0 rfl) ?_
          refine s_get (D := (dC, dI)) (ci := 2) (v := .ref mA) (C := RX2) (T := TX2) (N := 6) hx hb hts iX2_next_X2 hown hK hP 0 0 rfl rfl rfl 4 (by decide) (hts (.fieldLink RX2 21 "ColourTideLaw$Sim" "map" "[[I") (List.mem_of_getElem? (i := 2) rfl)) (fun _ h9 => h9) rfl dX2_next_112 ?_
          refine lv_iload_n hx hb dX2_next_115 rfl (lv_at hl 1 rfl) ?_
          refine s_qald hx hb hK hP 1 2 rfl rfl rfl x (rfl) (by omega) (by omega) dX2_next_116 ?_
          refine lv_iload_n hx hb dX2_next_117 rfl (lv_at hl 2 rfl) ?_
          refine s_gald hx hb hK hP 2 0 x rfl (by omega) rfl y (rfl) (by omega) (by omega) dX2_next_118 ?_
          rw [← hQ]
          exact s_iret (W1 := (fun (_ : Unit) => ([[(m0, .inr (2, [.int (nI w), .int (nI h), .int (nI nd), .int wv, .ref mA, .ref tA]))], [(mA, .inl (cJ, w, .inr (.inr (.inr (.inr (gQ w rM))))))], gB w rM cI h (gM w K), [(tA, .inl (cD, w, .inr (.inr (.inr (.inr (gQ w rT))))))], gB w rT cZ h (gZ w T)] : gW))) hx hb hr hlocks hP hD hS () [0, 1, 2, 3, 4] [] 5 rfl rfl (by decide) (nx_no h1 (fun j a1 a4 => hz j a1 (by omega))) (by omega) (by omega) dX2_next_119
        · skip
          have n_24 := zc_le_f (a := 5) (b := k) (by omega) (by omega) c_24
          exact absurd n_24 (by omega)
      | succ n ih_22 =>
        intro k hkn hk1 hz H locs ls hP hD hS hl
        refine lv_iload_n hx hb dX2_next_22 rfl (lv_at hl 3 rfl) ?_
        refine lv_iconst (v := 5) hx hb dX2_next_23 (by decide) ?_
        refine lv_icmp_ge (tgt := 111) hx hb dX2_next_24 (by decide) (fun c_24 => ?_) (fun c_24 => ?_)
        · skip
          have n_24 := zc_le_t (a := 5) (b := k) (by omega) (by omega) c_24
          exact absurd n_24 (by omega)
        · skip
          have n_24 := zc_le_f (a := 5) (b := k) (by omega) (by omega) c_24
          refine lv_aload_n hx hb dX2_next_27 rfl (lv_at hl 0 rfl) ?_
          refine lv_iload_n hx hb dX2_next_28 rfl (lv_at hl 1 rfl) ?_
          refine lv_iload_n hx hb dX2_next_29 rfl (lv_at hl 2 rfl) ?_
          refine lv_iload_n hx hb dX2_next_30 rfl (lv_at hl 3 rfl) ?_
          refine s_callVi (As := [.int (nI x), .int (nI y), .int (nI k)]) (rest := []) F9 (m_X2_beside l dC dI cI cZ cJ cD m0 w h nd wv mA rM K tA rT T x y k (gk) (hK4) (hxw) (hyh) (by omega)) (cwV 3 hts gX2_next_X2_beside rfl rfl rfl (by decide +kernel) ⟨Nat.le_of_ble_eq_true rfl, Nat.le_of_ble_eq_true rfl⟩) hK hN hP hD hS hA [0, 1, 2, 3, 4] [] 5 rfl rfl (by decide) (fun (_ : Unit) => ([[(m0, .inr (2, [.int (nI w), .int (nI h), .int (nI nd), .int wv, .ref mA, .ref tA]))], [(mA, .inl (cJ, w, .inr (.inr (.inr (.inr (gQ w rM))))))], gB w rM cI h (gM w K), [(tA, .inl (cD, w, .inr (.inr (.inr (.inr (gQ w rT))))))], gB w rT cZ h (gZ w T)] : gW)) [0, 1, 2, 3, 4] [] 5 (fun _ => rfl) (fun _ => rfl) (fun _ => rfl) (by decide) 0 0 (ci := 2) rfl rfl rfl rfl rfl hl.1 rfl (Nat.le_of_ble_eq_true rfl) dX2_next_31 ⟨by show 0 + 0 ≤ 0; omega, by show 0 + 0 ≤ 0; omega⟩ (fun r_31 u H locs hp_31 hP hD hS => ?_)
          have hP : va_P (dC, dI) vwCl (List.flatten ([[(m0, .inr (2, [.int (nI w), .int (nI h), .int (nI nd), .int wv, .ref mA, .ref tA]))], [(mA, .inl (cJ, w, .inr (.inr (.inr (.inr (gQ w rM))))))], gB w rM cI h (gM w K), [(tA, .inl (cD, w, .inr (.inr (.inr (.inr (gQ w rT))))))], gB w rT cZ h (gZ w T)] : gW)) H := hP
          have hD : va_D A (List.flatten ([[(m0, .inr (2, [.int (nI w), .int (nI h), .int (nI nd), .int wv, .ref mA, .ref tA]))], [(mA, .inl (cJ, w, .inr (.inr (.inr (.inr (gQ w rM))))))], gB w rM cI h (gM w K), [(tA, .inl (cD, w, .inr (.inr (.inr (.inr (gQ w rT))))))], gB w rT cZ h (gZ w T)] : gW)) := hD
          have hp_31 : r_31 = nI (cnbs w h K (w * y + x) k) := hp_31
          refine z_topi (y := nI (cnbs w h K (w * y + x) k)) (hp_31) ?_
          refine lv_istore (lv' := [(4, .int (nI (cnbs w h K (w * y + x) k))), (0, .ref m0), (1, .int (nI x)), (2, .int (nI y)), (3, .int (nI k))]) hx hb dX2_next_34 hl (by decide) rfl (fun ls hl => ?_)
          refine lv_iload hx hb dX2_next_36 (lv_at hl 0 rfl) ?_
          refine lv_aload_n hx hb dX2_next_38 rfl (lv_at hl 1 rfl) ?_
          refine s_get (D := (dC, dI)) (ci := 2) (v := .int (nI nd)) (C := RX2) (T := TX2) (N := 6) hx hb hts iX2_next_X2 hown hK hP 0 0 rfl rfl rfl 2 (by decide) (hts (.fieldLink RX2 7 "ColourTideLaw$Sim" "need" "I") (List.mem_of_getElem? (i := 3) rfl)) (fun _ h9 => h9) rfl dX2_next_39 ?_
          have hck := hc4 k
          suffices j_50 : ∀ v_50 : Int32, v_50 = (bz (isB (cnbs w h K (w * y + x)) nd k 0)) → W p l e rmX2_next s m args below meth c H locs (0) (0) Q (F0 m 50 ls [.int v_50]) by
            refine lv_icmp_lt (tgt := 49) hx hb dX2_next_42 (by decide) (fun c_42 => ?_) (fun c_42 => ?_)
            · skip
              have n_42 := zc_lt_t (a := (cnbs w h K (w * y + x) k)) (b := nd) (by omega) (by omega) c_42
              refine lv_iconst (v := 0) hx hb dX2_next_49 (by decide) ?_
              exact j_50 _ (by rw [isB, decide_eq_false (show ¬ nd ≤ cnbs w h K (w * y + x) k by omega)]; rfl)
            · skip
              have n_42 := zc_lt_f (a := (cnbs w h K (w * y + x) k)) (b := nd) (by omega) (by omega) c_42
              refine lv_iconst (v := 1) hx hb dX2_next_45 (by decide) ?_
              refine lv_goto (tgt := 50) hx hb dX2_next_46 (by decide) ?_
              exact j_50 _ (by rw [isB, decide_eq_true (show nd ≤ cnbs w h K (w * y + x) k by omega)]; rfl)
          intro v_50 h_v_50
          rw [h_v_50]
          refine lv_istore (lv' := [(5, .int (bz (isB (cnbs w h K (w * y + x)) nd k 0))), (4, .int (nI (cnbs w h K (w * y + x) k))), (0, .ref m0), (1, .int (nI x)), (2, .int (nI y)), (3, .int (nI k))]) hx hb dX2_next_50 hl (by decide) rfl (fun ls hl => ?_)
          refine lv_iconst (v := 1) hx hb dX2_next_52 (by decide) ?_
          refine lv_istore (lv' := [(6, .int 1), (5, .int (bz (isB (cnbs w h K (w * y + x)) nd k 0))), (4, .int (nI (cnbs w h K (w * y + x) k))), (0, .ref m0), (1, .int (nI x)), (2, .int (nI y)), (3, .int (nI k))]) hx hb dX2_next_53 hl (by decide) rfl (fun ls hl => ?_)
          have loop_55 : ∀ (n : Nat) (o : Nat) (hkn : o + n = 4) (H : Heap) (locs : List Loc) (ls : Array Slot) (hP : va_P (dC, dI) vwCl (List.flatten ([[(m0, .inr (2, [.int (nI w), .int (nI h), .int (nI nd), .int wv, .ref mA, .ref tA]))], [(mA, .inl (cJ, w, .inr (.inr (.inr (.inr (gQ w rM))))))], gB w rM cI h (gM w K), [(tA, .inl (cD, w, .inr (.inr (.inr (.inr (gQ w rT))))))], gB w rT cZ h (gZ w T)] : gW)) H) (hD : va_D A (List.flatten ([[(m0, .inr (2, [.int (nI w), .int (nI h), .int (nI nd), .int wv, .ref mA, .ref tA]))], [(mA, .inl (cJ, w, .inr (.inr (.inr (.inr (gQ w rM))))))], gB w rM cI h (gM w K), [(tA, .inl (cD, w, .inr (.inr (.inr (.inr (gQ w rT))))))], gB w rT cZ h (gZ w T)] : gW))) (hS : va_S A s.heap H locs) (hl : lv_has ls 7 [(0, .ref m0), (1, .int (nI x)), (2, .int (nI y)), (3, .int (nI k)), (4, .int (nI (cnbs w h K (w * y + x) k))), (5, .int (bz (isB (cnbs w h K (w * y + x)) nd k o))), (6, .int (nI (o + 1)))]), W p l e rmX2_next s m args below meth c H locs (0) (0) Q (F0 m 55 ls []) := by
            intro n
            induction n with
            | zero =>
              intro o hkn  H locs ls hP hD hS hl
              refine lv_iload hx hb dX2_next_55 (lv_at hl 6 rfl) ?_
              refine lv_iconst (v := 5) hx hb dX2_next_57 (by decide) ?_
              refine lv_icmp_ge (tgt := 98) hx hb dX2_next_58 (by decide) (fun c_58 => ?_) (fun c_58 => ?_)
              · skip
                have n_58 := zc_le_t (a := 5) (b := (o + 1)) (by omega) (by omega) c_58
                have eo : o = 4 := by omega
                refine lv_iload hx hb dX2_next_98 (lv_at hl 5 rfl) ?_
                refine lv_if_eq (tgt := 105) hx hb dX2_next_100 (by decide) (fun c_100 => ?_) (fun c_100 => ?_)
                · skip
                  refine lv_iinc (v := nI (k + 1)) (lv' := [(3, .int (nI (k + 1))), (0, .ref m0), (1, .int (nI x)), (2, .int (nI y)), (4, .int (nI (cnbs w h K (w * y + x) k))), (5, .int (bz (isB (cnbs w h K (w * y + x)) nd k o))), (6, .int (nI (o + 1)))]) hx hb dX2_next_105 hl (k := 3) rfl (nI_1 k) (by decide) rfl (fun ls hl => ?_)
                  refine lv_goto (tgt := 22) hx hb dX2_next_108 (by decide) ?_
                  exact ih_22 (k + 1) (by omega) (by omega) (fun j a1 a2 => by rcases Nat.lt_succ_iff_lt_or_eq.mp a2 with z | rfl; exact hz j a1 z; rw [← eo]; exact bz_0 c_100) _ _ _ hP hD hS (lv_sub hl [1, 2, 3, 0] rfl)
                · skip
                  refine lv_iload_n hx hb dX2_next_103 rfl (lv_at hl 3 rfl) ?_
                  rw [← hQ]
                  exact s_iret (W1 := (fun (_ : Unit) => ([[(m0, .inr (2, [.int (nI w), .int (nI h), .int (nI nd), .int wv, .ref mA, .ref tA]))], [(mA, .inl (cJ, w, .inr (.inr (.inr (.inr (gQ w rM))))))], gB w rM cI h (gM w K), [(tA, .inl (cD, w, .inr (.inr (.inr (.inr (gQ w rT))))))], gB w rT cZ h (gZ w T)] : gW))) hx hb hr hlocks hP hD hS () [0, 1, 2, 3, 4] [] 5 rfl rfl (by decide) (nx_win h1 (bz_0 c_8) (by omega) (by rw [← eo]; exact bz_1 c_100)) (by omega) (by omega) dX2_next_104
              · skip
                have n_58 := zc_le_f (a := 5) (b := (o + 1)) (by omega) (by omega) c_58
                exact absurd n_58 (by omega)
            | succ n ih_55 =>
              intro o hkn  H locs ls hP hD hS hl
              refine lv_iload hx hb dX2_next_55 (lv_at hl 6 rfl) ?_
              refine lv_iconst (v := 5) hx hb dX2_next_57 (by decide) ?_
              refine lv_icmp_ge (tgt := 98) hx hb dX2_next_58 (by decide) (fun c_58 => ?_) (fun c_58 => ?_)
              · skip
                have n_58 := zc_le_t (a := 5) (b := (o + 1)) (by omega) (by omega) c_58
                exact absurd n_58 (by omega)
              · skip
                have n_58 := zc_le_f (a := 5) (b := (o + 1)) (by omega) (by omega) c_58
                refine lv_iload hx hb dX2_next_61 (lv_at hl 5 rfl) ?_
                suffices j_90 : ∀ v_90 : Int32, v_90 = (bz (isB (cnbs w h K (w * y + x)) nd k (o + 1))) → ∀ (H : Heap) (locs : List Loc), va_P (dC, dI) vwCl (List.flatten ([[(m0, .inr (2, [.int (nI w), .int (nI h), .int (nI nd), .int wv, .ref mA, .ref tA]))], [(mA, .inl (cJ, w, .inr (.inr (.inr (.inr (gQ w rM))))))], gB w rM cI h (gM w K), [(tA, .inl (cD, w, .inr (.inr (.inr (.inr (gQ w rT))))))], gB w rT cZ h (gZ w T)] : gW)) H → va_D A (List.flatten ([[(m0, .inr (2, [.int (nI w), .int (nI h), .int (nI nd), .int wv, .ref mA, .ref tA]))], [(mA, .inl (cJ, w, .inr (.inr (.inr (.inr (gQ w rM))))))], gB w rM cI h (gM w K), [(tA, .inl (cD, w, .inr (.inr (.inr (.inr (gQ w rT))))))], gB w rT cZ h (gZ w T)] : gW)) → va_S A s.heap H locs → W p l e rmX2_next s m args below meth c H locs (0) (0) Q (F0 m 90 ls [.int v_90]) by
                  refine lv_if_eq (tgt := 89) hx hb dX2_next_63 (by decide) (fun c_63 => ?_) (fun c_63 => ?_)
                  · skip
                    refine lv_iconst (v := 0) hx hb dX2_next_89 (by decide) ?_
                    exact j_90 _ (isB_f c_63) _ _ hP hD hS
                  · skip
                    refine lv_iload hx hb dX2_next_66 (lv_at hl 6 rfl) ?_
                    refine lv_iload_n hx hb dX2_next_68 rfl (lv_at hl 3 rfl) ?_
                    refine lv_icmp_eq (tgt := 85) hx hb dX2_next_69 (by decide) (fun c_69 => ?_) (fun c_69 => ?_)
                    · skip
                      have n_69 := zc_eq_t (a := (o + 1)) (b := k) (by omega) (by omega) c_69
                      refine lv_iconst (v := 1) hx hb dX2_next_85 (by decide) ?_
                      refine lv_goto (tgt := 90) hx hb dX2_next_86 (by decide) ?_
                      exact j_90 _ (isB_e c_63 n_69) _ _ hP hD hS
                    · skip
                      have n_69 := zc_eq_f (a := (o + 1)) (b := k) (by omega) (by omega) c_69
                      refine lv_aload_n hx hb dX2_next_72 rfl (lv_at hl 0 rfl) ?_
                      refine lv_iload_n hx hb dX2_next_73 rfl (lv_at hl 1 rfl) ?_
                      refine lv_iload_n hx hb dX2_next_74 rfl (lv_at hl 2 rfl) ?_
                      refine lv_iload hx hb dX2_next_75 (lv_at hl 6 rfl) ?_
                      refine s_callVi (As := [.int (nI x), .int (nI y), .int (nI (o + 1))]) (rest := []) F9 (m_X2_beside l dC dI cI cZ cJ cD m0 w h nd wv mA rM K tA rT T x y (o + 1) (gk) (hK4) (hxw) (hyh) (by omega)) (cwV 3 hts gX2_next_X2_beside rfl rfl rfl (by decide +kernel) ⟨Nat.le_of_ble_eq_true rfl, Nat.le_of_ble_eq_true rfl⟩) hK hN hP hD hS hA [0, 1, 2, 3, 4] [] 5 rfl rfl (by decide) (fun (_ : Unit) => ([[(m0, .inr (2, [.int (nI w), .int (nI h), .int (nI nd), .int wv, .ref mA, .ref tA]))], [(mA, .inl (cJ, w, .inr (.inr (.inr (.inr (gQ w rM))))))], gB w rM cI h (gM w K), [(tA, .inl (cD, w, .inr (.inr (.inr (.inr (gQ w rT))))))], gB w rT cZ h (gZ w T)] : gW)) [0, 1, 2, 3, 4] [] 5 (fun _ => rfl) (fun _ => rfl) (fun _ => rfl) (by decide) 0 0 (ci := 2) rfl rfl rfl rfl rfl hl.1 rfl (Nat.le_of_ble_eq_true rfl) dX2_next_77 ⟨by show 0 + 0 ≤ 0; omega, by show 0 + 0 ≤ 0; omega⟩ (fun r_77 u H locs hp_77 hP hD hS => ?_)
                      have hP : va_P (dC, dI) vwCl (List.flatten ([[(m0, .inr (2, [.int (nI w), .int (nI h), .int (nI nd), .int wv, .ref mA, .ref tA]))], [(mA, .inl (cJ, w, .inr (.inr (.inr (.inr (gQ w rM))))))], gB w rM cI h (gM w K), [(tA, .inl (cD, w, .inr (.inr (.inr (.inr (gQ w rT))))))], gB w rT cZ h (gZ w T)] : gW)) H := hP
                      have hD : va_D A (List.flatten ([[(m0, .inr (2, [.int (nI w), .int (nI h), .int (nI nd), .int wv, .ref mA, .ref tA]))], [(mA, .inl (cJ, w, .inr (.inr (.inr (.inr (gQ w rM))))))], gB w rM cI h (gM w K), [(tA, .inl (cD, w, .inr (.inr (.inr (.inr (gQ w rT))))))], gB w rT cZ h (gZ w T)] : gW)) := hD
                      have hp_77 : r_77 = nI (cnbs w h K (w * y + x) (o + 1)) := hp_77
                      refine z_topi (y := nI (cnbs w h K (w * y + x) (o + 1))) (hp_77) ?_
                      refine lv_iload hx hb dX2_next_80 (lv_at hl 4 rfl) ?_
                      have hco := hc4 (o + 1)
                      refine lv_icmp_ge (tgt := 89) hx hb dX2_next_82 (by decide) (fun c_82 => ?_) (fun c_82 => ?_)
                      · skip
                        have n_82 := zc_le_t (a := (cnbs w h K (w * y + x) k)) (b := (cnbs w h K (w * y + x) (o + 1))) (by omega) (by omega) c_82
                        refine lv_iconst (v := 0) hx hb dX2_next_89 (by decide) ?_
                        exact j_90 _ (isB_g n_69 n_82) _ _ hP hD hS
                      · skip
                        have n_82 := zc_le_f (a := (cnbs w h K (w * y + x) k)) (b := (cnbs w h K (w * y + x) (o + 1))) (by omega) (by omega) c_82
                        refine lv_iconst (v := 1) hx hb dX2_next_85 (by decide) ?_
                        refine lv_goto (tgt := 90) hx hb dX2_next_86 (by decide) ?_
                        exact j_90 _ (isB_l c_63 n_82) _ _ hP hD hS
                intro v_90 h_v_90 H locs hP hD hS
                rw [h_v_90]
                refine lv_istore (lv' := [(5, .int (bz (isB (cnbs w h K (w * y + x)) nd k (o + 1)))), (0, .ref m0), (1, .int (nI x)), (2, .int (nI y)), (3, .int (nI k)), (4, .int (nI (cnbs w h K (w * y + x) k))), (6, .int (nI (o + 1)))]) hx hb dX2_next_90 hl (by decide) rfl (fun ls hl => ?_)
                refine lv_iinc (v := nI ((o + 1) + 1)) (lv' := [(6, .int (nI ((o + 1) + 1))), (5, .int (bz (isB (cnbs w h K (w * y + x)) nd k (o + 1)))), (0, .ref m0), (1, .int (nI x)), (2, .int (nI y)), (3, .int (nI k)), (4, .int (nI (cnbs w h K (w * y + x) k)))]) hx hb dX2_next_92 hl (k := 6) rfl (nI_1 (o + 1)) (by decide) rfl (fun ls hl => ?_)
                refine lv_goto (tgt := 55) hx hb dX2_next_95 (by decide) ?_
                exact ih_55 (o + 1) (by omega)  _ _ _ hP hD hS (lv_sub hl [2, 3, 4, 5, 6, 1, 0] rfl)
          exact loop_55 4 0 (by omega)  _ _ _ hP hD hS (lv_sub hl [3, 4, 5, 6, 2, 1, 0] rfl)
    exact loop_22 4 1 (by omega) (Nat.le_refl 1) (fun j h1 h2 => absurd h2 (by omega)) _ _ _ hP hD hS (lv_sub hl [1, 2, 3, 0] rfl)
  · skip
    refine lv_aload_n hx hb dX2_next_11 rfl (lv_at hl 0 rfl) ?_
    refine s_get (D := (dC, dI)) (ci := 2) (v := .ref mA) (C := RX2) (T := TX2) (N := 6) hx hb hts iX2_next_X2 hown hK hP 0 0 rfl rfl rfl 4 (by decide) (hts (.fieldLink RX2 21 "ColourTideLaw$Sim" "map" "[[I") (List.mem_of_getElem? (i := 2) rfl)) (fun _ h9 => h9) rfl dX2_next_12 ?_
    refine lv_iload_n hx hb dX2_next_15 rfl (lv_at hl 1 rfl) ?_
    refine s_qald hx hb hK hP 1 2 rfl rfl rfl x (rfl) (by omega) (by omega) dX2_next_16 ?_
    refine lv_iload_n hx hb dX2_next_17 rfl (lv_at hl 2 rfl) ?_
    refine s_gald hx hb hK hP 2 0 x rfl (by omega) rfl y (rfl) (by omega) (by omega) dX2_next_18 ?_
    rw [← hQ]
    exact s_iret (W1 := (fun (_ : Unit) => ([[(m0, .inr (2, [.int (nI w), .int (nI h), .int (nI nd), .int wv, .ref mA, .ref tA]))], [(mA, .inl (cJ, w, .inr (.inr (.inr (.inr (gQ w rM))))))], gB w rM cI h (gM w K), [(tA, .inl (cD, w, .inr (.inr (.inr (.inr (gQ w rT))))))], gB w rT cZ h (gZ w T)] : gW))) hx hb hr hlocks hP hD hS () [0, 1, 2, 3, 4] [] 5 rfl rfl (by decide) (by rw [nxt_t (bz_1 c_8)]; rfl) (by omega) (by omega) dX2_next_19
