abbrev rmX2_init : Room := { frames := 1, cells := 12, slots := 60, locals := 30 }
set_option maxRecDepth 20000 in
theorem iX2_init_X2 : ∀ w ∈ wsX20, w ∈ wsX2_init := fun w h => (goodIn_r (big := wsX2_init) wsX20 [13, 14, 15, 16, 17, 18] rfl (by decide +kernel) w h).1
set_option maxHeartbeats 4000000 in
set_option maxRecDepth 100000 in
theorem m_X2_init (l : Launch) (dC : Nat → ClassId) (dI : Nat → Nat → Nat) (cI cZ cJ cD : ClassId) (m0 : Nat) (w : Nat) (h : Nat) (gk : gok w h) : sV l (dC, dI) (wT cI cZ cJ cD) yX2_init wsX2_init rmX2_init [[(m0, .inr (2, [.int 0, .int 0, .int 0, .int 0, .null, .null]))]] [.ref m0, .int (nI w), .int (nI h)] (fun (u : Nat × (Nat → Nat) × Nat × (Nat → Nat)) => ([[(m0, .inr (2, [.int (nI w), .int (nI h), .int (nI 2), .int 0, .ref u.1, .ref u.2.2.1]))], [(u.1, .inl (cJ, w, .inr (.inr (.inr (.inr (gQ w u.2.1))))))], gB w u.2.1 cI h (gM w (fun _ => 0)), [(u.2.2.1, .inl (cD, w, .inr (.inr (.inr (.inr (gQ w u.2.2.2))))))], gB w u.2.2.2 cZ h (gZ w (fun _ => false))] : gW)) (fun (u : Nat × (Nat → Nat) × Nat × (Nat → Nat)) => True) 12 60 := by
  intro sz
  refine Met.ofW (cc := cX2_init) (maxL := 3) (ret := none) (by decide) rfl ?_
  intro p e s m args below meth c s₁ B hml hv
  obtain ⟨ha, hsz, hP, hK, hD0, hN⟩ := hv
  have hx := B.exec
  have hb := B.bytes
  have hr := B.returns
  have hts := atoms_spec (ws := wsX2_init) B.pre
  have hown : s.vm.findClass RX2 = some m.cls := findClass_of_methodNamed B.named
  have hlocks := B.notSynchronized
  subst hsz
  have hD := hD0.self (sz := s.heap.size)
  generalize hAe : va_A (List.flatten ([[(m0, .inr (2, [.int 0, .int 0, .int 0, .int 0, .null, .null]))]] : gW)) s.heap.size = A at hD ⊢
  have hA : ∀ q : Nat, s.heap.size ≤ q → A q := fun q h => by rw [← hAe]; exact Or.inr h
  have hS : va_S A s.heap s.heap [] := va_S.rf
  generalize hQ : MQ below (va_Qv (fun (u : Nat × (Nat → Nat) × Nat × (Nat → Nat)) => True) (fun u t => va_P (dC, dI) vwCl (List.flatten ((fun (u : Nat × (Nat → Nat) × Nat × (Nat → Nat)) => ([[(m0, .inr (2, [.int (nI w), .int (nI h), .int (nI 2), .int 0, .ref u.1, .ref u.2.2.1]))], [(u.1, .inl (cJ, w, .inr (.inr (.inr (.inr (gQ w u.2.1))))))], gB w u.2.1 cI h (gM w (fun _ => 0)), [(u.2.2.1, .inl (cD, w, .inr (.inr (.inr (.inr (gQ w u.2.2.2))))))], gB w u.2.2.2 cZ h (gZ w (fun _ => false))] : gW)) u)) t.heap ∧ va_D A (List.flatten ((fun (u : Nat × (Nat → Nat) × Nat × (Nat → Nat)) => ([[(m0, .inr (2, [.int (nI w), .int (nI h), .int (nI 2), .int 0, .ref u.1, .ref u.2.2.1]))], [(u.1, .inl (cJ, w, .inr (.inr (.inr (.inr (gQ w u.2.1))))))], gB w u.2.1 cI h (gM w (fun _ => 0)), [(u.2.2.1, .inl (cD, w, .inr (.inr (.inr (.inr (gQ w u.2.2.2))))))], gB w u.2.2.2 cZ h (gZ w (fun _ => false))] : gW)) u))) A) args s 12 60 A = Q
  have F9 : CallFix p m c cX2_init 3 s args wsX2_init RX2 := ⟨hx, hb, hml, hown, hts⟩
  obtain ⟨gw2, gw5, gh2, gh5⟩ := id gk
  have wh25 := wh_le gk
  refine z_entry (R := rmX2_init) ha (Nat.le_of_ble_eq_true rfl) (fun ls hl => ?_)
  have hl : lv_has ls 3 [(0, .ref m0), (1, .int (nI w)), (2, .int (nI h))] := hl
  refine lv_aload_n hx hb dX2_init_0 rfl (lv_at hl 0 rfl) ?_
  refine W.objInit hx hb hown (hts (.methodLink RX2 1 objectInit) (List.mem_of_getElem? (i := 1) rfl)) (hts (.instanceMethod objectInit) (List.mem_of_getElem? (i := 2) rfl)) (hts (.code objectInit ⟨#[0xb1]⟩ 1 none) (List.mem_of_getElem? (i := 3) rfl)) rfl (by rw [hml]; exact hl.1) rfl dX2_init_1 (Nat.le_of_ble_eq_true rfl) (Nat.le_of_ble_eq_true rfl) ?_
  refine W.eq (g2 := F0 m 4 ls []) rfl ?_
  refine lv_aload_n hx hb dX2_init_4 rfl (lv_at hl 0 rfl) ?_
  refine lv_iconst (v := 2) hx hb dX2_init_5 (by decide) ?_
  refine s_put (D := (dC, dI)) (ci := 2) (v := .int 2) (ty := .int) (C := RX2) (T := TX2) (N := 6) hx hb hts iX2_init_X2 tyX2 tyX2_ok nmX2 hown hK hP hD hS 0 0 rfl rfl rfl 2 (by decide) (hts (.fieldLink RX2 7 "ColourTideLaw$Sim" "need" "I") (List.mem_of_getElem? (i := 4) rfl)) (fun _ h9 => h9) rfl (by decide +kernel) rfl rfl (Nat.le_of_ble_eq_true rfl) dX2_init_6 (fun H locs hP hD hS => ?_)
  have hP : va_P (dC, dI) vwCl (List.flatten ([[(m0, .inr (2, [.int 0, .int 0, .int 2, .int 0, .null, .null]))]] : gW)) H := hP
  have hD : va_D A (List.flatten ([[(m0, .inr (2, [.int 0, .int 0, .int 2, .int 0, .null, .null]))]] : gW)) := hD
  refine lv_aload_n hx hb dX2_init_9 rfl (lv_at hl 0 rfl) ?_
  refine lv_iload_n hx hb dX2_init_10 rfl (lv_at hl 1 rfl) ?_
  refine s_put (D := (dC, dI)) (ci := 2) (v := .int (nI w)) (ty := .int) (C := RX2) (T := TX2) (N := 6) hx hb hts iX2_init_X2 tyX2 tyX2_ok nmX2 hown hK hP hD hS 0 0 rfl rfl rfl 0 (by decide) (hts (.fieldLink RX2 13 "ColourTideLaw$Sim" "w" "I") (List.mem_of_getElem? (i := 5) rfl)) (fun _ h9 => h9) rfl (by decide +kernel) rfl rfl (Nat.le_of_ble_eq_true rfl) dX2_init_11 (fun H locs hP hD hS => ?_)
  have hP : va_P (dC, dI) vwCl (List.flatten ([[(m0, .inr (2, [.int (nI w), .int 0, .int 2, .int 0, .null, .null]))]] : gW)) H := hP
  have hD : va_D A (List.flatten ([[(m0, .inr (2, [.int (nI w), .int 0, .int 2, .int 0, .null, .null]))]] : gW)) := hD
  refine lv_aload_n hx hb dX2_init_14 rfl (lv_at hl 0 rfl) ?_
  refine lv_iload_n hx hb dX2_init_15 rfl (lv_at hl 2 rfl) ?_
  refine s_put (D := (dC, dI)) (ci := 2) (v := .int (nI h)) (ty := .int) (C := RX2) (T := TX2) (N := 6) hx hb hts iX2_init_X2 tyX2 tyX2_ok nmX2 hown hK hP hD hS 0 0 rfl rfl rfl 1 (by decide) (hts (.fieldLink RX2 16 "ColourTideLaw$Sim" "h" "I") (List.mem_of_getElem? (i := 6) rfl)) (fun _ h9 => h9) rfl (by decide +kernel) rfl rfl (Nat.le_of_ble_eq_true rfl) dX2_init_16 (fun H locs hP hD hS => ?_)
  have hP : va_P (dC, dI) vwCl (List.flatten ([[(m0, .inr (2, [.int (nI w), .int (nI h), .int 2, .int 0, .null, .null]))]] : gW)) H := hP
  have hD : va_D A (List.flatten ([[(m0, .inr (2, [.int (nI w), .int (nI h), .int 2, .int 0, .null, .null]))]] : gW)) := hD
  refine lv_aload_n hx hb dX2_init_19 rfl (lv_at hl 0 rfl) ?_
  refine lv_iload_n hx hb dX2_init_20 rfl (lv_at hl 1 rfl) ?_
  refine lv_iload_n hx hb dX2_init_21 rfl (lv_at hl 2 rfl) ?_
  refine s_mna (ty := .int) (cR := cI) (cO := cJ) hx hb hown (hts (.classLink RX2 19 "[[I") (List.mem_of_getElem? (i := 7) rfl)) (hts (.arrayClass .int) (List.mem_of_getElem? (i := 8) rfl)) hN.2.2.1 hK hP hD hS hA 0 2 rfl rfl (Or.inl rfl) w h rfl rfl (by omega) (by omega) (by show 0 + (1 + w) ≤ 12; omega) (by show 0 + (w + w * h) ≤ 60; omega) dX2_init_22 (fun q_22 r_22 H hP hD hS => ?_)
  have hP : va_P (dC, dI) vwCl (List.flatten ([[(m0, .inr (2, [.int (nI w), .int (nI h), .int 2, .int 0, .null, .null]))], [(q_22, .inl (cJ, w, .inr (.inr (.inr (.inr (gQ w r_22))))))], gB w r_22 cI h (fun _ _ => 0)] : gW)) H := hP
  have hD : va_D A (List.flatten ([[(m0, .inr (2, [.int (nI w), .int (nI h), .int 2, .int 0, .null, .null]))], [(q_22, .inl (cJ, w, .inr (.inr (.inr (.inr (gQ w r_22))))))], gB w r_22 cI h (fun _ _ => 0)] : gW)) := hD
  refine W.widen (k := 6) (n := 30) (by omega) (by omega) ?_
  refine s_put (D := (dC, dI)) (ci := 2) (v := .ref q_22) (ty := .array (.array .int)) (C := RX2) (T := TX2) (N := 6) hx hb hts iX2_init_X2 tyX2 tyX2_ok nmX2 hown hK hP hD hS 0 0 rfl rfl rfl 4 (by decide) (hts (.fieldLink RX2 21 "ColourTideLaw$Sim" "map" "[[I") (List.mem_of_getElem? (i := 9) rfl)) (fun _ h9 => h9) rfl (by decide +kernel) rfl rfl (Nat.le_of_ble_eq_true rfl) dX2_init_26 (fun H locs hP hD hS => ?_)
  have hP : va_P (dC, dI) vwCl (List.flatten ([[(m0, .inr (2, [.int (nI w), .int (nI h), .int 2, .int 0, .ref q_22, .null]))], [(q_22, .inl (cJ, w, .inr (.inr (.inr (.inr (gQ w r_22))))))], gB w r_22 cI h (fun _ _ => 0)] : gW)) H := hP
  have hD : va_D A (List.flatten ([[(m0, .inr (2, [.int (nI w), .int (nI h), .int 2, .int 0, .ref q_22, .null]))], [(q_22, .inl (cJ, w, .inr (.inr (.inr (.inr (gQ w r_22))))))], gB w r_22 cI h (fun _ _ => 0)] : gW)) := hD
  refine lv_aload_n hx hb dX2_init_29 rfl (lv_at hl 0 rfl) ?_
  refine lv_iload_n hx hb dX2_init_30 rfl (lv_at hl 1 rfl) ?_
  refine lv_iload_n hx hb dX2_init_31 rfl (lv_at hl 2 rfl) ?_
  refine s_mna (ty := .boolean) (cR := cZ) (cO := cD) hx hb hown (hts (.classLink RX2 24 "[[Z") (List.mem_of_getElem? (i := 10) rfl)) (hts (.arrayClass .boolean) (List.mem_of_getElem? (i := 11) rfl)) hN.2.2.2 hK hP hD hS hA 1 3 rfl rfl (Or.inr rfl) w h rfl rfl (by omega) (by omega) (by show 6 + (1 + w) ≤ 12; omega) (by show 30 + (w + w * h) ≤ 60; omega) dX2_init_32 (fun q_32 r_32 H hP hD hS => ?_)
  have hP : va_P (dC, dI) vwCl (List.flatten ([[(m0, .inr (2, [.int (nI w), .int (nI h), .int 2, .int 0, .ref q_22, .null]))], [(q_22, .inl (cJ, w, .inr (.inr (.inr (.inr (gQ w r_22))))))], gB w r_22 cI h (fun _ _ => 0), [(q_32, .inl (cD, w, .inr (.inr (.inr (.inr (gQ w r_32))))))], gB w r_32 cZ h (fun _ _ => 0)] : gW)) H := hP
  have hD : va_D A (List.flatten ([[(m0, .inr (2, [.int (nI w), .int (nI h), .int 2, .int 0, .ref q_22, .null]))], [(q_22, .inl (cJ, w, .inr (.inr (.inr (.inr (gQ w r_22))))))], gB w r_22 cI h (fun _ _ => 0), [(q_32, .inl (cD, w, .inr (.inr (.inr (.inr (gQ w r_32))))))], gB w r_32 cZ h (fun _ _ => 0)] : gW)) := hD
  refine W.widen (k := 12) (n := 60) (by omega) (by omega) ?_
  refine s_put (D := (dC, dI)) (ci := 2) (v := .ref q_32) (ty := .array (.array .boolean)) (C := RX2) (T := TX2) (N := 6) hx hb hts iX2_init_X2 tyX2 tyX2_ok nmX2 hown hK hP hD hS 0 0 rfl rfl rfl 5 (by decide) (hts (.fieldLink RX2 26 "ColourTideLaw$Sim" "stubborn" "[[Z") (List.mem_of_getElem? (i := 12) rfl)) (fun _ h9 => h9) rfl (by decide +kernel) rfl rfl (Nat.le_of_ble_eq_true rfl) dX2_init_36 (fun H locs hP hD hS => ?_)
  have hP : va_P (dC, dI) vwCl (List.flatten ([[(m0, .inr (2, [.int (nI w), .int (nI h), .int 2, .int 0, .ref q_22, .ref q_32]))], [(q_22, .inl (cJ, w, .inr (.inr (.inr (.inr (gQ w r_22))))))], gB w r_22 cI h (fun _ _ => 0), [(q_32, .inl (cD, w, .inr (.inr (.inr (.inr (gQ w r_32))))))], gB w r_32 cZ h (fun _ _ => 0)] : gW)) H := hP
  have hD : va_D A (List.flatten ([[(m0, .inr (2, [.int (nI w), .int (nI h), .int 2, .int 0, .ref q_22, .ref q_32]))], [(q_22, .inl (cJ, w, .inr (.inr (.inr (.inr (gQ w r_22))))))], gB w r_22 cI h (fun _ _ => 0), [(q_32, .inl (cD, w, .inr (.inr (.inr (.inr (gQ w r_32))))))], gB w r_32 cZ h (fun _ _ => 0)] : gW)) := hD
  obtain ⟨hP, hD⟩ := sg_ren hP hD 2 rfl (M2 := (gM w (fun _ => 0))) (fun i j hi hj => rfl)
  have hP : va_P (dC, dI) vwCl (List.flatten ([[(m0, .inr (2, [.int (nI w), .int (nI h), .int 2, .int 0, .ref q_22, .ref q_32]))], [(q_22, .inl (cJ, w, .inr (.inr (.inr (.inr (gQ w r_22))))))], gB w r_22 cI h (gM w (fun _ => 0)), [(q_32, .inl (cD, w, .inr (.inr (.inr (.inr (gQ w r_32))))))], gB w r_32 cZ h (fun _ _ => 0)] : gW)) H := hP
  have hD : va_D A (List.flatten ([[(m0, .inr (2, [.int (nI w), .int (nI h), .int 2, .int 0, .ref q_22, .ref q_32]))], [(q_22, .inl (cJ, w, .inr (.inr (.inr (.inr (gQ w r_22))))))], gB w r_22 cI h (gM w (fun _ => 0)), [(q_32, .inl (cD, w, .inr (.inr (.inr (.inr (gQ w r_32))))))], gB w r_32 cZ h (fun _ _ => 0)] : gW)) := hD
  obtain ⟨hP, hD⟩ := sg_ren hP hD 4 rfl (M2 := (gZ w (fun _ => false))) (fun i j hi hj => rfl)
  have hP : va_P (dC, dI) vwCl (List.flatten ([[(m0, .inr (2, [.int (nI w), .int (nI h), .int 2, .int 0, .ref q_22, .ref q_32]))], [(q_22, .inl (cJ, w, .inr (.inr (.inr (.inr (gQ w r_22))))))], gB w r_22 cI h (gM w (fun _ => 0)), [(q_32, .inl (cD, w, .inr (.inr (.inr (.inr (gQ w r_32))))))], gB w r_32 cZ h (gZ w (fun _ => false))] : gW)) H := hP
  have hD : va_D A (List.flatten ([[(m0, .inr (2, [.int (nI w), .int (nI h), .int 2, .int 0, .ref q_22, .ref q_32]))], [(q_22, .inl (cJ, w, .inr (.inr (.inr (.inr (gQ w r_22))))))], gB w r_22 cI h (gM w (fun _ => 0)), [(q_32, .inl (cD, w, .inr (.inr (.inr (.inr (gQ w r_32))))))], gB w r_32 cZ h (gZ w (fun _ => false))] : gW)) := hD
  rw [← hQ]
  exact s_vret (W1 := (fun (u : Nat × (Nat → Nat) × Nat × (Nat → Nat)) => ([[(m0, .inr (2, [.int (nI w), .int (nI h), .int (nI 2), .int 0, .ref u.1, .ref u.2.2.1]))], [(u.1, .inl (cJ, w, .inr (.inr (.inr (.inr (gQ w u.2.1))))))], gB w u.2.1 cI h (gM w (fun _ => 0)), [(u.2.2.1, .inl (cD, w, .inr (.inr (.inr (.inr (gQ w u.2.2.2))))))], gB w u.2.2.2 cZ h (gZ w (fun _ => false))] : gW))) hx hb hr hlocks hP hD hS (q_22, r_22, q_32, r_32) [0, 1, 2, 3, 4] [] 5 rfl rfl (by decide) (trivial) (by omega) (by omega) dX2_init_39
abbrev rmX2_wave : Room := { frames := 3, cells := 6, slots := 30, locals := 71 }
set_option maxRecDepth 20000 in
theorem iX2_wave_X2 : ∀ w ∈ wsX20, w ∈ wsX2_wave := fun w h => (goodIn_r (big := wsX2_wave) wsX20 [21, 22, 23, 24, 25, 26] rfl (by decide +kernel) w h).1
set_option maxHeartbeats 4000000 in
set_option maxRecDepth 100000 in
theorem m_X2_wave (l : Launch) (dC : Nat → ClassId) (dI : Nat → Nat → Nat) (cI cZ cJ cD : ClassId) (m0 : Nat) (w : Nat) (h : Nat) (nd : Nat) (wv : Int32) (mA : Nat) (rM : Nat → Nat) (K : Nat → Nat) (tA : Nat) (rT : Nat → Nat) (T : Nat → Bool) (gk : gok w h) (h1 : 1 ≤ nd) (h4 : nd ≤ 4) (hK4 : ∀ c, K c ≤ 4) : sI l (dC, dI) (wT cI cZ cJ cD) yX2_wave wsX2_wave rmX2_wave [[(m0, .inr (2, [.int (nI w), .int (nI h), .int (nI nd), .int wv, .ref mA, .ref tA]))], [(mA, .inl (cJ, w, .inr (.inr (.inr (.inr (gQ w rM))))))], gB w rM cI h (gM w K), [(tA, .inl (cD, w, .inr (.inr (.inr (.inr (gQ w rT))))))], gB w rT cZ h (gZ w T)] [.ref m0] (fun (u : Nat × (Nat → Nat)) => ([[(m0, .inr (2, [.int (nI w), .int (nI h), .int (nI nd), .int wv, .ref u.1, .ref tA]))], [(u.1, .inl (cJ, w, .inr (.inr (.inr (.inr (gQ w u.2))))))], gB w u.2 cI h (gM w (wav w h nd T K)), [(tA, .inl (cD, w, .inr (.inr (.inr (.inr (gQ w rT))))))], gB w rT cZ h (gZ w T)] : gW)) (fun (r : Int32) (u : Nat × (Nat → Nat)) => r = nI (chg w h nd T K)) 6 30 := by
  intro sz
  refine Met.ofW (cc := cX2_wave) (maxL := 5) (ret := (some .int)) (by decide) rfl ?_
  intro p e s m args below meth c s₁ B hml hv
  obtain ⟨ha, hsz, hP, hK, hD0, hN⟩ := hv
  have hx := B.exec
  have hb := B.bytes
  have hr := B.returns
  have hts := atoms_spec (ws := wsX2_wave) B.pre
  have hown : s.vm.findClass RX2 = some m.cls := findClass_of_methodNamed B.named
  have hlocks := B.notSynchronized
  subst hsz
  have hD := hD0.self (sz := s.heap.size)
  generalize hAe : va_A (List.flatten ([[(m0, .inr (2, [.int (nI w), .int (nI h), .int (nI nd), .int wv, .ref mA, .ref tA]))], [(mA, .inl (cJ, w, .inr (.inr (.inr (.inr (gQ w rM))))))], gB w rM cI h (gM w K), [(tA, .inl (cD, w, .inr (.inr (.inr (.inr (gQ w rT))))))], gB w rT cZ h (gZ w T)] : gW)) s.heap.size = A at hD ⊢
  have hA : ∀ q : Nat, s.heap.size ≤ q → A q := fun q h => by rw [← hAe]; exact Or.inr h
  have hS : va_S A s.heap s.heap [] := va_S.rf
  generalize hQ : MQ below (va_Qi (fun (r : Int32) (u : Nat × (Nat → Nat)) => r = nI (chg w h nd T K)) (fun u t => va_P (dC, dI) vwCl (List.flatten ((fun (u : Nat × (Nat → Nat)) => ([[(m0, .inr (2, [.int (nI w), .int (nI h), .int (nI nd), .int wv, .ref u.1, .ref tA]))], [(u.1, .inl (cJ, w, .inr (.inr (.inr (.inr (gQ w u.2))))))], gB w u.2 cI h (gM w (wav w h nd T K)), [(tA, .inl (cD, w, .inr (.inr (.inr (.inr (gQ w rT))))))], gB w rT cZ h (gZ w T)] : gW)) u)) t.heap ∧ va_D A (List.flatten ((fun (u : Nat × (Nat → Nat)) => ([[(m0, .inr (2, [.int (nI w), .int (nI h), .int (nI nd), .int wv, .ref u.1, .ref tA]))], [(u.1, .inl (cJ, w, .inr (.inr (.inr (.inr (gQ w u.2))))))], gB w u.2 cI h (gM w (wav w h nd T K)), [(tA, .inl (cD, w, .inr (.inr (.inr (.inr (gQ w rT))))))], gB w rT cZ h (gZ w T)] : gW)) u))) A) args s 6 30 A = Q
  have F9 : CallFix p m c cX2_wave 5 s args wsX2_wave RX2 := ⟨hx, hb, hml, hown, hts⟩
  obtain ⟨gw2, gw5, gh2, gh5⟩ := id gk
  have wh25 := wh_le gk
  refine z_entry (R := rmX2_wave) ha (Nat.le_of_ble_eq_true rfl) (fun ls hl => ?_)
  have hl : lv_has ls 5 [(0, .ref m0)] := hl
  refine lv_iconst (v := 0) hx hb dX2_wave_0 (by decide) ?_
  refine lv_istore_n (lv' := [(1, .int 0), (0, .ref m0)]) hx hb dX2_wave_1 rfl hl (by decide) rfl (fun ls hl => ?_)
  refine lv_aload_n hx hb dX2_wave_2 rfl (lv_at hl 1 rfl) ?_
  refine s_get (D := (dC, dI)) (ci := 2) (v := .int (nI w)) (C := RX2) (T := TX2) (N := 6) hx hb hts iX2_wave_X2 hown hK hP 0 0 rfl rfl rfl 0 (by decide) (hts (.fieldLink RX2 13 "ColourTideLaw$Sim" "w" "I") (List.mem_of_getElem? (i := 1) rfl)) (fun _ h9 => h9) rfl dX2_wave_3 ?_
  refine lv_aload_n hx hb dX2_wave_6 rfl (lv_at hl 1 rfl) ?_
  refine s_get (D := (dC, dI)) (ci := 2) (v := .int (nI h)) (C := RX2) (T := TX2) (N := 6) hx hb hts iX2_wave_X2 hown hK hP 0 0 rfl rfl rfl 1 (by decide) (hts (.fieldLink RX2 16 "ColourTideLaw$Sim" "h" "I") (List.mem_of_getElem? (i := 2) rfl)) (fun _ h9 => h9) rfl dX2_wave_7 ?_
  refine s_mna (ty := .int) (cR := cI) (cO := cJ) hx hb hown (hts (.classLink RX2 19 "[[I") (List.mem_of_getElem? (i := 3) rfl)) (hts (.arrayClass .int) (List.mem_of_getElem? (i := 4) rfl)) hN.2.2.1 hK hP hD hS hA 0 2 rfl rfl (Or.inl rfl) w h rfl rfl (by omega) (by omega) (by show 0 + (1 + w) ≤ 6; omega) (by show 0 + (w + w * h) ≤ 30; omega) dX2_wave_10 (fun q_10 r_10 H hP hD hS => ?_)
  have hP : va_P (dC, dI) vwCl (List.flatten ([[(m0, .inr (2, [.int (nI w), .int (nI h), .int (nI nd), .int wv, .ref mA, .ref tA]))], [(mA, .inl (cJ, w, .inr (.inr (.inr (.inr (gQ w rM))))))], gB w rM cI h (gM w K), [(tA, .inl (cD, w, .inr (.inr (.inr (.inr (gQ w rT))))))], gB w rT cZ h (gZ w T), [(q_10, .inl (cJ, w, .inr (.inr (.inr (.inr (gQ w r_10))))))], gB w r_10 cI h (fun _ _ => 0)] : gW)) H := hP
  have hD : va_D A (List.flatten ([[(m0, .inr (2, [.int (nI w), .int (nI h), .int (nI nd), .int wv, .ref mA, .ref tA]))], [(mA, .inl (cJ, w, .inr (.inr (.inr (.inr (gQ w rM))))))], gB w rM cI h (gM w K), [(tA, .inl (cD, w, .inr (.inr (.inr (.inr (gQ w rT))))))], gB w rT cZ h (gZ w T), [(q_10, .inl (cJ, w, .inr (.inr (.inr (.inr (gQ w r_10))))))], gB w r_10 cI h (fun _ _ => 0)] : gW)) := hD
  refine W.widen (k := 6) (n := 30) (by omega) (by omega) ?_
  refine lv_astore_n (lv' := [(2, .ref q_10), (1, .int 0), (0, .ref m0)]) hx hb dX2_wave_14 rfl hl (by decide) rfl (fun ls hl => ?_)
  refine lv_iconst (v := 0) hx hb dX2_wave_15 (by decide) ?_
  refine lv_istore_n (lv' := [(3, .int 0), (2, .ref q_10), (1, .int 0), (0, .ref m0)]) hx hb dX2_wave_16 rfl hl (by decide) rfl (fun ls hl => ?_)
  have loop_17 : ∀ (n : Nat) (x : Nat) (hkn : x + n = w) (H : Heap) (locs : List Loc) (ls : Array Slot) (hP : va_P (dC, dI) vwCl (List.flatten ([[(m0, .inr (2, [.int (nI w), .int (nI h), .int (nI nd), .int wv, .ref mA, .ref tA]))], [(mA, .inl (cJ, w, .inr (.inr (.inr (.inr (gQ w rM))))))], gB w rM cI h (gM w K), [(tA, .inl (cD, w, .inr (.inr (.inr (.inr (gQ w rT))))))], gB w rT cZ h (gZ w T), [(q_10, .inl (cJ, w, .inr (.inr (.inr (.inr (gQ w r_10))))))], gB w r_10 cI h (gF (nxF w h nd T K) x 0)] : gW)) H) (hD : va_D A (List.flatten ([[(m0, .inr (2, [.int (nI w), .int (nI h), .int (nI nd), .int wv, .ref mA, .ref tA]))], [(mA, .inl (cJ, w, .inr (.inr (.inr (.inr (gQ w rM))))))], gB w rM cI h (gM w K), [(tA, .inl (cD, w, .inr (.inr (.inr (.inr (gQ w rT))))))], gB w rT cZ h (gZ w T), [(q_10, .inl (cJ, w, .inr (.inr (.inr (.inr (gQ w r_10))))))], gB w r_10 cI h (gF (nxF w h nd T K) x 0)] : gW))) (hS : va_S A s.heap H locs) (hl : lv_has ls 5 [(0, .ref m0), (1, .int (nI (cN (chQ w h nd T K) w h x 0))), (2, .ref q_10), (3, .int (nI x))]), W p l e rmX2_wave s m args below meth c H locs (6) (30) Q (F0 m 17 ls []) := by
    intro n
    induction n with
    | zero =>
      intro x hkn  H locs ls hP hD hS hl
      refine lv_iload_n hx hb dX2_wave_17 rfl (lv_at hl 3 rfl) ?_
      refine lv_aload_n hx hb dX2_wave_18 rfl (lv_at hl 0 rfl) ?_
      refine s_get (D := (dC, dI)) (ci := 2) (v := .int (nI w)) (C := RX2) (T := TX2) (N := 6) hx hb hts iX2_wave_X2 hown hK hP 0 0 rfl rfl rfl 0 (by decide) (hts (.fieldLink RX2 13 "ColourTideLaw$Sim" "w" "I") (List.mem_of_getElem? (i := 1) rfl)) (fun _ h9 => h9) rfl dX2_wave_19 ?_
      refine lv_icmp_ge (tgt := 88) hx hb dX2_wave_22 (by decide) (fun c_22 => ?_) (fun c_22 => ?_)
      · skip
        have n_22 := zc_le_t (a := w) (b := x) (by omega) (by omega) c_22
        refine lv_aload_n hx hb dX2_wave_88 rfl (lv_at hl 0 rfl) ?_
        refine lv_aload_n hx hb dX2_wave_89 rfl (lv_at hl 2 rfl) ?_
        refine s_put (D := (dC, dI)) (ci := 2) (v := .ref q_10) (ty := .array (.array .int)) (C := RX2) (T := TX2) (N := 6) hx hb hts iX2_wave_X2 tyX2 tyX2_ok nmX2 hown hK hP hD hS 0 0 rfl rfl rfl 4 (by decide) (hts (.fieldLink RX2 21 "ColourTideLaw$Sim" "map" "[[I") (List.mem_of_getElem? (i := 5) rfl)) (fun _ h9 => h9) rfl (by decide +kernel) rfl rfl (Nat.le_of_ble_eq_true rfl) dX2_wave_90 (fun H locs hP hD hS => ?_)
        have hP : va_P (dC, dI) vwCl (List.flatten ([[(m0, .inr (2, [.int (nI w), .int (nI h), .int (nI nd), .int wv, .ref q_10, .ref tA]))], [(mA, .inl (cJ, w, .inr (.inr (.inr (.inr (gQ w rM))))))], gB w rM cI h (gM w K), [(tA, .inl (cD, w, .inr (.inr (.inr (.inr (gQ w rT))))))], gB w rT cZ h (gZ w T), [(q_10, .inl (cJ, w, .inr (.inr (.inr (.inr (gQ w r_10))))))], gB w r_10 cI h (gF (nxF w h nd T K) x 0)] : gW)) H := hP
        have hD : va_D A (List.flatten ([[(m0, .inr (2, [.int (nI w), .int (nI h), .int (nI nd), .int wv, .ref q_10, .ref tA]))], [(mA, .inl (cJ, w, .inr (.inr (.inr (.inr (gQ w rM))))))], gB w rM cI h (gM w K), [(tA, .inl (cD, w, .inr (.inr (.inr (.inr (gQ w rT))))))], gB w rT cZ h (gZ w T), [(q_10, .inl (cJ, w, .inr (.inr (.inr (.inr (gQ w r_10))))))], gB w r_10 cI h (gF (nxF w h nd T K) x 0)] : gW)) := hD
        refine lv_iload_n hx hb dX2_wave_93 rfl (lv_at hl 1 rfl) ?_
        have hl9 := hl
        have hP9 := hP
        have hD9 := hD
        have hS9 := hS
        obtain rfl : w = x := by omega
        have hl := hl9
        have hP := hP9
        have hD := hD9
        have hS := hS9
        obtain ⟨hP, hD⟩ := sg_ren hP hD 6 rfl (M2 := (gM w (wav w h nd T K))) (fun i j hi hj => gF_wav hi hj)
        have hP : va_P (dC, dI) vwCl (List.flatten ([[(m0, .inr (2, [.int (nI w), .int (nI h), .int (nI nd), .int wv, .ref q_10, .ref tA]))], [(mA, .inl (cJ, w, .inr (.inr (.inr (.inr (gQ w rM))))))], gB w rM cI h (gM w K), [(tA, .inl (cD, w, .inr (.inr (.inr (.inr (gQ w rT))))))], gB w rT cZ h (gZ w T), [(q_10, .inl (cJ, w, .inr (.inr (.inr (.inr (gQ w r_10))))))], gB w r_10 cI h (gM w (wav w h nd T K))] : gW)) H := hP
        have hD : va_D A (List.flatten ([[(m0, .inr (2, [.int (nI w), .int (nI h), .int (nI nd), .int wv, .ref q_10, .ref tA]))], [(mA, .inl (cJ, w, .inr (.inr (.inr (.inr (gQ w rM))))))], gB w rM cI h (gM w K), [(tA, .inl (cD, w, .inr (.inr (.inr (.inr (gQ w rT))))))], gB w rT cZ h (gZ w T), [(q_10, .inl (cJ, w, .inr (.inr (.inr (.inr (gQ w r_10))))))], gB w r_10 cI h (gM w (wav w h nd T K))] : gW)) := hD
        rw [← hQ]
        exact s_iret (W1 := (fun (u : Nat × (Nat → Nat)) => ([[(m0, .inr (2, [.int (nI w), .int (nI h), .int (nI nd), .int wv, .ref u.1, .ref tA]))], [(u.1, .inl (cJ, w, .inr (.inr (.inr (.inr (gQ w u.2))))))], gB w u.2 cI h (gM w (wav w h nd T K)), [(tA, .inl (cD, w, .inr (.inr (.inr (.inr (gQ w rT))))))], gB w rT cZ h (gZ w T)] : gW))) hx hb hr hlocks hP hD hS (q_10, r_10) [0, 5, 6, 3, 4] [1, 2] 7 rfl rfl (by decide) (congrArg nI (cN_all (chQ w h nd T K) w h)) (by omega) (by omega) dX2_wave_94
      · skip
        have n_22 := zc_le_f (a := w) (b := x) (by omega) (by omega) c_22
        exact absurd n_22 (by omega)
    | succ n ih_17 =>
      intro x hkn  H locs ls hP hD hS hl
      refine lv_iload_n hx hb dX2_wave_17 rfl (lv_at hl 3 rfl) ?_
      refine lv_aload_n hx hb dX2_wave_18 rfl (lv_at hl 0 rfl) ?_
      refine s_get (D := (dC, dI)) (ci := 2) (v := .int (nI w)) (C := RX2) (T := TX2) (N := 6) hx hb hts iX2_wave_X2 hown hK hP 0 0 rfl rfl rfl 0 (by decide) (hts (.fieldLink RX2 13 "ColourTideLaw$Sim" "w" "I") (List.mem_of_getElem? (i := 1) rfl)) (fun _ h9 => h9) rfl dX2_wave_19 ?_
      refine lv_icmp_ge (tgt := 88) hx hb dX2_wave_22 (by decide) (fun c_22 => ?_) (fun c_22 => ?_)
      · skip
        have n_22 := zc_le_t (a := w) (b := x) (by omega) (by omega) c_22
        exact absurd n_22 (by omega)
      · skip
        have n_22 := zc_le_f (a := w) (b := x) (by omega) (by omega) c_22
        refine lv_iconst (v := 0) hx hb dX2_wave_25 (by decide) ?_
        refine lv_istore (lv' := [(4, .int 0), (0, .ref m0), (1, .int (nI (cN (chQ w h nd T K) w h x 0))), (2, .ref q_10), (3, .int (nI x))]) hx hb dX2_wave_26 hl (by decide) rfl (fun ls hl => ?_)
        have loop_28 : ∀ (n : Nat) (y : Nat) (hkn : y + n = h) (H : Heap) (locs : List Loc) (ls : Array Slot) (hP : va_P (dC, dI) vwCl (List.flatten ([[(m0, .inr (2, [.int (nI w), .int (nI h), .int (nI nd), .int wv, .ref mA, .ref tA]))], [(mA, .inl (cJ, w, .inr (.inr (.inr (.inr (gQ w rM))))))], gB w rM cI h (gM w K), [(tA, .inl (cD, w, .inr (.inr (.inr (.inr (gQ w rT))))))], gB w rT cZ h (gZ w T), [(q_10, .inl (cJ, w, .inr (.inr (.inr (.inr (gQ w r_10))))))], gB w r_10 cI h (gF (nxF w h nd T K) x y)] : gW)) H) (hD : va_D A (List.flatten ([[(m0, .inr (2, [.int (nI w), .int (nI h), .int (nI nd), .int wv, .ref mA, .ref tA]))], [(mA, .inl (cJ, w, .inr (.inr (.inr (.inr (gQ w rM))))))], gB w rM cI h (gM w K), [(tA, .inl (cD, w, .inr (.inr (.inr (.inr (gQ w rT))))))], gB w rT cZ h (gZ w T), [(q_10, .inl (cJ, w, .inr (.inr (.inr (.inr (gQ w r_10))))))], gB w r_10 cI h (gF (nxF w h nd T K) x y)] : gW))) (hS : va_S A s.heap H locs) (hl : lv_has ls 5 [(0, .ref m0), (1, .int (nI (cN (chQ w h nd T K) w h x y))), (2, .ref q_10), (3, .int (nI x)), (4, .int (nI y))]), W p l e rmX2_wave s m args below meth c H locs (6) (30) Q (F0 m 28 ls []) := by
          intro n
          induction n with
          | zero =>
            intro y hkn  H locs ls hP hD hS hl
            refine lv_iload hx hb dX2_wave_28 (lv_at hl 4 rfl) ?_
            refine lv_aload_n hx hb dX2_wave_30 rfl (lv_at hl 0 rfl) ?_
            refine s_get (D := (dC, dI)) (ci := 2) (v := .int (nI h)) (C := RX2) (T := TX2) (N := 6) hx hb hts iX2_wave_X2 hown hK hP 0 0 rfl rfl rfl 1 (by decide) (hts (.fieldLink RX2 16 "ColourTideLaw$Sim" "h" "I") (List.mem_of_getElem? (i := 2) rfl)) (fun _ h9 => h9) rfl dX2_wave_31 ?_
            refine lv_icmp_ge (tgt := 82) hx hb dX2_wave_34 (by decide) (fun c_34 => ?_) (fun c_34 => ?_)
            · skip
              have n_34 := zc_le_t (a := h) (b := y) (by omega) (by omega) c_34
              refine lv_iinc (v := nI (x + 1)) (lv' := [(3, .int (nI (x + 1))), (0, .ref m0), (1, .int (nI (cN (chQ w h nd T K) w h x y))), (2, .ref q_10), (4, .int (nI y))]) hx hb dX2_wave_82 hl (k := 3) rfl (nI_1 x) (by decide) rfl (fun ls hl => ?_)
              refine lv_goto (tgt := 17) hx hb dX2_wave_85 (by decide) ?_
              have hl9 := hl
              have hP9 := hP
              have hD9 := hD
              have hS9 := hS
              obtain rfl : h = y := by omega
              have hl := hl9
              have hP := hP9
              have hD := hD9
              have hS := hS9
              obtain ⟨hP, hD⟩ := sg_ren hP hD 6 rfl (M2 := (gF (nxF w h nd T K) (x + 1) 0)) (fun i j hi hj => gF_row _ _ _ hj)
              have hP : va_P (dC, dI) vwCl (List.flatten ([[(m0, .inr (2, [.int (nI w), .int (nI h), .int (nI nd), .int wv, .ref mA, .ref tA]))], [(mA, .inl (cJ, w, .inr (.inr (.inr (.inr (gQ w rM))))))], gB w rM cI h (gM w K), [(tA, .inl (cD, w, .inr (.inr (.inr (.inr (gQ w rT))))))], gB w rT cZ h (gZ w T), [(q_10, .inl (cJ, w, .inr (.inr (.inr (.inr (gQ w r_10))))))], gB w r_10 cI h (gF (nxF w h nd T K) (x + 1) 0)] : gW)) H := hP
              have hD : va_D A (List.flatten ([[(m0, .inr (2, [.int (nI w), .int (nI h), .int (nI nd), .int wv, .ref mA, .ref tA]))], [(mA, .inl (cJ, w, .inr (.inr (.inr (.inr (gQ w rM))))))], gB w rM cI h (gM w K), [(tA, .inl (cD, w, .inr (.inr (.inr (.inr (gQ w rT))))))], gB w rT cZ h (gZ w T), [(q_10, .inl (cJ, w, .inr (.inr (.inr (.inr (gQ w r_10))))))], gB w r_10 cI h (gF (nxF w h nd T K) (x + 1) 0)] : gW)) := hD
              exact ih_17 (x + 1) (by omega)  _ _ _ hP hD hS (lv_sub hl [1, 2, 3, 0] rfl)
            · skip
              have n_34 := zc_le_f (a := h) (b := y) (by omega) (by omega) c_34
              exact absurd n_34 (by omega)
          | succ n ih_28 =>
            intro y hkn  H locs ls hP hD hS hl
            refine lv_iload hx hb dX2_wave_28 (lv_at hl 4 rfl) ?_
            refine lv_aload_n hx hb dX2_wave_30 rfl (lv_at hl 0 rfl) ?_
            refine s_get (D := (dC, dI)) (ci := 2) (v := .int (nI h)) (C := RX2) (T := TX2) (N := 6) hx hb hts iX2_wave_X2 hown hK hP 0 0 rfl rfl rfl 1 (by decide) (hts (.fieldLink RX2 16 "ColourTideLaw$Sim" "h" "I") (List.mem_of_getElem? (i := 2) rfl)) (fun _ h9 => h9) rfl dX2_wave_31 ?_
            refine lv_icmp_ge (tgt := 82) hx hb dX2_wave_34 (by decide) (fun c_34 => ?_) (fun c_34 => ?_)
            · skip
              have n_34 := zc_le_t (a := h) (b := y) (by omega) (by omega) c_34
              exact absurd n_34 (by omega)
            · skip
              have n_34 := zc_le_f (a := h) (b := y) (by omega) (by omega) c_34
              refine lv_aload_n hx hb dX2_wave_37 rfl (lv_at hl 2 rfl) ?_
              refine lv_iload_n hx hb dX2_wave_38 rfl (lv_at hl 3 rfl) ?_
              refine s_qald hx hb hK hP 5 2 rfl rfl rfl x (rfl) (by omega) (by omega) dX2_wave_39 ?_
              refine lv_iload hx hb dX2_wave_40 (lv_at hl 4 rfl) ?_
              refine lv_aload_n hx hb dX2_wave_42 rfl (lv_at hl 0 rfl) ?_
              refine lv_iload_n hx hb dX2_wave_43 rfl (lv_at hl 3 rfl) ?_
              refine lv_iload hx hb dX2_wave_44 (lv_at hl 4 rfl) ?_
              refine s_callVi (As := [.int (nI x), .int (nI y)]) (rest := [.int (nI y), .ref (r_10 x)]) F9 (m_X2_next l dC dI cI cZ cJ cD m0 w h nd wv mA rM K tA rT T x y (gk) (h1) (h4) (hK4) (by omega) (by omega)) (cwV 2 hts gX2_wave_X2_next rfl rfl rfl (by decide +kernel) ⟨Nat.le_of_ble_eq_true rfl, Nat.le_of_ble_eq_true rfl⟩) hK hN hP hD hS hA [0, 1, 2, 3, 4] [5, 6] 7 rfl rfl (by decide) (fun (_ : Unit) => ([[(m0, .inr (2, [.int (nI w), .int (nI h), .int (nI nd), .int wv, .ref mA, .ref tA]))], [(mA, .inl (cJ, w, .inr (.inr (.inr (.inr (gQ w rM))))))], gB w rM cI h (gM w K), [(tA, .inl (cD, w, .inr (.inr (.inr (.inr (gQ w rT))))))], gB w rT cZ h (gZ w T), [(q_10, .inl (cJ, w, .inr (.inr (.inr (.inr (gQ w r_10))))))], gB w r_10 cI h (gF (nxF w h nd T K) x y)] : gW)) [0, 1, 2, 3, 4] [5, 6] 7 (fun _ => rfl) (fun _ => rfl) (fun _ => rfl) (by decide) 0 0 (ci := 2) rfl rfl rfl rfl rfl hl.1 rfl (Nat.le_of_ble_eq_true rfl) dX2_wave_46 ⟨by show 6 + 0 ≤ 6; omega, by show 30 + 0 ≤ 30; omega⟩ (fun r_46 u H locs hp_46 hP hD hS => ?_)
              have hP : va_P (dC, dI) vwCl (List.flatten ([[(m0, .inr (2, [.int (nI w), .int (nI h), .int (nI nd), .int wv, .ref mA, .ref tA]))], [(mA, .inl (cJ, w, .inr (.inr (.inr (.inr (gQ w rM))))))], gB w rM cI h (gM w K), [(tA, .inl (cD, w, .inr (.inr (.inr (.inr (gQ w rT))))))], gB w rT cZ h (gZ w T), [(q_10, .inl (cJ, w, .inr (.inr (.inr (.inr (gQ w r_10))))))], gB w r_10 cI h (gF (nxF w h nd T K) x y)] : gW)) H := hP
              have hD : va_D A (List.flatten ([[(m0, .inr (2, [.int (nI w), .int (nI h), .int (nI nd), .int wv, .ref mA, .ref tA]))], [(mA, .inl (cJ, w, .inr (.inr (.inr (.inr (gQ w rM))))))], gB w rM cI h (gM w K), [(tA, .inl (cD, w, .inr (.inr (.inr (.inr (gQ w rT))))))], gB w rT cZ h (gZ w T), [(q_10, .inl (cJ, w, .inr (.inr (.inr (.inr (gQ w r_10))))))], gB w r_10 cI h (gF (nxF w h nd T K) x y)] : gW)) := hD
              have hp_46 : r_46 = nI (nxt w h nd T K (w * y + x)) := hp_46
              refine z_topi (y := nI (nxt w h nd T K (w * y + x))) (hp_46) ?_
              refine s_gast hx hb hK hP hD hS 6 0 x rfl (by omega) rfl y (rfl) (by omega) (by omega) dX2_wave_49 (fun H locs hP hD hS => ?_)
              have hP : va_P (dC, dI) vwCl (List.flatten ([[(m0, .inr (2, [.int (nI w), .int (nI h), .int (nI nd), .int wv, .ref mA, .ref tA]))], [(mA, .inl (cJ, w, .inr (.inr (.inr (.inr (gQ w rM))))))], gB w rM cI h (gM w K), [(tA, .inl (cD, w, .inr (.inr (.inr (.inr (gQ w rT))))))], gB w rT cZ h (gZ w T), [(q_10, .inl (cJ, w, .inr (.inr (.inr (.inr (gQ w r_10))))))], gB w r_10 cI h (gU (gF (nxF w h nd T K) x y) x y (nI (nxt w h nd T K (w * y + x))))] : gW)) H := hP
              have hD : va_D A (List.flatten ([[(m0, .inr (2, [.int (nI w), .int (nI h), .int (nI nd), .int wv, .ref mA, .ref tA]))], [(mA, .inl (cJ, w, .inr (.inr (.inr (.inr (gQ w rM))))))], gB w rM cI h (gM w K), [(tA, .inl (cD, w, .inr (.inr (.inr (.inr (gQ w rT))))))], gB w rT cZ h (gZ w T), [(q_10, .inl (cJ, w, .inr (.inr (.inr (.inr (gQ w r_10))))))], gB w r_10 cI h (gU (gF (nxF w h nd T K) x y) x y (nI (nxt w h nd T K (w * y + x))))] : gW)) := hD
              obtain ⟨hP, hD⟩ := sg_ren hP hD 6 rfl (M2 := (gF (nxF w h nd T K) x (y + 1))) (fun i j hi hj => congrFun (congrFun (gF_step (nxF w h nd T K) x y) i) j)
              have hP : va_P (dC, dI) vwCl (List.flatten ([[(m0, .inr (2, [.int (nI w), .int (nI h), .int (nI nd), .int wv, .ref mA, .ref tA]))], [(mA, .inl (cJ, w, .inr (.inr (.inr (.inr (gQ w rM))))))], gB w rM cI h (gM w K), [(tA, .inl (cD, w, .inr (.inr (.inr (.inr (gQ w rT))))))], gB w rT cZ h (gZ w T), [(q_10, .inl (cJ, w, .inr (.inr (.inr (.inr (gQ w r_10))))))], gB w r_10 cI h (gF (nxF w h nd T K) x (y + 1))] : gW)) H := hP
              have hD : va_D A (List.flatten ([[(m0, .inr (2, [.int (nI w), .int (nI h), .int (nI nd), .int wv, .ref mA, .ref tA]))], [(mA, .inl (cJ, w, .inr (.inr (.inr (.inr (gQ w rM))))))], gB w rM cI h (gM w K), [(tA, .inl (cD, w, .inr (.inr (.inr (.inr (gQ w rT))))))], gB w rT cZ h (gZ w T), [(q_10, .inl (cJ, w, .inr (.inr (.inr (.inr (gQ w r_10))))))], gB w r_10 cI h (gF (nxF w h nd T K) x (y + 1))] : gW)) := hD
              refine lv_iload_n hx hb dX2_wave_50 rfl (lv_at hl 1 rfl) ?_
              refine lv_aload_n hx hb dX2_wave_51 rfl (lv_at hl 2 rfl) ?_
              refine lv_iload_n hx hb dX2_wave_52 rfl (lv_at hl 3 rfl) ?_
              refine s_qald hx hb hK hP 5 2 rfl rfl rfl x (rfl) (by omega) (by omega) dX2_wave_53 ?_
              refine lv_iload hx hb dX2_wave_54 (lv_at hl 4 rfl) ?_
              refine s_gald hx hb hK hP 6 0 x rfl (by omega) rfl y (rfl) (by omega) (by omega) dX2_wave_56 ?_
              refine z_topi (y := nI (nxt w h nd T K (w * y + x))) (gF_at (nxF w h nd T K) x y) ?_
              refine lv_aload_n hx hb dX2_wave_57 rfl (lv_at hl 0 rfl) ?_
              refine s_get (D := (dC, dI)) (ci := 2) (v := .ref mA) (C := RX2) (T := TX2) (N := 6) hx hb hts iX2_wave_X2 hown hK hP 0 0 rfl rfl rfl 4 (by decide) (hts (.fieldLink RX2 21 "ColourTideLaw$Sim" "map" "[[I") (List.mem_of_getElem? (i := 5) rfl)) (fun _ h9 => h9) rfl dX2_wave_58 ?_
              refine lv_iload_n hx hb dX2_wave_61 rfl (lv_at hl 3 rfl) ?_
              refine s_qald hx hb hK hP 1 2 rfl rfl rfl x (rfl) (by omega) (by omega) dX2_wave_62 ?_
              refine lv_iload hx hb dX2_wave_63 (lv_at hl 4 rfl) ?_
              refine s_gald hx hb hK hP 2 0 x rfl (by omega) rfl y (rfl) (by omega) (by omega) dX2_wave_65 ?_
              refine z_topi (y := nI (K (w * y + x))) (rfl) ?_
              have hn9 := nxt_le (w := w) (h := h) (T := T) h1 hK4 (w * y + x)
              have hk9 := hK4 (w * y + x)
              suffices j_74 : ∀ v_74 : Int32, v_74 = (nI (bN ((chQ w h nd T K) (w * y + x)))) → W p l e rmX2_wave s m args below meth c H locs (6) (30) Q (F0 m 74 ls [.int v_74, .int (nI (cN (chQ w h nd T K) w h x y))]) by
                refine lv_icmp_eq (tgt := 73) hx hb dX2_wave_66 (by decide) (fun c_66 => ?_) (fun c_66 => ?_)
                · skip
                  have n_66 := zc_eq_t (a := (nxt w h nd T K (w * y + x))) (b := (K (w * y + x))) (by omega) (by omega) c_66
                  refine lv_iconst (v := 0) hx hb dX2_wave_73 (by decide) ?_
                  exact j_74 _ (by rw [show (chQ w h nd T K) (w * y + x) = false from decide_eq_false (fun q => q n_66)]; rfl)
                · skip
                  have n_66 := zc_eq_f (a := (nxt w h nd T K (w * y + x))) (b := (K (w * y + x))) (by omega) (by omega) c_66
                  refine lv_iconst (v := 1) hx hb dX2_wave_69 (by decide) ?_
                  refine lv_goto (tgt := 74) hx hb dX2_wave_70 (by decide) ?_
                  exact j_74 _ (by rw [show (chQ w h nd T K) (w * y + x) = true from decide_eq_true n_66]; rfl)
              intro v_74 h_v_74
              rw [h_v_74]
              refine lv_iadd hx hb dX2_wave_74 ?_
              refine z_topi (y := nI (cN (chQ w h nd T K) w h x (y + 1))) (cN_step (chQ w h nd T K) w h x y) ?_
              refine lv_istore_n (lv' := [(1, .int (nI (cN (chQ w h nd T K) w h x (y + 1)))), (0, .ref m0), (2, .ref q_10), (3, .int (nI x)), (4, .int (nI y))]) hx hb dX2_wave_75 rfl hl (by decide) rfl (fun ls hl => ?_)
              refine lv_iinc (v := nI (y + 1)) (lv' := [(4, .int (nI (y + 1))), (1, .int (nI (cN (chQ w h nd T K) w h x (y + 1)))), (0, .ref m0), (2, .ref q_10), (3, .int (nI x))]) hx hb dX2_wave_76 hl (k := 4) rfl (nI_1 y) (by decide) rfl (fun ls hl => ?_)
              refine lv_goto (tgt := 28) hx hb dX2_wave_79 (by decide) ?_
              exact ih_28 (y + 1) (by omega)  _ _ _ hP hD hS (lv_sub hl [2, 1, 3, 4, 0] rfl)
        exact loop_28 h 0 (by omega)  _ _ _ hP hD hS (lv_sub hl [1, 2, 3, 4, 0] rfl)
  obtain ⟨hP, hD⟩ := sg_ren hP hD 6 rfl (M2 := (gF (nxF w h nd T K) 0 0)) (fun i j hi hj => congrFun (congrFun (gF_0 (nxF w h nd T K)) i) j)
  have hP : va_P (dC, dI) vwCl (List.flatten ([[(m0, .inr (2, [.int (nI w), .int (nI h), .int (nI nd), .int wv, .ref mA, .ref tA]))], [(mA, .inl (cJ, w, .inr (.inr (.inr (.inr (gQ w rM))))))], gB w rM cI h (gM w K), [(tA, .inl (cD, w, .inr (.inr (.inr (.inr (gQ w rT))))))], gB w rT cZ h (gZ w T), [(q_10, .inl (cJ, w, .inr (.inr (.inr (.inr (gQ w r_10))))))], gB w r_10 cI h (gF (nxF w h nd T K) 0 0)] : gW)) H := hP
  have hD : va_D A (List.flatten ([[(m0, .inr (2, [.int (nI w), .int (nI h), .int (nI nd), .int wv, .ref mA, .ref tA]))], [(mA, .inl (cJ, w, .inr (.inr (.inr (.inr (gQ w rM))))))], gB w rM cI h (gM w K), [(tA, .inl (cD, w, .inr (.inr (.inr (.inr (gQ w rT))))))], gB w rT cZ h (gZ w T), [(q_10, .inl (cJ, w, .inr (.inr (.inr (.inr (gQ w r_10))))))], gB w r_10 cI h (gF (nxF w h nd T K) 0 0)] : gW)) := hD
  exact loop_17 w 0 (by omega)  _ _ _ hP hD hS (lv_sub hl [3, 2, 1, 0] rfl)
abbrev rmX2_cells : Room := { frames := 0, cells := 0, slots := 0, locals := 0 }
set_option maxRecDepth 20000 in
theorem iX2_cells_X2 : ∀ w ∈ wsX20, w ∈ wsX2_cells := fun w h => (goodIn_r (big := wsX2_cells) wsX20 [2, 3, 4, 5, 6, 7] rfl (by decide +kernel) w h).1
set_option maxHeartbeats 4000000 in
set_option maxRecDepth 100000 in
theorem m_X2_cells (l : Launch) (dC : Nat → ClassId) (dI : Nat → Nat → Nat) (cI cZ cJ cD : ClassId) (m0 : Nat) (w : Nat) (h : Nat) (nd : Nat) (wv : Int32) (mA : Nat) (rM : Nat → Nat) (K : Nat → Nat) (tA : Nat) (rT : Nat → Nat) (T : Nat → Bool) (j : Nat) (gk : gok w h) (hK4 : ∀ c, K c ≤ 4) (hj : j < 5) : sI l (dC, dI) (wT cI cZ cJ cD) yX2_cells wsX2_cells rmX2_cells [[(m0, .inr (2, [.int (nI w), .int (nI h), .int (nI nd), .int wv, .ref mA, .ref tA]))], [(mA, .inl (cJ, w, .inr (.inr (.inr (.inr (gQ w rM))))))], gB w rM cI h (gM w K), [(tA, .inl (cD, w, .inr (.inr (.inr (.inr (gQ w rT))))))], gB w rT cZ h (gZ w T)] [.ref m0, .int (nI j)] (fun (_ : Unit) => ([[(m0, .inr (2, [.int (nI w), .int (nI h), .int (nI nd), .int wv, .ref mA, .ref tA]))], [(mA, .inl (cJ, w, .inr (.inr (.inr (.inr (gQ w rM))))))], gB w rM cI h (gM w K), [(tA, .inl (cD, w, .inr (.inr (.inr (.inr (gQ w rT))))))], gB w rT cZ h (gZ w T)] : gW)) (fun (r : Int32) (_ : Unit) => r = nI (ccN K j (w * h))) 0 0 := by
  intro sz
  refine Met.ofW (cc := cX2_cells) (maxL := 11) (ret := (some .int)) (by decide) rfl ?_
  intro p e s m args below meth c s₁ B hml hv
  obtain ⟨ha, hsz, hP, hK, hD0, hN⟩ := hv
  have hx := B.exec
  have hb := B.bytes
  have hr := B.returns
  have hts := atoms_spec (ws := wsX2_cells) B.pre
  have hown : s.vm.findClass RX2 = some m.cls := findClass_of_methodNamed B.named
  have hlocks := B.notSynchronized
  subst hsz
  have hD := hD0.self (sz := s.heap.size)
  generalize hAe : va_A (List.flatten ([[(m0, .inr (2, [.int (nI w), .int (nI h), .int (nI nd), .int wv, .ref mA, .ref tA]))], [(mA, .inl (cJ, w, .inr (.inr (.inr (.inr (gQ w rM))))))], gB w rM cI h (gM w K), [(tA, .inl (cD, w, .inr (.inr (.inr (.inr (gQ w rT))))))], gB w rT cZ h (gZ w T)] : gW)) s.heap.size = A at hD ⊢
  have hA : ∀ q : Nat, s.heap.size ≤ q → A q := fun q h => by rw [← hAe]; exact Or.inr h
  have hS : va_S A s.heap s.heap [] := va_S.rf
  generalize hQ : MQ below (va_Qi (fun (r : Int32) (_ : Unit) => r = nI (ccN K j (w * h))) (fun u t => va_P (dC, dI) vwCl (List.flatten ((fun (_ : Unit) => ([[(m0, .inr (2, [.int (nI w), .int (nI h), .int (nI nd), .int wv, .ref mA, .ref tA]))], [(mA, .inl (cJ, w, .inr (.inr (.inr (.inr (gQ w rM))))))], gB w rM cI h (gM w K), [(tA, .inl (cD, w, .inr (.inr (.inr (.inr (gQ w rT))))))], gB w rT cZ h (gZ w T)] : gW)) u)) t.heap ∧ va_D A (List.flatten ((fun (_ : Unit) => ([[(m0, .inr (2, [.int (nI w), .int (nI h), .int (nI nd), .int wv, .ref mA, .ref tA]))], [(mA, .inl (cJ, w, .inr (.inr (.inr (.inr (gQ w rM))))))], gB w rM cI h (gM w K), [(tA, .inl (cD, w, .inr (.inr (.inr (.inr (gQ w rT))))))], gB w rT cZ h (gZ w T)] : gW)) u))) A) args s 0 0 A = Q
  have F9 : CallFix p m c cX2_cells 11 s args wsX2_cells RX2 := ⟨hx, hb, hml, hown, hts⟩
  obtain ⟨gw2, gw5, gh2, gh5⟩ := id gk
  have wh25 := wh_le gk
  refine z_entry (R := rmX2_cells) ha (Nat.le_of_ble_eq_true rfl) (fun ls hl => ?_)
  have hl : lv_has ls 11 [(0, .ref m0), (1, .int (nI j))] := hl
  refine lv_iconst (v := 0) hx hb dX2_cells_0 (by decide) ?_
  refine lv_istore_n (lv' := [(2, .int 0), (0, .ref m0), (1, .int (nI j))]) hx hb dX2_cells_1 rfl hl (by decide) rfl (fun ls hl => ?_)
  refine lv_aload_n hx hb dX2_cells_2 rfl (lv_at hl 1 rfl) ?_
  refine s_get (D := (dC, dI)) (ci := 2) (v := .ref mA) (C := RX2) (T := TX2) (N := 6) hx hb hts iX2_cells_X2 hown hK hP 0 0 rfl rfl rfl 4 (by decide) (hts (.fieldLink RX2 21 "ColourTideLaw$Sim" "map" "[[I") (List.mem_of_getElem? (i := 1) rfl)) (fun _ h9 => h9) rfl dX2_cells_3 ?_
  refine lv_astore_n (lv' := [(3, .ref mA), (2, .int 0), (0, .ref m0), (1, .int (nI j))]) hx hb dX2_cells_6 rfl hl (by decide) rfl (fun ls hl => ?_)
  refine lv_aload_n hx hb dX2_cells_7 rfl (lv_at hl 0 rfl) ?_
  refine s_alen hx hb hK hP 1 0 2 rfl rfl rfl dX2_cells_8 ?_
  refine lv_istore (lv' := [(4, .int (nI w)), (3, .ref mA), (2, .int 0), (0, .ref m0), (1, .int (nI j))]) hx hb dX2_cells_9 hl (by decide) rfl (fun ls hl => ?_)
  refine lv_iconst (v := 0) hx hb dX2_cells_11 (by decide) ?_
  refine lv_istore (lv' := [(5, .int 0), (4, .int (nI w)), (3, .ref mA), (2, .int 0), (0, .ref m0), (1, .int (nI j))]) hx hb dX2_cells_12 hl (by decide) rfl (fun ls hl => ?_)
  have loop_14 : ∀ (n : Nat) (x : Nat) (hkn : x + n = w) (H : Heap) (locs : List Loc) (ls : Array Slot) (hP : va_P (dC, dI) vwCl (List.flatten ([[(m0, .inr (2, [.int (nI w), .int (nI h), .int (nI nd), .int wv, .ref mA, .ref tA]))], [(mA, .inl (cJ, w, .inr (.inr (.inr (.inr (gQ w rM))))))], gB w rM cI h (gM w K), [(tA, .inl (cD, w, .inr (.inr (.inr (.inr (gQ w rT))))))], gB w rT cZ h (gZ w T)] : gW)) H) (hD : va_D A (List.flatten ([[(m0, .inr (2, [.int (nI w), .int (nI h), .int (nI nd), .int wv, .ref mA, .ref tA]))], [(mA, .inl (cJ, w, .inr (.inr (.inr (.inr (gQ w rM))))))], gB w rM cI h (gM w K), [(tA, .inl (cD, w, .inr (.inr (.inr (.inr (gQ w rT))))))], gB w rT cZ h (gZ w T)] : gW))) (hS : va_S A s.heap H locs) (hl : lv_has ls 11 [(0, .ref m0), (1, .int (nI j)), (2, .int (nI (cN (fun c => decide (K c = j)) w h x 0))), (3, .ref mA), (4, .int (nI w)), (5, .int (nI x))]), W p l e rmX2_cells s m args below meth c H locs (0) (0) Q (F0 m 14 ls []) := by
    intro n
    induction n with
    | zero =>
      intro x hkn  H locs ls hP hD hS hl
      refine lv_iload hx hb dX2_cells_14 (lv_at hl 5 rfl) ?_
      refine lv_iload hx hb dX2_cells_16 (lv_at hl 4 rfl) ?_
      refine lv_icmp_ge (tgt := 79) hx hb dX2_cells_18 (by decide) (fun c_18 => ?_) (fun c_18 => ?_)
      · skip
        have n_18 := zc_le_t (a := w) (b := x) (by omega) (by omega) c_18
        refine lv_iload_n hx hb dX2_cells_79 rfl (lv_at hl 2 rfl) ?_
        have hl9 := hl
        have hP9 := hP
        have hD9 := hD
        have hS9 := hS
        obtain rfl : w = x := by omega
        have hl := hl9
        have hP := hP9
        have hD := hD9
        have hS := hS9
        rw [← hQ]
        exact s_iret (W1 := (fun (_ : Unit) => ([[(m0, .inr (2, [.int (nI w), .int (nI h), .int (nI nd), .int wv, .ref mA, .ref tA]))], [(mA, .inl (cJ, w, .inr (.inr (.inr (.inr (gQ w rM))))))], gB w rM cI h (gM w K), [(tA, .inl (cD, w, .inr (.inr (.inr (.inr (gQ w rT))))))], gB w rT cZ h (gZ w T)] : gW))) hx hb hr hlocks hP hD hS () [0, 1, 2, 3, 4] [] 5 rfl rfl (by decide) (congrArg nI (cN_all (fun c => decide (K c = j)) w h)) (by omega) (by omega) dX2_cells_80
      · skip
        have n_18 := zc_le_f (a := w) (b := x) (by omega) (by omega) c_18
        exact absurd n_18 (by omega)
    | succ n ih_14 =>
      intro x hkn  H locs ls hP hD hS hl
      refine lv_iload hx hb dX2_cells_14 (lv_at hl 5 rfl) ?_
      refine lv_iload hx hb dX2_cells_16 (lv_at hl 4 rfl) ?_
      refine lv_icmp_ge (tgt := 79) hx hb dX2_cells_18 (by decide) (fun c_18 => ?_) (fun c_18 => ?_)
      · skip
        have n_18 := zc_le_t (a := w) (b := x) (by omega) (by omega) c_18
        exact absurd n_18 (by omega)
      · skip
        have n_18 := zc_le_f (a := w) (b := x) (by omega) (by omega) c_18
        refine lv_aload_n hx hb dX2_cells_21 rfl (lv_at hl 3 rfl) ?_
        refine lv_iload hx hb dX2_cells_22 (lv_at hl 5 rfl) ?_
        refine s_qald hx hb hK hP 1 2 rfl rfl rfl x (rfl) (by omega) (by omega) dX2_cells_24 ?_
        refine lv_astore (lv' := [(6, .ref (rM x)), (0, .ref m0), (1, .int (nI j)), (2, .int (nI (cN (fun c => decide (K c = j)) w h x 0))), (3, .ref mA), (4, .int (nI w)), (5, .int (nI x))]) hx hb dX2_cells_25 hl (by decide) rfl (fun ls hl => ?_)
        refine lv_aload hx hb dX2_cells_27 (lv_at hl 0 rfl) ?_
        refine lv_astore (lv' := [(7, .ref (rM x)), (6, .ref (rM x)), (0, .ref m0), (1, .int (nI j)), (2, .int (nI (cN (fun c => decide (K c = j)) w h x 0))), (3, .ref mA), (4, .int (nI w)), (5, .int (nI x))]) hx hb dX2_cells_29 hl (by decide) rfl (fun ls hl => ?_)
        refine lv_aload hx hb dX2_cells_31 (lv_at hl 0 rfl) ?_
        refine s_alen hx hb hK hP 2 x 0 rfl (gB_at (by omega)) rfl dX2_cells_33 ?_
        refine lv_istore (lv' := [(8, .int (nI h)), (7, .ref (rM x)), (6, .ref (rM x)), (0, .ref m0), (1, .int (nI j)), (2, .int (nI (cN (fun c => decide (K c = j)) w h x 0))), (3, .ref mA), (4, .int (nI w)), (5, .int (nI x))]) hx hb dX2_cells_34 hl (by decide) rfl (fun ls hl => ?_)
        refine lv_iconst (v := 0) hx hb dX2_cells_36 (by decide) ?_
        refine lv_istore (lv' := [(9, .int 0), (8, .int (nI h)), (7, .ref (rM x)), (6, .ref (rM x)), (0, .ref m0), (1, .int (nI j)), (2, .int (nI (cN (fun c => decide (K c = j)) w h x 0))), (3, .ref mA), (4, .int (nI w)), (5, .int (nI x))]) hx hb dX2_cells_37 hl (by decide) rfl (fun ls hl => ?_)
        have loop_39 : ∀ (n : Nat) (y : Nat) (hkn : y + n = h) (H : Heap) (locs : List Loc) (ls : Array Slot) (hP : va_P (dC, dI) vwCl (List.flatten ([[(m0, .inr (2, [.int (nI w), .int (nI h), .int (nI nd), .int wv, .ref mA, .ref tA]))], [(mA, .inl (cJ, w, .inr (.inr (.inr (.inr (gQ w rM))))))], gB w rM cI h (gM w K), [(tA, .inl (cD, w, .inr (.inr (.inr (.inr (gQ w rT))))))], gB w rT cZ h (gZ w T)] : gW)) H) (hD : va_D A (List.flatten ([[(m0, .inr (2, [.int (nI w), .int (nI h), .int (nI nd), .int wv, .ref mA, .ref tA]))], [(mA, .inl (cJ, w, .inr (.inr (.inr (.inr (gQ w rM))))))], gB w rM cI h (gM w K), [(tA, .inl (cD, w, .inr (.inr (.inr (.inr (gQ w rT))))))], gB w rT cZ h (gZ w T)] : gW))) (hS : va_S A s.heap H locs) (hl : lv_has ls 11 [(0, .ref m0), (1, .int (nI j)), (2, .int (nI (cN (fun c => decide (K c = j)) w h x y))), (3, .ref mA), (4, .int (nI w)), (5, .int (nI x)), (7, .ref (rM x)), (8, .int (nI h)), (9, .int (nI y))]), W p l e rmX2_cells s m args below meth c H locs (0) (0) Q (F0 m 39 ls []) := by
          intro n
          induction n with
          | zero =>
            intro y hkn  H locs ls hP hD hS hl
            refine lv_iload hx hb dX2_cells_39 (lv_at hl 8 rfl) ?_
            refine lv_iload hx hb dX2_cells_41 (lv_at hl 7 rfl) ?_
            refine lv_icmp_ge (tgt := 73) hx hb dX2_cells_43 (by decide) (fun c_43 => ?_) (fun c_43 => ?_)
            · skip
              have n_43 := zc_le_t (a := h) (b := y) (by omega) (by omega) c_43
              refine lv_iinc (v := nI (x + 1)) (lv' := [(5, .int (nI (x + 1))), (0, .ref m0), (1, .int (nI j)), (2, .int (nI (cN (fun c => decide (K c = j)) w h x y))), (3, .ref mA), (4, .int (nI w)), (7, .ref (rM x)), (8, .int (nI h)), (9, .int (nI y))]) hx hb dX2_cells_73 hl (k := 5) rfl (nI_1 x) (by decide) rfl (fun ls hl => ?_)
              refine lv_goto (tgt := 14) hx hb dX2_cells_76 (by decide) ?_
              have hl9 := hl
              have hP9 := hP
              have hD9 := hD
              have hS9 := hS
              obtain rfl : h = y := by omega
              have hl := hl9
              have hP := hP9
              have hD := hD9
              have hS := hS9
              exact ih_14 (x + 1) (by omega)  _ _ _ hP hD hS (lv_sub hl [1, 2, 3, 4, 5, 0] rfl)
            · skip
              have n_43 := zc_le_f (a := h) (b := y) (by omega) (by omega) c_43
              exact absurd n_43 (by omega)
          | succ n ih_39 =>
            intro y hkn  H locs ls hP hD hS hl
            refine lv_iload hx hb dX2_cells_39 (lv_at hl 8 rfl) ?_
            refine lv_iload hx hb dX2_cells_41 (lv_at hl 7 rfl) ?_
            refine lv_icmp_ge (tgt := 73) hx hb dX2_cells_43 (by decide) (fun c_43 => ?_) (fun c_43 => ?_)
            · skip
              have n_43 := zc_le_t (a := h) (b := y) (by omega) (by omega) c_43
              exact absurd n_43 (by omega)
            · skip
              have n_43 := zc_le_f (a := h) (b := y) (by omega) (by omega) c_43
              refine lv_aload hx hb dX2_cells_46 (lv_at hl 6 rfl) ?_
              refine lv_iload hx hb dX2_cells_48 (lv_at hl 8 rfl) ?_
              refine s_gald hx hb hK hP 2 0 x rfl (by omega) rfl y (rfl) (by omega) (by omega) dX2_cells_50 ?_
              refine z_topi (y := nI (K (w * y + x))) (rfl) ?_
              refine lv_istore (lv' := [(10, .int (nI (K (w * y + x)))), (0, .ref m0), (1, .int (nI j)), (2, .int (nI (cN (fun c => decide (K c = j)) w h x y))), (3, .ref mA), (4, .int (nI w)), (5, .int (nI x)), (7, .ref (rM x)), (8, .int (nI h)), (9, .int (nI y))]) hx hb dX2_cells_51 hl (by decide) rfl (fun ls hl => ?_)
              refine lv_iload_n hx hb dX2_cells_53 rfl (lv_at hl 3 rfl) ?_
              refine lv_iload hx hb dX2_cells_54 (lv_at hl 0 rfl) ?_
              refine lv_iload_n hx hb dX2_cells_56 rfl (lv_at hl 2 rfl) ?_
              have hk9 := hK4 (w * y + x)
              suffices j_65 : ∀ v_65 : Int32, v_65 = (nI (bN ((fun c => decide (K c = j)) (w * y + x)))) → W p l e rmX2_cells s m args below meth c H locs (0) (0) Q (F0 m 65 ls [.int v_65, .int (nI (cN (fun c => decide (K c = j)) w h x y))]) by
                refine lv_icmp_ne (tgt := 64) hx hb dX2_cells_57 (by decide) (fun c_57 => ?_) (fun c_57 => ?_)
                · skip
                  have n_57 := zc_eq_f (a := (K (w * y + x))) (b := j) (by omega) (by omega) c_57
                  refine lv_iconst (v := 0) hx hb dX2_cells_64 (by decide) ?_
                  exact j_65 _ (by rw [show (fun c => decide (K c = j)) (w * y + x) = false from decide_eq_false n_57]; rfl)
                · skip
                  have n_57 := zc_eq_t (a := (K (w * y + x))) (b := j) (by omega) (by omega) c_57
                  refine lv_iconst (v := 1) hx hb dX2_cells_60 (by decide) ?_
                  refine lv_goto (tgt := 65) hx hb dX2_cells_61 (by decide) ?_
                  exact j_65 _ (by rw [show (fun c => decide (K c = j)) (w * y + x) = true from decide_eq_true n_57]; rfl)
              intro v_65 h_v_65
              rw [h_v_65]
              refine lv_iadd hx hb dX2_cells_65 ?_
              refine z_topi (y := nI (cN (fun c => decide (K c = j)) w h x (y + 1))) (cN_step (fun c => decide (K c = j)) w h x y) ?_
              refine lv_istore_n (lv' := [(2, .int (nI (cN (fun c => decide (K c = j)) w h x (y + 1)))), (10, .int (nI (K (w * y + x)))), (0, .ref m0), (1, .int (nI j)), (3, .ref mA), (4, .int (nI w)), (5, .int (nI x)), (7, .ref (rM x)), (8, .int (nI h)), (9, .int (nI y))]) hx hb dX2_cells_66 rfl hl (by decide) rfl (fun ls hl => ?_)
              refine lv_iinc (v := nI (y + 1)) (lv' := [(9, .int (nI (y + 1))), (2, .int (nI (cN (fun c => decide (K c = j)) w h x (y + 1)))), (10, .int (nI (K (w * y + x)))), (0, .ref m0), (1, .int (nI j)), (3, .ref mA), (4, .int (nI w)), (5, .int (nI x)), (7, .ref (rM x)), (8, .int (nI h))]) hx hb dX2_cells_67 hl (k := 9) rfl (nI_1 y) (by decide) rfl (fun ls hl => ?_)
              refine lv_goto (tgt := 39) hx hb dX2_cells_70 (by decide) ?_
              exact ih_39 (y + 1) (by omega)  _ _ _ hP hD hS (lv_sub hl [3, 4, 1, 5, 6, 7, 8, 9, 0] rfl)
        exact loop_39 h 0 (by omega)  _ _ _ hP hD hS (lv_sub hl [4, 5, 6, 7, 8, 9, 2, 1, 0] rfl)
  exact loop_14 w 0 (by omega)  _ _ _ hP hD hS (lv_sub hl [4, 5, 3, 2, 1, 0] rfl)
