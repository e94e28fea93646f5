abbrev rmL_law : Room := room_1
theorem iL_law_X0 : ∀ w ∈ wsX00, w ∈ wsL_law := inlX0
theorem iL_law_X1 : ∀ w ∈ wsX10, w ∈ wsL_law := inlX1
theorem iL_law_X2 : ∀ w ∈ wsX20, w ∈ wsL_law := inlX2
set_option maxHeartbeats 8000000 in
set_option maxRecDepth 100000 in
theorem lw_body {p : Program} {l : Launch} {e : Env} {s : State} {m : MethodId} {args : Array Value} {below : List Frame} {meth : Method} {c : Code} {Q : State → Prop} {b0 L0 : Nat} {xs0 : Nat → Int32} {dC : Nat → ClassId} {dI : Nat → Nat → Nat} {cI cZ cJ cD : ClassId} {A : Nat → Prop} (F9 : CallFix p m c cL_law 22 s args wsL_law RL) (hK : va_K (dC, dI) vwCl (wT cI cZ cJ cD) s) (hN : zN s) (hX : va_X b0 L0 xs0 s s.heap) (hbl : b0 < s.heap.size) (hbA : ¬ A b0) (hL0 : L0 ≤ 260) (hA : ∀ q : Nat, s.heap.size ≤ q → A q) (fin : ∀ (H : Heap) (locs : List Loc) (ls : Array Slot), va_S A s.heap H locs → W p l e rmL_law s m args below meth c H locs (669352) (7093412) Q (F0 m 819 ls [.int 1])) (ls : Array Slot) (hl : lv_has ls 22 [(0, .ref b0)]) : W p l e rmL_law s m args below meth c s.heap [] (0) (0) Q (F0 m 0 ls []) := by
  obtain ⟨hx, hb, hml, hown, hts⟩ := id F9
  have hS : va_S A s.heap s.heap [] := va_S.rf
  have hP : va_P (dC, dI) vwCl (List.flatten ([] : gW)) s.heap := fun k q h9 => by simp at h9
  have hD : va_D A (List.flatten ([] : gW)) := ⟨fun i j p q h9 => by simp at h9, fun k q h9 => by simp at h9⟩
  refine s_new (ci := 1) (fs := [.null, .null, .int 0, .int 0, .int 0]) (C := RX1) (T := TX1) (N := 5) hx hb hts iL_law_X1 tyX1 tyX1_ok hown (hts (.classLink RL 31 RX1) (List.mem_of_getElem? (i := 0) rfl)) (hts (.instantiable RX1 5) (List.mem_of_getElem? (i := 1) rfl)) (hts (.initialized RX1) (List.mem_of_getElem? (i := 2) rfl)) hK hP hD hS hA rfl (fun j hj => by rcases (show j = 0 ∨ j = 1 ∨ j = 2 ∨ j = 3 ∨ j = 4 by omega) with rfl | rfl | rfl | rfl | rfl <;> rfl) (by show 0 + 1 ≤ 669352; omega) (by show 0 + 5 ≤ 7093412; omega) dL_law_0 (fun q_0 H hP hD hS => ?_)
  have hP : va_P (dC, dI) vwCl (List.flatten ([[(q_0, .inr (1, [.null, .null, .int 0, .int 0, .int 0]))]] : gW)) H := hP
  have hD : va_D A (List.flatten ([[(q_0, .inr (1, [.null, .null, .int 0, .int 0, .int 0]))]] : gW)) := hD
  refine W.widen (k := 1) (n := 5) (by omega) (by omega) ?_
  refine lv_dup hx hb dL_law_3 rfl ?_
  refine s_callI (As := []) (rest := [.ref q_0]) F9 (k_init l dC dI cI cZ cJ cD q_0 ) (cwI 0 hts gL_law_X1_init rfl rfl rfl (hts (.initialized RX1) (List.mem_of_getElem? (i := 2) rfl)) (hts (.methodLink RL 73 yX1_init) (List.mem_of_getElem? (i := 8) rfl)) (hts (.instanceMethod yX1_init) (List.mem_of_getElem? (i := 9) rfl)) rfl (by decide +kernel) ⟨Nat.le_of_ble_eq_true rfl, Nat.le_of_ble_eq_true rfl⟩) hK hN hP hD hS hA [0] [] 1 rfl rfl (by decide) (fun (u : va_W) => ([u] : gW)) [0] [] 1 (fun _ => rfl) (fun _ => rfl) (fun _ => rfl) (by decide) rfl hl.1 rfl (Nat.le_of_ble_eq_true rfl) dL_law_4 ⟨by show 1 + 8 ≤ 669352; omega, by show 5 + 42 ≤ 7093412; omega⟩ (fun u H locs hp_4 hP hD hS => ?_)
  obtain ⟨g1, rfl⟩ : ∃ z, z = u := ⟨_, rfl⟩
  have hP : va_P (dC, dI) vwCl (List.flatten ([g1] : gW)) H := hP
  have hD : va_D A (List.flatten ([g1] : gW)) := hD
  have hp_4 : CT cI 4 4 2 0 (fun _ => false) (fun _ => 0) q_0 g1 := hp_4
  have hg_4 := hp_4
  refine lv_astore_n (lv' := [(1, .ref q_0), (0, .ref b0)]) hx hb dL_law_7 rfl hl (by decide) rfl (fun ls hl => ?_)
  refine lv_aload_n hx hb dL_law_8 rfl (lv_at hl 0 rfl) ?_
  refine lv_aload_n hx hb dL_law_9 rfl (lv_at hl 1 rfl) ?_
  refine sx_callSr (As := [.ref q_0, .ref b0]) (rest := []) F9 (m_L_build l dC dI cI cZ cJ cD b0 L0 xs0 4 4 0 (fun _ => false) (fun _ => 0) g1 q_0 (hg_4) (hL0)) (va_cwS 2 hts gL_law_L_build rfl rfl rfl (by decide +kernel) ⟨Nat.le_of_ble_eq_true rfl, Nat.le_of_ble_eq_true rfl⟩) hK hN hX hbl hbA hP hD hS hA [0] [] 1 rfl rfl (by decide) (fun (u : va_W × Nat × Nat × Nat × Nat × Int32 × Nat × (Nat → Nat) × (Nat → Nat) × Nat × (Nat → Nat) × (Nat → Bool)) => ([u.1, [(u.2.1, .inr (2, [.int (nI u.2.2.1), .int (nI u.2.2.2.1), .int (nI u.2.2.2.2.1), .int u.2.2.2.2.2.1, .ref u.2.2.2.2.2.2.1, .ref u.2.2.2.2.2.2.2.2.2.1]))], [(u.2.2.2.2.2.2.1, .inl (cJ, u.2.2.1, .inr (.inr (.inr (.inr (gQ u.2.2.1 u.2.2.2.2.2.2.2.1))))))], gB u.2.2.1 u.2.2.2.2.2.2.2.1 cI u.2.2.2.1 (gM u.2.2.1 u.2.2.2.2.2.2.2.2.1), [(u.2.2.2.2.2.2.2.2.2.1, .inl (cD, u.2.2.1, .inr (.inr (.inr (.inr (gQ u.2.2.1 u.2.2.2.2.2.2.2.2.2.2.1))))))], gB u.2.2.1 u.2.2.2.2.2.2.2.2.2.2.1 cZ u.2.2.2.1 (gZ u.2.2.1 u.2.2.2.2.2.2.2.2.2.2.2)] : gW)) [0, 1, 2, 3, 4, 5] [] 6 (fun _ => rfl) (fun _ => rfl) (fun _ => rfl) (by decide) rfl hl.1 rfl (Nat.le_of_ble_eq_true rfl) dL_law_10 ⟨by show 1 + 8 + 13300 ≤ 669352; omega, by show 5 + 42 + 66100 ≤ 7093412; omega⟩ (fun u H locs hp_10 hP hD hS => ?_)
  obtain ⟨g2_10, m1_10, w1_10, hh1_10, nd1_10, wv1_10, mB_10, rB_10, K1_10, tB_10, sB_10, T1_10⟩ := u
  have hP : va_P (dC, dI) vwCl (List.flatten ([g2_10, [(m1_10, .inr (2, [.int (nI w1_10), .int (nI hh1_10), .int (nI nd1_10), .int wv1_10, .ref mB_10, .ref tB_10]))], [(mB_10, .inl (cJ, w1_10, .inr (.inr (.inr (.inr (gQ w1_10 rB_10))))))], gB w1_10 rB_10 cI hh1_10 (gM w1_10 K1_10), [(tB_10, .inl (cD, w1_10, .inr (.inr (.inr (.inr (gQ w1_10 sB_10))))))], gB w1_10 sB_10 cZ hh1_10 (gZ w1_10 T1_10)] : gW)) H := hP
  have hD : va_D A (List.flatten ([g2_10, [(m1_10, .inr (2, [.int (nI w1_10), .int (nI hh1_10), .int (nI nd1_10), .int wv1_10, .ref mB_10, .ref tB_10]))], [(mB_10, .inl (cJ, w1_10, .inr (.inr (.inr (.inr (gQ w1_10 rB_10))))))], gB w1_10 rB_10 cI hh1_10 (gM w1_10 K1_10), [(tB_10, .inl (cD, w1_10, .inr (.inr (.inr (.inr (gQ w1_10 sB_10))))))], gB w1_10 sB_10 cZ hh1_10 (gZ w1_10 T1_10)] : gW)) := hD
  refine W.widen (k := 13309) (n := 66147) (by omega) (by omega) ?_
  have hp_10 : CT cI w1_10 hh1_10 nd1_10 wv1_10 T1_10 K1_10 q_0 g2_10 ∧ gok w1_10 hh1_10 ∧ 1 ≤ nd1_10 ∧ nd1_10 ≤ 4 ∧ ∀ c, K1_10 c ≤ 4 := hp_10
  have hg_10 := hp_10.1
  refine lv_astore_n (lv' := [(2, .ref m1_10), (1, .ref q_0), (0, .ref b0)]) hx hb dL_law_13 rfl hl (by decide) rfl (fun ls hl => ?_)
  refine lv_iconst (v := 0) hx hb dL_law_14 (by decide) ?_
  refine lv_istore_n (lv' := [(3, .int 0), (2, .ref m1_10), (1, .ref q_0), (0, .ref b0)]) hx hb dL_law_15 rfl hl (by decide) rfl (fun ls hl => ?_)
  have loop_16 : ∀ (n : Nat) (time : Nat) (gB2 : va_W) (m2 : Nat) (w2 : Nat) (h2 : Nat) (nd2 : Nat) (wv2 : Int32) (mA2 : Nat) (rM2 : Nat → Nat) (K2 : Nat → Nat) (tA2 : Nat) (rT2 : Nat → Nat) (T2 : Nat → Bool) (hkn : time + n = 24) (hg2 : CT cI w2 h2 nd2 wv2 T2 K2 q_0 gB2) (gk2 : gok w2 h2) (h12 : 1 ≤ nd2) (h42 : nd2 ≤ 4) (hK42 : ∀ c, K2 c ≤ 4) (H : Heap) (locs : List Loc) (ls : Array Slot) (hP : va_P (dC, dI) vwCl (List.flatten ([gB2, [(m2, .inr (2, [.int (nI w2), .int (nI h2), .int (nI nd2), .int wv2, .ref mA2, .ref tA2]))], [(mA2, .inl (cJ, w2, .inr (.inr (.inr (.inr (gQ w2 rM2))))))], gB w2 rM2 cI h2 (gM w2 K2), [(tA2, .inl (cD, w2, .inr (.inr (.inr (.inr (gQ w2 rT2))))))], gB w2 rT2 cZ h2 (gZ w2 T2)] : gW)) H) (hD : va_D A (List.flatten ([gB2, [(m2, .inr (2, [.int (nI w2), .int (nI h2), .int (nI nd2), .int wv2, .ref mA2, .ref tA2]))], [(mA2, .inl (cJ, w2, .inr (.inr (.inr (.inr (gQ w2 rM2))))))], gB w2 rM2 cI h2 (gM w2 K2), [(tA2, .inl (cD, w2, .inr (.inr (.inr (.inr (gQ w2 rT2))))))], gB w2 rT2 cZ h2 (gZ w2 T2)] : gW))) (hS : va_S A s.heap H locs) (hl : lv_has ls 22 [(0, .ref b0), (1, .ref q_0), (2, .ref m2), (3, .int (nI time))]), W p l e rmL_law s m args below meth c H locs (13309 + 300 * time) (66147 + 1500 * time) Q (F0 m 16 ls []) := by
    intro n
    induction n with
    | zero =>
      intro time gB2 m2 w2 h2 nd2 wv2 mA2 rM2 K2 tA2 rT2 T2 hkn hg2 gk2 h12 h42 hK42 H locs ls hP hD hS hl
      refine lv_iload_n hx hb dL_law_16 rfl (lv_at hl 3 rfl) ?_
      refine lv_bipush (v := 24) hx hb dL_law_17 (by decide +kernel) ?_
      refine lv_icmp_ge (tgt := 802) hx hb dL_law_19 (by decide) (fun c_19 => ?_) (fun c_19 => ?_)
      · skip
        have n_19 := zc_le_t (a := 24) (b := time) (by omega) (by omega) c_19
        refine lv_aload_n hx hb dL_law_802 rfl (lv_at hl 2 rfl) ?_
        refine lv_ifnull hx hb dL_law_803 ?_
        refine lv_aload_n hx hb dL_law_806 rfl (lv_at hl 2 rfl) ?_
        refine lv_aload_n hx hb dL_law_807 rfl (lv_at hl 1 rfl) ?_
        refine s_callVi (As := [.ref q_0]) (rest := []) F9 (m_X2_isSame l dC dI cI cZ cJ cD m2 w2 h2 nd2 wv2 mA2 rM2 K2 tA2 rT2 T2 gB2 q_0 (hg2) (gk2) (h12) (h42) (hK42)) (cwV 1 hts gL_law_X2_isSame rfl rfl rfl (by decide +kernel) ⟨Nat.le_of_ble_eq_true rfl, Nat.le_of_ble_eq_true rfl⟩) hK hN hP hD hS hA [0, 1, 2, 3, 4, 5] [] 6 rfl rfl (by decide) (fun (u : va_W) => ([u, [(m2, .inr (2, [.int (nI w2), .int (nI h2), .int (nI nd2), .int wv2, .ref mA2, .ref tA2]))], [(mA2, .inl (cJ, w2, .inr (.inr (.inr (.inr (gQ w2 rM2))))))], gB w2 rM2 cI h2 (gM w2 K2), [(tA2, .inl (cD, w2, .inr (.inr (.inr (.inr (gQ w2 rT2))))))], gB w2 rT2 cZ h2 (gZ w2 T2)] : gW)) [0, 1, 2, 3, 4, 5] [] 6 (fun _ => rfl) (fun _ => rfl) (fun _ => rfl) (by decide) 1 0 (ci := 2) rfl rfl rfl rfl rfl hl.1 rfl (Nat.le_of_ble_eq_true rfl) dL_law_808 ⟨by show 13309 + 300 * time + 7 ≤ 669352; omega, by show 66147 + 1500 * time + 55 ≤ 7093412; omega⟩ (fun r_808 u H locs hp_808 hP hD hS => ?_)
        obtain ⟨g2_1, rfl⟩ : ∃ z, z = u := ⟨_, rfl⟩
        have hP : va_P (dC, dI) vwCl (List.flatten ([g2_1, [(m2, .inr (2, [.int (nI w2), .int (nI h2), .int (nI nd2), .int wv2, .ref mA2, .ref tA2]))], [(mA2, .inl (cJ, w2, .inr (.inr (.inr (.inr (gQ w2 rM2))))))], gB w2 rM2 cI h2 (gM w2 K2), [(tA2, .inl (cD, w2, .inr (.inr (.inr (.inr (gQ w2 rT2))))))], gB w2 rT2 cZ h2 (gZ w2 T2)] : gW)) H := hP
        have hD : va_D A (List.flatten ([g2_1, [(m2, .inr (2, [.int (nI w2), .int (nI h2), .int (nI nd2), .int wv2, .ref mA2, .ref tA2]))], [(mA2, .inl (cJ, w2, .inr (.inr (.inr (.inr (gQ w2 rM2))))))], gB w2 rM2 cI h2 (gM w2 K2), [(tA2, .inl (cD, w2, .inr (.inr (.inr (.inr (gQ w2 rT2))))))], gB w2 rT2 cZ h2 (gZ w2 T2)] : gW)) := hD
        have hp_808 : r_808 = 1 ∧ CT cI w2 h2 nd2 wv2 T2 K2 q_0 g2_1 := hp_808
        have hg_808 := hp_808
        refine z_topi (y := 1) (hp_808.1) ?_
        refine lv_if_eq (tgt := 818) hx hb dL_law_811 (by decide) (fun c_811 => ?_) (fun c_811 => ?_)
        · skip
          have n_811 := zc_eq_t (a := 1) (b := 0) (by omega) (by omega) c_811
          exact absurd n_811 (by omega)
        · skip
          have n_811 := zc_eq_f (a := 1) (b := 0) (by omega) (by omega) c_811
          refine lv_iconst (v := 1) hx hb dL_law_814 (by decide) ?_
          refine lv_goto (tgt := 819) hx hb dL_law_815 (by decide) ?_
          refine W.widen (k := 669352) (n := 7093412) (by omega) (by omega) ?_
          exact fin _ _ _ hS
      · skip
        have n_19 := zc_le_f (a := 24) (b := time) (by omega) (by omega) c_19
        exact absurd n_19 (by omega)
    | succ n ih_16 =>
      intro time gB2 m2 w2 h2 nd2 wv2 mA2 rM2 K2 tA2 rT2 T2 hkn hg2 gk2 h12 h42 hK42 H locs ls hP hD hS hl
      refine lv_iload_n hx hb dL_law_16 rfl (lv_at hl 3 rfl) ?_
      refine lv_bipush (v := 24) hx hb dL_law_17 (by decide +kernel) ?_
      refine lv_icmp_ge (tgt := 802) hx hb dL_law_19 (by decide) (fun c_19 => ?_) (fun c_19 => ?_)
      · skip
        have n_19 := zc_le_t (a := 24) (b := time) (by omega) (by omega) c_19
        exact absurd n_19 (by omega)
      · skip
        have n_19 := zc_le_f (a := 24) (b := time) (by omega) (by omega) c_19
        refine lv_aload_n hx hb dL_law_22 rfl (lv_at hl 0 rfl) ?_
        refine lv_iload_n hx hb dL_law_23 rfl (lv_at hl 3 rfl) ?_
        refine lv_bipush (v := 16) hx hb dL_law_24 (by decide +kernel) ?_
        refine lv_irem hx hb dL_law_26 (by decide) ?_
        refine z_topi (y := nI (time % 16)) (irem_nI (c := time) (w := 16) (by omega) (by omega) (by omega)) ?_
        refine sx_callSi (As := [.ref b0, .int (nI (time % 16))]) (rest := []) F9 (m_L_cell l dC dI cI cZ cJ cD b0 L0 xs0 (time % 16) (hL0) (by omega)) (va_cwS 2 hts gL_law_L_cell rfl rfl rfl (by decide +kernel) ⟨Nat.le_of_ble_eq_true rfl, Nat.le_of_ble_eq_true rfl⟩) hK hN hX hbl hbA hP hD hS hA [] [0, 1, 2, 3, 4, 5] 6 rfl rfl (by decide) (fun (_ : Unit) => ([gB2, [(m2, .inr (2, [.int (nI w2), .int (nI h2), .int (nI nd2), .int wv2, .ref mA2, .ref tA2]))], [(mA2, .inl (cJ, w2, .inr (.inr (.inr (.inr (gQ w2 rM2))))))], gB w2 rM2 cI h2 (gM w2 K2), [(tA2, .inl (cD, w2, .inr (.inr (.inr (.inr (gQ w2 rT2))))))], gB w2 rT2 cZ h2 (gZ w2 T2)] : gW)) [] [0, 1, 2, 3, 4, 5] 6 (fun _ => rfl) (fun _ => rfl) (fun _ => rfl) (by decide) rfl hl.1 rfl (Nat.le_of_ble_eq_true rfl) dL_law_27 ⟨by show 13309 + 300 * time + 0 ≤ 669352; omega, by show 66147 + 1500 * time + 0 ≤ 7093412; omega⟩ (fun r_27 u H locs hp_27 hP hD hS => ?_)
        have hP : va_P (dC, dI) vwCl (List.flatten ([gB2, [(m2, .inr (2, [.int (nI w2), .int (nI h2), .int (nI nd2), .int wv2, .ref mA2, .ref tA2]))], [(mA2, .inl (cJ, w2, .inr (.inr (.inr (.inr (gQ w2 rM2))))))], gB w2 rM2 cI h2 (gM w2 K2), [(tA2, .inl (cD, w2, .inr (.inr (.inr (.inr (gQ w2 rT2))))))], gB w2 rT2 cZ h2 (gZ w2 T2)] : gW)) H := hP
        have hD : va_D A (List.flatten ([gB2, [(m2, .inr (2, [.int (nI w2), .int (nI h2), .int (nI nd2), .int wv2, .ref mA2, .ref tA2]))], [(mA2, .inl (cJ, w2, .inr (.inr (.inr (.inr (gQ w2 rM2))))))], gB w2 rM2 cI h2 (gM w2 K2), [(tA2, .inl (cD, w2, .inr (.inr (.inr (.inr (gQ w2 rT2))))))], gB w2 rT2 cZ h2 (gZ w2 T2)] : gW)) := hD
        refine lv_iload_n hx hb dL_law_30 rfl (lv_at hl 3 rfl) ?_
        refine lv_bipush (v := 16) hx hb dL_law_31 (by decide +kernel) ?_
        refine lv_idiv hx hb dL_law_33 (by decide) ?_
        refine z_topi (y := nI (time / 16)) (idiv_nI (c := time) (w := 16) (by omega) (by omega) (by omega)) ?_
        refine lv_iconst (v := 3) hx hb dL_law_34 (by decide) ?_
        refine lv_imul hx hb dL_law_35 ?_
        refine z_topi (y := nI ((time / 16) * 3)) (pk_mul (time / 16) 3) ?_
        refine lv_ishr hx hb dL_law_36 ?_
        refine lv_sipush (v := 503) hx hb dL_law_37 (by decide +kernel) ?_
        refine lv_iload_n hx hb dL_law_40 rfl (lv_at hl 3 rfl) ?_
        refine lv_imul hx hb dL_law_41 ?_
        refine z_topi (y := nI (503 * time)) (pk_mul 503 time) ?_
        refine lv_iadd hx hb dL_law_42 ?_
        refine lv_istore (lv' := [(4, .int ((r_27 >>> ((nI ((time / 16) * 3)) &&& 31)) + (nI (503 * time)))), (0, .ref b0), (1, .ref q_0), (2, .ref m2), (3, .int (nI time))]) hx hb dL_law_43 hl (by decide) rfl (fun ls hl => ?_)
        refine lv_aload_n hx hb dL_law_45 rfl (lv_at hl 3 rfl) ?_
        refine lv_ifnull hx hb dL_law_46 ?_
        refine lv_aload_n hx hb dL_law_49 rfl (lv_at hl 2 rfl) ?_
        refine lv_aload_n hx hb dL_law_50 rfl (lv_at hl 3 rfl) ?_
        refine lv_iload hx hb dL_law_51 (lv_at hl 0 rfl) ?_
        refine s_callSr (As := [.ref q_0, .ref m2, .int ((r_27 >>> ((nI ((time / 16) * 3)) &&& 31)) + (nI (503 * time)))]) (rest := []) F9 (m_L_act l dC dI cI cZ cJ cD m2 w2 h2 nd2 wv2 mA2 rM2 K2 tA2 rT2 T2 gB2 q_0 ((r_27 >>> ((nI ((time / 16) * 3)) &&& 31)) + (nI (503 * time))) (hg2) (gk2) (h12) (h42) (hK42)) (va_cwS 3 hts gL_law_L_act rfl rfl rfl (by decide +kernel) ⟨Nat.le_of_ble_eq_true rfl, Nat.le_of_ble_eq_true rfl⟩) hK hN hP hD hS hA [0, 1, 2, 3, 4, 5] [] 6 rfl rfl (by decide) (fun (u : va_W × Nat × Nat × Nat × Nat × Int32 × Nat × (Nat → Nat) × (Nat → Nat) × Nat × (Nat → Nat) × (Nat → Bool)) => ([u.1, [(u.2.1, .inr (2, [.int (nI u.2.2.1), .int (nI u.2.2.2.1), .int (nI u.2.2.2.2.1), .int u.2.2.2.2.2.1, .ref u.2.2.2.2.2.2.1, .ref u.2.2.2.2.2.2.2.2.2.1]))], [(u.2.2.2.2.2.2.1, .inl (cJ, u.2.2.1, .inr (.inr (.inr (.inr (gQ u.2.2.1 u.2.2.2.2.2.2.2.1))))))], gB u.2.2.1 u.2.2.2.2.2.2.2.1 cI u.2.2.2.1 (gM u.2.2.1 u.2.2.2.2.2.2.2.2.1), [(u.2.2.2.2.2.2.2.2.2.1, .inl (cD, u.2.2.1, .inr (.inr (.inr (.inr (gQ u.2.2.1 u.2.2.2.2.2.2.2.2.2.2.1))))))], gB u.2.2.1 u.2.2.2.2.2.2.2.2.2.2.1 cZ u.2.2.2.1 (gZ u.2.2.1 u.2.2.2.2.2.2.2.2.2.2.2)] : gW)) [0, 1, 2, 3, 4, 5] [] 6 (fun _ => rfl) (fun _ => rfl) (fun _ => rfl) (by decide) rfl hl.1 rfl (Nat.le_of_ble_eq_true rfl) dL_law_53 ⟨by show 13309 + 300 * time + 240 ≤ 669352; omega, by show 66147 + 1500 * time + 1200 ≤ 7093412; omega⟩ (fun u H locs hp_53 hP hD hS => ?_)
        obtain ⟨g3, m3, w, h, nd, wv, mA, rM, K, tA, rT, T⟩ := u
        have hP : va_P (dC, dI) vwCl (List.flatten ([g3, [(m3, .inr (2, [.int (nI w), .int (nI h), .int (nI nd), .int wv, .ref mA, .ref tA]))], [(mA, .inl (cJ, w, .inr (.inr (.inr (.inr (gQ w rM))))))], gB w rM cI h (gM w K), [(tA, .inl (cD, w, .inr (.inr (.inr (.inr (gQ w rT))))))], gB w rT cZ h (gZ w T)] : gW)) H := hP
        have hD : va_D A (List.flatten ([g3, [(m3, .inr (2, [.int (nI w), .int (nI h), .int (nI nd), .int wv, .ref mA, .ref tA]))], [(mA, .inl (cJ, w, .inr (.inr (.inr (.inr (gQ w rM))))))], gB w rM cI h (gM w K), [(tA, .inl (cD, w, .inr (.inr (.inr (.inr (gQ w rT))))))], gB w rT cZ h (gZ w T)] : gW)) := hD
        have hp_53 : CT cI w h nd wv T K q_0 g3 ∧ gok w h ∧ 1 ≤ nd ∧ nd ≤ 4 ∧ ∀ c, K c ≤ 4 := hp_53
        have hg_53 := hp_53.1
        have gk := hp_53.2.1
        have h1 := hp_53.2.2.1
        have h4 := hp_53.2.2.2.1
        have hK4 := hp_53.2.2.2.2
        obtain ⟨gw2, gw5, gh2, gh5⟩ := id gk
        have wh25 := wh_le gk
        have wh4 := wh_pos gk
        have hKP := wavN_le (w := w) (h := h) (nd := nd) (T := T) h1 hK4 1
        have hall : sN (fun j => ccN (wavN w h nd T K 1) j (w * h)) 5 = w * h := all_5 hKP (w * h)
        refine lv_astore_n (lv' := [(2, .ref m3), (4, .int ((r_27 >>> ((nI ((time / 16) * 3)) &&& 31)) + (nI (503 * time)))), (0, .ref b0), (1, .ref q_0), (3, .int (nI time))]) hx hb dL_law_56 rfl hl (by decide) rfl (fun ls hl => ?_)
        refine lv_aload_n hx hb dL_law_57 rfl (lv_at hl 0 rfl) ?_
        refine lv_ifnonnull (tgt := 63) hx hb dL_law_58 (by decide) ?_
        refine lv_aload_n hx hb dL_law_63 rfl (lv_at hl 3 rfl) ?_
        obtain ⟨fs9, ho9⟩ := CT_obj hg_53
        refine s_callVi (As := []) (rest := []) F9 (k_width l dC dI cI cZ cJ cD hg_53  ) (cwV 0 hts gL_law_X1_width rfl rfl rfl (by decide +kernel) ⟨Nat.le_of_ble_eq_true rfl, Nat.le_of_ble_eq_true rfl⟩) hK hN hP hD hS hA [0] [1, 2, 3, 4, 5] 6 rfl rfl (by decide) (fun (u : va_W) => ([u, [(m3, .inr (2, [.int (nI w), .int (nI h), .int (nI nd), .int wv, .ref mA, .ref tA]))], [(mA, .inl (cJ, w, .inr (.inr (.inr (.inr (gQ w rM))))))], gB w rM cI h (gM w K), [(tA, .inl (cD, w, .inr (.inr (.inr (.inr (gQ w rT))))))], gB w rT cZ h (gZ w T)] : gW)) [0] [1, 2, 3, 4, 5] 6 (fun _ => rfl) (fun _ => rfl) (fun _ => rfl) (by decide) 0 0 (ci := 1) rfl ho9 rfl rfl rfl hl.1 rfl (Nat.le_of_ble_eq_true rfl) dL_law_64 ⟨by show 13309 + 300 * time + 240 + 0 ≤ 669352; omega, by show 66147 + 1500 * time + 1200 + 0 ≤ 7093412; omega⟩ (fun r_64 g_64 H locs hp_64 hP hD hS => ?_)
        have hP : va_P (dC, dI) vwCl (List.flatten ([g_64, [(m3, .inr (2, [.int (nI w), .int (nI h), .int (nI nd), .int wv, .ref mA, .ref tA]))], [(mA, .inl (cJ, w, .inr (.inr (.inr (.inr (gQ w rM))))))], gB w rM cI h (gM w K), [(tA, .inl (cD, w, .inr (.inr (.inr (.inr (gQ w rT))))))], gB w rT cZ h (gZ w T)] : gW)) H := hP
        have hD : va_D A (List.flatten ([g_64, [(m3, .inr (2, [.int (nI w), .int (nI h), .int (nI nd), .int wv, .ref mA, .ref tA]))], [(mA, .inl (cJ, w, .inr (.inr (.inr (.inr (gQ w rM))))))], gB w rM cI h (gM w K), [(tA, .inl (cD, w, .inr (.inr (.inr (.inr (gQ w rT))))))], gB w rT cZ h (gZ w T)] : gW)) := hD
        obtain ⟨hp_64, hg_64⟩ := hp_64
        have hg_64 : CT cI w h nd wv T K q_0 g_64 := hg_64
        refine z_topi (y := nI w) (hp_64) ?_
        refine lv_istore (lv' := [(5, .int (nI w)), (2, .ref m3), (4, .int ((r_27 >>> ((nI ((time / 16) * 3)) &&& 31)) + (nI (503 * time)))), (0, .ref b0), (1, .ref q_0), (3, .int (nI time))]) hx hb dL_law_67 hl (by decide) rfl (fun ls hl => ?_)
        refine lv_aload_n hx hb dL_law_69 rfl (lv_at hl 4 rfl) ?_
        obtain ⟨fs9, ho9⟩ := CT_obj hg_64
        refine s_callVi (As := []) (rest := []) F9 (k_height l dC dI cI cZ cJ cD hg_64  ) (cwV 0 hts gL_law_X1_height rfl rfl rfl (by decide +kernel) ⟨Nat.le_of_ble_eq_true rfl, Nat.le_of_ble_eq_true rfl⟩) hK hN hP hD hS hA [0] [1, 2, 3, 4, 5] 6 rfl rfl (by decide) (fun (u : va_W) => ([u, [(m3, .inr (2, [.int (nI w), .int (nI h), .int (nI nd), .int wv, .ref mA, .ref tA]))], [(mA, .inl (cJ, w, .inr (.inr (.inr (.inr (gQ w rM))))))], gB w rM cI h (gM w K), [(tA, .inl (cD, w, .inr (.inr (.inr (.inr (gQ w rT))))))], gB w rT cZ h (gZ w T)] : gW)) [0] [1, 2, 3, 4, 5] 6 (fun _ => rfl) (fun _ => rfl) (fun _ => rfl) (by decide) 0 0 (ci := 1) rfl ho9 rfl rfl rfl hl.1 rfl (Nat.le_of_ble_eq_true rfl) dL_law_70 ⟨by show 13309 + 300 * time + 240 + 0 ≤ 669352; omega, by show 66147 + 1500 * time + 1200 + 0 ≤ 7093412; omega⟩ (fun r_70 g_70 H locs hp_70 hP hD hS => ?_)
        have hP : va_P (dC, dI) vwCl (List.flatten ([g_70, [(m3, .inr (2, [.int (nI w), .int (nI h), .int (nI nd), .int wv, .ref mA, .ref tA]))], [(mA, .inl (cJ, w, .inr (.inr (.inr (.inr (gQ w rM))))))], gB w rM cI h (gM w K), [(tA, .inl (cD, w, .inr (.inr (.inr (.inr (gQ w rT))))))], gB w rT cZ h (gZ w T)] : gW)) H := hP
        have hD : va_D A (List.flatten ([g_70, [(m3, .inr (2, [.int (nI w), .int (nI h), .int (nI nd), .int wv, .ref mA, .ref tA]))], [(mA, .inl (cJ, w, .inr (.inr (.inr (.inr (gQ w rM))))))], gB w rM cI h (gM w K), [(tA, .inl (cD, w, .inr (.inr (.inr (.inr (gQ w rT))))))], gB w rT cZ h (gZ w T)] : gW)) := hD
        obtain ⟨hp_70, hg_70⟩ := hp_70
        have hg_70 : CT cI w h nd wv T K q_0 g_70 := hg_70
        refine z_topi (y := nI h) (hp_70) ?_
        refine lv_istore (lv' := [(6, .int (nI h)), (5, .int (nI w)), (2, .ref m3), (4, .int ((r_27 >>> ((nI ((time / 16) * 3)) &&& 31)) + (nI (503 * time)))), (0, .ref b0), (1, .ref q_0), (3, .int (nI time))]) hx hb dL_law_73 hl (by decide) rfl (fun ls hl => ?_)
        refine lv_iconst (v := 5) hx hb dL_law_75 (by decide) ?_
        refine s_newa (atype := .int) (ty := .int) (cA := cI) hx hb (hts (.arrayClass .int) (List.mem_of_getElem? (i := 3) rfl)) rfl hK hP hD hS hA 0 rfl 5 rfl (5, .inl (fun _ => 0)) (fun _ => rfl) (by omega) (by show _ * 4 ≤ _; omega) (by show 13309 + 300 * time + 240 + 1 ≤ 669352; omega) (by show 66147 + 1500 * time + 1200 + 5 ≤ 7093412; omega) dL_law_76 (fun q_76 H hP hD hS => ?_)
        have hP : va_P (dC, dI) vwCl (List.flatten ([g_70, [(m3, .inr (2, [.int (nI w), .int (nI h), .int (nI nd), .int wv, .ref mA, .ref tA]))], [(mA, .inl (cJ, w, .inr (.inr (.inr (.inr (gQ w rM))))))], gB w rM cI h (gM w K), [(tA, .inl (cD, w, .inr (.inr (.inr (.inr (gQ w rT))))))], gB w rT cZ h (gZ w T), [(q_76, .inl (cI, 5, .inl (fun _ => 0)))]] : gW)) H := hP
        have hD : va_D A (List.flatten ([g_70, [(m3, .inr (2, [.int (nI w), .int (nI h), .int (nI nd), .int wv, .ref mA, .ref tA]))], [(mA, .inl (cJ, w, .inr (.inr (.inr (.inr (gQ w rM))))))], gB w rM cI h (gM w K), [(tA, .inl (cD, w, .inr (.inr (.inr (.inr (gQ w rT))))))], gB w rT cZ h (gZ w T), [(q_76, .inl (cI, 5, .inl (fun _ => 0)))]] : gW)) := hD
        refine W.widen (k := 13309 + 300 * time + 241) (n := 66147 + 1500 * time + 1205) (by omega) (by omega) ?_
        refine lv_astore (lv' := [(7, .ref q_76), (6, .int (nI h)), (5, .int (nI w)), (2, .ref m3), (4, .int ((r_27 >>> ((nI ((time / 16) * 3)) &&& 31)) + (nI (503 * time)))), (0, .ref b0), (1, .ref q_0), (3, .int (nI time))]) hx hb dL_law_78 hl (by decide) rfl (fun ls hl => ?_)
        refine lv_iconst (v := 0) hx hb dL_law_80 (by decide) ?_
        refine lv_istore (lv' := [(8, .int 0), (7, .ref q_76), (6, .int (nI h)), (5, .int (nI w)), (2, .ref m3), (4, .int ((r_27 >>> ((nI ((time / 16) * 3)) &&& 31)) + (nI (503 * time)))), (0, .ref b0), (1, .ref q_0), (3, .int (nI time))]) hx hb dL_law_81 hl (by decide) rfl (fun ls hl => ?_)
        have loop_83 : ∀ (n : Nat) (ii : Nat) (gA : va_W) (hkn : ii + n = 5) (hgA : CT cI w h nd wv T K q_0 gA) (H : Heap) (locs : List Loc) (ls : Array Slot) (hP : va_P (dC, dI) vwCl (List.flatten ([gA, [(m3, .inr (2, [.int (nI w), .int (nI h), .int (nI nd), .int wv, .ref mA, .ref tA]))], [(mA, .inl (cJ, w, .inr (.inr (.inr (.inr (gQ w rM))))))], gB w rM cI h (gM w K), [(tA, .inl (cD, w, .inr (.inr (.inr (.inr (gQ w rT))))))], gB w rT cZ h (gZ w T), [(q_76, .inl (cI, 5, .inl (tF (fun j => nI (ccN K j (w * h))) ii)))]] : gW)) H) (hD : va_D A (List.flatten ([gA, [(m3, .inr (2, [.int (nI w), .int (nI h), .int (nI nd), .int wv, .ref mA, .ref tA]))], [(mA, .inl (cJ, w, .inr (.inr (.inr (.inr (gQ w rM))))))], gB w rM cI h (gM w K), [(tA, .inl (cD, w, .inr (.inr (.inr (.inr (gQ w rT))))))], gB w rT cZ h (gZ w T), [(q_76, .inl (cI, 5, .inl (tF (fun j => nI (ccN K j (w * h))) ii)))]] : gW))) (hS : va_S A s.heap H locs) (hl : lv_has ls 22 [(0, .ref b0), (1, .ref q_0), (2, .ref m3), (3, .int (nI time)), (5, .int (nI w)), (6, .int (nI h)), (7, .ref q_76), (8, .int (nI ii))]), W p l e rmL_law s m args below meth c H locs (13309 + 300 * time + 241) (66147 + 1500 * time + 1205) Q (F0 m 83 ls []) := by
          intro n
          induction n with
          | zero =>
            intro ii gA hkn hgA H locs ls hP hD hS hl
            refine lv_iload hx hb dL_law_83 (lv_at hl 7 rfl) ?_
            refine lv_iconst (v := 5) hx hb dL_law_85 (by decide) ?_
            refine lv_icmp_ge (tgt := 106) hx hb dL_law_86 (by decide) (fun c_86 => ?_) (fun c_86 => ?_)
            · skip
              have n_86 := zc_le_t (a := 5) (b := ii) (by omega) (by omega) c_86
              have hl9 := hl
              have hP9 := hP
              have hD9 := hD
              have hS9 := hS
              obtain rfl : 5 = ii := by omega
              have hl := hl9
              have hP := hP9
              have hD := hD9
              have hS := hS9
              refine lv_iload hx hb dL_law_106 (lv_at hl 4 rfl) ?_
              refine lv_iload hx hb dL_law_108 (lv_at hl 5 rfl) ?_
              refine lv_imul hx hb dL_law_110 ?_
              refine z_topi (y := nI (w * h)) (pk_mul w h) ?_
              refine lv_iconst (v := 5) hx hb dL_law_111 (by decide) ?_
              refine s_mna (ty := .int) (cR := cI) (cO := cJ) hx hb hown (hts (.classLink RL 87 "[[I") (List.mem_of_getElem? (i := 4) rfl)) (hts (.arrayClass .int) (List.mem_of_getElem? (i := 3) rfl)) hN.2.2.1 hK hP hD hS hA 0 2 rfl rfl (Or.inl rfl) (w * h) 5 rfl rfl (by omega) (by omega) (by show 13309 + 300 * time + 241 + (1 + (w * h)) ≤ 669352; omega) (by show 66147 + 1500 * time + 1205 + ((w * h) + (w * h) * 5) ≤ 7093412; omega) dL_law_112 (fun q_112 r_112 H hP hD hS => ?_)
              have hP : va_P (dC, dI) vwCl (List.flatten ([gA, [(m3, .inr (2, [.int (nI w), .int (nI h), .int (nI nd), .int wv, .ref mA, .ref tA]))], [(mA, .inl (cJ, w, .inr (.inr (.inr (.inr (gQ w rM))))))], gB w rM cI h (gM w K), [(tA, .inl (cD, w, .inr (.inr (.inr (.inr (gQ w rT))))))], gB w rT cZ h (gZ w T), [(q_76, .inl (cI, 5, .inl (tF (fun j => nI (ccN K j (w * h))) 5)))], [(q_112, .inl (cJ, (w * h), .inr (.inr (.inr (.inr (gQ (w * h) r_112))))))], gB (w * h) r_112 cI 5 (fun _ _ => 0)] : gW)) H := hP
              have hD : va_D A (List.flatten ([gA, [(m3, .inr (2, [.int (nI w), .int (nI h), .int (nI nd), .int wv, .ref mA, .ref tA]))], [(mA, .inl (cJ, w, .inr (.inr (.inr (.inr (gQ w rM))))))], gB w rM cI h (gM w K), [(tA, .inl (cD, w, .inr (.inr (.inr (.inr (gQ w rT))))))], gB w rT cZ h (gZ w T), [(q_76, .inl (cI, 5, .inl (tF (fun j => nI (ccN K j (w * h))) 5)))], [(q_112, .inl (cJ, (w * h), .inr (.inr (.inr (.inr (gQ (w * h) r_112))))))], gB (w * h) r_112 cI 5 (fun _ _ => 0)] : gW)) := hD
              refine W.widen (k := 13309 + 300 * time + 268) (n := 66147 + 1500 * time + 1355) (by omega) (by omega) ?_
              refine lv_astore (lv' := [(8, .ref q_112), (0, .ref b0), (1, .ref q_0), (2, .ref m3), (3, .int (nI time)), (5, .int (nI w)), (6, .int (nI h)), (7, .ref q_76)]) hx hb dL_law_116 hl (by decide) rfl (fun ls hl => ?_)
              refine lv_iload hx hb dL_law_118 (lv_at hl 5 rfl) ?_
              refine lv_iload hx hb dL_law_120 (lv_at hl 6 rfl) ?_
              refine lv_imul hx hb dL_law_122 ?_
              refine z_topi (y := nI (w * h)) (pk_mul w h) ?_
              refine s_newa (atype := .int) (ty := .int) (cA := cI) hx hb (hts (.arrayClass .int) (List.mem_of_getElem? (i := 3) rfl)) rfl hK hP hD hS hA 0 rfl (w * h) rfl ((w * h), .inl (fun _ => 0)) (fun _ => rfl) (by omega) (by show _ * 4 ≤ _; omega) (by show 13309 + 300 * time + 268 + 1 ≤ 669352; omega) (by show 66147 + 1500 * time + 1355 + (w * h) ≤ 7093412; omega) dL_law_123 (fun q_123 H hP hD hS => ?_)
              have hP : va_P (dC, dI) vwCl (List.flatten ([gA, [(m3, .inr (2, [.int (nI w), .int (nI h), .int (nI nd), .int wv, .ref mA, .ref tA]))], [(mA, .inl (cJ, w, .inr (.inr (.inr (.inr (gQ w rM))))))], gB w rM cI h (gM w K), [(tA, .inl (cD, w, .inr (.inr (.inr (.inr (gQ w rT))))))], gB w rT cZ h (gZ w T), [(q_76, .inl (cI, 5, .inl (tF (fun j => nI (ccN K j (w * h))) 5)))], [(q_112, .inl (cJ, (w * h), .inr (.inr (.inr (.inr (gQ (w * h) r_112))))))], gB (w * h) r_112 cI 5 (fun _ _ => 0), [(q_123, .inl (cI, (w * h), .inl (fun _ => 0)))]] : gW)) H := hP
              have hD : va_D A (List.flatten ([gA, [(m3, .inr (2, [.int (nI w), .int (nI h), .int (nI nd), .int wv, .ref mA, .ref tA]))], [(mA, .inl (cJ, w, .inr (.inr (.inr (.inr (gQ w rM))))))], gB w rM cI h (gM w K), [(tA, .inl (cD, w, .inr (.inr (.inr (.inr (gQ w rT))))))], gB w rT cZ h (gZ w T), [(q_76, .inl (cI, 5, .inl (tF (fun j => nI (ccN K j (w * h))) 5)))], [(q_112, .inl (cJ, (w * h), .inr (.inr (.inr (.inr (gQ (w * h) r_112))))))], gB (w * h) r_112 cI 5 (fun _ _ => 0), [(q_123, .inl (cI, (w * h), .inl (fun _ => 0)))]] : gW)) := hD
              refine W.widen (k := 13309 + 300 * time + 269) (n := 66147 + 1500 * time + 1380) (by omega) (by omega) ?_
              refine lv_astore (lv' := [(9, .ref q_123), (8, .ref q_112), (0, .ref b0), (1, .ref q_0), (2, .ref m3), (3, .int (nI time)), (5, .int (nI w)), (6, .int (nI h)), (7, .ref q_76)]) hx hb dL_law_125 hl (by decide) rfl (fun ls hl => ?_)
              refine lv_iconst (v := 0) hx hb dL_law_127 (by decide) ?_
              refine lv_istore (lv' := [(10, .int 0), (9, .ref q_123), (8, .ref q_112), (0, .ref b0), (1, .ref q_0), (2, .ref m3), (3, .int (nI time)), (5, .int (nI w)), (6, .int (nI h)), (7, .ref q_76)]) hx hb dL_law_128 hl (by decide) rfl (fun ls hl => ?_)
              have loop_130 : ∀ (n : Nat) (k : Nat) (gA : va_W) (hkn : k + n = (w * h)) (hgA : CT cI w h nd wv T K q_0 gA) (H : Heap) (locs : List Loc) (ls : Array Slot) (hP : va_P (dC, dI) vwCl (List.flatten ([gA, [(m3, .inr (2, [.int (nI w), .int (nI h), .int (nI nd), .int wv, .ref mA, .ref tA]))], [(mA, .inl (cJ, w, .inr (.inr (.inr (.inr (gQ w rM))))))], gB w rM cI h (gM w K), [(tA, .inl (cD, w, .inr (.inr (.inr (.inr (gQ w rT))))))], gB w rT cZ h (gZ w T), [(q_76, .inl (cI, 5, .inl (tF (fun j => nI (ccN K j (w * h))) 5)))], [(q_112, .inl (cJ, (w * h), .inr (.inr (.inr (.inr (gQ (w * h) r_112))))))], gB (w * h) r_112 cI 5 (gF (fun a b => nI (cnbs w h K a b)) k 0), [(q_123, .inl (cI, (w * h), .inl (tF (fun b => nI (K b)) k)))]] : gW)) H) (hD : va_D A (List.flatten ([gA, [(m3, .inr (2, [.int (nI w), .int (nI h), .int (nI nd), .int wv, .ref mA, .ref tA]))], [(mA, .inl (cJ, w, .inr (.inr (.inr (.inr (gQ w rM))))))], gB w rM cI h (gM w K), [(tA, .inl (cD, w, .inr (.inr (.inr (.inr (gQ w rT))))))], gB w rT cZ h (gZ w T), [(q_76, .inl (cI, 5, .inl (tF (fun j => nI (ccN K j (w * h))) 5)))], [(q_112, .inl (cJ, (w * h), .inr (.inr (.inr (.inr (gQ (w * h) r_112))))))], gB (w * h) r_112 cI 5 (gF (fun a b => nI (cnbs w h K a b)) k 0), [(q_123, .inl (cI, (w * h), .inl (tF (fun b => nI (K b)) k)))]] : gW))) (hS : va_S A s.heap H locs) (hl : lv_has ls 22 [(0, .ref b0), (1, .ref q_0), (2, .ref m3), (3, .int (nI time)), (5, .int (nI w)), (6, .int (nI h)), (7, .ref q_76), (8, .ref q_112), (9, .ref q_123), (10, .int (nI k))]), W p l e rmL_law s m args below meth c H locs (13309 + 300 * time + 269) (66147 + 1500 * time + 1380) Q (F0 m 130 ls []) := by
                intro n
                induction n with
                | zero =>
                  intro k gA hkn hgA H locs ls hP hD hS hl
                  refine lv_iload hx hb dL_law_130 (lv_at hl 9 rfl) ?_
                  refine lv_iload hx hb dL_law_132 (lv_at hl 4 rfl) ?_
                  refine lv_iload hx hb dL_law_134 (lv_at hl 5 rfl) ?_
                  refine lv_imul hx hb dL_law_136 ?_
                  refine z_topi (y := nI (w * h)) (pk_mul w h) ?_
                  refine lv_icmp_ge (tgt := 292) hx hb dL_law_137 (by decide) (fun c_137 => ?_) (fun c_137 => ?_)
                  · skip
                    have n_137 := zc_le_t (a := (w * h)) (b := k) (by omega) (by omega) c_137
                    have hl9 := hl
                    have hP9 := hP
                    have hD9 := hD
                    have hS9 := hS
                    obtain rfl : (w * h) = k := by omega
                    have hl := hl9
                    have hP := hP9
                    have hD := hD9
                    have hS := hS9
                    refine lv_aload_n hx hb dL_law_292 rfl (lv_at hl 1 rfl) ?_
                    obtain ⟨fs9, ho9⟩ := CT_obj hgA
                    refine s_callVi (As := []) (rest := []) F9 (k_waves l dC dI cI cZ cJ cD hgA  ) (cwV 0 hts gL_law_X1_waves rfl rfl rfl (by decide +kernel) ⟨Nat.le_of_ble_eq_true rfl, Nat.le_of_ble_eq_true rfl⟩) hK hN hP hD hS hA [0] [1, 2, 3, 4, 5, 6, 7, 8, 9] 10 rfl rfl (by decide) (fun (u : va_W) => ([u, [(m3, .inr (2, [.int (nI w), .int (nI h), .int (nI nd), .int wv, .ref mA, .ref tA]))], [(mA, .inl (cJ, w, .inr (.inr (.inr (.inr (gQ w rM))))))], gB w rM cI h (gM w K), [(tA, .inl (cD, w, .inr (.inr (.inr (.inr (gQ w rT))))))], gB w rT cZ h (gZ w T), [(q_76, .inl (cI, 5, .inl (tF (fun j => nI (ccN K j (w * h))) 5)))], [(q_112, .inl (cJ, (w * h), .inr (.inr (.inr (.inr (gQ (w * h) r_112))))))], gB (w * h) r_112 cI 5 (gF (fun a b => nI (cnbs w h K a b)) (w * h) 0), [(q_123, .inl (cI, (w * h), .inl (tF (fun b => nI (K b)) (w * h))))]] : gW)) [0] [1, 2, 3, 4, 5, 6, 7, 8, 9] 10 (fun _ => rfl) (fun _ => rfl) (fun _ => rfl) (by decide) 0 0 (ci := 1) rfl ho9 rfl rfl rfl hl.1 rfl (Nat.le_of_ble_eq_true rfl) dL_law_293 ⟨by show 13309 + 300 * time + 269 + 0 ≤ 669352; omega, by show 66147 + 1500 * time + 1380 + 0 ≤ 7093412; omega⟩ (fun r_293 g_293 H locs hp_293 hP hD hS => ?_)
                    have hP : va_P (dC, dI) vwCl (List.flatten ([g_293, [(m3, .inr (2, [.int (nI w), .int (nI h), .int (nI nd), .int wv, .ref mA, .ref tA]))], [(mA, .inl (cJ, w, .inr (.inr (.inr (.inr (gQ w rM))))))], gB w rM cI h (gM w K), [(tA, .inl (cD, w, .inr (.inr (.inr (.inr (gQ w rT))))))], gB w rT cZ h (gZ w T), [(q_76, .inl (cI, 5, .inl (tF (fun j => nI (ccN K j (w * h))) 5)))], [(q_112, .inl (cJ, (w * h), .inr (.inr (.inr (.inr (gQ (w * h) r_112))))))], gB (w * h) r_112 cI 5 (gF (fun a b => nI (cnbs w h K a b)) (w * h) 0), [(q_123, .inl (cI, (w * h), .inl (tF (fun b => nI (K b)) (w * h))))]] : gW)) H := hP
                    have hD : va_D A (List.flatten ([g_293, [(m3, .inr (2, [.int (nI w), .int (nI h), .int (nI nd), .int wv, .ref mA, .ref tA]))], [(mA, .inl (cJ, w, .inr (.inr (.inr (.inr (gQ w rM))))))], gB w rM cI h (gM w K), [(tA, .inl (cD, w, .inr (.inr (.inr (.inr (gQ w rT))))))], gB w rT cZ h (gZ w T), [(q_76, .inl (cI, 5, .inl (tF (fun j => nI (ccN K j (w * h))) 5)))], [(q_112, .inl (cJ, (w * h), .inr (.inr (.inr (.inr (gQ (w * h) r_112))))))], gB (w * h) r_112 cI 5 (gF (fun a b => nI (cnbs w h K a b)) (w * h) 0), [(q_123, .inl (cI, (w * h), .inl (tF (fun b => nI (K b)) (w * h))))]] : gW)) := hD
                    obtain ⟨hp_293, hg_293⟩ := hp_293
                    have hg_293 : CT cI w h nd wv T K q_0 g_293 := hg_293
                    refine z_topi (y := wv) (hp_293) ?_
                    refine lv_istore (lv' := [(10, .int wv), (0, .ref b0), (1, .ref q_0), (2, .ref m3), (3, .int (nI time)), (5, .int (nI w)), (6, .int (nI h)), (7, .ref q_76), (8, .ref q_112), (9, .ref q_123)]) hx hb dL_law_296 hl (by decide) rfl (fun ls hl => ?_)
                    refine lv_aload_n hx hb dL_law_298 rfl (lv_at hl 2 rfl) ?_
                    refine lv_iconst (v := 1) hx hb dL_law_299 (by decide) ?_
                    obtain ⟨fs9, ho9⟩ := CT_obj hg_293
                    refine s_callVi (As := [.int 1]) (rest := []) F9 (k_pass l dC dI cI cZ cJ cD hg_293 gk h1 h4 hK4 1 (⟨by decide, by decide⟩)) (cwV 1 hts gL_law_X1_pass rfl rfl rfl (by decide +kernel) ⟨Nat.le_of_ble_eq_true rfl, Nat.le_of_ble_eq_true rfl⟩) hK hN hP hD hS hA [0] [1, 2, 3, 4, 5, 6, 7, 8, 9] 10 rfl rfl (by decide) (fun (u : va_W) => ([u, [(m3, .inr (2, [.int (nI w), .int (nI h), .int (nI nd), .int wv, .ref mA, .ref tA]))], [(mA, .inl (cJ, w, .inr (.inr (.inr (.inr (gQ w rM))))))], gB w rM cI h (gM w K), [(tA, .inl (cD, w, .inr (.inr (.inr (.inr (gQ w rT))))))], gB w rT cZ h (gZ w T), [(q_76, .inl (cI, 5, .inl (tF (fun j => nI (ccN K j (w * h))) 5)))], [(q_112, .inl (cJ, (w * h), .inr (.inr (.inr (.inr (gQ (w * h) r_112))))))], gB (w * h) r_112 cI 5 (gF (fun a b => nI (cnbs w h K a b)) (w * h) 0), [(q_123, .inl (cI, (w * h), .inl (tF (fun b => nI (K b)) (w * h))))]] : gW)) [0] [1, 2, 3, 4, 5, 6, 7, 8, 9] 10 (fun _ => rfl) (fun _ => rfl) (fun _ => rfl) (by decide) 0 0 (ci := 1) rfl ho9 rfl rfl rfl hl.1 rfl (Nat.le_of_ble_eq_true rfl) dL_law_300 ⟨by show 13309 + 300 * time + 269 + 0 ≤ 669352; omega, by show 66147 + 1500 * time + 1380 + 0 ≤ 7093412; omega⟩ (fun r_300 g_300 H locs hp_300 hP hD hS => ?_)
                    have hP : va_P (dC, dI) vwCl (List.flatten ([g_300, [(m3, .inr (2, [.int (nI w), .int (nI h), .int (nI nd), .int wv, .ref mA, .ref tA]))], [(mA, .inl (cJ, w, .inr (.inr (.inr (.inr (gQ w rM))))))], gB w rM cI h (gM w K), [(tA, .inl (cD, w, .inr (.inr (.inr (.inr (gQ w rT))))))], gB w rT cZ h (gZ w T), [(q_76, .inl (cI, 5, .inl (tF (fun j => nI (ccN K j (w * h))) 5)))], [(q_112, .inl (cJ, (w * h), .inr (.inr (.inr (.inr (gQ (w * h) r_112))))))], gB (w * h) r_112 cI 5 (gF (fun a b => nI (cnbs w h K a b)) (w * h) 0), [(q_123, .inl (cI, (w * h), .inl (tF (fun b => nI (K b)) (w * h))))]] : gW)) H := hP
                    have hD : va_D A (List.flatten ([g_300, [(m3, .inr (2, [.int (nI w), .int (nI h), .int (nI nd), .int wv, .ref mA, .ref tA]))], [(mA, .inl (cJ, w, .inr (.inr (.inr (.inr (gQ w rM))))))], gB w rM cI h (gM w K), [(tA, .inl (cD, w, .inr (.inr (.inr (.inr (gQ w rT))))))], gB w rT cZ h (gZ w T), [(q_76, .inl (cI, 5, .inl (tF (fun j => nI (ccN K j (w * h))) 5)))], [(q_112, .inl (cJ, (w * h), .inr (.inr (.inr (.inr (gQ (w * h) r_112))))))], gB (w * h) r_112 cI 5 (gF (fun a b => nI (cnbs w h K a b)) (w * h) 0), [(q_123, .inl (cI, (w * h), .inl (tF (fun b => nI (K b)) (w * h))))]] : gW)) := hD
                    obtain ⟨hp_300, hg_300⟩ := hp_300
                    have hg_300 : CT cI w h nd (wv + nI 1) T (wavN w h nd T K 1) q_0 g_300 := hg_300
                    refine z_topi (y := nI (lchg w h nd T K 1)) (hp_300) ?_
                    refine lv_istore (lv' := [(11, .int (nI (lchg w h nd T K 1))), (10, .int wv), (0, .ref b0), (1, .ref q_0), (2, .ref m3), (3, .int (nI time)), (5, .int (nI w)), (6, .int (nI h)), (7, .ref q_76), (8, .ref q_112), (9, .ref q_123)]) hx hb dL_law_303 hl (by decide) rfl (fun ls hl => ?_)
                    refine lv_aload_n hx hb dL_law_305 rfl (lv_at hl 4 rfl) ?_
                    refine s_callVi (As := []) (rest := []) F9 (m_X2_wave l dC dI cI cZ cJ cD m3 w h nd wv mA rM K tA rT T (gk) (h1) (h4) (hK4)) (cwV 0 hts gL_law_X2_wave rfl rfl rfl (by decide +kernel) ⟨Nat.le_of_ble_eq_true rfl, Nat.le_of_ble_eq_true rfl⟩) hK hN hP hD hS hA [1, 2, 3, 4, 5] [0, 6, 7, 8, 9] 10 rfl rfl (by decide) (fun (u : Nat × (Nat → Nat)) => ([g_300, [(m3, .inr (2, [.int (nI w), .int (nI h), .int (nI nd), .int wv, .ref u.1, .ref tA]))], [(u.1, .inl (cJ, w, .inr (.inr (.inr (.inr (gQ w u.2))))))], gB w u.2 cI h (gM w (wav w h nd T K)), [(tA, .inl (cD, w, .inr (.inr (.inr (.inr (gQ w rT))))))], gB w rT cZ h (gZ w T), [(q_76, .inl (cI, 5, .inl (tF (fun j => nI (ccN K j (w * h))) 5)))], [(q_112, .inl (cJ, (w * h), .inr (.inr (.inr (.inr (gQ (w * h) r_112))))))], gB (w * h) r_112 cI 5 (gF (fun a b => nI (cnbs w h K a b)) (w * h) 0), [(q_123, .inl (cI, (w * h), .inl (tF (fun b => nI (K b)) (w * h))))]] : gW)) [1, 2, 3, 4, 5] [0, 6, 7, 8, 9] 10 (fun _ => rfl) (fun _ => rfl) (fun _ => rfl) (by decide) 1 0 (ci := 2) rfl rfl rfl rfl rfl hl.1 rfl (Nat.le_of_ble_eq_true rfl) dL_law_306 ⟨by show 13309 + 300 * time + 269 + 6 ≤ 669352; omega, by show 66147 + 1500 * time + 1380 + 30 ≤ 7093412; omega⟩ (fun r_306 u H locs hp_306 hP hD hS => ?_)
                    obtain ⟨mW, rW⟩ := u
                    have hP : va_P (dC, dI) vwCl (List.flatten ([g_300, [(m3, .inr (2, [.int (nI w), .int (nI h), .int (nI nd), .int wv, .ref mW, .ref tA]))], [(mW, .inl (cJ, w, .inr (.inr (.inr (.inr (gQ w rW))))))], gB w rW cI h (gM w (wav w h nd T K)), [(tA, .inl (cD, w, .inr (.inr (.inr (.inr (gQ w rT))))))], gB w rT cZ h (gZ w T), [(q_76, .inl (cI, 5, .inl (tF (fun j => nI (ccN K j (w * h))) 5)))], [(q_112, .inl (cJ, (w * h), .inr (.inr (.inr (.inr (gQ (w * h) r_112))))))], gB (w * h) r_112 cI 5 (gF (fun a b => nI (cnbs w h K a b)) (w * h) 0), [(q_123, .inl (cI, (w * h), .inl (tF (fun b => nI (K b)) (w * h))))]] : gW)) H := hP
                    have hD : va_D A (List.flatten ([g_300, [(m3, .inr (2, [.int (nI w), .int (nI h), .int (nI nd), .int wv, .ref mW, .ref tA]))], [(mW, .inl (cJ, w, .inr (.inr (.inr (.inr (gQ w rW))))))], gB w rW cI h (gM w (wav w h nd T K)), [(tA, .inl (cD, w, .inr (.inr (.inr (.inr (gQ w rT))))))], gB w rT cZ h (gZ w T), [(q_76, .inl (cI, 5, .inl (tF (fun j => nI (ccN K j (w * h))) 5)))], [(q_112, .inl (cJ, (w * h), .inr (.inr (.inr (.inr (gQ (w * h) r_112))))))], gB (w * h) r_112 cI 5 (gF (fun a b => nI (cnbs w h K a b)) (w * h) 0), [(q_123, .inl (cI, (w * h), .inl (tF (fun b => nI (K b)) (w * h))))]] : gW)) := hD
                    refine W.widen (k := 13309 + 300 * time + 275) (n := 66147 + 1500 * time + 1410) (by omega) (by omega) ?_
                    have hp_306 : r_306 = nI (chg w h nd T K) := hp_306
                    refine z_topi (y := nI (chg w h nd T K)) (hp_306) ?_
                    refine lv_pop hx hb dL_law_309 rfl ?_
                    refine lv_aload_n hx hb dL_law_310 rfl (lv_at hl 4 rfl) ?_
                    refine lv_dup hx hb dL_law_311 rfl ?_
                    refine s_get (D := (dC, dI)) (ci := 2) (v := .int wv) (C := RX2) (T := TX2) (N := 6) hx hb hts iL_law_X2 hown hK hP 1 0 rfl rfl rfl 3 (by decide) (hts (.fieldLink RL 51 "ColourTideLaw$Sim" "waves" "I") (List.mem_of_getElem? (i := 5) rfl)) (fun _ h9 => h9) rfl dL_law_312 ?_
                    refine lv_iconst (v := 1) hx hb dL_law_315 (by decide) ?_
                    refine lv_iadd hx hb dL_law_316 ?_
                    refine s_put (D := (dC, dI)) (ci := 2) (v := .int (wv + 1)) (ty := .int) (C := RX2) (T := TX2) (N := 6) hx hb hts iL_law_X2 tyX2 tyX2_ok nmX2 hown hK hP hD hS 1 0 rfl rfl rfl 3 (by decide) (hts (.fieldLink RL 51 "ColourTideLaw$Sim" "waves" "I") (List.mem_of_getElem? (i := 5) rfl)) (fun _ h9 => h9) rfl (by decide +kernel) rfl rfl (Nat.le_of_ble_eq_true rfl) dL_law_317 (fun H locs hP hD hS => ?_)
                    have hP : va_P (dC, dI) vwCl (List.flatten ([g_300, [(m3, .inr (2, [.int (nI w), .int (nI h), .int (nI nd), .int (wv + 1), .ref mW, .ref tA]))], [(mW, .inl (cJ, w, .inr (.inr (.inr (.inr (gQ w rW))))))], gB w rW cI h (gM w (wav w h nd T K)), [(tA, .inl (cD, w, .inr (.inr (.inr (.inr (gQ w rT))))))], gB w rT cZ h (gZ w T), [(q_76, .inl (cI, 5, .inl (tF (fun j => nI (ccN K j (w * h))) 5)))], [(q_112, .inl (cJ, (w * h), .inr (.inr (.inr (.inr (gQ (w * h) r_112))))))], gB (w * h) r_112 cI 5 (gF (fun a b => nI (cnbs w h K a b)) (w * h) 0), [(q_123, .inl (cI, (w * h), .inl (tF (fun b => nI (K b)) (w * h))))]] : gW)) H := hP
                    have hD : va_D A (List.flatten ([g_300, [(m3, .inr (2, [.int (nI w), .int (nI h), .int (nI nd), .int (wv + 1), .ref mW, .ref tA]))], [(mW, .inl (cJ, w, .inr (.inr (.inr (.inr (gQ w rW))))))], gB w rW cI h (gM w (wav w h nd T K)), [(tA, .inl (cD, w, .inr (.inr (.inr (.inr (gQ w rT))))))], gB w rT cZ h (gZ w T), [(q_76, .inl (cI, 5, .inl (tF (fun j => nI (ccN K j (w * h))) 5)))], [(q_112, .inl (cJ, (w * h), .inr (.inr (.inr (.inr (gQ (w * h) r_112))))))], gB (w * h) r_112 cI 5 (gF (fun a b => nI (cnbs w h K a b)) (w * h) 0), [(q_123, .inl (cI, (w * h), .inl (tF (fun b => nI (K b)) (w * h))))]] : gW)) := hD
                    have e_317 : (wv + 1) = wv + nI 1 := rfl
                    rw [e_317] at hP hD
                    refine lv_iconst (v := 0) hx hb dL_law_320 (by decide) ?_
                    refine lv_istore (lv' := [(12, .int 0), (11, .int (nI (lchg w h nd T K 1))), (10, .int wv), (0, .ref b0), (1, .ref q_0), (2, .ref m3), (3, .int (nI time)), (5, .int (nI w)), (6, .int (nI h)), (7, .ref q_76), (8, .ref q_112), (9, .ref q_123)]) hx hb dL_law_321 hl (by decide) rfl (fun ls hl => ?_)
                    refine lv_iconst (v := 0) hx hb dL_law_323 (by decide) ?_
                    refine lv_istore (lv' := [(13, .int 0), (12, .int 0), (11, .int (nI (lchg w h nd T K 1))), (10, .int wv), (0, .ref b0), (1, .ref q_0), (2, .ref m3), (3, .int (nI time)), (5, .int (nI w)), (6, .int (nI h)), (7, .ref q_76), (8, .ref q_112), (9, .ref q_123)]) hx hb dL_law_324 hl (by decide) rfl (fun ls hl => ?_)
                    refine lv_iconst (v := 0) hx hb dL_law_326 (by decide) ?_
                    refine lv_istore (lv' := [(14, .int 0), (13, .int 0), (12, .int 0), (11, .int (nI (lchg w h nd T K 1))), (10, .int wv), (0, .ref b0), (1, .ref q_0), (2, .ref m3), (3, .int (nI time)), (5, .int (nI w)), (6, .int (nI h)), (7, .ref q_76), (8, .ref q_112), (9, .ref q_123)]) hx hb dL_law_327 hl (by decide) rfl (fun ls hl => ?_)
                    have loop_329 : ∀ (n : Nat) (kc : Nat) (gA : va_W) (hkn : kc + n = (w * h)) (hgA : CT cI w h nd (wv + nI 1) T (wavN w h nd T K 1) q_0 gA) (H : Heap) (locs : List Loc) (ls : Array Slot) (hP : va_P (dC, dI) vwCl (List.flatten ([gA, [(m3, .inr (2, [.int (nI w), .int (nI h), .int (nI nd), .int (wv + nI 1), .ref mW, .ref tA]))], [(mW, .inl (cJ, w, .inr (.inr (.inr (.inr (gQ w rW))))))], gB w rW cI h (gM w (wav w h nd T K)), [(tA, .inl (cD, w, .inr (.inr (.inr (.inr (gQ w rT))))))], gB w rT cZ h (gZ w T), [(q_76, .inl (cI, 5, .inl (tF (fun j => nI (ccN K j (w * h))) 5)))], [(q_112, .inl (cJ, (w * h), .inr (.inr (.inr (.inr (gQ (w * h) r_112))))))], gB (w * h) r_112 cI 5 (gF (fun a b => nI (cnbs w h K a b)) (w * h) 0), [(q_123, .inl (cI, (w * h), .inl (tF (fun b => nI (K b)) (w * h))))]] : gW)) H) (hD : va_D A (List.flatten ([gA, [(m3, .inr (2, [.int (nI w), .int (nI h), .int (nI nd), .int (wv + nI 1), .ref mW, .ref tA]))], [(mW, .inl (cJ, w, .inr (.inr (.inr (.inr (gQ w rW))))))], gB w rW cI h (gM w (wav w h nd T K)), [(tA, .inl (cD, w, .inr (.inr (.inr (.inr (gQ w rT))))))], gB w rT cZ h (gZ w T), [(q_76, .inl (cI, 5, .inl (tF (fun j => nI (ccN K j (w * h))) 5)))], [(q_112, .inl (cJ, (w * h), .inr (.inr (.inr (.inr (gQ (w * h) r_112))))))], gB (w * h) r_112 cI 5 (gF (fun a b => nI (cnbs w h K a b)) (w * h) 0), [(q_123, .inl (cI, (w * h), .inl (tF (fun b => nI (K b)) (w * h))))]] : gW))) (hS : va_S A s.heap H locs) (hl : lv_has ls 22 [(0, .ref b0), (1, .ref q_0), (2, .ref m3), (3, .int (nI time)), (5, .int (nI w)), (6, .int (nI h)), (7, .ref q_76), (8, .ref q_112), (9, .ref q_123), (10, .int wv), (11, .int (nI (lchg w h nd T K 1))), (12, .int (nI (chgN w h nd T K kc))), (13, .int (nI (ct T kc))), (14, .int (nI kc))]), W p l e rmL_law s m args below meth c H locs (13309 + 300 * time + 275) (66147 + 1500 * time + 1410) Q (F0 m 329 ls []) := by
                      intro n
                      induction n with
                      | zero =>
                        intro kc gA hkn hgA H locs ls hP hD hS hl
                        refine lv_iload hx hb dL_law_329 (lv_at hl 13 rfl) ?_
                        refine lv_iload hx hb dL_law_331 (lv_at hl 4 rfl) ?_
                        refine lv_iload hx hb dL_law_333 (lv_at hl 5 rfl) ?_
                        refine lv_imul hx hb dL_law_335 ?_
                        refine z_topi (y := nI (w * h)) (pk_mul w h) ?_
                        refine lv_icmp_ge (tgt := 478) hx hb dL_law_336 (by decide) (fun c_336 => ?_) (fun c_336 => ?_)
                        · skip
                          have n_336 := zc_le_t (a := (w * h)) (b := kc) (by omega) (by omega) c_336
                          have hl9 := hl
                          have hP9 := hP
                          have hD9 := hD
                          have hS9 := hS
                          obtain rfl : (w * h) = kc := by omega
                          have hl := hl9
                          have hP := hP9
                          have hD := hD9
                          have hS := hS9
                          refine lv_iload hx hb dL_law_478 (lv_at hl 11 rfl) ?_
                          refine lv_iload hx hb dL_law_480 (lv_at hl 10 rfl) ?_
                          refine z_topi (y := nI (chgN w h nd T K (w * h))) (rfl) ?_
                          refine lv_icmp_ne (tgt := 505) hx hb dL_law_482 (by decide) (fun c_482 => ?_) (fun c_482 => ?_)
                          · skip
                            exact absurd rfl c_482
                          · skip
                            refine lv_iload hx hb dL_law_485 (lv_at hl 12 rfl) ?_
                            refine lv_aload_n hx hb dL_law_487 rfl (lv_at hl 1 rfl) ?_
                            obtain ⟨fs9, ho9⟩ := CT_obj hgA
                            refine s_callVi (As := []) (rest := [.int (nI (ct T (w * h)))]) F9 (k_stubbornCells l dC dI cI cZ cJ cD hgA gk h1 h4 hKP ) (cwV 0 hts gL_law_X1_stubbornCells rfl rfl rfl (by decide +kernel) ⟨Nat.le_of_ble_eq_true rfl, Nat.le_of_ble_eq_true rfl⟩) hK hN hP hD hS hA [0] [1, 2, 3, 4, 5, 6, 7, 8, 9] 10 rfl rfl (by decide) (fun (u : va_W) => ([u, [(m3, .inr (2, [.int (nI w), .int (nI h), .int (nI nd), .int (wv + nI 1), .ref mW, .ref tA]))], [(mW, .inl (cJ, w, .inr (.inr (.inr (.inr (gQ w rW))))))], gB w rW cI h (gM w (wav w h nd T K)), [(tA, .inl (cD, w, .inr (.inr (.inr (.inr (gQ w rT))))))], gB w rT cZ h (gZ w T), [(q_76, .inl (cI, 5, .inl (tF (fun j => nI (ccN K j (w * h))) 5)))], [(q_112, .inl (cJ, (w * h), .inr (.inr (.inr (.inr (gQ (w * h) r_112))))))], gB (w * h) r_112 cI 5 (gF (fun a b => nI (cnbs w h K a b)) (w * h) 0), [(q_123, .inl (cI, (w * h), .inl (tF (fun b => nI (K b)) (w * h))))]] : gW)) [0] [1, 2, 3, 4, 5, 6, 7, 8, 9] 10 (fun _ => rfl) (fun _ => rfl) (fun _ => rfl) (by decide) 0 0 (ci := 1) rfl ho9 rfl rfl rfl hl.1 rfl (Nat.le_of_ble_eq_true rfl) dL_law_488 ⟨by show 13309 + 300 * time + 275 + 0 ≤ 669352; omega, by show 66147 + 1500 * time + 1410 + 0 ≤ 7093412; omega⟩ (fun r_488 g_488 H locs hp_488 hP hD hS => ?_)
                            have hP : va_P (dC, dI) vwCl (List.flatten ([g_488, [(m3, .inr (2, [.int (nI w), .int (nI h), .int (nI nd), .int (wv + nI 1), .ref mW, .ref tA]))], [(mW, .inl (cJ, w, .inr (.inr (.inr (.inr (gQ w rW))))))], gB w rW cI h (gM w (wav w h nd T K)), [(tA, .inl (cD, w, .inr (.inr (.inr (.inr (gQ w rT))))))], gB w rT cZ h (gZ w T), [(q_76, .inl (cI, 5, .inl (tF (fun j => nI (ccN K j (w * h))) 5)))], [(q_112, .inl (cJ, (w * h), .inr (.inr (.inr (.inr (gQ (w * h) r_112))))))], gB (w * h) r_112 cI 5 (gF (fun a b => nI (cnbs w h K a b)) (w * h) 0), [(q_123, .inl (cI, (w * h), .inl (tF (fun b => nI (K b)) (w * h))))]] : gW)) H := hP
                            have hD : va_D A (List.flatten ([g_488, [(m3, .inr (2, [.int (nI w), .int (nI h), .int (nI nd), .int (wv + nI 1), .ref mW, .ref tA]))], [(mW, .inl (cJ, w, .inr (.inr (.inr (.inr (gQ w rW))))))], gB w rW cI h (gM w (wav w h nd T K)), [(tA, .inl (cD, w, .inr (.inr (.inr (.inr (gQ w rT))))))], gB w rT cZ h (gZ w T), [(q_76, .inl (cI, 5, .inl (tF (fun j => nI (ccN K j (w * h))) 5)))], [(q_112, .inl (cJ, (w * h), .inr (.inr (.inr (.inr (gQ (w * h) r_112))))))], gB (w * h) r_112 cI 5 (gF (fun a b => nI (cnbs w h K a b)) (w * h) 0), [(q_123, .inl (cI, (w * h), .inl (tF (fun b => nI (K b)) (w * h))))]] : gW)) := hD
                            obtain ⟨hp_488, hg_488⟩ := hp_488
                            have hg_488 : CT cI w h nd (wv + nI 1) T (wavN w h nd T K 1) q_0 g_488 := hg_488
                            refine z_topi (y := nI (ct T (w * h))) (hp_488) ?_
                            refine lv_icmp_ne (tgt := 505) hx hb dL_law_491 (by decide) (fun c_491 => ?_) (fun c_491 => ?_)
                            · skip
                              exact absurd rfl c_491
                            · skip
                              refine lv_aload_n hx hb dL_law_494 rfl (lv_at hl 1 rfl) ?_
                              obtain ⟨fs9, ho9⟩ := CT_obj hg_488
                              refine s_callVi (As := []) (rest := []) F9 (k_waves l dC dI cI cZ cJ cD hg_488  ) (cwV 0 hts gL_law_X1_waves rfl rfl rfl (by decide +kernel) ⟨Nat.le_of_ble_eq_true rfl, Nat.le_of_ble_eq_true rfl⟩) hK hN hP hD hS hA [0] [1, 2, 3, 4, 5, 6, 7, 8, 9] 10 rfl rfl (by decide) (fun (u : va_W) => ([u, [(m3, .inr (2, [.int (nI w), .int (nI h), .int (nI nd), .int (wv + nI 1), .ref mW, .ref tA]))], [(mW, .inl (cJ, w, .inr (.inr (.inr (.inr (gQ w rW))))))], gB w rW cI h (gM w (wav w h nd T K)), [(tA, .inl (cD, w, .inr (.inr (.inr (.inr (gQ w rT))))))], gB w rT cZ h (gZ w T), [(q_76, .inl (cI, 5, .inl (tF (fun j => nI (ccN K j (w * h))) 5)))], [(q_112, .inl (cJ, (w * h), .inr (.inr (.inr (.inr (gQ (w * h) r_112))))))], gB (w * h) r_112 cI 5 (gF (fun a b => nI (cnbs w h K a b)) (w * h) 0), [(q_123, .inl (cI, (w * h), .inl (tF (fun b => nI (K b)) (w * h))))]] : gW)) [0] [1, 2, 3, 4, 5, 6, 7, 8, 9] 10 (fun _ => rfl) (fun _ => rfl) (fun _ => rfl) (by decide) 0 0 (ci := 1) rfl ho9 rfl rfl rfl hl.1 rfl (Nat.le_of_ble_eq_true rfl) dL_law_495 ⟨by show 13309 + 300 * time + 275 + 0 ≤ 669352; omega, by show 66147 + 1500 * time + 1410 + 0 ≤ 7093412; omega⟩ (fun r_495 g_495 H locs hp_495 hP hD hS => ?_)
                              have hP : va_P (dC, dI) vwCl (List.flatten ([g_495, [(m3, .inr (2, [.int (nI w), .int (nI h), .int (nI nd), .int (wv + nI 1), .ref mW, .ref tA]))], [(mW, .inl (cJ, w, .inr (.inr (.inr (.inr (gQ w rW))))))], gB w rW cI h (gM w (wav w h nd T K)), [(tA, .inl (cD, w, .inr (.inr (.inr (.inr (gQ w rT))))))], gB w rT cZ h (gZ w T), [(q_76, .inl (cI, 5, .inl (tF (fun j => nI (ccN K j (w * h))) 5)))], [(q_112, .inl (cJ, (w * h), .inr (.inr (.inr (.inr (gQ (w * h) r_112))))))], gB (w * h) r_112 cI 5 (gF (fun a b => nI (cnbs w h K a b)) (w * h) 0), [(q_123, .inl (cI, (w * h), .inl (tF (fun b => nI (K b)) (w * h))))]] : gW)) H := hP
                              have hD : va_D A (List.flatten ([g_495, [(m3, .inr (2, [.int (nI w), .int (nI h), .int (nI nd), .int (wv + nI 1), .ref mW, .ref tA]))], [(mW, .inl (cJ, w, .inr (.inr (.inr (.inr (gQ w rW))))))], gB w rW cI h (gM w (wav w h nd T K)), [(tA, .inl (cD, w, .inr (.inr (.inr (.inr (gQ w rT))))))], gB w rT cZ h (gZ w T), [(q_76, .inl (cI, 5, .inl (tF (fun j => nI (ccN K j (w * h))) 5)))], [(q_112, .inl (cJ, (w * h), .inr (.inr (.inr (.inr (gQ (w * h) r_112))))))], gB (w * h) r_112 cI 5 (gF (fun a b => nI (cnbs w h K a b)) (w * h) 0), [(q_123, .inl (cI, (w * h), .inl (tF (fun b => nI (K b)) (w * h))))]] : gW)) := hD
                              obtain ⟨hp_495, hg_495⟩ := hp_495
                              have hg_495 : CT cI w h nd (wv + nI 1) T (wavN w h nd T K 1) q_0 g_495 := hg_495
                              refine z_topi (y := (wv + nI 1)) (hp_495) ?_
                              refine lv_iload hx hb dL_law_498 (lv_at hl 9 rfl) ?_
                              refine lv_iconst (v := 1) hx hb dL_law_500 (by decide) ?_
                              refine lv_iadd hx hb dL_law_501 ?_
                              refine z_topi (y := wv + nI 1) (rfl) ?_
                              refine lv_icmp_eq (tgt := 507) hx hb dL_law_502 (by decide) (fun c_502 => ?_) (fun c_502 => ?_)
                              · skip
                                refine lv_iconst (v := 0) hx hb dL_law_507 (by decide) ?_
                                refine lv_istore (lv' := [(14, .int 0), (0, .ref b0), (1, .ref q_0), (2, .ref m3), (3, .int (nI time)), (5, .int (nI w)), (6, .int (nI h)), (7, .ref q_76), (8, .ref q_112), (9, .ref q_123), (10, .int wv), (11, .int (nI (lchg w h nd T K 1))), (12, .int (nI (chgN w h nd T K (w * h)))), (13, .int (nI (ct T (w * h))))]) hx hb dL_law_508 hl (by decide) rfl (fun ls hl => ?_)
                                refine lv_dconst0 hx hb dL_law_510 ?_
                                refine lv_dstore (lv' := [(15, .double FP.dconst0), (14, .int 0), (0, .ref b0), (1, .ref q_0), (2, .ref m3), (3, .int (nI time)), (5, .int (nI w)), (6, .int (nI h)), (7, .ref q_76), (8, .ref q_112), (9, .ref q_123), (10, .int wv), (11, .int (nI (lchg w h nd T K 1))), (12, .int (nI (chgN w h nd T K (w * h)))), (13, .int (nI (ct T (w * h))))]) hx hb dL_law_511 hl (by decide) rfl (fun ls hl => ?_)
                                refine lv_aload_n hx hb dL_law_513 rfl (lv_at hl 3 rfl) ?_
                                obtain ⟨fs9, ho9⟩ := CT_obj hg_495
                                refine s_callVi (As := []) (rest := []) F9 (k_leader l dC dI cI cZ cJ cD hg_495 gk h1 h4 hKP ) (cwV 0 hts gL_law_X1_leader rfl rfl rfl (by decide +kernel) ⟨Nat.le_of_ble_eq_true rfl, Nat.le_of_ble_eq_true rfl⟩) hK hN hP hD hS hA [0] [1, 2, 3, 4, 5, 6, 7, 8, 9] 10 rfl rfl (by decide) (fun (u : va_W) => ([u, [(m3, .inr (2, [.int (nI w), .int (nI h), .int (nI nd), .int (wv + nI 1), .ref mW, .ref tA]))], [(mW, .inl (cJ, w, .inr (.inr (.inr (.inr (gQ w rW))))))], gB w rW cI h (gM w (wav w h nd T K)), [(tA, .inl (cD, w, .inr (.inr (.inr (.inr (gQ w rT))))))], gB w rT cZ h (gZ w T), [(q_76, .inl (cI, 5, .inl (tF (fun j => nI (ccN K j (w * h))) 5)))], [(q_112, .inl (cJ, (w * h), .inr (.inr (.inr (.inr (gQ (w * h) r_112))))))], gB (w * h) r_112 cI 5 (gF (fun a b => nI (cnbs w h K a b)) (w * h) 0), [(q_123, .inl (cI, (w * h), .inl (tF (fun b => nI (K b)) (w * h))))]] : gW)) [0] [1, 2, 3, 4, 5, 6, 7, 8, 9] 10 (fun _ => rfl) (fun _ => rfl) (fun _ => rfl) (by decide) 0 0 (ci := 1) rfl ho9 rfl rfl rfl hl.1 rfl (Nat.le_of_ble_eq_true rfl) dL_law_514 ⟨by show 13309 + 300 * time + 275 + 0 ≤ 669352; omega, by show 66147 + 1500 * time + 1410 + 0 ≤ 7093412; omega⟩ (fun r_514 g_514 H locs hp_514 hP hD hS => ?_)
                                have hP : va_P (dC, dI) vwCl (List.flatten ([g_514, [(m3, .inr (2, [.int (nI w), .int (nI h), .int (nI nd), .int (wv + nI 1), .ref mW, .ref tA]))], [(mW, .inl (cJ, w, .inr (.inr (.inr (.inr (gQ w rW))))))], gB w rW cI h (gM w (wav w h nd T K)), [(tA, .inl (cD, w, .inr (.inr (.inr (.inr (gQ w rT))))))], gB w rT cZ h (gZ w T), [(q_76, .inl (cI, 5, .inl (tF (fun j => nI (ccN K j (w * h))) 5)))], [(q_112, .inl (cJ, (w * h), .inr (.inr (.inr (.inr (gQ (w * h) r_112))))))], gB (w * h) r_112 cI 5 (gF (fun a b => nI (cnbs w h K a b)) (w * h) 0), [(q_123, .inl (cI, (w * h), .inl (tF (fun b => nI (K b)) (w * h))))]] : gW)) H := hP
                                have hD : va_D A (List.flatten ([g_514, [(m3, .inr (2, [.int (nI w), .int (nI h), .int (nI nd), .int (wv + nI 1), .ref mW, .ref tA]))], [(mW, .inl (cJ, w, .inr (.inr (.inr (.inr (gQ w rW))))))], gB w rW cI h (gM w (wav w h nd T K)), [(tA, .inl (cD, w, .inr (.inr (.inr (.inr (gQ w rT))))))], gB w rT cZ h (gZ w T), [(q_76, .inl (cI, 5, .inl (tF (fun j => nI (ccN K j (w * h))) 5)))], [(q_112, .inl (cJ, (w * h), .inr (.inr (.inr (.inr (gQ (w * h) r_112))))))], gB (w * h) r_112 cI 5 (gF (fun a b => nI (cnbs w h K a b)) (w * h) 0), [(q_123, .inl (cI, (w * h), .inl (tF (fun b => nI (K b)) (w * h))))]] : gW)) := hD
                                obtain ⟨hp_514, hg_514⟩ := hp_514
                                have hg_514 : CT cI w h nd (wv + nI 1) T (wavN w h nd T K 1) q_0 g_514 := hg_514
                                refine z_topi (y := nI (bestL (ccF (wavN w h nd T K 1) (w * h)) 1 4)) (hp_514) ?_
                                refine lv_istore (lv' := [(17, .int (nI (bestL (ccF (wavN w h nd T K 1) (w * h)) 1 4))), (15, .double FP.dconst0), (14, .int 0), (0, .ref b0), (1, .ref q_0), (2, .ref m3), (3, .int (nI time)), (5, .int (nI w)), (6, .int (nI h)), (7, .ref q_76), (8, .ref q_112), (9, .ref q_123), (10, .int wv), (11, .int (nI (lchg w h nd T K 1))), (12, .int (nI (chgN w h nd T K (w * h)))), (13, .int (nI (ct T (w * h))))]) hx hb dL_law_517 hl (by decide) rfl (fun ls hl => ?_)
                                refine lv_iconst (v := 0) hx hb dL_law_519 (by decide) ?_
                                refine lv_istore (lv' := [(18, .int 0), (17, .int (nI (bestL (ccF (wavN w h nd T K 1) (w * h)) 1 4))), (15, .double FP.dconst0), (14, .int 0), (0, .ref b0), (1, .ref q_0), (2, .ref m3), (3, .int (nI time)), (5, .int (nI w)), (6, .int (nI h)), (7, .ref q_76), (8, .ref q_112), (9, .ref q_123), (10, .int wv), (11, .int (nI (lchg w h nd T K 1))), (12, .int (nI (chgN w h nd T K (w * h)))), (13, .int (nI (ct T (w * h))))]) hx hb dL_law_520 hl (by decide) rfl (fun ls hl => ?_)
                                have loop_522 : ∀ (n : Nat) (co : Nat) (gA : va_W) (hkn : co + n = 5) (hgA : CT cI w h nd (wv + nI 1) T (wavN w h nd T K 1) q_0 gA) (H : Heap) (locs : List Loc) (ls : Array Slot) (hP : va_P (dC, dI) vwCl (List.flatten ([gA, [(m3, .inr (2, [.int (nI w), .int (nI h), .int (nI nd), .int (wv + nI 1), .ref mW, .ref tA]))], [(mW, .inl (cJ, w, .inr (.inr (.inr (.inr (gQ w rW))))))], gB w rW cI h (gM w (wav w h nd T K)), [(tA, .inl (cD, w, .inr (.inr (.inr (.inr (gQ w rT))))))], gB w rT cZ h (gZ w T), [(q_76, .inl (cI, 5, .inl (tF (fun j => nI (ccN K j (w * h))) 5)))], [(q_112, .inl (cJ, (w * h), .inr (.inr (.inr (.inr (gQ (w * h) r_112))))))], gB (w * h) r_112 cI 5 (gF (fun a b => nI (cnbs w h K a b)) (w * h) 0), [(q_123, .inl (cI, (w * h), .inl (tF (fun b => nI (K b)) (w * h))))]] : gW)) H) (hD : va_D A (List.flatten ([gA, [(m3, .inr (2, [.int (nI w), .int (nI h), .int (nI nd), .int (wv + nI 1), .ref mW, .ref tA]))], [(mW, .inl (cJ, w, .inr (.inr (.inr (.inr (gQ w rW))))))], gB w rW cI h (gM w (wav w h nd T K)), [(tA, .inl (cD, w, .inr (.inr (.inr (.inr (gQ w rT))))))], gB w rT cZ h (gZ w T), [(q_76, .inl (cI, 5, .inl (tF (fun j => nI (ccN K j (w * h))) 5)))], [(q_112, .inl (cJ, (w * h), .inr (.inr (.inr (.inr (gQ (w * h) r_112))))))], gB (w * h) r_112 cI 5 (gF (fun a b => nI (cnbs w h K a b)) (w * h) 0), [(q_123, .inl (cI, (w * h), .inl (tF (fun b => nI (K b)) (w * h))))]] : gW))) (hS : va_S A s.heap H locs) (hl : lv_has ls 22 [(0, .ref b0), (1, .ref q_0), (2, .ref m3), (3, .int (nI time)), (5, .int (nI w)), (6, .int (nI h)), (7, .ref q_76), (14, .int (nI (sN (fun j => ccN (wavN w h nd T K 1) j (w * h)) co))), (15, .double (shS (fun j => ccN (wavN w h nd T K 1) j (w * h)) (w * h) co)), (17, .int (nI (bestL (ccF (wavN w h nd T K 1) (w * h)) 1 4))), (18, .int (nI co))]), W p l e rmL_law s m args below meth c H locs (13309 + 300 * time + 275) (66147 + 1500 * time + 1410) Q (F0 m 522 ls []) := by
                                  intro n
                                  induction n with
                                  | zero =>
                                    intro co gA hkn hgA H locs ls hP hD hS hl
                                    refine lv_iload hx hb dL_law_522 (lv_at hl 10 rfl) ?_
                                    refine lv_iconst (v := 5) hx hb dL_law_524 (by decide) ?_
                                    refine lv_icmp_ge (tgt := 744) hx hb dL_law_525 (by decide) (fun c_525 => ?_) (fun c_525 => ?_)
                                    · skip
                                      have n_525 := zc_le_t (a := 5) (b := co) (by omega) (by omega) c_525
                                      have hl9 := hl
                                      have hP9 := hP
                                      have hD9 := hD
                                      have hS9 := hS
                                      obtain rfl : 5 = co := by omega
                                      have hl := hl9
                                      have hP := hP9
                                      have hD := hD9
                                      have hS := hS9
                                      refine lv_iload hx hb dL_law_744 (lv_at hl 7 rfl) ?_
                                      refine lv_iload hx hb dL_law_746 (lv_at hl 4 rfl) ?_
                                      refine lv_iload hx hb dL_law_748 (lv_at hl 5 rfl) ?_
                                      refine lv_imul hx hb dL_law_750 ?_
                                      refine z_topi (y := nI (w * h)) (pk_mul w h) ?_
                                      refine lv_icmp_ne (tgt := 794) hx hb dL_law_751 (by decide) (fun c_751 => ?_) (fun c_751 => ?_)
                                      · skip
                                        exact absurd (congrArg nI hall) c_751
                                      · skip
                                        refine lv_dload hx hb dL_law_754 (lv_at hl 8 rfl) ?_
                                        refine lv_ldc2d hx hb hown (hts (.constantDouble RL 120 (4607182409792818153)) (List.mem_of_getElem? (i := 6) rfl)) dL_law_756 ?_
                                        refine lv_dcmp hx hb dL_law_759 ?_
                                        refine lv_if_lt (tgt := 794) hx hb dL_law_760 (by decide) (fun c_760 => ?_) (fun c_760 => ?_)
                                        · skip
                                          exact absurd c_760 (sh_end gk hall _ rfl).1
                                        · skip
                                          refine lv_dload hx hb dL_law_763 (lv_at hl 8 rfl) ?_
                                          refine lv_ldc2d hx hb hown (hts (.constantDouble RL 122 (4607182423303617035)) (List.mem_of_getElem? (i := 7) rfl)) dL_law_765 ?_
                                          refine lv_dcmp hx hb dL_law_768 ?_
                                          refine lv_if_gt (tgt := 794) hx hb dL_law_769 (by decide) (fun c_769 => ?_) (fun c_769 => ?_)
                                          · skip
                                            exact absurd c_769 (sh_end gk hall _ rfl).2
                                          · skip
                                            refine lv_aload_n hx hb dL_law_772 rfl (lv_at hl 1 rfl) ?_
                                            obtain ⟨fs9, ho9⟩ := CT_obj hgA
                                            refine s_callVi (As := []) (rest := []) F9 (k_borders l dC dI cI cZ cJ cD hgA gk h1 h4 hKP ) (cwV 0 hts gL_law_X1_borders rfl rfl rfl (by decide +kernel) ⟨Nat.le_of_ble_eq_true rfl, Nat.le_of_ble_eq_true rfl⟩) hK hN hP hD hS hA [0] [1, 2, 3, 4, 5, 6, 7, 8, 9] 10 rfl rfl (by decide) (fun (u : va_W) => ([u, [(m3, .inr (2, [.int (nI w), .int (nI h), .int (nI nd), .int (wv + nI 1), .ref mW, .ref tA]))], [(mW, .inl (cJ, w, .inr (.inr (.inr (.inr (gQ w rW))))))], gB w rW cI h (gM w (wav w h nd T K)), [(tA, .inl (cD, w, .inr (.inr (.inr (.inr (gQ w rT))))))], gB w rT cZ h (gZ w T), [(q_76, .inl (cI, 5, .inl (tF (fun j => nI (ccN K j (w * h))) 5)))], [(q_112, .inl (cJ, (w * h), .inr (.inr (.inr (.inr (gQ (w * h) r_112))))))], gB (w * h) r_112 cI 5 (gF (fun a b => nI (cnbs w h K a b)) (w * h) 0), [(q_123, .inl (cI, (w * h), .inl (tF (fun b => nI (K b)) (w * h))))]] : gW)) [0] [1, 2, 3, 4, 5, 6, 7, 8, 9] 10 (fun _ => rfl) (fun _ => rfl) (fun _ => rfl) (by decide) 0 0 (ci := 1) rfl ho9 rfl rfl rfl hl.1 rfl (Nat.le_of_ble_eq_true rfl) dL_law_773 ⟨by show 13309 + 300 * time + 275 + 0 ≤ 669352; omega, by show 66147 + 1500 * time + 1410 + 0 ≤ 7093412; omega⟩ (fun r_773 g_773 H locs hp_773 hP hD hS => ?_)
                                            have hP : va_P (dC, dI) vwCl (List.flatten ([g_773, [(m3, .inr (2, [.int (nI w), .int (nI h), .int (nI nd), .int (wv + nI 1), .ref mW, .ref tA]))], [(mW, .inl (cJ, w, .inr (.inr (.inr (.inr (gQ w rW))))))], gB w rW cI h (gM w (wav w h nd T K)), [(tA, .inl (cD, w, .inr (.inr (.inr (.inr (gQ w rT))))))], gB w rT cZ h (gZ w T), [(q_76, .inl (cI, 5, .inl (tF (fun j => nI (ccN K j (w * h))) 5)))], [(q_112, .inl (cJ, (w * h), .inr (.inr (.inr (.inr (gQ (w * h) r_112))))))], gB (w * h) r_112 cI 5 (gF (fun a b => nI (cnbs w h K a b)) (w * h) 0), [(q_123, .inl (cI, (w * h), .inl (tF (fun b => nI (K b)) (w * h))))]] : gW)) H := hP
                                            have hD : va_D A (List.flatten ([g_773, [(m3, .inr (2, [.int (nI w), .int (nI h), .int (nI nd), .int (wv + nI 1), .ref mW, .ref tA]))], [(mW, .inl (cJ, w, .inr (.inr (.inr (.inr (gQ w rW))))))], gB w rW cI h (gM w (wav w h nd T K)), [(tA, .inl (cD, w, .inr (.inr (.inr (.inr (gQ w rT))))))], gB w rT cZ h (gZ w T), [(q_76, .inl (cI, 5, .inl (tF (fun j => nI (ccN K j (w * h))) 5)))], [(q_112, .inl (cJ, (w * h), .inr (.inr (.inr (.inr (gQ (w * h) r_112))))))], gB (w * h) r_112 cI 5 (gF (fun a b => nI (cnbs w h K a b)) (w * h) 0), [(q_123, .inl (cI, (w * h), .inl (tF (fun b => nI (K b)) (w * h))))]] : gW)) := hD
                                            obtain ⟨hp_773, hg_773⟩ := hp_773
                                            have hg_773 : CT cI w h nd (wv + nI 1) T (wavN w h nd T K 1) q_0 g_773 := hg_773
                                            refine z_topi (y := nI (boN w h (wavN w h nd T K 1) (w * h))) (hp_773) ?_
                                            refine lv_iload hx hb dL_law_776 (lv_at hl 4 rfl) ?_
                                            refine lv_iload hx hb dL_law_778 (lv_at hl 5 rfl) ?_
                                            refine lv_iconst (v := 1) hx hb dL_law_780 (by decide) ?_
                                            refine lv_isub hx hb dL_law_781 ?_
                                            refine z_topi (y := nI (h - 1)) (pk_sub (a := h) (b := 1) (by omega)) ?_
                                            refine lv_imul hx hb dL_law_782 ?_
                                            refine z_topi (y := nI (w * (h - 1))) (pk_mul w (h - 1)) ?_
                                            refine lv_iload hx hb dL_law_783 (lv_at hl 5 rfl) ?_
                                            refine lv_iload hx hb dL_law_785 (lv_at hl 4 rfl) ?_
                                            refine lv_iconst (v := 1) hx hb dL_law_787 (by decide) ?_
                                            refine lv_isub hx hb dL_law_788 ?_
                                            refine z_topi (y := nI (w - 1)) (pk_sub (a := w) (b := 1) (by omega)) ?_
                                            refine lv_imul hx hb dL_law_789 ?_
                                            refine z_topi (y := nI (h * (w - 1))) (pk_mul h (w - 1)) ?_
                                            refine lv_iadd hx hb dL_law_790 ?_
                                            refine z_topi (y := nI ((w * (h - 1)) + (h * (w - 1)))) (nI_add (w * (h - 1)) (h * (w - 1))) ?_
                                            refine lv_icmp_le (tgt := 796) hx hb dL_law_791 (by decide) (fun c_791 => ?_) (fun c_791 => ?_)
                                            · skip
                                              refine lv_iinc (v := nI (time + 1)) (lv' := [(3, .int (nI (time + 1))), (0, .ref b0), (1, .ref q_0), (2, .ref m3), (5, .int (nI w)), (6, .int (nI h)), (7, .ref q_76), (14, .int (nI (sN (fun j => ccN (wavN w h nd T K 1) j (w * h)) 5))), (15, .double (shS (fun j => ccN (wavN w h nd T K 1) j (w * h)) (w * h) 5)), (17, .int (nI (bestL (ccF (wavN w h nd T K 1) (w * h)) 1 4))), (18, .int (nI 5))]) hx hb dL_law_796 hl (k := 3) rfl (nI_1 time) (by decide) rfl (fun ls hl => ?_)
                                              refine lv_goto (tgt := 16) hx hb dL_law_799 (by decide) ?_
                                              obtain ⟨hP, hD⟩ := sg_take hP hD (C := [g_773, [(m3, .inr (2, [.int (nI w), .int (nI h), .int (nI nd), .int (wv + nI 1), .ref mW, .ref tA]))], [(mW, .inl (cJ, w, .inr (.inr (.inr (.inr (gQ w rW))))))], gB w rW cI h (gM w (wav w h nd T K)), [(tA, .inl (cD, w, .inr (.inr (.inr (.inr (gQ w rT))))))], gB w rT cZ h (gZ w T)]) [0, 1, 2, 3, 4, 5] [6, 7, 8, 9] 10 rfl rfl (by decide)
                                              obtain ⟨hP, hD⟩ := sg_ren hP hD 3 rfl (M2 := (gM w (wavN w h nd T K 1))) (fun i j hi hj => rfl)
                                              have hP : va_P (dC, dI) vwCl (List.flatten ([g_773, [(m3, .inr (2, [.int (nI w), .int (nI h), .int (nI nd), .int (wv + nI 1), .ref mW, .ref tA]))], [(mW, .inl (cJ, w, .inr (.inr (.inr (.inr (gQ w rW))))))], gB w rW cI h (gM w (wavN w h nd T K 1)), [(tA, .inl (cD, w, .inr (.inr (.inr (.inr (gQ w rT))))))], gB w rT cZ h (gZ w T)] : gW)) H := hP
                                              have hD : va_D A (List.flatten ([g_773, [(m3, .inr (2, [.int (nI w), .int (nI h), .int (nI nd), .int (wv + nI 1), .ref mW, .ref tA]))], [(mW, .inl (cJ, w, .inr (.inr (.inr (.inr (gQ w rW))))))], gB w rW cI h (gM w (wavN w h nd T K 1)), [(tA, .inl (cD, w, .inr (.inr (.inr (.inr (gQ w rT))))))], gB w rT cZ h (gZ w T)] : gW)) := hD
                                              refine W.widen (k := 13309 + 300 * (time + 1)) (n := 66147 + 1500 * (time + 1)) (by omega) (by omega) ?_
                                              exact ih_16 (time + 1) g_773 m3 w h nd (wv + nI 1) mW rW (wavN w h nd T K 1) tA rT T (by omega) (hg_773) (gk) (h1) (h4) (hKP) _ _ _ hP hD hS (lv_sub hl [1, 2, 3, 0] rfl)
                                            · skip
                                              exact absurd (bo_nI gk) c_791
                                    · skip
                                      have n_525 := zc_le_f (a := 5) (b := co) (by omega) (by omega) c_525
                                      exact absurd n_525 (by omega)
                                  | succ n ih_522 =>
                                    intro co gA hkn hgA H locs ls hP hD hS hl
                                    refine lv_iload hx hb dL_law_522 (lv_at hl 10 rfl) ?_
                                    refine lv_iconst (v := 5) hx hb dL_law_524 (by decide) ?_
                                    refine lv_icmp_ge (tgt := 744) hx hb dL_law_525 (by decide) (fun c_525 => ?_) (fun c_525 => ?_)
                                    · skip
                                      have n_525 := zc_le_t (a := 5) (b := co) (by omega) (by omega) c_525
                                      exact absurd n_525 (by omega)
                                    · skip
                                      have n_525 := zc_le_f (a := 5) (b := co) (by omega) (by omega) c_525
                                      refine lv_aload_n hx hb dL_law_528 rfl (lv_at hl 1 rfl) ?_
                                      refine lv_iload hx hb dL_law_529 (lv_at hl 10 rfl) ?_
                                      obtain ⟨fs9, ho9⟩ := CT_obj hgA
                                      refine s_callVi (As := [.int (nI co)]) (rest := []) F9 (k_cellsOf l dC dI cI cZ cJ cD hgA gk h1 h4 hKP co (by omega)) (cwV 1 hts gL_law_X1_cellsOf rfl rfl rfl (by decide +kernel) ⟨Nat.le_of_ble_eq_true rfl, Nat.le_of_ble_eq_true rfl⟩) hK hN hP hD hS hA [0] [1, 2, 3, 4, 5, 6, 7, 8, 9] 10 rfl rfl (by decide) (fun (u : va_W) => ([u, [(m3, .inr (2, [.int (nI w), .int (nI h), .int (nI nd), .int (wv + nI 1), .ref mW, .ref tA]))], [(mW, .inl (cJ, w, .inr (.inr (.inr (.inr (gQ w rW))))))], gB w rW cI h (gM w (wav w h nd T K)), [(tA, .inl (cD, w, .inr (.inr (.inr (.inr (gQ w rT))))))], gB w rT cZ h (gZ w T), [(q_76, .inl (cI, 5, .inl (tF (fun j => nI (ccN K j (w * h))) 5)))], [(q_112, .inl (cJ, (w * h), .inr (.inr (.inr (.inr (gQ (w * h) r_112))))))], gB (w * h) r_112 cI 5 (gF (fun a b => nI (cnbs w h K a b)) (w * h) 0), [(q_123, .inl (cI, (w * h), .inl (tF (fun b => nI (K b)) (w * h))))]] : gW)) [0] [1, 2, 3, 4, 5, 6, 7, 8, 9] 10 (fun _ => rfl) (fun _ => rfl) (fun _ => rfl) (by decide) 0 0 (ci := 1) rfl ho9 rfl rfl rfl hl.1 rfl (Nat.le_of_ble_eq_true rfl) dL_law_531 ⟨by show 13309 + 300 * time + 275 + 0 ≤ 669352; omega, by show 66147 + 1500 * time + 1410 + 0 ≤ 7093412; omega⟩ (fun r_531 g_531 H locs hp_531 hP hD hS => ?_)
                                      have hP : va_P (dC, dI) vwCl (List.flatten ([g_531, [(m3, .inr (2, [.int (nI w), .int (nI h), .int (nI nd), .int (wv + nI 1), .ref mW, .ref tA]))], [(mW, .inl (cJ, w, .inr (.inr (.inr (.inr (gQ w rW))))))], gB w rW cI h (gM w (wav w h nd T K)), [(tA, .inl (cD, w, .inr (.inr (.inr (.inr (gQ w rT))))))], gB w rT cZ h (gZ w T), [(q_76, .inl (cI, 5, .inl (tF (fun j => nI (ccN K j (w * h))) 5)))], [(q_112, .inl (cJ, (w * h), .inr (.inr (.inr (.inr (gQ (w * h) r_112))))))], gB (w * h) r_112 cI 5 (gF (fun a b => nI (cnbs w h K a b)) (w * h) 0), [(q_123, .inl (cI, (w * h), .inl (tF (fun b => nI (K b)) (w * h))))]] : gW)) H := hP
                                      have hD : va_D A (List.flatten ([g_531, [(m3, .inr (2, [.int (nI w), .int (nI h), .int (nI nd), .int (wv + nI 1), .ref mW, .ref tA]))], [(mW, .inl (cJ, w, .inr (.inr (.inr (.inr (gQ w rW))))))], gB w rW cI h (gM w (wav w h nd T K)), [(tA, .inl (cD, w, .inr (.inr (.inr (.inr (gQ w rT))))))], gB w rT cZ h (gZ w T), [(q_76, .inl (cI, 5, .inl (tF (fun j => nI (ccN K j (w * h))) 5)))], [(q_112, .inl (cJ, (w * h), .inr (.inr (.inr (.inr (gQ (w * h) r_112))))))], gB (w * h) r_112 cI 5 (gF (fun a b => nI (cnbs w h K a b)) (w * h) 0), [(q_123, .inl (cI, (w * h), .inl (tF (fun b => nI (K b)) (w * h))))]] : gW)) := hD
                                      obtain ⟨hp_531, hg_531⟩ := hp_531
                                      have hg_531 : CT cI w h nd (wv + nI 1) T (wavN w h nd T K 1) q_0 g_531 := hg_531
                                      refine z_topi (y := nI (ccN (wavN w h nd T K 1) co (w * h))) (hp_531) ?_
                                      have hf1 := ccN_le (wavN w h nd T K 1) co (w * h)
                                      refine lv_istore (lv' := [(19, .int (nI (ccN (wavN w h nd T K 1) co (w * h)))), (0, .ref b0), (1, .ref q_0), (2, .ref m3), (3, .int (nI time)), (5, .int (nI w)), (6, .int (nI h)), (7, .ref q_76), (14, .int (nI (sN (fun j => ccN (wavN w h nd T K 1) j (w * h)) co))), (15, .double (shS (fun j => ccN (wavN w h nd T K 1) j (w * h)) (w * h) co)), (17, .int (nI (bestL (ccF (wavN w h nd T K 1) (w * h)) 1 4))), (18, .int (nI co))]) hx hb dL_law_534 hl (by decide) rfl (fun ls hl => ?_)
                                      refine lv_iload hx hb dL_law_536 (lv_at hl 8 rfl) ?_
                                      refine lv_iload hx hb dL_law_538 (lv_at hl 0 rfl) ?_
                                      refine lv_iadd hx hb dL_law_540 ?_
                                      refine z_topi (y := nI (sN (fun j => ccN (wavN w h nd T K 1) j (w * h)) (co + 1))) (nI_add _ _) ?_
                                      refine lv_istore (lv' := [(14, .int (nI (sN (fun j => ccN (wavN w h nd T K 1) j (w * h)) (co + 1)))), (19, .int (nI (ccN (wavN w h nd T K 1) co (w * h)))), (0, .ref b0), (1, .ref q_0), (2, .ref m3), (3, .int (nI time)), (5, .int (nI w)), (6, .int (nI h)), (7, .ref q_76), (15, .double (shS (fun j => ccN (wavN w h nd T K 1) j (w * h)) (w * h) co)), (17, .int (nI (bestL (ccF (wavN w h nd T K 1) (w * h)) 1 4))), (18, .int (nI co))]) hx hb dL_law_541 hl (by decide) rfl (fun ls hl => ?_)
                                      refine lv_dload hx hb dL_law_543 (lv_at hl 9 rfl) ?_
                                      refine lv_aload_n hx hb dL_law_545 rfl (lv_at hl 3 rfl) ?_
                                      refine lv_iload hx hb dL_law_546 (lv_at hl 11 rfl) ?_
                                      obtain ⟨fs9, ho9⟩ := CT_obj hg_531
                                      refine s_callVd (As := [.int (nI co)]) (rest := [.double (shS (fun j => ccN (wavN w h nd T K 1) j (w * h)) (w * h) co)]) F9 (k_share l dC dI cI cZ cJ cD hg_531 gk co (by omega)) (cwV 1 hts gL_law_X1_share rfl rfl rfl (by decide +kernel) ⟨Nat.le_of_ble_eq_true rfl, Nat.le_of_ble_eq_true rfl⟩) hK hN hP hD hS hA [0] [1, 2, 3, 4, 5, 6, 7, 8, 9] 10 rfl rfl (by decide) (fun (u : va_W) => ([u, [(m3, .inr (2, [.int (nI w), .int (nI h), .int (nI nd), .int (wv + nI 1), .ref mW, .ref tA]))], [(mW, .inl (cJ, w, .inr (.inr (.inr (.inr (gQ w rW))))))], gB w rW cI h (gM w (wav w h nd T K)), [(tA, .inl (cD, w, .inr (.inr (.inr (.inr (gQ w rT))))))], gB w rT cZ h (gZ w T), [(q_76, .inl (cI, 5, .inl (tF (fun j => nI (ccN K j (w * h))) 5)))], [(q_112, .inl (cJ, (w * h), .inr (.inr (.inr (.inr (gQ (w * h) r_112))))))], gB (w * h) r_112 cI 5 (gF (fun a b => nI (cnbs w h K a b)) (w * h) 0), [(q_123, .inl (cI, (w * h), .inl (tF (fun b => nI (K b)) (w * h))))]] : gW)) [0] [1, 2, 3, 4, 5, 6, 7, 8, 9] 10 (fun _ => rfl) (fun _ => rfl) (fun _ => rfl) (by decide) 0 0 (ci := 1) rfl ho9 rfl rfl rfl hl.1 rfl (Nat.le_of_ble_eq_true rfl) dL_law_548 ⟨by show 13309 + 300 * time + 275 + 0 ≤ 669352; omega, by show 66147 + 1500 * time + 1410 + 0 ≤ 7093412; omega⟩ (fun r_548 g_548 H locs hp_548 hP hD hS => ?_)
                                      have hP : va_P (dC, dI) vwCl (List.flatten ([g_548, [(m3, .inr (2, [.int (nI w), .int (nI h), .int (nI nd), .int (wv + nI 1), .ref mW, .ref tA]))], [(mW, .inl (cJ, w, .inr (.inr (.inr (.inr (gQ w rW))))))], gB w rW cI h (gM w (wav w h nd T K)), [(tA, .inl (cD, w, .inr (.inr (.inr (.inr (gQ w rT))))))], gB w rT cZ h (gZ w T), [(q_76, .inl (cI, 5, .inl (tF (fun j => nI (ccN K j (w * h))) 5)))], [(q_112, .inl (cJ, (w * h), .inr (.inr (.inr (.inr (gQ (w * h) r_112))))))], gB (w * h) r_112 cI 5 (gF (fun a b => nI (cnbs w h K a b)) (w * h) 0), [(q_123, .inl (cI, (w * h), .inl (tF (fun b => nI (K b)) (w * h))))]] : gW)) H := hP
                                      have hD : va_D A (List.flatten ([g_548, [(m3, .inr (2, [.int (nI w), .int (nI h), .int (nI nd), .int (wv + nI 1), .ref mW, .ref tA]))], [(mW, .inl (cJ, w, .inr (.inr (.inr (.inr (gQ w rW))))))], gB w rW cI h (gM w (wav w h nd T K)), [(tA, .inl (cD, w, .inr (.inr (.inr (.inr (gQ w rT))))))], gB w rT cZ h (gZ w T), [(q_76, .inl (cI, 5, .inl (tF (fun j => nI (ccN K j (w * h))) 5)))], [(q_112, .inl (cJ, (w * h), .inr (.inr (.inr (.inr (gQ (w * h) r_112))))))], gB (w * h) r_112 cI 5 (gF (fun a b => nI (cnbs w h K a b)) (w * h) 0), [(q_123, .inl (cI, (w * h), .inl (tF (fun b => nI (K b)) (w * h))))]] : gW)) := hD
                                      obtain ⟨hp_548, hg_548⟩ := hp_548
                                      have hg_548 : CT cI w h nd (wv + nI 1) T (wavN w h nd T K 1) q_0 g_548 := hg_548
                                      refine z_topd (y := FP.ddiv (FP.i2d (nI (ccN (wavN w h nd T K 1) co (w * h)))) (FP.i2d (nI (w * h)))) (hp_548) ?_
                                      refine lv_dadd hx hb dL_law_551 (sh_nan (F := (fun j => ccN (wavN w h nd T K 1) j (w * h))) (c := co) gk hall (by omega)) ?_
                                      refine z_topd (y := shS (fun j => ccN (wavN w h nd T K 1) j (w * h)) (w * h) (co + 1)) (rfl) ?_
                                      refine lv_dstore (lv' := [(15, .double (shS (fun j => ccN (wavN w h nd T K 1) j (w * h)) (w * h) (co + 1))), (14, .int (nI (sN (fun j => ccN (wavN w h nd T K 1) j (w * h)) (co + 1)))), (19, .int (nI (ccN (wavN w h nd T K 1) co (w * h)))), (0, .ref b0), (1, .ref q_0), (2, .ref m3), (3, .int (nI time)), (5, .int (nI w)), (6, .int (nI h)), (7, .ref q_76), (17, .int (nI (bestL (ccF (wavN w h nd T K 1) (w * h)) 1 4))), (18, .int (nI co))]) hx hb dL_law_552 hl (by decide) rfl (fun ls hl => ?_)
                                      refine lv_iload hx hb dL_law_554 (lv_at hl 11 rfl) ?_
                                      refine lv_if_ne (tgt := 570) hx hb dL_law_556 (by decide) (fun c_556 => ?_) (fun c_556 => ?_)
                                      · skip
                                        have n_556 := zc_eq_f (a := co) (b := 0) (by omega) (by omega) c_556
                                        have hf2 := ccN_le K co (w * h)
                                        refine lv_aload hx hb dL_law_570 (lv_at hl 9 rfl) ?_
                                        refine lv_iload hx hb dL_law_572 (lv_at hl 11 rfl) ?_
                                        refine s_iald hx hb hK hP 6 0 0 rfl rfl rfl co (rfl) (by omega) (by omega) dL_law_574 ?_
                                        refine z_topi (y := nI (ccN K co (w * h))) (tF_at (by omega)) ?_
                                        suffices j_585 : ∀ (H : Heap) (locs : List Loc) (ls : Array Slot), va_P (dC, dI) vwCl (List.flatten ([g_548, [(m3, .inr (2, [.int (nI w), .int (nI h), .int (nI nd), .int (wv + nI 1), .ref mW, .ref tA]))], [(mW, .inl (cJ, w, .inr (.inr (.inr (.inr (gQ w rW))))))], gB w rW cI h (gM w (wav w h nd T K)), [(tA, .inl (cD, w, .inr (.inr (.inr (.inr (gQ w rT))))))], gB w rT cZ h (gZ w T), [(q_76, .inl (cI, 5, .inl (tF (fun j => nI (ccN K j (w * h))) 5)))], [(q_112, .inl (cJ, (w * h), .inr (.inr (.inr (.inr (gQ (w * h) r_112))))))], gB (w * h) r_112 cI 5 (gF (fun a b => nI (cnbs w h K a b)) (w * h) 0), [(q_123, .inl (cI, (w * h), .inl (tF (fun b => nI (K b)) (w * h))))]] : gW)) H → va_D A (List.flatten ([g_548, [(m3, .inr (2, [.int (nI w), .int (nI h), .int (nI nd), .int (wv + nI 1), .ref mW, .ref tA]))], [(mW, .inl (cJ, w, .inr (.inr (.inr (.inr (gQ w rW))))))], gB w rW cI h (gM w (wav w h nd T K)), [(tA, .inl (cD, w, .inr (.inr (.inr (.inr (gQ w rT))))))], gB w rT cZ h (gZ w T), [(q_76, .inl (cI, 5, .inl (tF (fun j => nI (ccN K j (w * h))) 5)))], [(q_112, .inl (cJ, (w * h), .inr (.inr (.inr (.inr (gQ (w * h) r_112))))))], gB (w * h) r_112 cI 5 (gF (fun a b => nI (cnbs w h K a b)) (w * h) 0), [(q_123, .inl (cI, (w * h), .inl (tF (fun b => nI (K b)) (w * h))))]] : gW)) → va_S A s.heap H locs → lv_has ls 22 [(15, .double (shS (fun j => ccN (wavN w h nd T K 1) j (w * h)) (w * h) (co + 1))), (14, .int (nI (sN (fun j => ccN (wavN w h nd T K 1) j (w * h)) (co + 1)))), (19, .int (nI (ccN (wavN w h nd T K 1) co (w * h)))), (0, .ref b0), (1, .ref q_0), (2, .ref m3), (3, .int (nI time)), (5, .int (nI w)), (6, .int (nI h)), (7, .ref q_76), (17, .int (nI (bestL (ccF (wavN w h nd T K 1) (w * h)) 1 4))), (18, .int (nI co))] → W p l e rmL_law s m args below meth c H locs (13309 + 300 * time + 275) (66147 + 1500 * time + 1410) Q (F0 m 585 ls []) by
                                          refine lv_if_ne (tgt := 585) hx hb dL_law_575 (by decide) (fun c_575 => ?_) (fun c_575 => ?_)
                                          · skip
                                            have n_575 := zc_eq_f (a := (ccN K co (w * h))) (b := 0) (by omega) (by omega) c_575
                                            exact j_585 _ _ _ hP hD hS (lv_sub hl [0, 1, 2, 3, 4, 5, 6, 7, 8, 9, 10, 11] rfl)
                                          · skip
                                            have n_575 := zc_eq_t (a := (ccN K co (w * h))) (b := 0) (by omega) (by omega) c_575
                                            refine lv_iload hx hb dL_law_578 (lv_at hl 2 rfl) ?_
                                            refine lv_if_le (tgt := 585) hx hb dL_law_580 (by decide) (fun c_580 => ?_) (fun c_580 => ?_)
                                            · skip
                                              have n_580 := zc_le_t (a := (ccN (wavN w h nd T K 1) co (w * h))) (b := 0) (by omega) (by omega) c_580
                                              exact j_585 _ _ _ hP hD hS (lv_sub hl [0, 1, 2, 3, 4, 5, 6, 7, 8, 9, 10, 11] rfl)
                                            · skip
                                              have n_580 := zc_le_f (a := (ccN (wavN w h nd T K 1) co (w * h))) (b := 0) (by omega) (by omega) c_580
                                              exact absurd (no_new h1 n_575) (Nat.ne_of_gt n_580)
                                        intro H locs ls hP hD hS hl
                                        refine lv_aload_n hx hb dL_law_585 rfl (lv_at hl 4 rfl) ?_
                                        refine lv_iload hx hb dL_law_586 (lv_at hl 11 rfl) ?_
                                        obtain ⟨fs9, ho9⟩ := CT_obj hg_548
                                        refine s_callVi (As := [.int (nI co)]) (rest := []) F9 (k_regionsOf l dC dI cI cZ cJ cD hg_548 gk h1 h4 hKP co (by omega) (by omega)) (cwV 1 hts gL_law_X1_regionsOf rfl rfl rfl (by decide +kernel) ⟨Nat.le_of_ble_eq_true rfl, Nat.le_of_ble_eq_true rfl⟩) hK hN hP hD hS hA [0] [1, 2, 3, 4, 5, 6, 7, 8, 9] 10 rfl rfl (by decide) (fun (u : va_W) => ([u, [(m3, .inr (2, [.int (nI w), .int (nI h), .int (nI nd), .int (wv + nI 1), .ref mW, .ref tA]))], [(mW, .inl (cJ, w, .inr (.inr (.inr (.inr (gQ w rW))))))], gB w rW cI h (gM w (wav w h nd T K)), [(tA, .inl (cD, w, .inr (.inr (.inr (.inr (gQ w rT))))))], gB w rT cZ h (gZ w T), [(q_76, .inl (cI, 5, .inl (tF (fun j => nI (ccN K j (w * h))) 5)))], [(q_112, .inl (cJ, (w * h), .inr (.inr (.inr (.inr (gQ (w * h) r_112))))))], gB (w * h) r_112 cI 5 (gF (fun a b => nI (cnbs w h K a b)) (w * h) 0), [(q_123, .inl (cI, (w * h), .inl (tF (fun b => nI (K b)) (w * h))))]] : gW)) [0] [1, 2, 3, 4, 5, 6, 7, 8, 9] 10 (fun _ => rfl) (fun _ => rfl) (fun _ => rfl) (by decide) 0 0 (ci := 1) rfl ho9 rfl rfl rfl hl.1 rfl (Nat.le_of_ble_eq_true rfl) dL_law_588 ⟨by show 13309 + 300 * time + 275 + 0 ≤ 669352; omega, by show 66147 + 1500 * time + 1410 + 0 ≤ 7093412; omega⟩ (fun r_588 g_588 H locs hp_588 hP hD hS => ?_)
                                        have hP : va_P (dC, dI) vwCl (List.flatten ([g_588, [(m3, .inr (2, [.int (nI w), .int (nI h), .int (nI nd), .int (wv + nI 1), .ref mW, .ref tA]))], [(mW, .inl (cJ, w, .inr (.inr (.inr (.inr (gQ w rW))))))], gB w rW cI h (gM w (wav w h nd T K)), [(tA, .inl (cD, w, .inr (.inr (.inr (.inr (gQ w rT))))))], gB w rT cZ h (gZ w T), [(q_76, .inl (cI, 5, .inl (tF (fun j => nI (ccN K j (w * h))) 5)))], [(q_112, .inl (cJ, (w * h), .inr (.inr (.inr (.inr (gQ (w * h) r_112))))))], gB (w * h) r_112 cI 5 (gF (fun a b => nI (cnbs w h K a b)) (w * h) 0), [(q_123, .inl (cI, (w * h), .inl (tF (fun b => nI (K b)) (w * h))))]] : gW)) H := hP
                                        have hD : va_D A (List.flatten ([g_588, [(m3, .inr (2, [.int (nI w), .int (nI h), .int (nI nd), .int (wv + nI 1), .ref mW, .ref tA]))], [(mW, .inl (cJ, w, .inr (.inr (.inr (.inr (gQ w rW))))))], gB w rW cI h (gM w (wav w h nd T K)), [(tA, .inl (cD, w, .inr (.inr (.inr (.inr (gQ w rT))))))], gB w rT cZ h (gZ w T), [(q_76, .inl (cI, 5, .inl (tF (fun j => nI (ccN K j (w * h))) 5)))], [(q_112, .inl (cJ, (w * h), .inr (.inr (.inr (.inr (gQ (w * h) r_112))))))], gB (w * h) r_112 cI 5 (gF (fun a b => nI (cnbs w h K a b)) (w * h) 0), [(q_123, .inl (cI, (w * h), .inl (tF (fun b => nI (K b)) (w * h))))]] : gW)) := hD
                                        obtain ⟨hp_588, hg_588⟩ := hp_588
                                        have hg_588 : CT cI w h nd (wv + nI 1) T (wavN w h nd T K 1) q_0 g_588 := hg_588
                                        refine z_topi (y := nI (rsm w h (wavN w h nd T K 1) co (w * h))) (hp_588) ?_
                                        refine lv_istore (lv' := [(20, .int (nI (rsm w h (wavN w h nd T K 1) co (w * h)))), (15, .double (shS (fun j => ccN (wavN w h nd T K 1) j (w * h)) (w * h) (co + 1))), (14, .int (nI (sN (fun j => ccN (wavN w h nd T K 1) j (w * h)) (co + 1)))), (19, .int (nI (ccN (wavN w h nd T K 1) co (w * h)))), (0, .ref b0), (1, .ref q_0), (2, .ref m3), (3, .int (nI time)), (5, .int (nI w)), (6, .int (nI h)), (7, .ref q_76), (17, .int (nI (bestL (ccF (wavN w h nd T K 1) (w * h)) 1 4))), (18, .int (nI co))]) hx hb dL_law_591 hl (by decide) rfl (fun ls hl => ?_)
                                        refine lv_aload_n hx hb dL_law_593 rfl (lv_at hl 5 rfl) ?_
                                        refine lv_iload hx hb dL_law_594 (lv_at hl 12 rfl) ?_
                                        obtain ⟨fs9, ho9⟩ := CT_obj hg_588
                                        refine s_callVi (As := [.int (nI co)]) (rest := []) F9 (k_greatestRegion l dC dI cI cZ cJ cD hg_588 gk h1 h4 hKP co (by omega) (by omega)) (cwV 1 hts gL_law_X1_greatestRegion rfl rfl rfl (by decide +kernel) ⟨Nat.le_of_ble_eq_true rfl, Nat.le_of_ble_eq_true rfl⟩) hK hN hP hD hS hA [0] [1, 2, 3, 4, 5, 6, 7, 8, 9] 10 rfl rfl (by decide) (fun (u : va_W) => ([u, [(m3, .inr (2, [.int (nI w), .int (nI h), .int (nI nd), .int (wv + nI 1), .ref mW, .ref tA]))], [(mW, .inl (cJ, w, .inr (.inr (.inr (.inr (gQ w rW))))))], gB w rW cI h (gM w (wav w h nd T K)), [(tA, .inl (cD, w, .inr (.inr (.inr (.inr (gQ w rT))))))], gB w rT cZ h (gZ w T), [(q_76, .inl (cI, 5, .inl (tF (fun j => nI (ccN K j (w * h))) 5)))], [(q_112, .inl (cJ, (w * h), .inr (.inr (.inr (.inr (gQ (w * h) r_112))))))], gB (w * h) r_112 cI 5 (gF (fun a b => nI (cnbs w h K a b)) (w * h) 0), [(q_123, .inl (cI, (w * h), .inl (tF (fun b => nI (K b)) (w * h))))]] : gW)) [0] [1, 2, 3, 4, 5, 6, 7, 8, 9] 10 (fun _ => rfl) (fun _ => rfl) (fun _ => rfl) (by decide) 0 0 (ci := 1) rfl ho9 rfl rfl rfl hl.1 rfl (Nat.le_of_ble_eq_true rfl) dL_law_596 ⟨by show 13309 + 300 * time + 275 + 0 ≤ 669352; omega, by show 66147 + 1500 * time + 1410 + 0 ≤ 7093412; omega⟩ (fun r_596 g_596 H locs hp_596 hP hD hS => ?_)
                                        have hP : va_P (dC, dI) vwCl (List.flatten ([g_596, [(m3, .inr (2, [.int (nI w), .int (nI h), .int (nI nd), .int (wv + nI 1), .ref mW, .ref tA]))], [(mW, .inl (cJ, w, .inr (.inr (.inr (.inr (gQ w rW))))))], gB w rW cI h (gM w (wav w h nd T K)), [(tA, .inl (cD, w, .inr (.inr (.inr (.inr (gQ w rT))))))], gB w rT cZ h (gZ w T), [(q_76, .inl (cI, 5, .inl (tF (fun j => nI (ccN K j (w * h))) 5)))], [(q_112, .inl (cJ, (w * h), .inr (.inr (.inr (.inr (gQ (w * h) r_112))))))], gB (w * h) r_112 cI 5 (gF (fun a b => nI (cnbs w h K a b)) (w * h) 0), [(q_123, .inl (cI, (w * h), .inl (tF (fun b => nI (K b)) (w * h))))]] : gW)) H := hP
                                        have hD : va_D A (List.flatten ([g_596, [(m3, .inr (2, [.int (nI w), .int (nI h), .int (nI nd), .int (wv + nI 1), .ref mW, .ref tA]))], [(mW, .inl (cJ, w, .inr (.inr (.inr (.inr (gQ w rW))))))], gB w rW cI h (gM w (wav w h nd T K)), [(tA, .inl (cD, w, .inr (.inr (.inr (.inr (gQ w rT))))))], gB w rT cZ h (gZ w T), [(q_76, .inl (cI, 5, .inl (tF (fun j => nI (ccN K j (w * h))) 5)))], [(q_112, .inl (cJ, (w * h), .inr (.inr (.inr (.inr (gQ (w * h) r_112))))))], gB (w * h) r_112 cI 5 (gF (fun a b => nI (cnbs w h K a b)) (w * h) 0), [(q_123, .inl (cI, (w * h), .inl (tF (fun b => nI (K b)) (w * h))))]] : gW)) := hD
                                        obtain ⟨hp_596, hg_596⟩ := hp_596
                                        have hg_596 : CT cI w h nd (wv + nI 1) T (wavN w h nd T K 1) q_0 g_596 := hg_596
                                        refine z_topi (y := nI (rmx w h (wavN w h nd T K 1) co (w * h))) (hp_596) ?_
                                        obtain ⟨r1, r2, r3, r4⟩ := rg_4 (w := w) (h := h) (K := (wavN w h nd T K 1)) (j := co) (by omega)
                                        have rb1 : rsm w h (wavN w h nd T K 1) co (w * h) ≤ w * h := ct_le _ _
                                        have rb2 := rmx_le w h (wavN w h nd T K 1) co (w * h)
                                        have rb3 : (rsm w h (wavN w h nd T K 1) co (w * h)) * (rmx w h (wavN w h nd T K 1) co (w * h)) ≤ 25 * 25 := Nat.mul_le_mul (by omega) (by omega)
                                        have hl4 := lead_4 (ccF (wavN w h nd T K 1) (w * h)) (j := co) ⟨by omega, by omega⟩
                                        have hl0 := lead_le (ccF (wavN w h nd T K 1) (w * h))
                                        refine lv_istore (lv' := [(21, .int (nI (rmx w h (wavN w h nd T K 1) co (w * h)))), (20, .int (nI (rsm w h (wavN w h nd T K 1) co (w * h)))), (15, .double (shS (fun j => ccN (wavN w h nd T K 1) j (w * h)) (w * h) (co + 1))), (14, .int (nI (sN (fun j => ccN (wavN w h nd T K 1) j (w * h)) (co + 1)))), (19, .int (nI (ccN (wavN w h nd T K 1) co (w * h)))), (0, .ref b0), (1, .ref q_0), (2, .ref m3), (3, .int (nI time)), (5, .int (nI w)), (6, .int (nI h)), (7, .ref q_76), (17, .int (nI (bestL (ccF (wavN w h nd T K 1) (w * h)) 1 4))), (18, .int (nI co))]) hx hb dL_law_599 hl (by decide) rfl (fun ls hl => ?_)
                                        refine lv_iload hx hb dL_law_601 (lv_at hl 1 rfl) ?_
                                        suffices j_611 : ∀ v_611 : Int32, v_611 = (nI (bN (decide (rsm w h (wavN w h nd T K 1) co (w * h) = 0)))) → W p l e rmL_law s m args below meth c H locs (13309 + 300 * time + 275) (66147 + 1500 * time + 1410) Q (F0 m 611 ls [.int v_611]) by
                                          refine lv_if_ne (tgt := 610) hx hb dL_law_603 (by decide) (fun c_603 => ?_) (fun c_603 => ?_)
                                          · skip
                                            have n_603 := zc_eq_f (a := (rsm w h (wavN w h nd T K 1) co (w * h))) (b := 0) (by omega) (by omega) c_603
                                            refine lv_iconst (v := 0) hx hb dL_law_610 (by decide) ?_
                                            exact j_611 _ (by rw [decide_eq_false n_603]; rfl)
                                          · skip
                                            have n_603 := zc_eq_t (a := (rsm w h (wavN w h nd T K 1) co (w * h))) (b := 0) (by omega) (by omega) c_603
                                            refine lv_iconst (v := 1) hx hb dL_law_606 (by decide) ?_
                                            refine lv_goto (tgt := 611) hx hb dL_law_607 (by decide) ?_
                                            exact j_611 _ (by rw [decide_eq_true n_603]; rfl)
                                        intro v_611 h_v_611
                                        rw [h_v_611]
                                        refine lv_iload hx hb dL_law_611 (lv_at hl 4 rfl) ?_
                                        suffices j_621 : ∀ v_621 : Int32, v_621 = (nI (bN (decide (ccN (wavN w h nd T K 1) co (w * h) = 0)))) → W p l e rmL_law s m args below meth c H locs (13309 + 300 * time + 275) (66147 + 1500 * time + 1410) Q (F0 m 621 ls [.int v_621, .int (nI (bN (decide (rsm w h (wavN w h nd T K 1) co (w * h) = 0))))]) by
                                          refine lv_if_ne (tgt := 620) hx hb dL_law_613 (by decide) (fun c_613 => ?_) (fun c_613 => ?_)
                                          · skip
                                            have n_613 := zc_eq_f (a := (ccN (wavN w h nd T K 1) co (w * h))) (b := 0) (by omega) (by omega) c_613
                                            refine lv_iconst (v := 0) hx hb dL_law_620 (by decide) ?_
                                            exact j_621 _ (by rw [decide_eq_false n_613]; rfl)
                                          · skip
                                            have n_613 := zc_eq_t (a := (ccN (wavN w h nd T K 1) co (w * h))) (b := 0) (by omega) (by omega) c_613
                                            refine lv_iconst (v := 1) hx hb dL_law_616 (by decide) ?_
                                            refine lv_goto (tgt := 621) hx hb dL_law_617 (by decide) ?_
                                            exact j_621 _ (by rw [decide_eq_true n_613]; rfl)
                                        intro v_621 h_v_621
                                        rw [h_v_621]
                                        refine lv_icmp_ne (tgt := 658) hx hb dL_law_621 (by decide) (fun c_621 => ?_) (fun c_621 => ?_)
                                        · skip
                                          exact absurd (congrArg (fun b => nI (bN b)) (decide_eq_decide.mpr r1)) c_621
                                        · skip
                                          refine lv_iload hx hb dL_law_624 (lv_at hl 0 rfl) ?_
                                          refine lv_iload hx hb dL_law_626 (lv_at hl 4 rfl) ?_
                                          refine lv_icmp_gt (tgt := 658) hx hb dL_law_628 (by decide) (fun c_628 => ?_) (fun c_628 => ?_)
                                          · skip
                                            have n_628 := zc_lt_t (a := (ccN (wavN w h nd T K 1) co (w * h))) (b := (rmx w h (wavN w h nd T K 1) co (w * h))) (by omega) (by omega) c_628
                                            exact absurd n_628 (by omega)
                                          · skip
                                            have n_628 := zc_lt_f (a := (ccN (wavN w h nd T K 1) co (w * h))) (b := (rmx w h (wavN w h nd T K 1) co (w * h))) (by omega) (by omega) c_628
                                            refine lv_iload hx hb dL_law_631 (lv_at hl 1 rfl) ?_
                                            refine lv_iload hx hb dL_law_633 (lv_at hl 0 rfl) ?_
                                            refine lv_imul hx hb dL_law_635 ?_
                                            refine z_topi (y := nI ((rsm w h (wavN w h nd T K 1) co (w * h)) * (rmx w h (wavN w h nd T K 1) co (w * h)))) (pk_mul (rsm w h (wavN w h nd T K 1) co (w * h)) (rmx w h (wavN w h nd T K 1) co (w * h))) ?_
                                            refine lv_iload hx hb dL_law_636 (lv_at hl 4 rfl) ?_
                                            refine lv_icmp_lt (tgt := 658) hx hb dL_law_638 (by decide) (fun c_638 => ?_) (fun c_638 => ?_)
                                            · skip
                                              have n_638 := zc_lt_t (a := ((rsm w h (wavN w h nd T K 1) co (w * h)) * (rmx w h (wavN w h nd T K 1) co (w * h)))) (b := (ccN (wavN w h nd T K 1) co (w * h))) (by omega) (by omega) c_638
                                              exact absurd n_638 (by omega)
                                            · skip
                                              have n_638 := zc_lt_f (a := ((rsm w h (wavN w h nd T K 1) co (w * h)) * (rmx w h (wavN w h nd T K 1) co (w * h)))) (b := (ccN (wavN w h nd T K 1) co (w * h))) (by omega) (by omega) c_638
                                              refine lv_iload hx hb dL_law_641 (lv_at hl 4 rfl) ?_
                                              refine lv_iload hx hb dL_law_643 (lv_at hl 0 rfl) ?_
                                              refine lv_isub hx hb dL_law_645 ?_
                                              refine z_topi (y := nI ((ccN (wavN w h nd T K 1) co (w * h)) - (rmx w h (wavN w h nd T K 1) co (w * h)))) (pk_sub (a := (ccN (wavN w h nd T K 1) co (w * h))) (b := (rmx w h (wavN w h nd T K 1) co (w * h))) (by omega)) ?_
                                              refine lv_iload hx hb dL_law_646 (lv_at hl 1 rfl) ?_
                                              refine lv_iconst (v := 1) hx hb dL_law_648 (by decide) ?_
                                              refine lv_isub hx hb dL_law_649 ?_
                                              suffices j_660 : ∀ (H : Heap) (locs : List Loc) (ls : Array Slot), va_P (dC, dI) vwCl (List.flatten ([g_596, [(m3, .inr (2, [.int (nI w), .int (nI h), .int (nI nd), .int (wv + nI 1), .ref mW, .ref tA]))], [(mW, .inl (cJ, w, .inr (.inr (.inr (.inr (gQ w rW))))))], gB w rW cI h (gM w (wav w h nd T K)), [(tA, .inl (cD, w, .inr (.inr (.inr (.inr (gQ w rT))))))], gB w rT cZ h (gZ w T), [(q_76, .inl (cI, 5, .inl (tF (fun j => nI (ccN K j (w * h))) 5)))], [(q_112, .inl (cJ, (w * h), .inr (.inr (.inr (.inr (gQ (w * h) r_112))))))], gB (w * h) r_112 cI 5 (gF (fun a b => nI (cnbs w h K a b)) (w * h) 0), [(q_123, .inl (cI, (w * h), .inl (tF (fun b => nI (K b)) (w * h))))]] : gW)) H → va_D A (List.flatten ([g_596, [(m3, .inr (2, [.int (nI w), .int (nI h), .int (nI nd), .int (wv + nI 1), .ref mW, .ref tA]))], [(mW, .inl (cJ, w, .inr (.inr (.inr (.inr (gQ w rW))))))], gB w rW cI h (gM w (wav w h nd T K)), [(tA, .inl (cD, w, .inr (.inr (.inr (.inr (gQ w rT))))))], gB w rT cZ h (gZ w T), [(q_76, .inl (cI, 5, .inl (tF (fun j => nI (ccN K j (w * h))) 5)))], [(q_112, .inl (cJ, (w * h), .inr (.inr (.inr (.inr (gQ (w * h) r_112))))))], gB (w * h) r_112 cI 5 (gF (fun a b => nI (cnbs w h K a b)) (w * h) 0), [(q_123, .inl (cI, (w * h), .inl (tF (fun b => nI (K b)) (w * h))))]] : gW)) → va_S A s.heap H locs → lv_has ls 22 [(21, .int (nI (rmx w h (wavN w h nd T K 1) co (w * h)))), (20, .int (nI (rsm w h (wavN w h nd T K 1) co (w * h)))), (15, .double (shS (fun j => ccN (wavN w h nd T K 1) j (w * h)) (w * h) (co + 1))), (14, .int (nI (sN (fun j => ccN (wavN w h nd T K 1) j (w * h)) (co + 1)))), (19, .int (nI (ccN (wavN w h nd T K 1) co (w * h)))), (0, .ref b0), (1, .ref q_0), (2, .ref m3), (3, .int (nI time)), (5, .int (nI w)), (6, .int (nI h)), (7, .ref q_76), (17, .int (nI (bestL (ccF (wavN w h nd T K 1) (w * h)) 1 4))), (18, .int (nI co))] → W p l e rmL_law s m args below meth c H locs (13309 + 300 * time + 275) (66147 + 1500 * time + 1410) Q (F0 m 660 ls []) by
                                                refine lv_icmp_ge (tgt := 660) hx hb dL_law_650 (by decide) (fun c_650 => ?_) (fun c_650 => ?_)
                                                · skip
                                                  exact j_660 _ _ _ hP hD hS (lv_sub hl [0, 1, 2, 3, 4, 5, 6, 7, 8, 9, 10, 11, 12, 13] rfl)
                                                · skip
                                                  refine lv_iload hx hb dL_law_653 (lv_at hl 4 rfl) ?_
                                                  refine lv_if_le (tgt := 660) hx hb dL_law_655 (by decide) (fun c_655 => ?_) (fun c_655 => ?_)
                                                  · skip
                                                    have n_655 := zc_le_t (a := (ccN (wavN w h nd T K 1) co (w * h))) (b := 0) (by omega) (by omega) c_655
                                                    exact j_660 _ _ _ hP hD hS (lv_sub hl [0, 1, 2, 3, 4, 5, 6, 7, 8, 9, 10, 11, 12, 13] rfl)
                                                  · skip
                                                    have n_655 := zc_le_f (a := (ccN (wavN w h nd T K 1) co (w * h))) (b := 0) (by omega) (by omega) c_655
                                                    exact absurd (rg_sub (by omega) (r4 (by omega)) r2 (by omega)) c_650
                                              intro H locs ls hP hD hS hl
                                              refine lv_iload hx hb dL_law_660 (lv_at hl 12 rfl) ?_
                                              refine lv_if_ne (tgt := 673) hx hb dL_law_662 (by decide) (fun c_662 => ?_) (fun c_662 => ?_)
                                              · skip
                                                have n_662 := zc_eq_f (a := (bestL (ccF (wavN w h nd T K 1) (w * h)) 1 4)) (b := 0) (by omega) (by omega) c_662
                                                have hl5 : (ccN (wavN w h nd T K 1) co (w * h)) ≤ ccN (wavN w h nd T K 1) (bestL (ccF (wavN w h nd T K 1) (w * h)) 1 4) (w * h) := (hl4.2 n_662).1
                                                have hf3 := ccN_le (wavN w h nd T K 1) (bestL (ccF (wavN w h nd T K 1) (w * h)) 1 4) (w * h)
                                                refine lv_iload hx hb dL_law_673 (lv_at hl 4 rfl) ?_
                                                refine lv_aload_n hx hb dL_law_675 rfl (lv_at hl 6 rfl) ?_
                                                refine lv_iload hx hb dL_law_676 (lv_at hl 12 rfl) ?_
                                                obtain ⟨fs9, ho9⟩ := CT_obj hg_596
                                                refine s_callVi (As := [.int (nI (bestL (ccF (wavN w h nd T K 1) (w * h)) 1 4))]) (rest := [.int (nI (ccN (wavN w h nd T K 1) co (w * h)))]) F9 (k_cellsOf l dC dI cI cZ cJ cD hg_596 gk h1 h4 hKP (bestL (ccF (wavN w h nd T K 1) (w * h)) 1 4) (by omega)) (cwV 1 hts gL_law_X1_cellsOf rfl rfl rfl (by decide +kernel) ⟨Nat.le_of_ble_eq_true rfl, Nat.le_of_ble_eq_true rfl⟩) hK hN hP hD hS hA [0] [1, 2, 3, 4, 5, 6, 7, 8, 9] 10 rfl rfl (by decide) (fun (u : va_W) => ([u, [(m3, .inr (2, [.int (nI w), .int (nI h), .int (nI nd), .int (wv + nI 1), .ref mW, .ref tA]))], [(mW, .inl (cJ, w, .inr (.inr (.inr (.inr (gQ w rW))))))], gB w rW cI h (gM w (wav w h nd T K)), [(tA, .inl (cD, w, .inr (.inr (.inr (.inr (gQ w rT))))))], gB w rT cZ h (gZ w T), [(q_76, .inl (cI, 5, .inl (tF (fun j => nI (ccN K j (w * h))) 5)))], [(q_112, .inl (cJ, (w * h), .inr (.inr (.inr (.inr (gQ (w * h) r_112))))))], gB (w * h) r_112 cI 5 (gF (fun a b => nI (cnbs w h K a b)) (w * h) 0), [(q_123, .inl (cI, (w * h), .inl (tF (fun b => nI (K b)) (w * h))))]] : gW)) [0] [1, 2, 3, 4, 5, 6, 7, 8, 9] 10 (fun _ => rfl) (fun _ => rfl) (fun _ => rfl) (by decide) 0 0 (ci := 1) rfl ho9 rfl rfl rfl hl.1 rfl (Nat.le_of_ble_eq_true rfl) dL_law_678 ⟨by show 13309 + 300 * time + 275 + 0 ≤ 669352; omega, by show 66147 + 1500 * time + 1410 + 0 ≤ 7093412; omega⟩ (fun r_678 g_678 H locs hp_678 hP hD hS => ?_)
                                                have hP : va_P (dC, dI) vwCl (List.flatten ([g_678, [(m3, .inr (2, [.int (nI w), .int (nI h), .int (nI nd), .int (wv + nI 1), .ref mW, .ref tA]))], [(mW, .inl (cJ, w, .inr (.inr (.inr (.inr (gQ w rW))))))], gB w rW cI h (gM w (wav w h nd T K)), [(tA, .inl (cD, w, .inr (.inr (.inr (.inr (gQ w rT))))))], gB w rT cZ h (gZ w T), [(q_76, .inl (cI, 5, .inl (tF (fun j => nI (ccN K j (w * h))) 5)))], [(q_112, .inl (cJ, (w * h), .inr (.inr (.inr (.inr (gQ (w * h) r_112))))))], gB (w * h) r_112 cI 5 (gF (fun a b => nI (cnbs w h K a b)) (w * h) 0), [(q_123, .inl (cI, (w * h), .inl (tF (fun b => nI (K b)) (w * h))))]] : gW)) H := hP
                                                have hD : va_D A (List.flatten ([g_678, [(m3, .inr (2, [.int (nI w), .int (nI h), .int (nI nd), .int (wv + nI 1), .ref mW, .ref tA]))], [(mW, .inl (cJ, w, .inr (.inr (.inr (.inr (gQ w rW))))))], gB w rW cI h (gM w (wav w h nd T K)), [(tA, .inl (cD, w, .inr (.inr (.inr (.inr (gQ w rT))))))], gB w rT cZ h (gZ w T), [(q_76, .inl (cI, 5, .inl (tF (fun j => nI (ccN K j (w * h))) 5)))], [(q_112, .inl (cJ, (w * h), .inr (.inr (.inr (.inr (gQ (w * h) r_112))))))], gB (w * h) r_112 cI 5 (gF (fun a b => nI (cnbs w h K a b)) (w * h) 0), [(q_123, .inl (cI, (w * h), .inl (tF (fun b => nI (K b)) (w * h))))]] : gW)) := hD
                                                obtain ⟨hp_678, hg_678⟩ := hp_678
                                                have hg_678 : CT cI w h nd (wv + nI 1) T (wavN w h nd T K 1) q_0 g_678 := hg_678
                                                refine z_topi (y := nI (ccN (wavN w h nd T K 1) (bestL (ccF (wavN w h nd T K 1) (w * h)) 1 4) (w * h))) (hp_678) ?_
                                                refine lv_icmp_gt (tgt := 702) hx hb dL_law_681 (by decide) (fun c_681 => ?_) (fun c_681 => ?_)
                                                · skip
                                                  have n_681 := zc_lt_t (a := (ccN (wavN w h nd T K 1) (bestL (ccF (wavN w h nd T K 1) (w * h)) 1 4) (w * h))) (b := (ccN (wavN w h nd T K 1) co (w * h))) (by omega) (by omega) c_681
                                                  exact absurd n_681 (by omega)
                                                · skip
                                                  have n_681 := zc_lt_f (a := (ccN (wavN w h nd T K 1) (bestL (ccF (wavN w h nd T K 1) (w * h)) 1 4) (w * h))) (b := (ccN (wavN w h nd T K 1) co (w * h))) (by omega) (by omega) c_681
                                                  refine lv_iload hx hb dL_law_684 (lv_at hl 4 rfl) ?_
                                                  refine lv_aload_n hx hb dL_law_686 rfl (lv_at hl 6 rfl) ?_
                                                  refine lv_iload hx hb dL_law_687 (lv_at hl 12 rfl) ?_
                                                  obtain ⟨fs9, ho9⟩ := CT_obj hg_678
                                                  refine s_callVi (As := [.int (nI (bestL (ccF (wavN w h nd T K 1) (w * h)) 1 4))]) (rest := [.int (nI (ccN (wavN w h nd T K 1) co (w * h)))]) F9 (k_cellsOf l dC dI cI cZ cJ cD hg_678 gk h1 h4 hKP (bestL (ccF (wavN w h nd T K 1) (w * h)) 1 4) (by omega)) (cwV 1 hts gL_law_X1_cellsOf rfl rfl rfl (by decide +kernel) ⟨Nat.le_of_ble_eq_true rfl, Nat.le_of_ble_eq_true rfl⟩) hK hN hP hD hS hA [0] [1, 2, 3, 4, 5, 6, 7, 8, 9] 10 rfl rfl (by decide) (fun (u : va_W) => ([u, [(m3, .inr (2, [.int (nI w), .int (nI h), .int (nI nd), .int (wv + nI 1), .ref mW, .ref tA]))], [(mW, .inl (cJ, w, .inr (.inr (.inr (.inr (gQ w rW))))))], gB w rW cI h (gM w (wav w h nd T K)), [(tA, .inl (cD, w, .inr (.inr (.inr (.inr (gQ w rT))))))], gB w rT cZ h (gZ w T), [(q_76, .inl (cI, 5, .inl (tF (fun j => nI (ccN K j (w * h))) 5)))], [(q_112, .inl (cJ, (w * h), .inr (.inr (.inr (.inr (gQ (w * h) r_112))))))], gB (w * h) r_112 cI 5 (gF (fun a b => nI (cnbs w h K a b)) (w * h) 0), [(q_123, .inl (cI, (w * h), .inl (tF (fun b => nI (K b)) (w * h))))]] : gW)) [0] [1, 2, 3, 4, 5, 6, 7, 8, 9] 10 (fun _ => rfl) (fun _ => rfl) (fun _ => rfl) (by decide) 0 0 (ci := 1) rfl ho9 rfl rfl rfl hl.1 rfl (Nat.le_of_ble_eq_true rfl) dL_law_689 ⟨by show 13309 + 300 * time + 275 + 0 ≤ 669352; omega, by show 66147 + 1500 * time + 1410 + 0 ≤ 7093412; omega⟩ (fun r_689 g_689 H locs hp_689 hP hD hS => ?_)
                                                  have hP : va_P (dC, dI) vwCl (List.flatten ([g_689, [(m3, .inr (2, [.int (nI w), .int (nI h), .int (nI nd), .int (wv + nI 1), .ref mW, .ref tA]))], [(mW, .inl (cJ, w, .inr (.inr (.inr (.inr (gQ w rW))))))], gB w rW cI h (gM w (wav w h nd T K)), [(tA, .inl (cD, w, .inr (.inr (.inr (.inr (gQ w rT))))))], gB w rT cZ h (gZ w T), [(q_76, .inl (cI, 5, .inl (tF (fun j => nI (ccN K j (w * h))) 5)))], [(q_112, .inl (cJ, (w * h), .inr (.inr (.inr (.inr (gQ (w * h) r_112))))))], gB (w * h) r_112 cI 5 (gF (fun a b => nI (cnbs w h K a b)) (w * h) 0), [(q_123, .inl (cI, (w * h), .inl (tF (fun b => nI (K b)) (w * h))))]] : gW)) H := hP
                                                  have hD : va_D A (List.flatten ([g_689, [(m3, .inr (2, [.int (nI w), .int (nI h), .int (nI nd), .int (wv + nI 1), .ref mW, .ref tA]))], [(mW, .inl (cJ, w, .inr (.inr (.inr (.inr (gQ w rW))))))], gB w rW cI h (gM w (wav w h nd T K)), [(tA, .inl (cD, w, .inr (.inr (.inr (.inr (gQ w rT))))))], gB w rT cZ h (gZ w T), [(q_76, .inl (cI, 5, .inl (tF (fun j => nI (ccN K j (w * h))) 5)))], [(q_112, .inl (cJ, (w * h), .inr (.inr (.inr (.inr (gQ (w * h) r_112))))))], gB (w * h) r_112 cI 5 (gF (fun a b => nI (cnbs w h K a b)) (w * h) 0), [(q_123, .inl (cI, (w * h), .inl (tF (fun b => nI (K b)) (w * h))))]] : gW)) := hD
                                                  obtain ⟨hp_689, hg_689⟩ := hp_689
                                                  have hg_689 : CT cI w h nd (wv + nI 1) T (wavN w h nd T K 1) q_0 g_689 := hg_689
                                                  refine z_topi (y := nI (ccN (wavN w h nd T K 1) (bestL (ccF (wavN w h nd T K 1) (w * h)) 1 4) (w * h))) (hp_689) ?_
                                                  refine lv_icmp_ne (tgt := 704) hx hb dL_law_692 (by decide) (fun c_692 => ?_) (fun c_692 => ?_)
                                                  · skip
                                                    have n_692 := zc_eq_f (a := (ccN (wavN w h nd T K 1) co (w * h))) (b := (ccN (wavN w h nd T K 1) (bestL (ccF (wavN w h nd T K 1) (w * h)) 1 4) (w * h))) (by omega) (by omega) c_692
                                                    have hal := allN_le hKP (w * h)
                                                    refine lv_aload_n hx hb dL_law_704 rfl (lv_at hl 6 rfl) ?_
                                                    obtain ⟨fs9, ho9⟩ := CT_obj hg_689
                                                    refine s_callVi (As := []) (rest := []) F9 (k_winner l dC dI cI cZ cJ cD hg_689 gk h1 h4 hKP ) (cwV 0 hts gL_law_X1_winner rfl rfl rfl (by decide +kernel) ⟨Nat.le_of_ble_eq_true rfl, Nat.le_of_ble_eq_true rfl⟩) hK hN hP hD hS hA [0] [1, 2, 3, 4, 5, 6, 7, 8, 9] 10 rfl rfl (by decide) (fun (u : va_W) => ([u, [(m3, .inr (2, [.int (nI w), .int (nI h), .int (nI nd), .int (wv + nI 1), .ref mW, .ref tA]))], [(mW, .inl (cJ, w, .inr (.inr (.inr (.inr (gQ w rW))))))], gB w rW cI h (gM w (wav w h nd T K)), [(tA, .inl (cD, w, .inr (.inr (.inr (.inr (gQ w rT))))))], gB w rT cZ h (gZ w T), [(q_76, .inl (cI, 5, .inl (tF (fun j => nI (ccN K j (w * h))) 5)))], [(q_112, .inl (cJ, (w * h), .inr (.inr (.inr (.inr (gQ (w * h) r_112))))))], gB (w * h) r_112 cI 5 (gF (fun a b => nI (cnbs w h K a b)) (w * h) 0), [(q_123, .inl (cI, (w * h), .inl (tF (fun b => nI (K b)) (w * h))))]] : gW)) [0] [1, 2, 3, 4, 5, 6, 7, 8, 9] 10 (fun _ => rfl) (fun _ => rfl) (fun _ => rfl) (by decide) 0 0 (ci := 1) rfl ho9 rfl rfl rfl hl.1 rfl (Nat.le_of_ble_eq_true rfl) dL_law_705 ⟨by show 13309 + 300 * time + 275 + 0 ≤ 669352; omega, by show 66147 + 1500 * time + 1410 + 0 ≤ 7093412; omega⟩ (fun r_705 g_705 H locs hp_705 hP hD hS => ?_)
                                                    have hP : va_P (dC, dI) vwCl (List.flatten ([g_705, [(m3, .inr (2, [.int (nI w), .int (nI h), .int (nI nd), .int (wv + nI 1), .ref mW, .ref tA]))], [(mW, .inl (cJ, w, .inr (.inr (.inr (.inr (gQ w rW))))))], gB w rW cI h (gM w (wav w h nd T K)), [(tA, .inl (cD, w, .inr (.inr (.inr (.inr (gQ w rT))))))], gB w rT cZ h (gZ w T), [(q_76, .inl (cI, 5, .inl (tF (fun j => nI (ccN K j (w * h))) 5)))], [(q_112, .inl (cJ, (w * h), .inr (.inr (.inr (.inr (gQ (w * h) r_112))))))], gB (w * h) r_112 cI 5 (gF (fun a b => nI (cnbs w h K a b)) (w * h) 0), [(q_123, .inl (cI, (w * h), .inl (tF (fun b => nI (K b)) (w * h))))]] : gW)) H := hP
                                                    have hD : va_D A (List.flatten ([g_705, [(m3, .inr (2, [.int (nI w), .int (nI h), .int (nI nd), .int (wv + nI 1), .ref mW, .ref tA]))], [(mW, .inl (cJ, w, .inr (.inr (.inr (.inr (gQ w rW))))))], gB w rW cI h (gM w (wav w h nd T K)), [(tA, .inl (cD, w, .inr (.inr (.inr (.inr (gQ w rT))))))], gB w rT cZ h (gZ w T), [(q_76, .inl (cI, 5, .inl (tF (fun j => nI (ccN K j (w * h))) 5)))], [(q_112, .inl (cJ, (w * h), .inr (.inr (.inr (.inr (gQ (w * h) r_112))))))], gB (w * h) r_112 cI 5 (gF (fun a b => nI (cnbs w h K a b)) (w * h) 0), [(q_123, .inl (cI, (w * h), .inl (tF (fun b => nI (K b)) (w * h))))]] : gW)) := hD
                                                    obtain ⟨hp_705, hg_705⟩ := hp_705
                                                    have hg_705 : CT cI w h nd (wv + nI 1) T (wavN w h nd T K 1) q_0 g_705 := hg_705
                                                    refine z_topi (y := nI (allN (wavN w h nd T K 1) (w * h))) (hp_705) ?_
                                                    refine lv_iload hx hb dL_law_708 (lv_at hl 13 rfl) ?_
                                                    suffices j_718 : ∀ v_718 : Int32, v_718 = (nI (bN (decide (allN (wavN w h nd T K 1) (w * h) = co)))) → W p l e rmL_law s m args below meth c H locs (13309 + 300 * time + 275) (66147 + 1500 * time + 1410) Q (F0 m 718 ls [.int v_718]) by
                                                      refine lv_icmp_ne (tgt := 717) hx hb dL_law_710 (by decide) (fun c_710 => ?_) (fun c_710 => ?_)
                                                      · skip
                                                        have n_710 := zc_eq_f (a := (allN (wavN w h nd T K 1) (w * h))) (b := co) (by omega) (by omega) c_710
                                                        refine lv_iconst (v := 0) hx hb dL_law_717 (by decide) ?_
                                                        exact j_718 _ (by rw [decide_eq_false n_710]; rfl)
                                                      · skip
                                                        have n_710 := zc_eq_t (a := (allN (wavN w h nd T K 1) (w * h))) (b := co) (by omega) (by omega) c_710
                                                        refine lv_iconst (v := 1) hx hb dL_law_713 (by decide) ?_
                                                        refine lv_goto (tgt := 718) hx hb dL_law_714 (by decide) ?_
                                                        exact j_718 _ (by rw [decide_eq_true n_710]; rfl)
                                                    intro v_718 h_v_718
                                                    rw [h_v_718]
                                                    refine lv_iload hx hb dL_law_718 (lv_at hl 4 rfl) ?_
                                                    refine lv_iload hx hb dL_law_720 (lv_at hl 9 rfl) ?_
                                                    refine lv_iload hx hb dL_law_722 (lv_at hl 10 rfl) ?_
                                                    refine lv_imul hx hb dL_law_724 ?_
                                                    refine z_topi (y := nI (w * h)) (pk_mul w h) ?_
                                                    suffices j_733 : ∀ v_733 : Int32, v_733 = (nI (bN (decide (ccN (wavN w h nd T K 1) co (w * h) = w * h)))) → W p l e rmL_law s m args below meth c H locs (13309 + 300 * time + 275) (66147 + 1500 * time + 1410) Q (F0 m 733 ls [.int v_733, .int (nI (bN (decide (allN (wavN w h nd T K 1) (w * h) = co))))]) by
                                                      refine lv_icmp_ne (tgt := 732) hx hb dL_law_725 (by decide) (fun c_725 => ?_) (fun c_725 => ?_)
                                                      · skip
                                                        have n_725 := zc_eq_f (a := (ccN (wavN w h nd T K 1) co (w * h))) (b := (w * h)) (by omega) (by omega) c_725
                                                        refine lv_iconst (v := 0) hx hb dL_law_732 (by decide) ?_
                                                        exact j_733 _ (by rw [decide_eq_false n_725]; rfl)
                                                      · skip
                                                        have n_725 := zc_eq_t (a := (ccN (wavN w h nd T K 1) co (w * h))) (b := (w * h)) (by omega) (by omega) c_725
                                                        refine lv_iconst (v := 1) hx hb dL_law_728 (by decide) ?_
                                                        refine lv_goto (tgt := 733) hx hb dL_law_729 (by decide) ?_
                                                        exact j_733 _ (by rw [decide_eq_true n_725]; rfl)
                                                    intro v_733 h_v_733
                                                    rw [h_v_733]
                                                    refine lv_icmp_eq (tgt := 738) hx hb dL_law_733 (by decide) (fun c_733 => ?_) (fun c_733 => ?_)
                                                    · skip
                                                      refine lv_iinc (v := nI (co + 1)) (lv' := [(18, .int (nI (co + 1))), (21, .int (nI (rmx w h (wavN w h nd T K 1) co (w * h)))), (20, .int (nI (rsm w h (wavN w h nd T K 1) co (w * h)))), (15, .double (shS (fun j => ccN (wavN w h nd T K 1) j (w * h)) (w * h) (co + 1))), (14, .int (nI (sN (fun j => ccN (wavN w h nd T K 1) j (w * h)) (co + 1)))), (19, .int (nI (ccN (wavN w h nd T K 1) co (w * h)))), (0, .ref b0), (1, .ref q_0), (2, .ref m3), (3, .int (nI time)), (5, .int (nI w)), (6, .int (nI h)), (7, .ref q_76), (17, .int (nI (bestL (ccF (wavN w h nd T K 1) (w * h)) 1 4)))]) hx hb dL_law_738 hl (k := 13) rfl (nI_1 co) (by decide) rfl (fun ls hl => ?_)
                                                      refine lv_goto (tgt := 522) hx hb dL_law_741 (by decide) ?_
                                                      exact ih_522 (co + 1) g_705 (by omega) (hg_705) _ _ _ hP hD hS (lv_sub hl [6, 7, 8, 9, 10, 11, 12, 4, 3, 13, 0] rfl)
                                                    · skip
                                                      exact absurd (congrArg (fun b => nI (bN b)) (decide_eq_decide.mpr (win_4 gk (by omega)))) c_733
                                                  · skip
                                                    have n_692 := zc_eq_t (a := (ccN (wavN w h nd T K 1) co (w * h))) (b := (ccN (wavN w h nd T K 1) (bestL (ccF (wavN w h nd T K 1) (w * h)) 1 4) (w * h))) (by omega) (by omega) c_692
                                                    refine lv_iload hx hb dL_law_695 (lv_at hl 13 rfl) ?_
                                                    refine lv_iload hx hb dL_law_697 (lv_at hl 12 rfl) ?_
                                                    refine lv_icmp_ge (tgt := 704) hx hb dL_law_699 (by decide) (fun c_699 => ?_) (fun c_699 => ?_)
                                                    · skip
                                                      have n_699 := zc_le_t (a := (bestL (ccF (wavN w h nd T K 1) (w * h)) 1 4)) (b := co) (by omega) (by omega) c_699
                                                      have hal := allN_le hKP (w * h)
                                                      refine lv_aload_n hx hb dL_law_704 rfl (lv_at hl 6 rfl) ?_
                                                      obtain ⟨fs9, ho9⟩ := CT_obj hg_689
                                                      refine s_callVi (As := []) (rest := []) F9 (k_winner l dC dI cI cZ cJ cD hg_689 gk h1 h4 hKP ) (cwV 0 hts gL_law_X1_winner rfl rfl rfl (by decide +kernel) ⟨Nat.le_of_ble_eq_true rfl, Nat.le_of_ble_eq_true rfl⟩) hK hN hP hD hS hA [0] [1, 2, 3, 4, 5, 6, 7, 8, 9] 10 rfl rfl (by decide) (fun (u : va_W) => ([u, [(m3, .inr (2, [.int (nI w), .int (nI h), .int (nI nd), .int (wv + nI 1), .ref mW, .ref tA]))], [(mW, .inl (cJ, w, .inr (.inr (.inr (.inr (gQ w rW))))))], gB w rW cI h (gM w (wav w h nd T K)), [(tA, .inl (cD, w, .inr (.inr (.inr (.inr (gQ w rT))))))], gB w rT cZ h (gZ w T), [(q_76, .inl (cI, 5, .inl (tF (fun j => nI (ccN K j (w * h))) 5)))], [(q_112, .inl (cJ, (w * h), .inr (.inr (.inr (.inr (gQ (w * h) r_112))))))], gB (w * h) r_112 cI 5 (gF (fun a b => nI (cnbs w h K a b)) (w * h) 0), [(q_123, .inl (cI, (w * h), .inl (tF (fun b => nI (K b)) (w * h))))]] : gW)) [0] [1, 2, 3, 4, 5, 6, 7, 8, 9] 10 (fun _ => rfl) (fun _ => rfl) (fun _ => rfl) (by decide) 0 0 (ci := 1) rfl ho9 rfl rfl rfl hl.1 rfl (Nat.le_of_ble_eq_true rfl) dL_law_705 ⟨by show 13309 + 300 * time + 275 + 0 ≤ 669352; omega, by show 66147 + 1500 * time + 1410 + 0 ≤ 7093412; omega⟩ (fun r_705 g_705 H locs hp_705 hP hD hS => ?_)
                                                      have hP : va_P (dC, dI) vwCl (List.flatten ([g_705, [(m3, .inr (2, [.int (nI w), .int (nI h), .int (nI nd), .int (wv + nI 1), .ref mW, .ref tA]))], [(mW, .inl (cJ, w, .inr (.inr (.inr (.inr (gQ w rW))))))], gB w rW cI h (gM w (wav w h nd T K)), [(tA, .inl (cD, w, .inr (.inr (.inr (.inr (gQ w rT))))))], gB w rT cZ h (gZ w T), [(q_76, .inl (cI, 5, .inl (tF (fun j => nI (ccN K j (w * h))) 5)))], [(q_112, .inl (cJ, (w * h), .inr (.inr (.inr (.inr (gQ (w * h) r_112))))))], gB (w * h) r_112 cI 5 (gF (fun a b => nI (cnbs w h K a b)) (w * h) 0), [(q_123, .inl (cI, (w * h), .inl (tF (fun b => nI (K b)) (w * h))))]] : gW)) H := hP
                                                      have hD : va_D A (List.flatten ([g_705, [(m3, .inr (2, [.int (nI w), .int (nI h), .int (nI nd), .int (wv + nI 1), .ref mW, .ref tA]))], [(mW, .inl (cJ, w, .inr (.inr (.inr (.inr (gQ w rW))))))], gB w rW cI h (gM w (wav w h nd T K)), [(tA, .inl (cD, w, .inr (.inr (.inr (.inr (gQ w rT))))))], gB w rT cZ h (gZ w T), [(q_76, .inl (cI, 5, .inl (tF (fun j => nI (ccN K j (w * h))) 5)))], [(q_112, .inl (cJ, (w * h), .inr (.inr (.inr (.inr (gQ (w * h) r_112))))))], gB (w * h) r_112 cI 5 (gF (fun a b => nI (cnbs w h K a b)) (w * h) 0), [(q_123, .inl (cI, (w * h), .inl (tF (fun b => nI (K b)) (w * h))))]] : gW)) := hD
                                                      obtain ⟨hp_705, hg_705⟩ := hp_705
                                                      have hg_705 : CT cI w h nd (wv + nI 1) T (wavN w h nd T K 1) q_0 g_705 := hg_705
                                                      refine z_topi (y := nI (allN (wavN w h nd T K 1) (w * h))) (hp_705) ?_
                                                      refine lv_iload hx hb dL_law_708 (lv_at hl 13 rfl) ?_
                                                      suffices j_718 : ∀ v_718 : Int32, v_718 = (nI (bN (decide (allN (wavN w h nd T K 1) (w * h) = co)))) → W p l e rmL_law s m args below meth c H locs (13309 + 300 * time + 275) (66147 + 1500 * time + 1410) Q (F0 m 718 ls [.int v_718]) by
                                                        refine lv_icmp_ne (tgt := 717) hx hb dL_law_710 (by decide) (fun c_710 => ?_) (fun c_710 => ?_)
                                                        · skip
                                                          have n_710 := zc_eq_f (a := (allN (wavN w h nd T K 1) (w * h))) (b := co) (by omega) (by omega) c_710
                                                          refine lv_iconst (v := 0) hx hb dL_law_717 (by decide) ?_
                                                          exact j_718 _ (by rw [decide_eq_false n_710]; rfl)
                                                        · skip
                                                          have n_710 := zc_eq_t (a := (allN (wavN w h nd T K 1) (w * h))) (b := co) (by omega) (by omega) c_710
                                                          refine lv_iconst (v := 1) hx hb dL_law_713 (by decide) ?_
                                                          refine lv_goto (tgt := 718) hx hb dL_law_714 (by decide) ?_
                                                          exact j_718 _ (by rw [decide_eq_true n_710]; rfl)
                                                      intro v_718 h_v_718
                                                      rw [h_v_718]
                                                      refine lv_iload hx hb dL_law_718 (lv_at hl 4 rfl) ?_
                                                      refine lv_iload hx hb dL_law_720 (lv_at hl 9 rfl) ?_
                                                      refine lv_iload hx hb dL_law_722 (lv_at hl 10 rfl) ?_
                                                      refine lv_imul hx hb dL_law_724 ?_
                                                      refine z_topi (y := nI (w * h)) (pk_mul w h) ?_
                                                      suffices j_733 : ∀ v_733 : Int32, v_733 = (nI (bN (decide (ccN (wavN w h nd T K 1) co (w * h) = w * h)))) → W p l e rmL_law s m args below meth c H locs (13309 + 300 * time + 275) (66147 + 1500 * time + 1410) Q (F0 m 733 ls [.int v_733, .int (nI (bN (decide (allN (wavN w h nd T K 1) (w * h) = co))))]) by
                                                        refine lv_icmp_ne (tgt := 732) hx hb dL_law_725 (by decide) (fun c_725 => ?_) (fun c_725 => ?_)
                                                        · skip
                                                          have n_725 := zc_eq_f (a := (ccN (wavN w h nd T K 1) co (w * h))) (b := (w * h)) (by omega) (by omega) c_725
                                                          refine lv_iconst (v := 0) hx hb dL_law_732 (by decide) ?_
                                                          exact j_733 _ (by rw [decide_eq_false n_725]; rfl)
                                                        · skip
                                                          have n_725 := zc_eq_t (a := (ccN (wavN w h nd T K 1) co (w * h))) (b := (w * h)) (by omega) (by omega) c_725
                                                          refine lv_iconst (v := 1) hx hb dL_law_728 (by decide) ?_
                                                          refine lv_goto (tgt := 733) hx hb dL_law_729 (by decide) ?_
                                                          exact j_733 _ (by rw [decide_eq_true n_725]; rfl)
                                                      intro v_733 h_v_733
                                                      rw [h_v_733]
                                                      refine lv_icmp_eq (tgt := 738) hx hb dL_law_733 (by decide) (fun c_733 => ?_) (fun c_733 => ?_)
                                                      · skip
                                                        refine lv_iinc (v := nI (co + 1)) (lv' := [(18, .int (nI (co + 1))), (21, .int (nI (rmx w h (wavN w h nd T K 1) co (w * h)))), (20, .int (nI (rsm w h (wavN w h nd T K 1) co (w * h)))), (15, .double (shS (fun j => ccN (wavN w h nd T K 1) j (w * h)) (w * h) (co + 1))), (14, .int (nI (sN (fun j => ccN (wavN w h nd T K 1) j (w * h)) (co + 1)))), (19, .int (nI (ccN (wavN w h nd T K 1) co (w * h)))), (0, .ref b0), (1, .ref q_0), (2, .ref m3), (3, .int (nI time)), (5, .int (nI w)), (6, .int (nI h)), (7, .ref q_76), (17, .int (nI (bestL (ccF (wavN w h nd T K 1) (w * h)) 1 4)))]) hx hb dL_law_738 hl (k := 13) rfl (nI_1 co) (by decide) rfl (fun ls hl => ?_)
                                                        refine lv_goto (tgt := 522) hx hb dL_law_741 (by decide) ?_
                                                        exact ih_522 (co + 1) g_705 (by omega) (hg_705) _ _ _ hP hD hS (lv_sub hl [6, 7, 8, 9, 10, 11, 12, 4, 3, 13, 0] rfl)
                                                      · skip
                                                        exact absurd (congrArg (fun b => nI (bN b)) (decide_eq_decide.mpr (win_4 gk (by omega)))) c_733
                                                    · skip
                                                      have n_699 := zc_le_f (a := (bestL (ccF (wavN w h nd T K 1) (w * h)) 1 4)) (b := co) (by omega) (by omega) c_699
                                                      exact absurd ((hl4.2 n_662).2 n_692) (Nat.not_le.mpr n_699)
                                              · skip
                                                have n_662 := zc_eq_t (a := (bestL (ccF (wavN w h nd T K 1) (w * h)) 1 4)) (b := 0) (by omega) (by omega) c_662
                                                refine lv_iload hx hb dL_law_665 (lv_at hl 4 rfl) ?_
                                                refine lv_if_le (tgt := 704) hx hb dL_law_667 (by decide) (fun c_667 => ?_) (fun c_667 => ?_)
                                                · skip
                                                  have n_667 := zc_le_t (a := (ccN (wavN w h nd T K 1) co (w * h))) (b := 0) (by omega) (by omega) c_667
                                                  have hal := allN_le hKP (w * h)
                                                  refine lv_aload_n hx hb dL_law_704 rfl (lv_at hl 6 rfl) ?_
                                                  obtain ⟨fs9, ho9⟩ := CT_obj hg_596
                                                  refine s_callVi (As := []) (rest := []) F9 (k_winner l dC dI cI cZ cJ cD hg_596 gk h1 h4 hKP ) (cwV 0 hts gL_law_X1_winner rfl rfl rfl (by decide +kernel) ⟨Nat.le_of_ble_eq_true rfl, Nat.le_of_ble_eq_true rfl⟩) hK hN hP hD hS hA [0] [1, 2, 3, 4, 5, 6, 7, 8, 9] 10 rfl rfl (by decide) (fun (u : va_W) => ([u, [(m3, .inr (2, [.int (nI w), .int (nI h), .int (nI nd), .int (wv + nI 1), .ref mW, .ref tA]))], [(mW, .inl (cJ, w, .inr (.inr (.inr (.inr (gQ w rW))))))], gB w rW cI h (gM w (wav w h nd T K)), [(tA, .inl (cD, w, .inr (.inr (.inr (.inr (gQ w rT))))))], gB w rT cZ h (gZ w T), [(q_76, .inl (cI, 5, .inl (tF (fun j => nI (ccN K j (w * h))) 5)))], [(q_112, .inl (cJ, (w * h), .inr (.inr (.inr (.inr (gQ (w * h) r_112))))))], gB (w * h) r_112 cI 5 (gF (fun a b => nI (cnbs w h K a b)) (w * h) 0), [(q_123, .inl (cI, (w * h), .inl (tF (fun b => nI (K b)) (w * h))))]] : gW)) [0] [1, 2, 3, 4, 5, 6, 7, 8, 9] 10 (fun _ => rfl) (fun _ => rfl) (fun _ => rfl) (by decide) 0 0 (ci := 1) rfl ho9 rfl rfl rfl hl.1 rfl (Nat.le_of_ble_eq_true rfl) dL_law_705 ⟨by show 13309 + 300 * time + 275 + 0 ≤ 669352; omega, by show 66147 + 1500 * time + 1410 + 0 ≤ 7093412; omega⟩ (fun r_705 g_705 H locs hp_705 hP hD hS => ?_)
                                                  have hP : va_P (dC, dI) vwCl (List.flatten ([g_705, [(m3, .inr (2, [.int (nI w), .int (nI h), .int (nI nd), .int (wv + nI 1), .ref mW, .ref tA]))], [(mW, .inl (cJ, w, .inr (.inr (.inr (.inr (gQ w rW))))))], gB w rW cI h (gM w (wav w h nd T K)), [(tA, .inl (cD, w, .inr (.inr (.inr (.inr (gQ w rT))))))], gB w rT cZ h (gZ w T), [(q_76, .inl (cI, 5, .inl (tF (fun j => nI (ccN K j (w * h))) 5)))], [(q_112, .inl (cJ, (w * h), .inr (.inr (.inr (.inr (gQ (w * h) r_112))))))], gB (w * h) r_112 cI 5 (gF (fun a b => nI (cnbs w h K a b)) (w * h) 0), [(q_123, .inl (cI, (w * h), .inl (tF (fun b => nI (K b)) (w * h))))]] : gW)) H := hP
                                                  have hD : va_D A (List.flatten ([g_705, [(m3, .inr (2, [.int (nI w), .int (nI h), .int (nI nd), .int (wv + nI 1), .ref mW, .ref tA]))], [(mW, .inl (cJ, w, .inr (.inr (.inr (.inr (gQ w rW))))))], gB w rW cI h (gM w (wav w h nd T K)), [(tA, .inl (cD, w, .inr (.inr (.inr (.inr (gQ w rT))))))], gB w rT cZ h (gZ w T), [(q_76, .inl (cI, 5, .inl (tF (fun j => nI (ccN K j (w * h))) 5)))], [(q_112, .inl (cJ, (w * h), .inr (.inr (.inr (.inr (gQ (w * h) r_112))))))], gB (w * h) r_112 cI 5 (gF (fun a b => nI (cnbs w h K a b)) (w * h) 0), [(q_123, .inl (cI, (w * h), .inl (tF (fun b => nI (K b)) (w * h))))]] : gW)) := hD
                                                  obtain ⟨hp_705, hg_705⟩ := hp_705
                                                  have hg_705 : CT cI w h nd (wv + nI 1) T (wavN w h nd T K 1) q_0 g_705 := hg_705
                                                  refine z_topi (y := nI (allN (wavN w h nd T K 1) (w * h))) (hp_705) ?_
                                                  refine lv_iload hx hb dL_law_708 (lv_at hl 13 rfl) ?_
                                                  suffices j_718 : ∀ v_718 : Int32, v_718 = (nI (bN (decide (allN (wavN w h nd T K 1) (w * h) = co)))) → W p l e rmL_law s m args below meth c H locs (13309 + 300 * time + 275) (66147 + 1500 * time + 1410) Q (F0 m 718 ls [.int v_718]) by
                                                    refine lv_icmp_ne (tgt := 717) hx hb dL_law_710 (by decide) (fun c_710 => ?_) (fun c_710 => ?_)
                                                    · skip
                                                      have n_710 := zc_eq_f (a := (allN (wavN w h nd T K 1) (w * h))) (b := co) (by omega) (by omega) c_710
                                                      refine lv_iconst (v := 0) hx hb dL_law_717 (by decide) ?_
                                                      exact j_718 _ (by rw [decide_eq_false n_710]; rfl)
                                                    · skip
                                                      have n_710 := zc_eq_t (a := (allN (wavN w h nd T K 1) (w * h))) (b := co) (by omega) (by omega) c_710
                                                      refine lv_iconst (v := 1) hx hb dL_law_713 (by decide) ?_
                                                      refine lv_goto (tgt := 718) hx hb dL_law_714 (by decide) ?_
                                                      exact j_718 _ (by rw [decide_eq_true n_710]; rfl)
                                                  intro v_718 h_v_718
                                                  rw [h_v_718]
                                                  refine lv_iload hx hb dL_law_718 (lv_at hl 4 rfl) ?_
                                                  refine lv_iload hx hb dL_law_720 (lv_at hl 9 rfl) ?_
                                                  refine lv_iload hx hb dL_law_722 (lv_at hl 10 rfl) ?_
                                                  refine lv_imul hx hb dL_law_724 ?_
                                                  refine z_topi (y := nI (w * h)) (pk_mul w h) ?_
                                                  suffices j_733 : ∀ v_733 : Int32, v_733 = (nI (bN (decide (ccN (wavN w h nd T K 1) co (w * h) = w * h)))) → W p l e rmL_law s m args below meth c H locs (13309 + 300 * time + 275) (66147 + 1500 * time + 1410) Q (F0 m 733 ls [.int v_733, .int (nI (bN (decide (allN (wavN w h nd T K 1) (w * h) = co))))]) by
                                                    refine lv_icmp_ne (tgt := 732) hx hb dL_law_725 (by decide) (fun c_725 => ?_) (fun c_725 => ?_)
                                                    · skip
                                                      have n_725 := zc_eq_f (a := (ccN (wavN w h nd T K 1) co (w * h))) (b := (w * h)) (by omega) (by omega) c_725
                                                      refine lv_iconst (v := 0) hx hb dL_law_732 (by decide) ?_
                                                      exact j_733 _ (by rw [decide_eq_false n_725]; rfl)
                                                    · skip
                                                      have n_725 := zc_eq_t (a := (ccN (wavN w h nd T K 1) co (w * h))) (b := (w * h)) (by omega) (by omega) c_725
                                                      refine lv_iconst (v := 1) hx hb dL_law_728 (by decide) ?_
                                                      refine lv_goto (tgt := 733) hx hb dL_law_729 (by decide) ?_
                                                      exact j_733 _ (by rw [decide_eq_true n_725]; rfl)
                                                  intro v_733 h_v_733
                                                  rw [h_v_733]
                                                  refine lv_icmp_eq (tgt := 738) hx hb dL_law_733 (by decide) (fun c_733 => ?_) (fun c_733 => ?_)
                                                  · skip
                                                    refine lv_iinc (v := nI (co + 1)) (lv' := [(18, .int (nI (co + 1))), (21, .int (nI (rmx w h (wavN w h nd T K 1) co (w * h)))), (20, .int (nI (rsm w h (wavN w h nd T K 1) co (w * h)))), (15, .double (shS (fun j => ccN (wavN w h nd T K 1) j (w * h)) (w * h) (co + 1))), (14, .int (nI (sN (fun j => ccN (wavN w h nd T K 1) j (w * h)) (co + 1)))), (19, .int (nI (ccN (wavN w h nd T K 1) co (w * h)))), (0, .ref b0), (1, .ref q_0), (2, .ref m3), (3, .int (nI time)), (5, .int (nI w)), (6, .int (nI h)), (7, .ref q_76), (17, .int (nI (bestL (ccF (wavN w h nd T K 1) (w * h)) 1 4)))]) hx hb dL_law_738 hl (k := 13) rfl (nI_1 co) (by decide) rfl (fun ls hl => ?_)
                                                    refine lv_goto (tgt := 522) hx hb dL_law_741 (by decide) ?_
                                                    exact ih_522 (co + 1) g_705 (by omega) (hg_705) _ _ _ hP hD hS (lv_sub hl [6, 7, 8, 9, 10, 11, 12, 4, 3, 13, 0] rfl)
                                                  · skip
                                                    exact absurd (congrArg (fun b => nI (bN b)) (decide_eq_decide.mpr (win_4 gk (by omega)))) c_733
                                                · skip
                                                  have n_667 := zc_le_f (a := (ccN (wavN w h nd T K 1) co (w * h))) (b := 0) (by omega) (by omega) c_667
                                                  exact absurd (hl4.1 n_662) (Nat.ne_of_gt n_667)
                                      · skip
                                        have n_556 := zc_eq_t (a := co) (b := 0) (by omega) (by omega) c_556
                                        have hf2 := ccN_le K 0 (w * h)
                                        refine lv_iload hx hb dL_law_559 (lv_at hl 2 rfl) ?_
                                        refine lv_aload hx hb dL_law_561 (lv_at hl 9 rfl) ?_
                                        refine lv_iconst (v := 0) hx hb dL_law_563 (by decide) ?_
                                        refine s_iald hx hb hK hP 6 0 0 rfl rfl rfl 0 (rfl) (by omega) (by omega) dL_law_564 ?_
                                        refine z_topi (y := nI (ccN K 0 (w * h))) (tF_at (by decide)) ?_
                                        refine lv_icmp_le (tgt := 738) hx hb dL_law_565 (by decide) (fun c_565 => ?_) (fun c_565 => ?_)
                                        · skip
                                          have n_565 := zc_le_t (a := (ccN (wavN w h nd T K 1) co (w * h))) (b := (ccN K 0 (w * h))) (by omega) (by omega) c_565
                                          refine lv_iinc (v := nI (co + 1)) (lv' := [(18, .int (nI (co + 1))), (15, .double (shS (fun j => ccN (wavN w h nd T K 1) j (w * h)) (w * h) (co + 1))), (14, .int (nI (sN (fun j => ccN (wavN w h nd T K 1) j (w * h)) (co + 1)))), (19, .int (nI (ccN (wavN w h nd T K 1) co (w * h)))), (0, .ref b0), (1, .ref q_0), (2, .ref m3), (3, .int (nI time)), (5, .int (nI w)), (6, .int (nI h)), (7, .ref q_76), (17, .int (nI (bestL (ccF (wavN w h nd T K 1) (w * h)) 1 4)))]) hx hb dL_law_738 hl (k := 11) rfl (nI_1 co) (by decide) rfl (fun ls hl => ?_)
                                          refine lv_goto (tgt := 522) hx hb dL_law_741 (by decide) ?_
                                          exact ih_522 (co + 1) g_548 (by omega) (hg_548) _ _ _ hP hD hS (lv_sub hl [4, 5, 6, 7, 8, 9, 10, 2, 1, 11, 0] rfl)
                                        · skip
                                          have n_565 := zc_le_f (a := (ccN (wavN w h nd T K 1) co (w * h))) (b := (ccN K 0 (w * h))) (by omega) (by omega) c_565
                                          exact absurd n_565 (Nat.not_lt.mpr (by rw [n_556]; exact bare_le h1))
                                exact loop_522 5 0 g_514 (by omega) (hg_514) _ _ _ hP hD hS (lv_sub hl [4, 5, 6, 7, 8, 9, 10, 3, 2, 1, 0] rfl)
                              · skip
                                exact absurd rfl c_502
                        · skip
                          have n_336 := zc_le_f (a := (w * h)) (b := kc) (by omega) (by omega) c_336
                          exact absurd n_336 (by omega)
                      | succ n ih_329 =>
                        intro kc gA hkn hgA H locs ls hP hD hS hl
                        refine lv_iload hx hb dL_law_329 (lv_at hl 13 rfl) ?_
                        refine lv_iload hx hb dL_law_331 (lv_at hl 4 rfl) ?_
                        refine lv_iload hx hb dL_law_333 (lv_at hl 5 rfl) ?_
                        refine lv_imul hx hb dL_law_335 ?_
                        refine z_topi (y := nI (w * h)) (pk_mul w h) ?_
                        refine lv_icmp_ge (tgt := 478) hx hb dL_law_336 (by decide) (fun c_336 => ?_) (fun c_336 => ?_)
                        · skip
                          have n_336 := zc_le_t (a := (w * h)) (b := kc) (by omega) (by omega) c_336
                          exact absurd n_336 (by omega)
                        · skip
                          have n_336 := zc_le_f (a := (w * h)) (b := kc) (by omega) (by omega) c_336
                          have hkw : kc < w * h := by omega
                          have hn9 := nxt_le (w := w) (h := h) (T := T) h1 hK4 kc
                          have hk9 := hK4 kc
                          refine lv_aload_n hx hb dL_law_339 rfl (lv_at hl 1 rfl) ?_
                          refine lv_iload hx hb dL_law_340 (lv_at hl 13 rfl) ?_
                          refine lv_iload hx hb dL_law_342 (lv_at hl 4 rfl) ?_
                          refine lv_irem hx hb dL_law_344 (nI_ne0 (by omega) (by omega)) ?_
                          refine z_topi (y := nI (kc % w)) (irem_nI (c := kc) (w := w) (by omega) (by omega) (by omega)) ?_
                          refine lv_iload hx hb dL_law_345 (lv_at hl 13 rfl) ?_
                          refine lv_iload hx hb dL_law_347 (lv_at hl 4 rfl) ?_
                          refine lv_idiv hx hb dL_law_349 (nI_ne0 (by omega) (by omega)) ?_
                          refine z_topi (y := nI (kc / w)) (idiv_nI (c := kc) (w := w) (by omega) (by omega) (by omega)) ?_
                          obtain ⟨fs9, ho9⟩ := CT_obj hgA
                          refine s_callVi (As := [.int (nI (kc % w)), .int (nI (kc / w))]) (rest := []) F9 (k_colourAt l dC dI cI cZ cJ cD hgA gk h1 h4 hKP (kc % w) (kc / w) (Nat.mod_lt _ (by omega)) (dk_lt hkw)) (cwV 2 hts gL_law_X1_colourAt rfl rfl rfl (by decide +kernel) ⟨Nat.le_of_ble_eq_true rfl, Nat.le_of_ble_eq_true rfl⟩) hK hN hP hD hS hA [0] [1, 2, 3, 4, 5, 6, 7, 8, 9] 10 rfl rfl (by decide) (fun (u : va_W) => ([u, [(m3, .inr (2, [.int (nI w), .int (nI h), .int (nI nd), .int (wv + nI 1), .ref mW, .ref tA]))], [(mW, .inl (cJ, w, .inr (.inr (.inr (.inr (gQ w rW))))))], gB w rW cI h (gM w (wav w h nd T K)), [(tA, .inl (cD, w, .inr (.inr (.inr (.inr (gQ w rT))))))], gB w rT cZ h (gZ w T), [(q_76, .inl (cI, 5, .inl (tF (fun j => nI (ccN K j (w * h))) 5)))], [(q_112, .inl (cJ, (w * h), .inr (.inr (.inr (.inr (gQ (w * h) r_112))))))], gB (w * h) r_112 cI 5 (gF (fun a b => nI (cnbs w h K a b)) (w * h) 0), [(q_123, .inl (cI, (w * h), .inl (tF (fun b => nI (K b)) (w * h))))]] : gW)) [0] [1, 2, 3, 4, 5, 6, 7, 8, 9] 10 (fun _ => rfl) (fun _ => rfl) (fun _ => rfl) (by decide) 0 0 (ci := 1) rfl ho9 rfl rfl rfl hl.1 rfl (Nat.le_of_ble_eq_true rfl) dL_law_350 ⟨by show 13309 + 300 * time + 275 + 0 ≤ 669352; omega, by show 66147 + 1500 * time + 1410 + 0 ≤ 7093412; omega⟩ (fun r_350 g_350 H locs hp_350 hP hD hS => ?_)
                          have hP : va_P (dC, dI) vwCl (List.flatten ([g_350, [(m3, .inr (2, [.int (nI w), .int (nI h), .int (nI nd), .int (wv + nI 1), .ref mW, .ref tA]))], [(mW, .inl (cJ, w, .inr (.inr (.inr (.inr (gQ w rW))))))], gB w rW cI h (gM w (wav w h nd T K)), [(tA, .inl (cD, w, .inr (.inr (.inr (.inr (gQ w rT))))))], gB w rT cZ h (gZ w T), [(q_76, .inl (cI, 5, .inl (tF (fun j => nI (ccN K j (w * h))) 5)))], [(q_112, .inl (cJ, (w * h), .inr (.inr (.inr (.inr (gQ (w * h) r_112))))))], gB (w * h) r_112 cI 5 (gF (fun a b => nI (cnbs w h K a b)) (w * h) 0), [(q_123, .inl (cI, (w * h), .inl (tF (fun b => nI (K b)) (w * h))))]] : gW)) H := hP
                          have hD : va_D A (List.flatten ([g_350, [(m3, .inr (2, [.int (nI w), .int (nI h), .int (nI nd), .int (wv + nI 1), .ref mW, .ref tA]))], [(mW, .inl (cJ, w, .inr (.inr (.inr (.inr (gQ w rW))))))], gB w rW cI h (gM w (wav w h nd T K)), [(tA, .inl (cD, w, .inr (.inr (.inr (.inr (gQ w rT))))))], gB w rT cZ h (gZ w T), [(q_76, .inl (cI, 5, .inl (tF (fun j => nI (ccN K j (w * h))) 5)))], [(q_112, .inl (cJ, (w * h), .inr (.inr (.inr (.inr (gQ (w * h) r_112))))))], gB (w * h) r_112 cI 5 (gF (fun a b => nI (cnbs w h K a b)) (w * h) 0), [(q_123, .inl (cI, (w * h), .inl (tF (fun b => nI (K b)) (w * h))))]] : gW)) := hD
                          obtain ⟨hp_350, hg_350⟩ := hp_350
                          have hg_350 : CT cI w h nd (wv + nI 1) T (wavN w h nd T K 1) q_0 g_350 := hg_350
                          refine z_topi (y := nI ((wavN w h nd T K 1) (w * (kc / w) + (kc % w)))) (hp_350) ?_
                          refine z_topi (y := nI (nxt w h nd T K kc)) (by rw [Nat.div_add_mod, wav_at hkw]) ?_
                          refine lv_istore (lv' := [(15, .int (nI (nxt w h nd T K kc))), (0, .ref b0), (1, .ref q_0), (2, .ref m3), (3, .int (nI time)), (5, .int (nI w)), (6, .int (nI h)), (7, .ref q_76), (8, .ref q_112), (9, .ref q_123), (10, .int wv), (11, .int (nI (lchg w h nd T K 1))), (12, .int (nI (chgN w h nd T K kc))), (13, .int (nI (ct T kc))), (14, .int (nI kc))]) hx hb dL_law_353 hl (by decide) rfl (fun ls hl => ?_)
                          refine lv_aload_n hx hb dL_law_355 rfl (lv_at hl 2 rfl) ?_
                          refine lv_iload hx hb dL_law_356 (lv_at hl 14 rfl) ?_
                          refine lv_iload hx hb dL_law_358 (lv_at hl 5 rfl) ?_
                          refine lv_irem hx hb dL_law_360 (nI_ne0 (by omega) (by omega)) ?_
                          refine z_topi (y := nI (kc % w)) (irem_nI (c := kc) (w := w) (by omega) (by omega) (by omega)) ?_
                          refine lv_iload hx hb dL_law_361 (lv_at hl 14 rfl) ?_
                          refine lv_iload hx hb dL_law_363 (lv_at hl 5 rfl) ?_
                          refine lv_idiv hx hb dL_law_365 (nI_ne0 (by omega) (by omega)) ?_
                          refine z_topi (y := nI (kc / w)) (idiv_nI (c := kc) (w := w) (by omega) (by omega) (by omega)) ?_
                          obtain ⟨fs9, ho9⟩ := CT_obj hg_350
                          refine s_callVi (As := [.int (nI (kc % w)), .int (nI (kc / w))]) (rest := []) F9 (k_isStubborn l dC dI cI cZ cJ cD hg_350 gk h1 h4 hKP (kc % w) (kc / w) (Nat.mod_lt _ (by omega)) (dk_lt hkw)) (cwV 2 hts gL_law_X1_isStubborn rfl rfl rfl (by decide +kernel) ⟨Nat.le_of_ble_eq_true rfl, Nat.le_of_ble_eq_true rfl⟩) hK hN hP hD hS hA [0] [1, 2, 3, 4, 5, 6, 7, 8, 9] 10 rfl rfl (by decide) (fun (u : va_W) => ([u, [(m3, .inr (2, [.int (nI w), .int (nI h), .int (nI nd), .int (wv + nI 1), .ref mW, .ref tA]))], [(mW, .inl (cJ, w, .inr (.inr (.inr (.inr (gQ w rW))))))], gB w rW cI h (gM w (wav w h nd T K)), [(tA, .inl (cD, w, .inr (.inr (.inr (.inr (gQ w rT))))))], gB w rT cZ h (gZ w T), [(q_76, .inl (cI, 5, .inl (tF (fun j => nI (ccN K j (w * h))) 5)))], [(q_112, .inl (cJ, (w * h), .inr (.inr (.inr (.inr (gQ (w * h) r_112))))))], gB (w * h) r_112 cI 5 (gF (fun a b => nI (cnbs w h K a b)) (w * h) 0), [(q_123, .inl (cI, (w * h), .inl (tF (fun b => nI (K b)) (w * h))))]] : gW)) [0] [1, 2, 3, 4, 5, 6, 7, 8, 9] 10 (fun _ => rfl) (fun _ => rfl) (fun _ => rfl) (by decide) 0 0 (ci := 1) rfl ho9 rfl rfl rfl hl.1 rfl (Nat.le_of_ble_eq_true rfl) dL_law_366 ⟨by show 13309 + 300 * time + 275 + 0 ≤ 669352; omega, by show 66147 + 1500 * time + 1410 + 0 ≤ 7093412; omega⟩ (fun r_366 g_366 H locs hp_366 hP hD hS => ?_)
                          have hP : va_P (dC, dI) vwCl (List.flatten ([g_366, [(m3, .inr (2, [.int (nI w), .int (nI h), .int (nI nd), .int (wv + nI 1), .ref mW, .ref tA]))], [(mW, .inl (cJ, w, .inr (.inr (.inr (.inr (gQ w rW))))))], gB w rW cI h (gM w (wav w h nd T K)), [(tA, .inl (cD, w, .inr (.inr (.inr (.inr (gQ w rT))))))], gB w rT cZ h (gZ w T), [(q_76, .inl (cI, 5, .inl (tF (fun j => nI (ccN K j (w * h))) 5)))], [(q_112, .inl (cJ, (w * h), .inr (.inr (.inr (.inr (gQ (w * h) r_112))))))], gB (w * h) r_112 cI 5 (gF (fun a b => nI (cnbs w h K a b)) (w * h) 0), [(q_123, .inl (cI, (w * h), .inl (tF (fun b => nI (K b)) (w * h))))]] : gW)) H := hP
                          have hD : va_D A (List.flatten ([g_366, [(m3, .inr (2, [.int (nI w), .int (nI h), .int (nI nd), .int (wv + nI 1), .ref mW, .ref tA]))], [(mW, .inl (cJ, w, .inr (.inr (.inr (.inr (gQ w rW))))))], gB w rW cI h (gM w (wav w h nd T K)), [(tA, .inl (cD, w, .inr (.inr (.inr (.inr (gQ w rT))))))], gB w rT cZ h (gZ w T), [(q_76, .inl (cI, 5, .inl (tF (fun j => nI (ccN K j (w * h))) 5)))], [(q_112, .inl (cJ, (w * h), .inr (.inr (.inr (.inr (gQ (w * h) r_112))))))], gB (w * h) r_112 cI 5 (gF (fun a b => nI (cnbs w h K a b)) (w * h) 0), [(q_123, .inl (cI, (w * h), .inl (tF (fun b => nI (K b)) (w * h))))]] : gW)) := hD
                          obtain ⟨hp_366, hg_366⟩ := hp_366
                          have hg_366 : CT cI w h nd (wv + nI 1) T (wavN w h nd T K 1) q_0 g_366 := hg_366
                          refine z_topi (y := bz (T (w * (kc / w) + (kc % w)))) (hp_366) ?_
                          refine z_topi (y := bz (T kc)) (congrArg (fun z => bz (T z)) (Nat.div_add_mod kc w)) ?_
                          refine lv_istore (lv' := [(16, .int (bz (T kc))), (15, .int (nI (nxt w h nd T K kc))), (0, .ref b0), (1, .ref q_0), (2, .ref m3), (3, .int (nI time)), (5, .int (nI w)), (6, .int (nI h)), (7, .ref q_76), (8, .ref q_112), (9, .ref q_123), (10, .int wv), (11, .int (nI (lchg w h nd T K 1))), (12, .int (nI (chgN w h nd T K kc))), (13, .int (nI (ct T kc))), (14, .int (nI kc))]) hx hb dL_law_369 hl (by decide) rfl (fun ls hl => ?_)
                          refine lv_iload hx hb dL_law_371 (lv_at hl 14 rfl) ?_
                          refine lv_iload hx hb dL_law_373 (lv_at hl 0 rfl) ?_
                          suffices j_383 : ∀ v_383 : Int32, v_383 = (nI (bN (T kc))) → W p l e rmL_law s m args below meth c H locs (13309 + 300 * time + 275) (66147 + 1500 * time + 1410) Q (F0 m 383 ls [.int v_383, .int (nI (ct T kc))]) by
                            refine lv_if_eq (tgt := 382) hx hb dL_law_375 (by decide) (fun c_375 => ?_) (fun c_375 => ?_)
                            · skip
                              refine lv_iconst (v := 0) hx hb dL_law_382 (by decide) ?_
                              exact j_383 _ (by rw [bz_0 c_375]; rfl)
                            · skip
                              refine lv_iconst (v := 1) hx hb dL_law_378 (by decide) ?_
                              refine lv_goto (tgt := 383) hx hb dL_law_379 (by decide) ?_
                              exact j_383 _ (by rw [bz_1 c_375]; rfl)
                          intro v_383 h_v_383
                          rw [h_v_383]
                          refine lv_iadd hx hb dL_law_383 ?_
                          refine z_topi (y := nI (ct T (kc + 1))) (nI_add _ _) ?_
                          refine lv_istore (lv' := [(13, .int (nI (ct T (kc + 1)))), (16, .int (bz (T kc))), (15, .int (nI (nxt w h nd T K kc))), (0, .ref b0), (1, .ref q_0), (2, .ref m3), (3, .int (nI time)), (5, .int (nI w)), (6, .int (nI h)), (7, .ref q_76), (8, .ref q_112), (9, .ref q_123), (10, .int wv), (11, .int (nI (lchg w h nd T K 1))), (12, .int (nI (chgN w h nd T K kc))), (14, .int (nI kc))]) hx hb dL_law_384 hl (by decide) rfl (fun ls hl => ?_)
                          refine lv_iload hx hb dL_law_386 (lv_at hl 2 rfl) ?_
                          refine lv_aload hx hb dL_law_388 (lv_at hl 11 rfl) ?_
                          refine lv_iload hx hb dL_law_390 (lv_at hl 15 rfl) ?_
                          refine s_iald hx hb hK hP 9 0 0 rfl rfl rfl kc (rfl) (by omega) (by omega) dL_law_392 ?_
                          refine z_topi (y := nI (K kc)) (tF_at hkw) ?_
                          refine lv_icmp_ne (tgt := 399) hx hb dL_law_393 (by decide) (fun c_393 => ?_) (fun c_393 => ?_)
                          · skip
                            have n_393 := zc_eq_f (a := (nxt w h nd T K kc)) (b := (K kc)) (by omega) (by omega) c_393
                            obtain ⟨t1, t2, t3, t4, t5⟩ := ch_all h1 n_393
                            have hb9 : cnbs w h K kc (nxt w h nd T K kc) ≤ 4 := nbs_le _ _ _ _
                            refine lv_iinc (v := nI (chgN w h nd T K (kc + 1))) (lv' := [(12, .int (nI (chgN w h nd T K (kc + 1)))), (13, .int (nI (ct T (kc + 1)))), (16, .int (bz (T kc))), (15, .int (nI (nxt w h nd T K kc))), (0, .ref b0), (1, .ref q_0), (2, .ref m3), (3, .int (nI time)), (5, .int (nI w)), (6, .int (nI h)), (7, .ref q_76), (8, .ref q_112), (9, .ref q_123), (10, .int wv), (11, .int (nI (lchg w h nd T K 1))), (14, .int (nI kc))]) hx hb dL_law_399 hl (k := 14) rfl (ch_yes n_393) (by decide) rfl (fun ls hl => ?_)
                            refine lv_iload hx hb dL_law_402 (lv_at hl 3 rfl) ?_
                            refine lv_if_eq (tgt := 427) hx hb dL_law_404 (by decide) (fun c_404 => ?_) (fun c_404 => ?_)
                            · skip
                              have n_404 := zc_eq_t (a := (nxt w h nd T K kc)) (b := 0) (by omega) (by omega) c_404
                              exact absurd n_404 t2
                            · skip
                              have n_404 := zc_eq_f (a := (nxt w h nd T K kc)) (b := 0) (by omega) (by omega) c_404
                              refine lv_iload hx hb dL_law_407 (lv_at hl 2 rfl) ?_
                              refine lv_if_ne (tgt := 427) hx hb dL_law_409 (by decide) (fun c_409 => ?_) (fun c_409 => ?_)
                              · skip
                                exact absurd (by rw [t1]; rfl) c_409
                              · skip
                                refine lv_aload hx hb dL_law_412 (lv_at hl 11 rfl) ?_
                                refine lv_iload hx hb dL_law_414 (lv_at hl 15 rfl) ?_
                                refine s_qald hx hb hK hP 7 2 rfl rfl rfl kc (rfl) (by omega) (by omega) dL_law_416 ?_
                                refine lv_iload hx hb dL_law_417 (lv_at hl 3 rfl) ?_
                                refine s_gald hx hb hK hP 8 0 kc rfl (by omega) rfl (nxt w h nd T K kc) (rfl) (by omega) (by omega) dL_law_419 ?_
                                refine z_topi (y := nI (cnbs w h K kc (nxt w h nd T K kc))) (gF_all (fun a b => nI (cnbs w h K a b)) hkw) ?_
                                refine lv_aload_n hx hb dL_law_420 rfl (lv_at hl 5 rfl) ?_
                                obtain ⟨fs9, ho9⟩ := CT_obj hg_366
                                refine s_callVi (As := []) (rest := [.int (nI (cnbs w h K kc (nxt w h nd T K kc)))]) F9 (k_need l dC dI cI cZ cJ cD hg_366  ) (cwV 0 hts gL_law_X1_need rfl rfl rfl (by decide +kernel) ⟨Nat.le_of_ble_eq_true rfl, Nat.le_of_ble_eq_true rfl⟩) hK hN hP hD hS hA [0] [1, 2, 3, 4, 5, 6, 7, 8, 9] 10 rfl rfl (by decide) (fun (u : va_W) => ([u, [(m3, .inr (2, [.int (nI w), .int (nI h), .int (nI nd), .int (wv + nI 1), .ref mW, .ref tA]))], [(mW, .inl (cJ, w, .inr (.inr (.inr (.inr (gQ w rW))))))], gB w rW cI h (gM w (wav w h nd T K)), [(tA, .inl (cD, w, .inr (.inr (.inr (.inr (gQ w rT))))))], gB w rT cZ h (gZ w T), [(q_76, .inl (cI, 5, .inl (tF (fun j => nI (ccN K j (w * h))) 5)))], [(q_112, .inl (cJ, (w * h), .inr (.inr (.inr (.inr (gQ (w * h) r_112))))))], gB (w * h) r_112 cI 5 (gF (fun a b => nI (cnbs w h K a b)) (w * h) 0), [(q_123, .inl (cI, (w * h), .inl (tF (fun b => nI (K b)) (w * h))))]] : gW)) [0] [1, 2, 3, 4, 5, 6, 7, 8, 9] 10 (fun _ => rfl) (fun _ => rfl) (fun _ => rfl) (by decide) 0 0 (ci := 1) rfl ho9 rfl rfl rfl hl.1 rfl (Nat.le_of_ble_eq_true rfl) dL_law_421 ⟨by show 13309 + 300 * time + 275 + 0 ≤ 669352; omega, by show 66147 + 1500 * time + 1410 + 0 ≤ 7093412; omega⟩ (fun r_421 g_421 H locs hp_421 hP hD hS => ?_)
                                have hP : va_P (dC, dI) vwCl (List.flatten ([g_421, [(m3, .inr (2, [.int (nI w), .int (nI h), .int (nI nd), .int (wv + nI 1), .ref mW, .ref tA]))], [(mW, .inl (cJ, w, .inr (.inr (.inr (.inr (gQ w rW))))))], gB w rW cI h (gM w (wav w h nd T K)), [(tA, .inl (cD, w, .inr (.inr (.inr (.inr (gQ w rT))))))], gB w rT cZ h (gZ w T), [(q_76, .inl (cI, 5, .inl (tF (fun j => nI (ccN K j (w * h))) 5)))], [(q_112, .inl (cJ, (w * h), .inr (.inr (.inr (.inr (gQ (w * h) r_112))))))], gB (w * h) r_112 cI 5 (gF (fun a b => nI (cnbs w h K a b)) (w * h) 0), [(q_123, .inl (cI, (w * h), .inl (tF (fun b => nI (K b)) (w * h))))]] : gW)) H := hP
                                have hD : va_D A (List.flatten ([g_421, [(m3, .inr (2, [.int (nI w), .int (nI h), .int (nI nd), .int (wv + nI 1), .ref mW, .ref tA]))], [(mW, .inl (cJ, w, .inr (.inr (.inr (.inr (gQ w rW))))))], gB w rW cI h (gM w (wav w h nd T K)), [(tA, .inl (cD, w, .inr (.inr (.inr (.inr (gQ w rT))))))], gB w rT cZ h (gZ w T), [(q_76, .inl (cI, 5, .inl (tF (fun j => nI (ccN K j (w * h))) 5)))], [(q_112, .inl (cJ, (w * h), .inr (.inr (.inr (.inr (gQ (w * h) r_112))))))], gB (w * h) r_112 cI 5 (gF (fun a b => nI (cnbs w h K a b)) (w * h) 0), [(q_123, .inl (cI, (w * h), .inl (tF (fun b => nI (K b)) (w * h))))]] : gW)) := hD
                                obtain ⟨hp_421, hg_421⟩ := hp_421
                                have hg_421 : CT cI w h nd (wv + nI 1) T (wavN w h nd T K 1) q_0 g_421 := hg_421
                                refine z_topi (y := nI nd) (hp_421) ?_
                                refine lv_icmp_ge (tgt := 429) hx hb dL_law_424 (by decide) (fun c_424 => ?_) (fun c_424 => ?_)
                                · skip
                                  have n_424 := zc_le_t (a := nd) (b := (cnbs w h K kc (nxt w h nd T K kc))) (by omega) (by omega) c_424
                                  refine lv_iconst (v := 1) hx hb dL_law_429 (by decide) ?_
                                  refine lv_istore (lv' := [(17, .int 1), (12, .int (nI (chgN w h nd T K (kc + 1)))), (13, .int (nI (ct T (kc + 1)))), (16, .int (bz (T kc))), (15, .int (nI (nxt w h nd T K kc))), (0, .ref b0), (1, .ref q_0), (2, .ref m3), (3, .int (nI time)), (5, .int (nI w)), (6, .int (nI h)), (7, .ref q_76), (8, .ref q_112), (9, .ref q_123), (10, .int wv), (11, .int (nI (lchg w h nd T K 1))), (14, .int (nI kc))]) hx hb dL_law_430 hl (by decide) rfl (fun ls hl => ?_)
                                  have loop_432 : ∀ (n : Nat) (co : Nat) (hkn : co + n = 5) (hco : 1 ≤ co) (H : Heap) (locs : List Loc) (ls : Array Slot) (hP : va_P (dC, dI) vwCl (List.flatten ([g_421, [(m3, .inr (2, [.int (nI w), .int (nI h), .int (nI nd), .int (wv + nI 1), .ref mW, .ref tA]))], [(mW, .inl (cJ, w, .inr (.inr (.inr (.inr (gQ w rW))))))], gB w rW cI h (gM w (wav w h nd T K)), [(tA, .inl (cD, w, .inr (.inr (.inr (.inr (gQ w rT))))))], gB w rT cZ h (gZ w T), [(q_76, .inl (cI, 5, .inl (tF (fun j => nI (ccN K j (w * h))) 5)))], [(q_112, .inl (cJ, (w * h), .inr (.inr (.inr (.inr (gQ (w * h) r_112))))))], gB (w * h) r_112 cI 5 (gF (fun a b => nI (cnbs w h K a b)) (w * h) 0), [(q_123, .inl (cI, (w * h), .inl (tF (fun b => nI (K b)) (w * h))))]] : gW)) H) (hD : va_D A (List.flatten ([g_421, [(m3, .inr (2, [.int (nI w), .int (nI h), .int (nI nd), .int (wv + nI 1), .ref mW, .ref tA]))], [(mW, .inl (cJ, w, .inr (.inr (.inr (.inr (gQ w rW))))))], gB w rW cI h (gM w (wav w h nd T K)), [(tA, .inl (cD, w, .inr (.inr (.inr (.inr (gQ w rT))))))], gB w rT cZ h (gZ w T), [(q_76, .inl (cI, 5, .inl (tF (fun j => nI (ccN K j (w * h))) 5)))], [(q_112, .inl (cJ, (w * h), .inr (.inr (.inr (.inr (gQ (w * h) r_112))))))], gB (w * h) r_112 cI 5 (gF (fun a b => nI (cnbs w h K a b)) (w * h) 0), [(q_123, .inl (cI, (w * h), .inl (tF (fun b => nI (K b)) (w * h))))]] : gW))) (hS : va_S A s.heap H locs) (hl : lv_has ls 22 [(0, .ref b0), (1, .ref q_0), (2, .ref m3), (3, .int (nI time)), (5, .int (nI w)), (6, .int (nI h)), (7, .ref q_76), (8, .ref q_112), (9, .ref q_123), (10, .int wv), (11, .int (nI (lchg w h nd T K 1))), (12, .int (nI (chgN w h nd T K (kc + 1)))), (13, .int (nI (ct T (kc + 1)))), (14, .int (nI kc)), (15, .int (nI (nxt w h nd T K kc))), (17, .int (nI co))]), W p l e rmL_law s m args below meth c H locs (13309 + 300 * time + 275) (66147 + 1500 * time + 1410) Q (F0 m 432 ls []) := by
                                    intro n
                                    induction n with
                                    | zero =>
                                      intro co hkn hco H locs ls hP hD hS hl
                                      refine lv_iload hx hb dL_law_432 (lv_at hl 15 rfl) ?_
                                      refine lv_iconst (v := 5) hx hb dL_law_434 (by decide) ?_
                                      refine lv_icmp_ge (tgt := 472) hx hb dL_law_435 (by decide) (fun c_435 => ?_) (fun c_435 => ?_)
                                      · skip
                                        have n_435 := zc_le_t (a := 5) (b := co) (by omega) (by omega) c_435
                                        refine lv_iinc (v := nI (kc + 1)) (lv' := [(14, .int (nI (kc + 1))), (0, .ref b0), (1, .ref q_0), (2, .ref m3), (3, .int (nI time)), (5, .int (nI w)), (6, .int (nI h)), (7, .ref q_76), (8, .ref q_112), (9, .ref q_123), (10, .int wv), (11, .int (nI (lchg w h nd T K 1))), (12, .int (nI (chgN w h nd T K (kc + 1)))), (13, .int (nI (ct T (kc + 1)))), (15, .int (nI (nxt w h nd T K kc))), (17, .int (nI co))]) hx hb dL_law_472 hl (k := 13) rfl (nI_1 kc) (by decide) rfl (fun ls hl => ?_)
                                        refine lv_goto (tgt := 329) hx hb dL_law_475 (by decide) ?_
                                        exact ih_329 (kc + 1) g_421 (by omega) (hg_421) _ _ _ hP hD hS (lv_sub hl [1, 2, 3, 4, 5, 6, 7, 8, 9, 10, 11, 12, 13, 0] rfl)
                                      · skip
                                        have n_435 := zc_le_f (a := 5) (b := co) (by omega) (by omega) c_435
                                        exact absurd n_435 (by omega)
                                    | succ n ih_432 =>
                                      intro co hkn hco H locs ls hP hD hS hl
                                      refine lv_iload hx hb dL_law_432 (lv_at hl 15 rfl) ?_
                                      refine lv_iconst (v := 5) hx hb dL_law_434 (by decide) ?_
                                      refine lv_icmp_ge (tgt := 472) hx hb dL_law_435 (by decide) (fun c_435 => ?_) (fun c_435 => ?_)
                                      · skip
                                        have n_435 := zc_le_t (a := 5) (b := co) (by omega) (by omega) c_435
                                        exact absurd n_435 (by omega)
                                      · skip
                                        have n_435 := zc_le_f (a := 5) (b := co) (by omega) (by omega) c_435
                                        refine lv_iload hx hb dL_law_438 (lv_at hl 15 rfl) ?_
                                        refine lv_iload hx hb dL_law_440 (lv_at hl 14 rfl) ?_
                                        refine lv_icmp_eq (tgt := 466) hx hb dL_law_442 (by decide) (fun c_442 => ?_) (fun c_442 => ?_)
                                        · skip
                                          have n_442 := zc_eq_t (a := co) (b := (nxt w h nd T K kc)) (by omega) (by omega) c_442
                                          refine lv_iinc (v := nI (co + 1)) (lv' := [(17, .int (nI (co + 1))), (0, .ref b0), (1, .ref q_0), (2, .ref m3), (3, .int (nI time)), (5, .int (nI w)), (6, .int (nI h)), (7, .ref q_76), (8, .ref q_112), (9, .ref q_123), (10, .int wv), (11, .int (nI (lchg w h nd T K 1))), (12, .int (nI (chgN w h nd T K (kc + 1)))), (13, .int (nI (ct T (kc + 1)))), (14, .int (nI kc)), (15, .int (nI (nxt w h nd T K kc)))]) hx hb dL_law_466 hl (k := 15) rfl (nI_1 co) (by decide) rfl (fun ls hl => ?_)
                                          refine lv_goto (tgt := 432) hx hb dL_law_469 (by decide) ?_
                                          exact ih_432 (co + 1) (by omega) (by omega) _ _ _ hP hD hS (lv_sub hl [1, 2, 3, 4, 5, 6, 7, 8, 9, 10, 11, 12, 13, 14, 15, 0] rfl)
                                        · skip
                                          have n_442 := zc_eq_f (a := co) (b := (nxt w h nd T K kc)) (by omega) (by omega) c_442
                                          have hb8 : cnbs w h K kc co ≤ 4 := nbs_le _ _ _ _
                                          refine lv_aload hx hb dL_law_445 (lv_at hl 7 rfl) ?_
                                          refine lv_iload hx hb dL_law_447 (lv_at hl 13 rfl) ?_
                                          refine s_qald hx hb hK hP 7 2 rfl rfl rfl kc (rfl) (by omega) (by omega) dL_law_449 ?_
                                          refine lv_iload hx hb dL_law_450 (lv_at hl 15 rfl) ?_
                                          refine s_gald hx hb hK hP 8 0 kc rfl (by omega) rfl co (rfl) (by omega) (by omega) dL_law_452 ?_
                                          refine z_topi (y := nI (cnbs w h K kc co)) (gF_all (fun a b => nI (cnbs w h K a b)) hkw) ?_
                                          refine lv_aload hx hb dL_law_453 (lv_at hl 7 rfl) ?_
                                          refine lv_iload hx hb dL_law_455 (lv_at hl 13 rfl) ?_
                                          refine s_qald hx hb hK hP 7 2 rfl rfl rfl kc (rfl) (by omega) (by omega) dL_law_457 ?_
                                          refine lv_iload hx hb dL_law_458 (lv_at hl 14 rfl) ?_
                                          refine s_gald hx hb hK hP 8 0 kc rfl (by omega) rfl (nxt w h nd T K kc) (rfl) (by omega) (by omega) dL_law_460 ?_
                                          refine z_topi (y := nI (cnbs w h K kc (nxt w h nd T K kc))) (gF_all (fun a b => nI (cnbs w h K a b)) hkw) ?_
                                          refine lv_icmp_lt (tgt := 466) hx hb dL_law_461 (by decide) (fun c_461 => ?_) (fun c_461 => ?_)
                                          · skip
                                            have n_461 := zc_lt_t (a := (cnbs w h K kc co)) (b := (cnbs w h K kc (nxt w h nd T K kc))) (by omega) (by omega) c_461
                                            refine lv_iinc (v := nI (co + 1)) (lv' := [(17, .int (nI (co + 1))), (0, .ref b0), (1, .ref q_0), (2, .ref m3), (3, .int (nI time)), (5, .int (nI w)), (6, .int (nI h)), (7, .ref q_76), (8, .ref q_112), (9, .ref q_123), (10, .int wv), (11, .int (nI (lchg w h nd T K 1))), (12, .int (nI (chgN w h nd T K (kc + 1)))), (13, .int (nI (ct T (kc + 1)))), (14, .int (nI kc)), (15, .int (nI (nxt w h nd T K kc)))]) hx hb dL_law_466 hl (k := 15) rfl (nI_1 co) (by decide) rfl (fun ls hl => ?_)
                                            refine lv_goto (tgt := 432) hx hb dL_law_469 (by decide) ?_
                                            exact ih_432 (co + 1) (by omega) (by omega) _ _ _ hP hD hS (lv_sub hl [1, 2, 3, 4, 5, 6, 7, 8, 9, 10, 11, 12, 13, 14, 15, 0] rfl)
                                          · skip
                                            have n_461 := zc_lt_f (a := (cnbs w h K kc co)) (b := (cnbs w h K kc (nxt w h nd T K kc))) (by omega) (by omega) c_461
                                            exact absurd (t5 co hco (by omega) n_442) (Nat.not_lt.mpr n_461)
                                  exact loop_432 4 1 (by omega) (Nat.le_refl 1) _ _ _ hP hD hS (lv_sub hl [5, 6, 7, 8, 9, 10, 11, 12, 13, 14, 15, 1, 2, 16, 4, 0] rfl)
                                · skip
                                  have n_424 := zc_le_f (a := nd) (b := (cnbs w h K kc (nxt w h nd T K kc))) (by omega) (by omega) c_424
                                  exact absurd n_424 (by omega)
                          · skip
                            have n_393 := zc_eq_t (a := (nxt w h nd T K kc)) (b := (K kc)) (by omega) (by omega) c_393
                            rw [ch_no n_393] at hl
                            refine lv_goto (tgt := 472) hx hb dL_law_396 (by decide) ?_
                            refine lv_iinc (v := nI (kc + 1)) (lv' := [(14, .int (nI (kc + 1))), (13, .int (nI (ct T (kc + 1)))), (16, .int (bz (T kc))), (15, .int (nI (nxt w h nd T K kc))), (0, .ref b0), (1, .ref q_0), (2, .ref m3), (3, .int (nI time)), (5, .int (nI w)), (6, .int (nI h)), (7, .ref q_76), (8, .ref q_112), (9, .ref q_123), (10, .int wv), (11, .int (nI (lchg w h nd T K 1))), (12, .int (nI (chgN w h nd T K (kc + 1))))]) hx hb dL_law_472 hl (k := 15) rfl (nI_1 kc) (by decide) rfl (fun ls hl => ?_)
                            refine lv_goto (tgt := 329) hx hb dL_law_475 (by decide) ?_
                            exact ih_329 (kc + 1) g_366 (by omega) (hg_366) _ _ _ hP hD hS (lv_sub hl [4, 5, 6, 7, 8, 9, 10, 11, 12, 13, 14, 15, 1, 0] rfl)
                    exact loop_329 (w * h) 0 g_300 (by omega) (hg_300) _ _ _ hP hD hS (lv_sub hl [5, 6, 7, 8, 9, 10, 11, 12, 13, 4, 3, 2, 1, 0] rfl)
                  · skip
                    have n_137 := zc_le_f (a := (w * h)) (b := k) (by omega) (by omega) c_137
                    exact absurd n_137 (by omega)
                | succ n ih_130 =>
                  intro k gA hkn hgA H locs ls hP hD hS hl
                  refine lv_iload hx hb dL_law_130 (lv_at hl 9 rfl) ?_
                  refine lv_iload hx hb dL_law_132 (lv_at hl 4 rfl) ?_
                  refine lv_iload hx hb dL_law_134 (lv_at hl 5 rfl) ?_
                  refine lv_imul hx hb dL_law_136 ?_
                  refine z_topi (y := nI (w * h)) (pk_mul w h) ?_
                  refine lv_icmp_ge (tgt := 292) hx hb dL_law_137 (by decide) (fun c_137 => ?_) (fun c_137 => ?_)
                  · skip
                    have n_137 := zc_le_t (a := (w * h)) (b := k) (by omega) (by omega) c_137
                    exact absurd n_137 (by omega)
                  · skip
                    have n_137 := zc_le_f (a := (w * h)) (b := k) (by omega) (by omega) c_137
                    have hkw : k < w * h := by omega
                    refine lv_aload hx hb dL_law_140 (lv_at hl 8 rfl) ?_
                    refine lv_iload hx hb dL_law_142 (lv_at hl 9 rfl) ?_
                    refine lv_aload_n hx hb dL_law_144 rfl (lv_at hl 1 rfl) ?_
                    refine lv_iload hx hb dL_law_145 (lv_at hl 9 rfl) ?_
                    refine lv_iload hx hb dL_law_147 (lv_at hl 4 rfl) ?_
                    refine lv_irem hx hb dL_law_149 (nI_ne0 (by omega) (by omega)) ?_
                    refine z_topi (y := nI (k % w)) (irem_nI (c := k) (w := w) (by omega) (by omega) (by omega)) ?_
                    refine lv_iload hx hb dL_law_150 (lv_at hl 9 rfl) ?_
                    refine lv_iload hx hb dL_law_152 (lv_at hl 4 rfl) ?_
                    refine lv_idiv hx hb dL_law_154 (nI_ne0 (by omega) (by omega)) ?_
                    refine z_topi (y := nI (k / w)) (idiv_nI (c := k) (w := w) (by omega) (by omega) (by omega)) ?_
                    obtain ⟨fs9, ho9⟩ := CT_obj hgA
                    refine s_callVi (As := [.int (nI (k % w)), .int (nI (k / w))]) (rest := [.int (nI k), .ref q_123]) F9 (k_colourAt l dC dI cI cZ cJ cD hgA gk h1 h4 hK4 (k % w) (k / w) (Nat.mod_lt _ (by omega)) (dk_lt hkw)) (cwV 2 hts gL_law_X1_colourAt rfl rfl rfl (by decide +kernel) ⟨Nat.le_of_ble_eq_true rfl, Nat.le_of_ble_eq_true rfl⟩) hK hN hP hD hS hA [0] [1, 2, 3, 4, 5, 6, 7, 8, 9] 10 rfl rfl (by decide) (fun (u : va_W) => ([u, [(m3, .inr (2, [.int (nI w), .int (nI h), .int (nI nd), .int wv, .ref mA, .ref tA]))], [(mA, .inl (cJ, w, .inr (.inr (.inr (.inr (gQ w rM))))))], gB w rM cI h (gM w K), [(tA, .inl (cD, w, .inr (.inr (.inr (.inr (gQ w rT))))))], gB w rT cZ h (gZ w T), [(q_76, .inl (cI, 5, .inl (tF (fun j => nI (ccN K j (w * h))) 5)))], [(q_112, .inl (cJ, (w * h), .inr (.inr (.inr (.inr (gQ (w * h) r_112))))))], gB (w * h) r_112 cI 5 (gF (fun a b => nI (cnbs w h K a b)) k 0), [(q_123, .inl (cI, (w * h), .inl (tF (fun b => nI (K b)) k)))]] : gW)) [0] [1, 2, 3, 4, 5, 6, 7, 8, 9] 10 (fun _ => rfl) (fun _ => rfl) (fun _ => rfl) (by decide) 0 0 (ci := 1) rfl ho9 rfl rfl rfl hl.1 rfl (Nat.le_of_ble_eq_true rfl) dL_law_155 ⟨by show 13309 + 300 * time + 269 + 0 ≤ 669352; omega, by show 66147 + 1500 * time + 1380 + 0 ≤ 7093412; omega⟩ (fun r_155 g_155 H locs hp_155 hP hD hS => ?_)
                    have hP : va_P (dC, dI) vwCl (List.flatten ([g_155, [(m3, .inr (2, [.int (nI w), .int (nI h), .int (nI nd), .int wv, .ref mA, .ref tA]))], [(mA, .inl (cJ, w, .inr (.inr (.inr (.inr (gQ w rM))))))], gB w rM cI h (gM w K), [(tA, .inl (cD, w, .inr (.inr (.inr (.inr (gQ w rT))))))], gB w rT cZ h (gZ w T), [(q_76, .inl (cI, 5, .inl (tF (fun j => nI (ccN K j (w * h))) 5)))], [(q_112, .inl (cJ, (w * h), .inr (.inr (.inr (.inr (gQ (w * h) r_112))))))], gB (w * h) r_112 cI 5 (gF (fun a b => nI (cnbs w h K a b)) k 0), [(q_123, .inl (cI, (w * h), .inl (tF (fun b => nI (K b)) k)))]] : gW)) H := hP
                    have hD : va_D A (List.flatten ([g_155, [(m3, .inr (2, [.int (nI w), .int (nI h), .int (nI nd), .int wv, .ref mA, .ref tA]))], [(mA, .inl (cJ, w, .inr (.inr (.inr (.inr (gQ w rM))))))], gB w rM cI h (gM w K), [(tA, .inl (cD, w, .inr (.inr (.inr (.inr (gQ w rT))))))], gB w rT cZ h (gZ w T), [(q_76, .inl (cI, 5, .inl (tF (fun j => nI (ccN K j (w * h))) 5)))], [(q_112, .inl (cJ, (w * h), .inr (.inr (.inr (.inr (gQ (w * h) r_112))))))], gB (w * h) r_112 cI 5 (gF (fun a b => nI (cnbs w h K a b)) k 0), [(q_123, .inl (cI, (w * h), .inl (tF (fun b => nI (K b)) k)))]] : gW)) := hD
                    obtain ⟨hp_155, hg_155⟩ := hp_155
                    have hg_155 : CT cI w h nd wv T K q_0 g_155 := hg_155
                    refine z_topi (y := nI (K (w * (k / w) + (k % w)))) (hp_155) ?_
                    refine z_topi (y := nI (K k)) (congrArg (fun z => nI (K z)) (Nat.div_add_mod k w)) ?_
                    refine s_iast hx hb hK hP hD hS 9 0 0 rfl rfl rfl k (rfl) (by omega) (by omega) dL_law_158 (fun H locs hP hD hS => ?_)
                    have hP : va_P (dC, dI) vwCl (List.flatten ([g_155, [(m3, .inr (2, [.int (nI w), .int (nI h), .int (nI nd), .int wv, .ref mA, .ref tA]))], [(mA, .inl (cJ, w, .inr (.inr (.inr (.inr (gQ w rM))))))], gB w rM cI h (gM w K), [(tA, .inl (cD, w, .inr (.inr (.inr (.inr (gQ w rT))))))], gB w rT cZ h (gZ w T), [(q_76, .inl (cI, 5, .inl (tF (fun j => nI (ccN K j (w * h))) 5)))], [(q_112, .inl (cJ, (w * h), .inr (.inr (.inr (.inr (gQ (w * h) r_112))))))], gB (w * h) r_112 cI 5 (gF (fun a b => nI (cnbs w h K a b)) k 0), [(q_123, .inl (cI, (w * h), .inl (upd (tF (fun b => nI (K b)) k) k (nI (K k)))))]] : gW)) H := hP
                    have hD : va_D A (List.flatten ([g_155, [(m3, .inr (2, [.int (nI w), .int (nI h), .int (nI nd), .int wv, .ref mA, .ref tA]))], [(mA, .inl (cJ, w, .inr (.inr (.inr (.inr (gQ w rM))))))], gB w rM cI h (gM w K), [(tA, .inl (cD, w, .inr (.inr (.inr (.inr (gQ w rT))))))], gB w rT cZ h (gZ w T), [(q_76, .inl (cI, 5, .inl (tF (fun j => nI (ccN K j (w * h))) 5)))], [(q_112, .inl (cJ, (w * h), .inr (.inr (.inr (.inr (gQ (w * h) r_112))))))], gB (w * h) r_112 cI 5 (gF (fun a b => nI (cnbs w h K a b)) k 0), [(q_123, .inl (cI, (w * h), .inl (upd (tF (fun b => nI (K b)) k) k (nI (K k)))))]] : gW)) := hD
                    have e_158 : upd (tF (fun b => nI (K b)) k) k (nI (K k)) = (tF (fun b => nI (K b)) (k + 1)) := tF_step (fun b => nI (K b)) k
                    rw [e_158] at hP hD
                    refine lv_iconst (v := 0) hx hb dL_law_159 (by decide) ?_
                    refine lv_istore (lv' := [(11, .int 0), (0, .ref b0), (1, .ref q_0), (2, .ref m3), (3, .int (nI time)), (5, .int (nI w)), (6, .int (nI h)), (7, .ref q_76), (8, .ref q_112), (9, .ref q_123), (10, .int (nI k))]) hx hb dL_law_160 hl (by decide) rfl (fun ls hl => ?_)
                    refine lv_iconst (v := 0) hx hb dL_law_162 (by decide) ?_
                    refine lv_istore (lv' := [(12, .int 0), (11, .int 0), (0, .ref b0), (1, .ref q_0), (2, .ref m3), (3, .int (nI time)), (5, .int (nI w)), (6, .int (nI h)), (7, .ref q_76), (8, .ref q_112), (9, .ref q_123), (10, .int (nI k))]) hx hb dL_law_163 hl (by decide) rfl (fun ls hl => ?_)
                    have loop_165 : ∀ (n : Nat) (co : Nat) (gC : va_W) (hkn : co + n = 5) (hgC : CT cI w h nd wv T K q_0 gC) (H : Heap) (locs : List Loc) (ls : Array Slot) (hP : va_P (dC, dI) vwCl (List.flatten ([gC, [(m3, .inr (2, [.int (nI w), .int (nI h), .int (nI nd), .int wv, .ref mA, .ref tA]))], [(mA, .inl (cJ, w, .inr (.inr (.inr (.inr (gQ w rM))))))], gB w rM cI h (gM w K), [(tA, .inl (cD, w, .inr (.inr (.inr (.inr (gQ w rT))))))], gB w rT cZ h (gZ w T), [(q_76, .inl (cI, 5, .inl (tF (fun j => nI (ccN K j (w * h))) 5)))], [(q_112, .inl (cJ, (w * h), .inr (.inr (.inr (.inr (gQ (w * h) r_112))))))], gB (w * h) r_112 cI 5 (gF (fun a b => nI (cnbs w h K a b)) k co), [(q_123, .inl (cI, (w * h), .inl (tF (fun b => nI (K b)) (k + 1))))]] : gW)) H) (hD : va_D A (List.flatten ([gC, [(m3, .inr (2, [.int (nI w), .int (nI h), .int (nI nd), .int wv, .ref mA, .ref tA]))], [(mA, .inl (cJ, w, .inr (.inr (.inr (.inr (gQ w rM))))))], gB w rM cI h (gM w K), [(tA, .inl (cD, w, .inr (.inr (.inr (.inr (gQ w rT))))))], gB w rT cZ h (gZ w T), [(q_76, .inl (cI, 5, .inl (tF (fun j => nI (ccN K j (w * h))) 5)))], [(q_112, .inl (cJ, (w * h), .inr (.inr (.inr (.inr (gQ (w * h) r_112))))))], gB (w * h) r_112 cI 5 (gF (fun a b => nI (cnbs w h K a b)) k co), [(q_123, .inl (cI, (w * h), .inl (tF (fun b => nI (K b)) (k + 1))))]] : gW))) (hS : va_S A s.heap H locs) (hl : lv_has ls 22 [(0, .ref b0), (1, .ref q_0), (2, .ref m3), (3, .int (nI time)), (5, .int (nI w)), (6, .int (nI h)), (7, .ref q_76), (8, .ref q_112), (9, .ref q_123), (10, .int (nI k)), (11, .int (nI (sN (cnbs w h K k) co))), (12, .int (nI co))]), W p l e rmL_law s m args below meth c H locs (13309 + 300 * time + 269) (66147 + 1500 * time + 1380) Q (F0 m 165 ls []) := by
                      intro n
                      induction n with
                      | zero =>
                        intro co gC hkn hgC H locs ls hP hD hS hl
                        refine lv_iload hx hb dL_law_165 (lv_at hl 11 rfl) ?_
                        refine lv_iconst (v := 5) hx hb dL_law_167 (by decide) ?_
                        refine lv_icmp_ge (tgt := 214) hx hb dL_law_168 (by decide) (fun c_168 => ?_) (fun c_168 => ?_)
                        · skip
                          have n_168 := zc_le_t (a := 5) (b := co) (by omega) (by omega) c_168
                          have hl9 := hl
                          have hP9 := hP
                          have hD9 := hD
                          have hS9 := hS
                          obtain rfl : 5 = co := by omega
                          have hl := hl9
                          have hP := hP9
                          have hD := hD9
                          have hS := hS9
                          have hxk : k % w < w := Nat.mod_lt _ (by omega)
                          have hyk : k / w < h := dk_lt hkw
                          refine lv_iload hx hb dL_law_214 (lv_at hl 9 rfl) ?_
                          refine lv_iload hx hb dL_law_216 (lv_at hl 4 rfl) ?_
                          refine lv_irem hx hb dL_law_218 (nI_ne0 (by omega) (by omega)) ?_
                          refine z_topi (y := nI (k % w)) (irem_nI (c := k) (w := w) (by omega) (by omega) (by omega)) ?_
                          refine lv_istore (lv' := [(12, .int (nI (k % w))), (0, .ref b0), (1, .ref q_0), (2, .ref m3), (3, .int (nI time)), (5, .int (nI w)), (6, .int (nI h)), (7, .ref q_76), (8, .ref q_112), (9, .ref q_123), (10, .int (nI k)), (11, .int (nI (sN (cnbs w h K k) 5)))]) hx hb dL_law_219 hl (by decide) rfl (fun ls hl => ?_)
                          refine lv_iload hx hb dL_law_221 (lv_at hl 10 rfl) ?_
                          refine lv_iload hx hb dL_law_223 (lv_at hl 5 rfl) ?_
                          refine lv_idiv hx hb dL_law_225 (nI_ne0 (by omega) (by omega)) ?_
                          refine z_topi (y := nI (k / w)) (idiv_nI (c := k) (w := w) (by omega) (by omega) (by omega)) ?_
                          refine lv_istore (lv' := [(13, .int (nI (k / w))), (12, .int (nI (k % w))), (0, .ref b0), (1, .ref q_0), (2, .ref m3), (3, .int (nI time)), (5, .int (nI w)), (6, .int (nI h)), (7, .ref q_76), (8, .ref q_112), (9, .ref q_123), (10, .int (nI k)), (11, .int (nI (sN (cnbs w h K k) 5)))]) hx hb dL_law_226 hl (by decide) rfl (fun ls hl => ?_)
                          refine lv_iload hx hb dL_law_228 (lv_at hl 12 rfl) ?_
                          refine lv_iload hx hb dL_law_230 (lv_at hl 1 rfl) ?_
                          suffices j_240 : ∀ v_240 : Int32, v_240 = (nI (bN (decide (0 < k % w)))) → W p l e rmL_law s m args below meth c H locs (13309 + 300 * time + 269) (66147 + 1500 * time + 1380) Q (F0 m 240 ls [.int v_240, .int (nI (sN (cnbs w h K k) 5))]) by
                            refine lv_if_le (tgt := 239) hx hb dL_law_232 (by decide) (fun c_232 => ?_) (fun c_232 => ?_)
                            · skip
                              have n_232 := zc_le_t (a := (k % w)) (b := 0) (by omega) (by omega) c_232
                              refine lv_iconst (v := 0) hx hb dL_law_239 (by decide) ?_
                              exact j_240 _ (by rw [decide_eq_false (show ¬ 0 < k % w by omega)]; rfl)
                            · skip
                              have n_232 := zc_le_f (a := (k % w)) (b := 0) (by omega) (by omega) c_232
                              refine lv_iconst (v := 1) hx hb dL_law_235 (by decide) ?_
                              refine lv_goto (tgt := 240) hx hb dL_law_236 (by decide) ?_
                              exact j_240 _ (by rw [decide_eq_true (show 0 < k % w by omega)]; rfl)
                          intro v_240 h_v_240
                          rw [h_v_240]
                          refine lv_iload hx hb dL_law_240 (lv_at hl 1 rfl) ?_
                          refine lv_iload hx hb dL_law_242 (lv_at hl 6 rfl) ?_
                          refine lv_iconst (v := 1) hx hb dL_law_244 (by decide) ?_
                          refine lv_isub hx hb dL_law_245 ?_
                          refine z_topi (y := nI (w - 1)) (pk_sub (a := w) (b := 1) (by omega)) ?_
                          suffices j_254 : ∀ v_254 : Int32, v_254 = (nI (bN (decide (k % w < w - 1)))) → W p l e rmL_law s m args below meth c H locs (13309 + 300 * time + 269) (66147 + 1500 * time + 1380) Q (F0 m 254 ls [.int v_254, .int (nI (bN (decide (0 < k % w)))), .int (nI (sN (cnbs w h K k) 5))]) by
                            refine lv_icmp_ge (tgt := 253) hx hb dL_law_246 (by decide) (fun c_246 => ?_) (fun c_246 => ?_)
                            · skip
                              have n_246 := zc_le_t (a := (w - 1)) (b := (k % w)) (by omega) (by omega) c_246
                              refine lv_iconst (v := 0) hx hb dL_law_253 (by decide) ?_
                              exact j_254 _ (by rw [decide_eq_false (show ¬ k % w < w - 1 by omega)]; rfl)
                            · skip
                              have n_246 := zc_le_f (a := (w - 1)) (b := (k % w)) (by omega) (by omega) c_246
                              refine lv_iconst (v := 1) hx hb dL_law_249 (by decide) ?_
                              refine lv_goto (tgt := 254) hx hb dL_law_250 (by decide) ?_
                              exact j_254 _ (by rw [decide_eq_true (show k % w < w - 1 by omega)]; rfl)
                          intro v_254 h_v_254
                          rw [h_v_254]
                          refine lv_iadd hx hb dL_law_254 ?_
                          refine z_topi (y := nI ((bN (decide (0 < k % w))) + (bN (decide (k % w < w - 1))))) (nI_add (bN (decide (0 < k % w))) (bN (decide (k % w < w - 1)))) ?_
                          refine lv_iload hx hb dL_law_255 (lv_at hl 0 rfl) ?_
                          suffices j_265 : ∀ v_265 : Int32, v_265 = (nI (bN (decide (0 < k / w)))) → W p l e rmL_law s m args below meth c H locs (13309 + 300 * time + 269) (66147 + 1500 * time + 1380) Q (F0 m 265 ls [.int v_265, .int (nI ((bN (decide (0 < k % w))) + (bN (decide (k % w < w - 1))))), .int (nI (sN (cnbs w h K k) 5))]) by
                            refine lv_if_le (tgt := 264) hx hb dL_law_257 (by decide) (fun c_257 => ?_) (fun c_257 => ?_)
                            · skip
                              have n_257 := zc_le_t (a := (k / w)) (b := 0) (by omega) (by omega) c_257
                              refine lv_iconst (v := 0) hx hb dL_law_264 (by decide) ?_
                              exact j_265 _ (by rw [decide_eq_false (show ¬ 0 < k / w by omega)]; rfl)
                            · skip
                              have n_257 := zc_le_f (a := (k / w)) (b := 0) (by omega) (by omega) c_257
                              refine lv_iconst (v := 1) hx hb dL_law_260 (by decide) ?_
                              refine lv_goto (tgt := 265) hx hb dL_law_261 (by decide) ?_
                              exact j_265 _ (by rw [decide_eq_true (show 0 < k / w by omega)]; rfl)
                          intro v_265 h_v_265
                          rw [h_v_265]
                          refine lv_iadd hx hb dL_law_265 ?_
                          refine z_topi (y := nI (((bN (decide (0 < k % w))) + (bN (decide (k % w < w - 1)))) + (bN (decide (0 < k / w))))) (nI_add ((bN (decide (0 < k % w))) + (bN (decide (k % w < w - 1)))) (bN (decide (0 < k / w)))) ?_
                          refine lv_iload hx hb dL_law_266 (lv_at hl 0 rfl) ?_
                          refine lv_iload hx hb dL_law_268 (lv_at hl 7 rfl) ?_
                          refine lv_iconst (v := 1) hx hb dL_law_270 (by decide) ?_
                          refine lv_isub hx hb dL_law_271 ?_
                          refine z_topi (y := nI (h - 1)) (pk_sub (a := h) (b := 1) (by omega)) ?_
                          suffices j_280 : ∀ v_280 : Int32, v_280 = (nI (bN (decide (k / w < h - 1)))) → W p l e rmL_law s m args below meth c H locs (13309 + 300 * time + 269) (66147 + 1500 * time + 1380) Q (F0 m 280 ls [.int v_280, .int (nI (((bN (decide (0 < k % w))) + (bN (decide (k % w < w - 1)))) + (bN (decide (0 < k / w))))), .int (nI (sN (cnbs w h K k) 5))]) by
                            refine lv_icmp_ge (tgt := 279) hx hb dL_law_272 (by decide) (fun c_272 => ?_) (fun c_272 => ?_)
                            · skip
                              have n_272 := zc_le_t (a := (h - 1)) (b := (k / w)) (by omega) (by omega) c_272
                              refine lv_iconst (v := 0) hx hb dL_law_279 (by decide) ?_
                              exact j_280 _ (by rw [decide_eq_false (show ¬ k / w < h - 1 by omega)]; rfl)
                            · skip
                              have n_272 := zc_le_f (a := (h - 1)) (b := (k / w)) (by omega) (by omega) c_272
                              refine lv_iconst (v := 1) hx hb dL_law_275 (by decide) ?_
                              refine lv_goto (tgt := 280) hx hb dL_law_276 (by decide) ?_
                              exact j_280 _ (by rw [decide_eq_true (show k / w < h - 1 by omega)]; rfl)
                          intro v_280 h_v_280
                          rw [h_v_280]
                          refine lv_iadd hx hb dL_law_280 ?_
                          refine z_topi (y := nI ((((bN (decide (0 < k % w))) + (bN (decide (k % w < w - 1)))) + (bN (decide (0 < k / w)))) + (bN (decide (k / w < h - 1))))) (nI_add (((bN (decide (0 < k % w))) + (bN (decide (k % w < w - 1)))) + (bN (decide (0 < k / w)))) (bN (decide (k / w < h - 1)))) ?_
                          refine lv_icmp_eq (tgt := 286) hx hb dL_law_281 (by decide) (fun c_281 => ?_) (fun c_281 => ?_)
                          · skip
                            refine lv_iinc (v := nI (k + 1)) (lv' := [(10, .int (nI (k + 1))), (13, .int (nI (k / w))), (12, .int (nI (k % w))), (0, .ref b0), (1, .ref q_0), (2, .ref m3), (3, .int (nI time)), (5, .int (nI w)), (6, .int (nI h)), (7, .ref q_76), (8, .ref q_112), (9, .ref q_123), (11, .int (nI (sN (cnbs w h K k) 5)))]) hx hb dL_law_286 hl (k := 11) rfl (nI_1 k) (by decide) rfl (fun ls hl => ?_)
                            refine lv_goto (tgt := 130) hx hb dL_law_289 (by decide) ?_
                            obtain ⟨hP, hD⟩ := sg_ren hP hD 8 rfl (M2 := (gF (fun a b => nI (cnbs w h K a b)) (k + 1) 0)) (fun i j hi hj => gF_row _ _ _ hj)
                            have hP : va_P (dC, dI) vwCl (List.flatten ([gC, [(m3, .inr (2, [.int (nI w), .int (nI h), .int (nI nd), .int wv, .ref mA, .ref tA]))], [(mA, .inl (cJ, w, .inr (.inr (.inr (.inr (gQ w rM))))))], gB w rM cI h (gM w K), [(tA, .inl (cD, w, .inr (.inr (.inr (.inr (gQ w rT))))))], gB w rT cZ h (gZ w T), [(q_76, .inl (cI, 5, .inl (tF (fun j => nI (ccN K j (w * h))) 5)))], [(q_112, .inl (cJ, (w * h), .inr (.inr (.inr (.inr (gQ (w * h) r_112))))))], gB (w * h) r_112 cI 5 (gF (fun a b => nI (cnbs w h K a b)) (k + 1) 0), [(q_123, .inl (cI, (w * h), .inl (tF (fun b => nI (K b)) (k + 1))))]] : gW)) H := hP
                            have hD : va_D A (List.flatten ([gC, [(m3, .inr (2, [.int (nI w), .int (nI h), .int (nI nd), .int wv, .ref mA, .ref tA]))], [(mA, .inl (cJ, w, .inr (.inr (.inr (.inr (gQ w rM))))))], gB w rM cI h (gM w K), [(tA, .inl (cD, w, .inr (.inr (.inr (.inr (gQ w rT))))))], gB w rT cZ h (gZ w T), [(q_76, .inl (cI, 5, .inl (tF (fun j => nI (ccN K j (w * h))) 5)))], [(q_112, .inl (cJ, (w * h), .inr (.inr (.inr (.inr (gQ (w * h) r_112))))))], gB (w * h) r_112 cI 5 (gF (fun a b => nI (cnbs w h K a b)) (k + 1) 0), [(q_123, .inl (cI, (w * h), .inl (tF (fun b => nI (K b)) (k + 1))))]] : gW)) := hD
                            exact ih_130 (k + 1) gC (by omega) (hgC) _ _ _ hP hD hS (lv_sub hl [3, 4, 5, 6, 7, 8, 9, 10, 11, 0] rfl)
                          · skip
                            exact absurd (congrArg nI (side_k (h := h) hK4 (by omega) k).symm) c_281
                        · skip
                          have n_168 := zc_le_f (a := 5) (b := co) (by omega) (by omega) c_168
                          exact absurd n_168 (by omega)
                      | succ n ih_165 =>
                        intro co gC hkn hgC H locs ls hP hD hS hl
                        refine lv_iload hx hb dL_law_165 (lv_at hl 11 rfl) ?_
                        refine lv_iconst (v := 5) hx hb dL_law_167 (by decide) ?_
                        refine lv_icmp_ge (tgt := 214) hx hb dL_law_168 (by decide) (fun c_168 => ?_) (fun c_168 => ?_)
                        · skip
                          have n_168 := zc_le_t (a := 5) (b := co) (by omega) (by omega) c_168
                          exact absurd n_168 (by omega)
                        · skip
                          have n_168 := zc_le_f (a := 5) (b := co) (by omega) (by omega) c_168
                          refine lv_aload hx hb dL_law_171 (lv_at hl 7 rfl) ?_
                          refine lv_iload hx hb dL_law_173 (lv_at hl 9 rfl) ?_
                          refine s_qald hx hb hK hP 7 2 rfl rfl rfl k (rfl) (by omega) (by omega) dL_law_175 ?_
                          refine lv_iload hx hb dL_law_176 (lv_at hl 11 rfl) ?_
                          refine lv_aload_n hx hb dL_law_178 rfl (lv_at hl 1 rfl) ?_
                          refine lv_iload hx hb dL_law_179 (lv_at hl 9 rfl) ?_
                          refine lv_iload hx hb dL_law_181 (lv_at hl 4 rfl) ?_
                          refine lv_irem hx hb dL_law_183 (nI_ne0 (by omega) (by omega)) ?_
                          refine z_topi (y := nI (k % w)) (irem_nI (c := k) (w := w) (by omega) (by omega) (by omega)) ?_
                          refine lv_iload hx hb dL_law_184 (lv_at hl 9 rfl) ?_
                          refine lv_iload hx hb dL_law_186 (lv_at hl 4 rfl) ?_
                          refine lv_idiv hx hb dL_law_188 (nI_ne0 (by omega) (by omega)) ?_
                          refine z_topi (y := nI (k / w)) (idiv_nI (c := k) (w := w) (by omega) (by omega) (by omega)) ?_
                          refine lv_iload hx hb dL_law_189 (lv_at hl 11 rfl) ?_
                          obtain ⟨fs9, ho9⟩ := CT_obj hgC
                          refine s_callVi (As := [.int (nI (k % w)), .int (nI (k / w)), .int (nI co)]) (rest := [.int (nI co), .ref (r_112 k)]) F9 (k_neighboursWith l dC dI cI cZ cJ cD hgC gk h1 h4 hK4 (k % w) (k / w) (Nat.mod_lt _ (by omega)) (dk_lt hkw) co (by omega)) (cwV 3 hts gL_law_X1_neighboursWith rfl rfl rfl (by decide +kernel) ⟨Nat.le_of_ble_eq_true rfl, Nat.le_of_ble_eq_true rfl⟩) hK hN hP hD hS hA [0] [1, 2, 3, 4, 5, 6, 7, 8, 9] 10 rfl rfl (by decide) (fun (u : va_W) => ([u, [(m3, .inr (2, [.int (nI w), .int (nI h), .int (nI nd), .int wv, .ref mA, .ref tA]))], [(mA, .inl (cJ, w, .inr (.inr (.inr (.inr (gQ w rM))))))], gB w rM cI h (gM w K), [(tA, .inl (cD, w, .inr (.inr (.inr (.inr (gQ w rT))))))], gB w rT cZ h (gZ w T), [(q_76, .inl (cI, 5, .inl (tF (fun j => nI (ccN K j (w * h))) 5)))], [(q_112, .inl (cJ, (w * h), .inr (.inr (.inr (.inr (gQ (w * h) r_112))))))], gB (w * h) r_112 cI 5 (gF (fun a b => nI (cnbs w h K a b)) k co), [(q_123, .inl (cI, (w * h), .inl (tF (fun b => nI (K b)) (k + 1))))]] : gW)) [0] [1, 2, 3, 4, 5, 6, 7, 8, 9] 10 (fun _ => rfl) (fun _ => rfl) (fun _ => rfl) (by decide) 0 0 (ci := 1) rfl ho9 rfl rfl rfl hl.1 rfl (Nat.le_of_ble_eq_true rfl) dL_law_191 ⟨by show 13309 + 300 * time + 269 + 0 ≤ 669352; omega, by show 66147 + 1500 * time + 1380 + 0 ≤ 7093412; omega⟩ (fun r_191 g_191 H locs hp_191 hP hD hS => ?_)
                          have hP : va_P (dC, dI) vwCl (List.flatten ([g_191, [(m3, .inr (2, [.int (nI w), .int (nI h), .int (nI nd), .int wv, .ref mA, .ref tA]))], [(mA, .inl (cJ, w, .inr (.inr (.inr (.inr (gQ w rM))))))], gB w rM cI h (gM w K), [(tA, .inl (cD, w, .inr (.inr (.inr (.inr (gQ w rT))))))], gB w rT cZ h (gZ w T), [(q_76, .inl (cI, 5, .inl (tF (fun j => nI (ccN K j (w * h))) 5)))], [(q_112, .inl (cJ, (w * h), .inr (.inr (.inr (.inr (gQ (w * h) r_112))))))], gB (w * h) r_112 cI 5 (gF (fun a b => nI (cnbs w h K a b)) k co), [(q_123, .inl (cI, (w * h), .inl (tF (fun b => nI (K b)) (k + 1))))]] : gW)) H := hP
                          have hD : va_D A (List.flatten ([g_191, [(m3, .inr (2, [.int (nI w), .int (nI h), .int (nI nd), .int wv, .ref mA, .ref tA]))], [(mA, .inl (cJ, w, .inr (.inr (.inr (.inr (gQ w rM))))))], gB w rM cI h (gM w K), [(tA, .inl (cD, w, .inr (.inr (.inr (.inr (gQ w rT))))))], gB w rT cZ h (gZ w T), [(q_76, .inl (cI, 5, .inl (tF (fun j => nI (ccN K j (w * h))) 5)))], [(q_112, .inl (cJ, (w * h), .inr (.inr (.inr (.inr (gQ (w * h) r_112))))))], gB (w * h) r_112 cI 5 (gF (fun a b => nI (cnbs w h K a b)) k co), [(q_123, .inl (cI, (w * h), .inl (tF (fun b => nI (K b)) (k + 1))))]] : gW)) := hD
                          obtain ⟨hp_191, hg_191⟩ := hp_191
                          have hg_191 : CT cI w h nd wv T K q_0 g_191 := hg_191
                          refine z_topi (y := nI (cnbs w h K (w * (k / w) + (k % w)) co)) (hp_191) ?_
                          refine z_topi (y := nI (cnbs w h K k co)) (congrArg (fun z => nI (cnbs w h K z co)) (Nat.div_add_mod k w)) ?_
                          refine s_gast hx hb hK hP hD hS 8 0 k rfl (by omega) rfl co (rfl) (by omega) (by omega) dL_law_194 (fun H locs hP hD hS => ?_)
                          have hP : va_P (dC, dI) vwCl (List.flatten ([g_191, [(m3, .inr (2, [.int (nI w), .int (nI h), .int (nI nd), .int wv, .ref mA, .ref tA]))], [(mA, .inl (cJ, w, .inr (.inr (.inr (.inr (gQ w rM))))))], gB w rM cI h (gM w K), [(tA, .inl (cD, w, .inr (.inr (.inr (.inr (gQ w rT))))))], gB w rT cZ h (gZ w T), [(q_76, .inl (cI, 5, .inl (tF (fun j => nI (ccN K j (w * h))) 5)))], [(q_112, .inl (cJ, (w * h), .inr (.inr (.inr (.inr (gQ (w * h) r_112))))))], gB (w * h) r_112 cI 5 (gU (gF (fun a b => nI (cnbs w h K a b)) k co) k co (nI (cnbs w h K k co))), [(q_123, .inl (cI, (w * h), .inl (tF (fun b => nI (K b)) (k + 1))))]] : gW)) H := hP
                          have hD : va_D A (List.flatten ([g_191, [(m3, .inr (2, [.int (nI w), .int (nI h), .int (nI nd), .int wv, .ref mA, .ref tA]))], [(mA, .inl (cJ, w, .inr (.inr (.inr (.inr (gQ w rM))))))], gB w rM cI h (gM w K), [(tA, .inl (cD, w, .inr (.inr (.inr (.inr (gQ w rT))))))], gB w rT cZ h (gZ w T), [(q_76, .inl (cI, 5, .inl (tF (fun j => nI (ccN K j (w * h))) 5)))], [(q_112, .inl (cJ, (w * h), .inr (.inr (.inr (.inr (gQ (w * h) r_112))))))], gB (w * h) r_112 cI 5 (gU (gF (fun a b => nI (cnbs w h K a b)) k co) k co (nI (cnbs w h K k co))), [(q_123, .inl (cI, (w * h), .inl (tF (fun b => nI (K b)) (k + 1))))]] : gW)) := hD
                          obtain ⟨hP, hD⟩ := sg_ren hP hD 8 rfl (M2 := (gF (fun a b => nI (cnbs w h K a b)) k (co + 1))) (fun i j hi hj => congrFun (congrFun (gF_step (fun a b => nI (cnbs w h K a b)) k co) i) j)
                          have hP : va_P (dC, dI) vwCl (List.flatten ([g_191, [(m3, .inr (2, [.int (nI w), .int (nI h), .int (nI nd), .int wv, .ref mA, .ref tA]))], [(mA, .inl (cJ, w, .inr (.inr (.inr (.inr (gQ w rM))))))], gB w rM cI h (gM w K), [(tA, .inl (cD, w, .inr (.inr (.inr (.inr (gQ w rT))))))], gB w rT cZ h (gZ w T), [(q_76, .inl (cI, 5, .inl (tF (fun j => nI (ccN K j (w * h))) 5)))], [(q_112, .inl (cJ, (w * h), .inr (.inr (.inr (.inr (gQ (w * h) r_112))))))], gB (w * h) r_112 cI 5 (gF (fun a b => nI (cnbs w h K a b)) k (co + 1)), [(q_123, .inl (cI, (w * h), .inl (tF (fun b => nI (K b)) (k + 1))))]] : gW)) H := hP
                          have hD : va_D A (List.flatten ([g_191, [(m3, .inr (2, [.int (nI w), .int (nI h), .int (nI nd), .int wv, .ref mA, .ref tA]))], [(mA, .inl (cJ, w, .inr (.inr (.inr (.inr (gQ w rM))))))], gB w rM cI h (gM w K), [(tA, .inl (cD, w, .inr (.inr (.inr (.inr (gQ w rT))))))], gB w rT cZ h (gZ w T), [(q_76, .inl (cI, 5, .inl (tF (fun j => nI (ccN K j (w * h))) 5)))], [(q_112, .inl (cJ, (w * h), .inr (.inr (.inr (.inr (gQ (w * h) r_112))))))], gB (w * h) r_112 cI 5 (gF (fun a b => nI (cnbs w h K a b)) k (co + 1)), [(q_123, .inl (cI, (w * h), .inl (tF (fun b => nI (K b)) (k + 1))))]] : gW)) := hD
                          refine lv_iload hx hb dL_law_195 (lv_at hl 10 rfl) ?_
                          refine lv_aload hx hb dL_law_197 (lv_at hl 7 rfl) ?_
                          refine lv_iload hx hb dL_law_199 (lv_at hl 9 rfl) ?_
                          refine s_qald hx hb hK hP 7 2 rfl rfl rfl k (rfl) (by omega) (by omega) dL_law_201 ?_
                          refine lv_iload hx hb dL_law_202 (lv_at hl 11 rfl) ?_
                          refine s_gald hx hb hK hP 8 0 k rfl (by omega) rfl co (rfl) (by omega) (by omega) dL_law_204 ?_
                          refine z_topi (y := nI (cnbs w h K k co)) (gF_at (fun a b => nI (cnbs w h K a b)) k co) ?_
                          refine lv_iadd hx hb dL_law_205 ?_
                          refine z_topi (y := nI (sN (cnbs w h K k) (co + 1))) (nI_add _ _) ?_
                          refine lv_istore (lv' := [(11, .int (nI (sN (cnbs w h K k) (co + 1)))), (0, .ref b0), (1, .ref q_0), (2, .ref m3), (3, .int (nI time)), (5, .int (nI w)), (6, .int (nI h)), (7, .ref q_76), (8, .ref q_112), (9, .ref q_123), (10, .int (nI k)), (12, .int (nI co))]) hx hb dL_law_206 hl (by decide) rfl (fun ls hl => ?_)
                          refine lv_iinc (v := nI (co + 1)) (lv' := [(12, .int (nI (co + 1))), (11, .int (nI (sN (cnbs w h K k) (co + 1)))), (0, .ref b0), (1, .ref q_0), (2, .ref m3), (3, .int (nI time)), (5, .int (nI w)), (6, .int (nI h)), (7, .ref q_76), (8, .ref q_112), (9, .ref q_123), (10, .int (nI k))]) hx hb dL_law_208 hl (k := 11) rfl (nI_1 co) (by decide) rfl (fun ls hl => ?_)
                          refine lv_goto (tgt := 165) hx hb dL_law_211 (by decide) ?_
                          exact ih_165 (co + 1) g_191 (by omega) (hg_191) _ _ _ hP hD hS (lv_sub hl [2, 3, 4, 5, 6, 7, 8, 9, 10, 11, 1, 0] rfl)
                    exact loop_165 5 0 g_155 (by omega) (hg_155) _ _ _ hP hD hS (lv_sub hl [2, 3, 4, 5, 6, 7, 8, 9, 10, 11, 1, 0] rfl)
              rw [show (fun _ => (0 : Int32)) = tF (fun b => nI (K b)) 0 from tF_0 _] at hP hD
              obtain ⟨hP, hD⟩ := sg_ren hP hD 8 rfl (M2 := (gF (fun a b => nI (cnbs w h K a b)) 0 0)) (fun i j hi hj => congrFun (congrFun (gF_0 (fun a b => nI (cnbs w h K a b))) i) j)
              have hP : va_P (dC, dI) vwCl (List.flatten ([gA, [(m3, .inr (2, [.int (nI w), .int (nI h), .int (nI nd), .int wv, .ref mA, .ref tA]))], [(mA, .inl (cJ, w, .inr (.inr (.inr (.inr (gQ w rM))))))], gB w rM cI h (gM w K), [(tA, .inl (cD, w, .inr (.inr (.inr (.inr (gQ w rT))))))], gB w rT cZ h (gZ w T), [(q_76, .inl (cI, 5, .inl (tF (fun j => nI (ccN K j (w * h))) 5)))], [(q_112, .inl (cJ, (w * h), .inr (.inr (.inr (.inr (gQ (w * h) r_112))))))], gB (w * h) r_112 cI 5 (gF (fun a b => nI (cnbs w h K a b)) 0 0), [(q_123, .inl (cI, (w * h), .inl (tF (fun b => nI (K b)) 0)))]] : gW)) H := hP
              have hD : va_D A (List.flatten ([gA, [(m3, .inr (2, [.int (nI w), .int (nI h), .int (nI nd), .int wv, .ref mA, .ref tA]))], [(mA, .inl (cJ, w, .inr (.inr (.inr (.inr (gQ w rM))))))], gB w rM cI h (gM w K), [(tA, .inl (cD, w, .inr (.inr (.inr (.inr (gQ w rT))))))], gB w rT cZ h (gZ w T), [(q_76, .inl (cI, 5, .inl (tF (fun j => nI (ccN K j (w * h))) 5)))], [(q_112, .inl (cJ, (w * h), .inr (.inr (.inr (.inr (gQ (w * h) r_112))))))], gB (w * h) r_112 cI 5 (gF (fun a b => nI (cnbs w h K a b)) 0 0), [(q_123, .inl (cI, (w * h), .inl (tF (fun b => nI (K b)) 0)))]] : gW)) := hD
              exact loop_130 (w * h) 0 gA (by omega) (hgA) _ _ _ hP hD hS (lv_sub hl [3, 4, 5, 6, 7, 8, 9, 2, 1, 0] rfl)
            · skip
              have n_86 := zc_le_f (a := 5) (b := ii) (by omega) (by omega) c_86
              exact absurd n_86 (by omega)
          | succ n ih_83 =>
            intro ii gA hkn hgA H locs ls hP hD hS hl
            refine lv_iload hx hb dL_law_83 (lv_at hl 7 rfl) ?_
            refine lv_iconst (v := 5) hx hb dL_law_85 (by decide) ?_
            refine lv_icmp_ge (tgt := 106) hx hb dL_law_86 (by decide) (fun c_86 => ?_) (fun c_86 => ?_)
            · skip
              have n_86 := zc_le_t (a := 5) (b := ii) (by omega) (by omega) c_86
              exact absurd n_86 (by omega)
            · skip
              have n_86 := zc_le_f (a := 5) (b := ii) (by omega) (by omega) c_86
              refine lv_aload hx hb dL_law_89 (lv_at hl 6 rfl) ?_
              refine lv_iload hx hb dL_law_91 (lv_at hl 7 rfl) ?_
              refine lv_aload_n hx hb dL_law_93 rfl (lv_at hl 1 rfl) ?_
              refine lv_iload hx hb dL_law_94 (lv_at hl 7 rfl) ?_
              obtain ⟨fs9, ho9⟩ := CT_obj hgA
              refine s_callVi (As := [.int (nI ii)]) (rest := [.int (nI ii), .ref q_76]) F9 (k_cellsOf l dC dI cI cZ cJ cD hgA gk h1 h4 hK4 ii (by omega)) (cwV 1 hts gL_law_X1_cellsOf rfl rfl rfl (by decide +kernel) ⟨Nat.le_of_ble_eq_true rfl, Nat.le_of_ble_eq_true rfl⟩) hK hN hP hD hS hA [0] [1, 2, 3, 4, 5, 6] 7 rfl rfl (by decide) (fun (u : va_W) => ([u, [(m3, .inr (2, [.int (nI w), .int (nI h), .int (nI nd), .int wv, .ref mA, .ref tA]))], [(mA, .inl (cJ, w, .inr (.inr (.inr (.inr (gQ w rM))))))], gB w rM cI h (gM w K), [(tA, .inl (cD, w, .inr (.inr (.inr (.inr (gQ w rT))))))], gB w rT cZ h (gZ w T), [(q_76, .inl (cI, 5, .inl (tF (fun j => nI (ccN K j (w * h))) ii)))]] : gW)) [0] [1, 2, 3, 4, 5, 6] 7 (fun _ => rfl) (fun _ => rfl) (fun _ => rfl) (by decide) 0 0 (ci := 1) rfl ho9 rfl rfl rfl hl.1 rfl (Nat.le_of_ble_eq_true rfl) dL_law_96 ⟨by show 13309 + 300 * time + 241 + 0 ≤ 669352; omega, by show 66147 + 1500 * time + 1205 + 0 ≤ 7093412; omega⟩ (fun r_96 g_96 H locs hp_96 hP hD hS => ?_)
              have hP : va_P (dC, dI) vwCl (List.flatten ([g_96, [(m3, .inr (2, [.int (nI w), .int (nI h), .int (nI nd), .int wv, .ref mA, .ref tA]))], [(mA, .inl (cJ, w, .inr (.inr (.inr (.inr (gQ w rM))))))], gB w rM cI h (gM w K), [(tA, .inl (cD, w, .inr (.inr (.inr (.inr (gQ w rT))))))], gB w rT cZ h (gZ w T), [(q_76, .inl (cI, 5, .inl (tF (fun j => nI (ccN K j (w * h))) ii)))]] : gW)) H := hP
              have hD : va_D A (List.flatten ([g_96, [(m3, .inr (2, [.int (nI w), .int (nI h), .int (nI nd), .int wv, .ref mA, .ref tA]))], [(mA, .inl (cJ, w, .inr (.inr (.inr (.inr (gQ w rM))))))], gB w rM cI h (gM w K), [(tA, .inl (cD, w, .inr (.inr (.inr (.inr (gQ w rT))))))], gB w rT cZ h (gZ w T), [(q_76, .inl (cI, 5, .inl (tF (fun j => nI (ccN K j (w * h))) ii)))]] : gW)) := hD
              obtain ⟨hp_96, hg_96⟩ := hp_96
              have hg_96 : CT cI w h nd wv T K q_0 g_96 := hg_96
              refine z_topi (y := nI (ccN K ii (w * h))) (hp_96) ?_
              refine s_iast hx hb hK hP hD hS 6 0 0 rfl rfl rfl ii (rfl) (by omega) (by omega) dL_law_99 (fun H locs hP hD hS => ?_)
              have hP : va_P (dC, dI) vwCl (List.flatten ([g_96, [(m3, .inr (2, [.int (nI w), .int (nI h), .int (nI nd), .int wv, .ref mA, .ref tA]))], [(mA, .inl (cJ, w, .inr (.inr (.inr (.inr (gQ w rM))))))], gB w rM cI h (gM w K), [(tA, .inl (cD, w, .inr (.inr (.inr (.inr (gQ w rT))))))], gB w rT cZ h (gZ w T), [(q_76, .inl (cI, 5, .inl (upd (tF (fun j => nI (ccN K j (w * h))) ii) ii (nI (ccN K ii (w * h))))))]] : gW)) H := hP
              have hD : va_D A (List.flatten ([g_96, [(m3, .inr (2, [.int (nI w), .int (nI h), .int (nI nd), .int wv, .ref mA, .ref tA]))], [(mA, .inl (cJ, w, .inr (.inr (.inr (.inr (gQ w rM))))))], gB w rM cI h (gM w K), [(tA, .inl (cD, w, .inr (.inr (.inr (.inr (gQ w rT))))))], gB w rT cZ h (gZ w T), [(q_76, .inl (cI, 5, .inl (upd (tF (fun j => nI (ccN K j (w * h))) ii) ii (nI (ccN K ii (w * h))))))]] : gW)) := hD
              have e_99 : upd (tF (fun j => nI (ccN K j (w * h))) ii) ii (nI (ccN K ii (w * h))) = (tF (fun j => nI (ccN K j (w * h))) (ii + 1)) := tF_step (fun j => nI (ccN K j (w * h))) ii
              rw [e_99] at hP hD
              refine lv_iinc (v := nI (ii + 1)) (lv' := [(8, .int (nI (ii + 1))), (0, .ref b0), (1, .ref q_0), (2, .ref m3), (3, .int (nI time)), (5, .int (nI w)), (6, .int (nI h)), (7, .ref q_76)]) hx hb dL_law_100 hl (k := 7) rfl (nI_1 ii) (by decide) rfl (fun ls hl => ?_)
              refine lv_goto (tgt := 83) hx hb dL_law_103 (by decide) ?_
              exact ih_83 (ii + 1) g_96 (by omega) (hg_96) _ _ _ hP hD hS (lv_sub hl [1, 2, 3, 4, 5, 6, 7, 0] rfl)
        rw [show (fun _ => (0 : Int32)) = tF (fun j => nI (ccN K j (w * h))) 0 from tF_0 _] at hP hD
        exact loop_83 5 0 g_70 (by omega) (hg_70) _ _ _ hP hD hS (lv_sub hl [6, 7, 4, 8, 3, 2, 1, 0] rfl)
  refine W.widen (k := 13309 + 300 * 0) (n := 66147 + 1500 * 0) (by omega) (by omega) ?_
  exact loop_16 24 0 g2_10 m1_10 w1_10 hh1_10 nd1_10 wv1_10 mB_10 rB_10 K1_10 tB_10 sB_10 T1_10 (by omega) (hp_10.1) (hp_10.2.1) (hp_10.2.2.1) (hp_10.2.2.2.1) (hp_10.2.2.2.2) _ _ _ hP hD hS (lv_sub hl [3, 2, 1, 0] rfl)
