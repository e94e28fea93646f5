abbrev rmX2_regions : Room := { frames := 1, cells := 6, slots := 30, locals := 30 }
set_option maxRecDepth 20000 in
theorem iX2_regions_X2 : ∀ w ∈ wsX20, w ∈ wsX2_regions := fun w h => (goodIn_r (big := wsX2_regions) wsX20 [15, 16, 17, 18, 19, 20] rfl (by decide +kernel) w h).1
set_option maxHeartbeats 4000000 in
set_option maxRecDepth 100000 in
theorem m_X2_regions (l : Launch) (dC : Nat → ClassId) (dI : Nat → Nat → Nat) (cI cZ cJ cD : ClassId) (m0 : Nat) (w : Nat) (h : Nat) (nd : Nat) (wv : Int32) (mA : Nat) (rM : Nat → Nat) (K : Nat → Nat) (tA : Nat) (rT : Nat → Nat) (T : Nat → Bool) (gk : gok w h) (hK4 : ∀ c, K c ≤ 4) : sR l (dC, dI) (wT cI cZ cJ cD) yX2_regions wsX2_regions rmX2_regions [[(m0, .inr (2, [.int (nI w), .int (nI h), .int (nI nd), .int wv, .ref mA, .ref tA]))], [(mA, .inl (cJ, w, .inr (.inr (.inr (.inr (gQ w rM))))))], gB w rM cI h (gM w K), [(tA, .inl (cD, w, .inr (.inr (.inr (.inr (gQ w rT))))))], gB w rT cZ h (gZ w T)] [.ref m0] (fun (u : Nat × (Nat → Nat) × (Nat → Nat)) => ([[(m0, .inr (2, [.int (nI w), .int (nI h), .int (nI nd), .int wv, .ref mA, .ref tA]))], [(mA, .inl (cJ, w, .inr (.inr (.inr (.inr (gQ w rM))))))], gB w rM cI h (gM w K), [(tA, .inl (cD, w, .inr (.inr (.inr (.inr (gQ w rT))))))], gB w rT cZ h (gZ w T), [(u.1, .inl (cJ, w, .inr (.inr (.inr (.inr (gQ w u.2.1))))))], gB w u.2.1 cI h (gV w (lV K u.2.2))] : gW)) (fun (u : Nat × (Nat → Nat) × (Nat → Nat)) => u.1) (fun (u : Nat × (Nat → Nat) × (Nat → Nat)) => RLb w h K u.2.2) 6 30 := by
  intro sz
  refine Met.ofW (cc := cX2_regions) (maxL := 6) (ret := (some (.array (.array .int)))) (by decide) rfl ?_
  intro p e s m args below meth c s₁ B hml hv
  obtain ⟨ha, hsz, hP, hK, hD0, hN⟩ := hv
  have hx := B.exec
  have hb := B.bytes
  have hr := B.returns
  have hts := atoms_spec (ws := wsX2_regions) B.pre
  have hown : s.vm.findClass RX2 = some m.cls := findClass_of_methodNamed B.named
  have hlocks := B.notSynchronized
  subst hsz
  have hD := hD0.self (sz := s.heap.size)
  generalize hAe : va_A (List.flatten ([[(m0, .inr (2, [.int (nI w), .int (nI h), .int (nI nd), .int wv, .ref mA, .ref tA]))], [(mA, .inl (cJ, w, .inr (.inr (.inr (.inr (gQ w rM))))))], gB w rM cI h (gM w K), [(tA, .inl (cD, w, .inr (.inr (.inr (.inr (gQ w rT))))))], gB w rT cZ h (gZ w T)] : gW)) s.heap.size = A at hD ⊢
  have hA : ∀ q : Nat, s.heap.size ≤ q → A q := fun q h => by rw [← hAe]; exact Or.inr h
  have hS : va_S A s.heap s.heap [] := va_S.rf
  generalize hQ : MQ below (va_Qr (fun (u : Nat × (Nat → Nat) × (Nat → Nat)) => RLb w h K u.2.2) (fun u ra t => ra = (fun (u : Nat × (Nat → Nat) × (Nat → Nat)) => u.1) u ∧ va_P (dC, dI) vwCl (List.flatten ((fun (u : Nat × (Nat → Nat) × (Nat → Nat)) => ([[(m0, .inr (2, [.int (nI w), .int (nI h), .int (nI nd), .int wv, .ref mA, .ref tA]))], [(mA, .inl (cJ, w, .inr (.inr (.inr (.inr (gQ w rM))))))], gB w rM cI h (gM w K), [(tA, .inl (cD, w, .inr (.inr (.inr (.inr (gQ w rT))))))], gB w rT cZ h (gZ w T), [(u.1, .inl (cJ, w, .inr (.inr (.inr (.inr (gQ w u.2.1))))))], gB w u.2.1 cI h (gV w (lV K u.2.2))] : gW)) u)) t.heap ∧ va_D A (List.flatten ((fun (u : Nat × (Nat → Nat) × (Nat → Nat)) => ([[(m0, .inr (2, [.int (nI w), .int (nI h), .int (nI nd), .int wv, .ref mA, .ref tA]))], [(mA, .inl (cJ, w, .inr (.inr (.inr (.inr (gQ w rM))))))], gB w rM cI h (gM w K), [(tA, .inl (cD, w, .inr (.inr (.inr (.inr (gQ w rT))))))], gB w rT cZ h (gZ w T), [(u.1, .inl (cJ, w, .inr (.inr (.inr (.inr (gQ w u.2.1))))))], gB w u.2.1 cI h (gV w (lV K u.2.2))] : gW)) u))) A) args s 6 30 A = Q
  have F9 : CallFix p m c cX2_regions 6 s args wsX2_regions RX2 := ⟨hx, hb, hml, hown, hts⟩
  obtain ⟨gw2, gw5, gh2, gh5⟩ := id gk
  have wh25 := wh_le gk
  refine z_entry (R := rmX2_regions) ha (Nat.le_of_ble_eq_true rfl) (fun ls hl => ?_)
  have hl : lv_has ls 6 [(0, .ref m0)] := hl
  refine lv_aload_n hx hb dX2_regions_0 rfl (lv_at hl 0 rfl) ?_
  refine s_get (D := (dC, dI)) (ci := 2) (v := .int (nI w)) (C := RX2) (T := TX2) (N := 6) hx hb hts iX2_regions_X2 hown hK hP 0 0 rfl rfl rfl 0 (by decide) (hts (.fieldLink RX2 13 "ColourTideLaw$Sim" "w" "I") (List.mem_of_getElem? (i := 1) rfl)) (fun _ h9 => h9) rfl dX2_regions_1 ?_
  refine lv_aload_n hx hb dX2_regions_4 rfl (lv_at hl 0 rfl) ?_
  refine s_get (D := (dC, dI)) (ci := 2) (v := .int (nI h)) (C := RX2) (T := TX2) (N := 6) hx hb hts iX2_regions_X2 hown hK hP 0 0 rfl rfl rfl 1 (by decide) (hts (.fieldLink RX2 16 "ColourTideLaw$Sim" "h" "I") (List.mem_of_getElem? (i := 2) rfl)) (fun _ h9 => h9) rfl dX2_regions_5 ?_
  refine s_mna (ty := .int) (cR := cI) (cO := cJ) hx hb hown (hts (.classLink RX2 19 "[[I") (List.mem_of_getElem? (i := 3) rfl)) (hts (.arrayClass .int) (List.mem_of_getElem? (i := 4) rfl)) hN.2.2.1 hK hP hD hS hA 0 2 rfl rfl (Or.inl rfl) w h rfl rfl (by omega) (by omega) (by show 0 + (1 + w) ≤ 6; omega) (by show 0 + (w + w * h) ≤ 30; omega) dX2_regions_8 (fun q_8 r_8 H hP hD hS => ?_)
  have hP : va_P (dC, dI) vwCl (List.flatten ([[(m0, .inr (2, [.int (nI w), .int (nI h), .int (nI nd), .int wv, .ref mA, .ref tA]))], [(mA, .inl (cJ, w, .inr (.inr (.inr (.inr (gQ w rM))))))], gB w rM cI h (gM w K), [(tA, .inl (cD, w, .inr (.inr (.inr (.inr (gQ w rT))))))], gB w rT cZ h (gZ w T), [(q_8, .inl (cJ, w, .inr (.inr (.inr (.inr (gQ w r_8))))))], gB w r_8 cI h (fun _ _ => 0)] : gW)) H := hP
  have hD : va_D A (List.flatten ([[(m0, .inr (2, [.int (nI w), .int (nI h), .int (nI nd), .int wv, .ref mA, .ref tA]))], [(mA, .inl (cJ, w, .inr (.inr (.inr (.inr (gQ w rM))))))], gB w rM cI h (gM w K), [(tA, .inl (cD, w, .inr (.inr (.inr (.inr (gQ w rT))))))], gB w rT cZ h (gZ w T), [(q_8, .inl (cJ, w, .inr (.inr (.inr (.inr (gQ w r_8))))))], gB w r_8 cI h (fun _ _ => 0)] : gW)) := hD
  refine W.widen (k := 6) (n := 30) (by omega) (by omega) ?_
  refine lv_astore_n (lv' := [(1, .ref q_8), (0, .ref m0)]) hx hb dX2_regions_12 rfl hl (by decide) rfl (fun ls hl => ?_)
  refine lv_iconst (v := 0) hx hb dX2_regions_13 (by decide) ?_
  refine lv_istore_n (lv' := [(2, .int 0), (1, .ref q_8), (0, .ref m0)]) hx hb dX2_regions_14 rfl hl (by decide) rfl (fun ls hl => ?_)
  have loop_15 : ∀ (n : Nat) (x : Nat) (hkn : x + n = w) (H : Heap) (locs : List Loc) (ls : Array Slot) (hP : va_P (dC, dI) vwCl (List.flatten ([[(m0, .inr (2, [.int (nI w), .int (nI h), .int (nI nd), .int wv, .ref mA, .ref tA]))], [(mA, .inl (cJ, w, .inr (.inr (.inr (.inr (gQ w rM))))))], gB w rM cI h (gM w K), [(tA, .inl (cD, w, .inr (.inr (.inr (.inr (gQ w rT))))))], gB w rT cZ h (gZ w T), [(q_8, .inl (cJ, w, .inr (.inr (.inr (.inr (gQ w r_8))))))], gB w r_8 cI h (gF (fun a b => lV K (fun c => c) (w * b + a)) x 0)] : gW)) H) (hD : va_D A (List.flatten ([[(m0, .inr (2, [.int (nI w), .int (nI h), .int (nI nd), .int wv, .ref mA, .ref tA]))], [(mA, .inl (cJ, w, .inr (.inr (.inr (.inr (gQ w rM))))))], gB w rM cI h (gM w K), [(tA, .inl (cD, w, .inr (.inr (.inr (.inr (gQ w rT))))))], gB w rT cZ h (gZ w T), [(q_8, .inl (cJ, w, .inr (.inr (.inr (.inr (gQ w r_8))))))], gB w r_8 cI h (gF (fun a b => lV K (fun c => c) (w * b + a)) x 0)] : gW))) (hS : va_S A s.heap H locs) (hl : lv_has ls 6 [(0, .ref m0), (1, .ref q_8), (2, .int (nI x))]), W p l e rmX2_regions s m args below meth c H locs (6) (30) Q (F0 m 15 ls []) := by
    intro n
    induction n with
    | zero =>
      intro x hkn  H locs ls hP hD hS hl
      refine lv_iload_n hx hb dX2_regions_15 rfl (lv_at hl 2 rfl) ?_
      refine lv_aload_n hx hb dX2_regions_16 rfl (lv_at hl 0 rfl) ?_
      refine s_get (D := (dC, dI)) (ci := 2) (v := .int (nI w)) (C := RX2) (T := TX2) (N := 6) hx hb hts iX2_regions_X2 hown hK hP 0 0 rfl rfl rfl 0 (by decide) (hts (.fieldLink RX2 13 "ColourTideLaw$Sim" "w" "I") (List.mem_of_getElem? (i := 1) rfl)) (fun _ h9 => h9) rfl dX2_regions_17 ?_
      refine lv_icmp_ge (tgt := 73) hx hb dX2_regions_20 (by decide) (fun c_20 => ?_) (fun c_20 => ?_)
      · skip
        have n_20 := zc_le_t (a := w) (b := x) (by omega) (by omega) c_20
        refine lv_iconst (v := 0) hx hb dX2_regions_73 (by decide) ?_
        refine lv_istore_n (lv' := [(2, .int 0), (0, .ref m0), (1, .ref q_8)]) hx hb dX2_regions_74 rfl hl (by decide) rfl (fun ls hl => ?_)
        have loop_75 : ∀ (n : Nat) (L0 : Nat → Nat) (d0 : Bool) (hkn : d0 = true ∨ smN L0 (w * h) < n) (hL0 : LI w h K L0) (hF0 : d0 = true → FP w h K L0) (H : Heap) (locs : List Loc) (ls : Array Slot) (hP : va_P (dC, dI) vwCl (List.flatten ([[(m0, .inr (2, [.int (nI w), .int (nI h), .int (nI nd), .int wv, .ref mA, .ref tA]))], [(mA, .inl (cJ, w, .inr (.inr (.inr (.inr (gQ w rM))))))], gB w rM cI h (gM w K), [(tA, .inl (cD, w, .inr (.inr (.inr (.inr (gQ w rT))))))], gB w rT cZ h (gZ w T), [(q_8, .inl (cJ, w, .inr (.inr (.inr (.inr (gQ w r_8))))))], gB w r_8 cI h (gV w (lV K L0))] : gW)) H) (hD : va_D A (List.flatten ([[(m0, .inr (2, [.int (nI w), .int (nI h), .int (nI nd), .int wv, .ref mA, .ref tA]))], [(mA, .inl (cJ, w, .inr (.inr (.inr (.inr (gQ w rM))))))], gB w rM cI h (gM w K), [(tA, .inl (cD, w, .inr (.inr (.inr (.inr (gQ w rT))))))], gB w rT cZ h (gZ w T), [(q_8, .inl (cJ, w, .inr (.inr (.inr (.inr (gQ w r_8))))))], gB w r_8 cI h (gV w (lV K L0))] : gW))) (hS : va_S A s.heap H locs) (hl : lv_has ls 6 [(0, .ref m0), (1, .ref q_8), (2, .int (bz d0))]), W p l e rmX2_regions s m args below meth c H locs (6) (30) Q (F0 m 75 ls []) := by
          intro n
          induction n with
          | zero =>
            intro L0 d0 hkn hL0 hF0 H locs ls hP hD hS hl
            refine lv_iload_n hx hb dX2_regions_75 rfl (lv_at hl 2 rfl) ?_
            refine lv_if_ne (tgt := 314) hx hb dX2_regions_76 (by decide) (fun c_76 => ?_) (fun c_76 => ?_)
            · skip
              refine lv_aload_n hx hb dX2_regions_314 rfl (lv_at hl 1 rfl) ?_
              rw [← hQ]
              exact s_aret (W1 := (fun (u : Nat × (Nat → Nat) × (Nat → Nat)) => ([[(m0, .inr (2, [.int (nI w), .int (nI h), .int (nI nd), .int wv, .ref mA, .ref tA]))], [(mA, .inl (cJ, w, .inr (.inr (.inr (.inr (gQ w rM))))))], gB w rM cI h (gM w K), [(tA, .inl (cD, w, .inr (.inr (.inr (.inr (gQ w rT))))))], gB w rT cZ h (gZ w T), [(u.1, .inl (cJ, w, .inr (.inr (.inr (.inr (gQ w u.2.1))))))], gB w u.2.1 cI h (gV w (lV K u.2.2))] : gW))) (ad := (fun (u : Nat × (Nat → Nat) × (Nat → Nat)) => u.1)) hx hb hr (Or.inr ⟨_, rfl⟩) hlocks hP hD hS (q_8, r_8, L0) rfl [0, 1, 2, 3, 4, 5, 6] [] 7 rfl rfl (by decide) (rl_of hL0 (hF0 (bz_1 c_76))) (by omega) (by omega) dX2_regions_315
            · skip
              exact absurd hkn (by rw [bz_0 c_76]; simp)
          | succ n ih_75 =>
            intro L0 d0 hkn hL0 hF0 H locs ls hP hD hS hl
            refine lv_iload_n hx hb dX2_regions_75 rfl (lv_at hl 2 rfl) ?_
            refine lv_if_ne (tgt := 314) hx hb dX2_regions_76 (by decide) (fun c_76 => ?_) (fun c_76 => ?_)
            · skip
              refine lv_aload_n hx hb dX2_regions_314 rfl (lv_at hl 1 rfl) ?_
              rw [← hQ]
              exact s_aret (W1 := (fun (u : Nat × (Nat → Nat) × (Nat → Nat)) => ([[(m0, .inr (2, [.int (nI w), .int (nI h), .int (nI nd), .int wv, .ref mA, .ref tA]))], [(mA, .inl (cJ, w, .inr (.inr (.inr (.inr (gQ w rM))))))], gB w rM cI h (gM w K), [(tA, .inl (cD, w, .inr (.inr (.inr (.inr (gQ w rT))))))], gB w rT cZ h (gZ w T), [(u.1, .inl (cJ, w, .inr (.inr (.inr (.inr (gQ w u.2.1))))))], gB w u.2.1 cI h (gV w (lV K u.2.2))] : gW))) (ad := (fun (u : Nat × (Nat → Nat) × (Nat → Nat)) => u.1)) hx hb hr (Or.inr ⟨_, rfl⟩) hlocks hP hD hS (q_8, r_8, L0) rfl [0, 1, 2, 3, 4, 5, 6] [] 7 rfl rfl (by decide) (rl_of hL0 (hF0 (bz_1 c_76))) (by omega) (by omega) dX2_regions_315
            · skip
              refine lv_iconst (v := 1) hx hb dX2_regions_79 (by decide) ?_
              refine lv_istore_n (lv' := [(2, .int 1), (0, .ref m0), (1, .ref q_8)]) hx hb dX2_regions_80 rfl hl (by decide) rfl (fun ls hl => ?_)
              refine lv_iconst (v := 0) hx hb dX2_regions_81 (by decide) ?_
              refine lv_istore_n (lv' := [(3, .int 0), (2, .int 1), (0, .ref m0), (1, .ref q_8)]) hx hb dX2_regions_82 rfl hl (by decide) rfl (fun ls hl => ?_)
              have hkn0 := hkn
              have loop_83 : ∀ (n : Nat) (x : Nat) (L1 : Nat → Nat) (d1 : Bool) (hkn : x + n = w) (hI1 : PassI w h K L0 x 0 L1 d1) (H : Heap) (locs : List Loc) (ls : Array Slot) (hP : va_P (dC, dI) vwCl (List.flatten ([[(m0, .inr (2, [.int (nI w), .int (nI h), .int (nI nd), .int wv, .ref mA, .ref tA]))], [(mA, .inl (cJ, w, .inr (.inr (.inr (.inr (gQ w rM))))))], gB w rM cI h (gM w K), [(tA, .inl (cD, w, .inr (.inr (.inr (.inr (gQ w rT))))))], gB w rT cZ h (gZ w T), [(q_8, .inl (cJ, w, .inr (.inr (.inr (.inr (gQ w r_8))))))], gB w r_8 cI h (gV w (lV K L1))] : gW)) H) (hD : va_D A (List.flatten ([[(m0, .inr (2, [.int (nI w), .int (nI h), .int (nI nd), .int wv, .ref mA, .ref tA]))], [(mA, .inl (cJ, w, .inr (.inr (.inr (.inr (gQ w rM))))))], gB w rM cI h (gM w K), [(tA, .inl (cD, w, .inr (.inr (.inr (.inr (gQ w rT))))))], gB w rT cZ h (gZ w T), [(q_8, .inl (cJ, w, .inr (.inr (.inr (.inr (gQ w r_8))))))], gB w r_8 cI h (gV w (lV K L1))] : gW))) (hS : va_S A s.heap H locs) (hl : lv_has ls 6 [(0, .ref m0), (1, .ref q_8), (2, .int (bz d1)), (3, .int (nI x))]), W p l e rmX2_regions s m args below meth c H locs (6) (30) Q (F0 m 83 ls []) := by
                intro n
                induction n with
                | zero =>
                  intro x L1 d1 hkn hI1 H locs ls hP hD hS hl
                  refine lv_iload_n hx hb dX2_regions_83 rfl (lv_at hl 3 rfl) ?_
                  refine lv_aload_n hx hb dX2_regions_84 rfl (lv_at hl 0 rfl) ?_
                  refine s_get (D := (dC, dI)) (ci := 2) (v := .int (nI w)) (C := RX2) (T := TX2) (N := 6) hx hb hts iX2_regions_X2 hown hK hP 0 0 rfl rfl rfl 0 (by decide) (hts (.fieldLink RX2 13 "ColourTideLaw$Sim" "w" "I") (List.mem_of_getElem? (i := 1) rfl)) (fun _ h9 => h9) rfl dX2_regions_85 ?_
                  refine lv_icmp_ge (tgt := 311) hx hb dX2_regions_88 (by decide) (fun c_88 => ?_) (fun c_88 => ?_)
                  · skip
                    have n_88 := zc_le_t (a := w) (b := x) (by omega) (by omega) c_88
                    refine lv_goto (tgt := 75) hx hb dX2_regions_311 (by decide) ?_
                    have hl9 := hl
                    have hP9 := hP
                    have hD9 := hD
                    have hS9 := hS
                    obtain rfl : w = x := by omega
                    have hl := hl9
                    have hP := hP9
                    have hD := hD9
                    have hS := hS9
                    exact ih_75 L1 d1 (by cases e9 : d1 with | true => exact Or.inl rfl | false => exact Or.inr (by have h9 := hI1.2.2.1 e9; rcases hkn0 with z | z; rw [bz_0 c_76] at z; exact absurd z (by decide); omega)) (hI1.1) (fun z => ps_end hI1 z) _ _ _ hP hD hS (lv_sub hl [0, 1, 2] rfl)
                  · skip
                    have n_88 := zc_le_f (a := w) (b := x) (by omega) (by omega) c_88
                    exact absurd n_88 (by omega)
                | succ n ih_83 =>
                  intro x L1 d1 hkn hI1 H locs ls hP hD hS hl
                  refine lv_iload_n hx hb dX2_regions_83 rfl (lv_at hl 3 rfl) ?_
                  refine lv_aload_n hx hb dX2_regions_84 rfl (lv_at hl 0 rfl) ?_
                  refine s_get (D := (dC, dI)) (ci := 2) (v := .int (nI w)) (C := RX2) (T := TX2) (N := 6) hx hb hts iX2_regions_X2 hown hK hP 0 0 rfl rfl rfl 0 (by decide) (hts (.fieldLink RX2 13 "ColourTideLaw$Sim" "w" "I") (List.mem_of_getElem? (i := 1) rfl)) (fun _ h9 => h9) rfl dX2_regions_85 ?_
                  refine lv_icmp_ge (tgt := 311) hx hb dX2_regions_88 (by decide) (fun c_88 => ?_) (fun c_88 => ?_)
                  · skip
                    have n_88 := zc_le_t (a := w) (b := x) (by omega) (by omega) c_88
                    exact absurd n_88 (by omega)
                  · skip
                    have n_88 := zc_le_f (a := w) (b := x) (by omega) (by omega) c_88
                    refine lv_iconst (v := 0) hx hb dX2_regions_91 (by decide) ?_
                    refine lv_istore (lv' := [(4, .int 0), (0, .ref m0), (1, .ref q_8), (2, .int (bz d1)), (3, .int (nI x))]) hx hb dX2_regions_92 hl (by decide) rfl (fun ls hl => ?_)
                    have loop_94 : ∀ (n : Nat) (y : Nat) (L2 : Nat → Nat) (d2 : Bool) (hkn : y + n = h) (hI2 : PassI w h K L0 x y L2 d2) (H : Heap) (locs : List Loc) (ls : Array Slot) (hP : va_P (dC, dI) vwCl (List.flatten ([[(m0, .inr (2, [.int (nI w), .int (nI h), .int (nI nd), .int wv, .ref mA, .ref tA]))], [(mA, .inl (cJ, w, .inr (.inr (.inr (.inr (gQ w rM))))))], gB w rM cI h (gM w K), [(tA, .inl (cD, w, .inr (.inr (.inr (.inr (gQ w rT))))))], gB w rT cZ h (gZ w T), [(q_8, .inl (cJ, w, .inr (.inr (.inr (.inr (gQ w r_8))))))], gB w r_8 cI h (gV w (lV K L2))] : gW)) H) (hD : va_D A (List.flatten ([[(m0, .inr (2, [.int (nI w), .int (nI h), .int (nI nd), .int wv, .ref mA, .ref tA]))], [(mA, .inl (cJ, w, .inr (.inr (.inr (.inr (gQ w rM))))))], gB w rM cI h (gM w K), [(tA, .inl (cD, w, .inr (.inr (.inr (.inr (gQ w rT))))))], gB w rT cZ h (gZ w T), [(q_8, .inl (cJ, w, .inr (.inr (.inr (.inr (gQ w r_8))))))], gB w r_8 cI h (gV w (lV K L2))] : gW))) (hS : va_S A s.heap H locs) (hl : lv_has ls 6 [(0, .ref m0), (1, .ref q_8), (2, .int (bz d2)), (3, .int (nI x)), (4, .int (nI y))]), W p l e rmX2_regions s m args below meth c H locs (6) (30) Q (F0 m 94 ls []) := by
                      intro n
                      induction n with
                      | zero =>
                        intro y L2 d2 hkn hI2 H locs ls hP hD hS hl
                        refine lv_iload hx hb dX2_regions_94 (lv_at hl 4 rfl) ?_
                        refine lv_aload_n hx hb dX2_regions_96 rfl (lv_at hl 0 rfl) ?_
                        refine s_get (D := (dC, dI)) (ci := 2) (v := .int (nI h)) (C := RX2) (T := TX2) (N := 6) hx hb hts iX2_regions_X2 hown hK hP 0 0 rfl rfl rfl 1 (by decide) (hts (.fieldLink RX2 16 "ColourTideLaw$Sim" "h" "I") (List.mem_of_getElem? (i := 2) rfl)) (fun _ h9 => h9) rfl dX2_regions_97 ?_
                        refine lv_icmp_ge (tgt := 305) hx hb dX2_regions_100 (by decide) (fun c_100 => ?_) (fun c_100 => ?_)
                        · skip
                          have n_100 := zc_le_t (a := h) (b := y) (by omega) (by omega) c_100
                          refine lv_iinc (v := nI (x + 1)) (lv' := [(3, .int (nI (x + 1))), (0, .ref m0), (1, .ref q_8), (2, .int (bz d2)), (4, .int (nI y))]) hx hb dX2_regions_305 hl (k := 3) rfl (nI_1 x) (by decide) rfl (fun ls hl => ?_)
                          refine lv_goto (tgt := 83) hx hb dX2_regions_308 (by decide) ?_
                          have hl9 := hl
                          have hP9 := hP
                          have hD9 := hD
                          have hS9 := hS
                          obtain rfl : h = y := by omega
                          have hl := hl9
                          have hP := hP9
                          have hD := hD9
                          have hS := hS9
                          exact ih_83 (x + 1) L2 d2 (by omega) (ps_row hI2) _ _ _ hP hD hS (lv_sub hl [1, 2, 3, 0] rfl)
                        · skip
                          have n_100 := zc_le_f (a := h) (b := y) (by omega) (by omega) c_100
                          exact absurd n_100 (by omega)
                      | succ n ih_94 =>
                        intro y L2 d2 hkn hI2 H locs ls hP hD hS hl
                        refine lv_iload hx hb dX2_regions_94 (lv_at hl 4 rfl) ?_
                        refine lv_aload_n hx hb dX2_regions_96 rfl (lv_at hl 0 rfl) ?_
                        refine s_get (D := (dC, dI)) (ci := 2) (v := .int (nI h)) (C := RX2) (T := TX2) (N := 6) hx hb hts iX2_regions_X2 hown hK hP 0 0 rfl rfl rfl 1 (by decide) (hts (.fieldLink RX2 16 "ColourTideLaw$Sim" "h" "I") (List.mem_of_getElem? (i := 2) rfl)) (fun _ h9 => h9) rfl dX2_regions_97 ?_
                        refine lv_icmp_ge (tgt := 305) hx hb dX2_regions_100 (by decide) (fun c_100 => ?_) (fun c_100 => ?_)
                        · skip
                          have n_100 := zc_le_t (a := h) (b := y) (by omega) (by omega) c_100
                          exact absurd n_100 (by omega)
                        · skip
                          have n_100 := zc_le_f (a := h) (b := y) (by omega) (by omega) c_100
                          refine lv_aload_n hx hb dX2_regions_103 rfl (lv_at hl 0 rfl) ?_
                          refine s_get (D := (dC, dI)) (ci := 2) (v := .ref mA) (C := RX2) (T := TX2) (N := 6) hx hb hts iX2_regions_X2 hown hK hP 0 0 rfl rfl rfl 4 (by decide) (hts (.fieldLink RX2 21 "ColourTideLaw$Sim" "map" "[[I") (List.mem_of_getElem? (i := 5) rfl)) (fun _ h9 => h9) rfl dX2_regions_104 ?_
                          refine lv_iload_n hx hb dX2_regions_107 rfl (lv_at hl 3 rfl) ?_
                          refine s_qald hx hb hK hP 1 2 rfl rfl rfl x (rfl) (by omega) (by omega) dX2_regions_108 ?_
                          refine lv_iload hx hb dX2_regions_109 (lv_at hl 4 rfl) ?_
                          refine s_gald hx hb hK hP 2 0 x rfl (by omega) rfl y (rfl) (by omega) (by omega) dX2_regions_111 ?_
                          refine z_topi (y := nI (K (w * y + x))) (rfl) ?_
                          refine lv_if_ne (tgt := 118) hx hb dX2_regions_112 (by decide) (fun c_112 => ?_) (fun c_112 => ?_)
                          · skip
                            have n_112 := zc_eq_f (a := (K (w * y + x))) (b := 0) (by have := hK4 (w * y + x); omega) (by have := hK4 (w * y + x); omega) c_112
                            have hxw : x < w := by omega
                            have hyh : y < h := by omega
                            have hcc := cell_lt hxw hyh
                            have hk0 : K (w * y + x) ≠ 0 := n_112
                            have hlc := li_lt hI2.1 hcc hk0
                            refine lv_aload_n hx hb dX2_regions_118 rfl (lv_at hl 1 rfl) ?_
                            refine lv_iload_n hx hb dX2_regions_119 rfl (lv_at hl 3 rfl) ?_
                            refine s_qald hx hb hK hP 5 2 rfl rfl rfl x (rfl) (by omega) (by omega) dX2_regions_120 ?_
                            refine lv_iload hx hb dX2_regions_121 (lv_at hl 4 rfl) ?_
                            refine s_gald hx hb hK hP 6 0 x rfl (by omega) rfl y (rfl) (by omega) (by omega) dX2_regions_123 ?_
                            refine z_topi (y := nI (L2 (w * y + x))) (lV_n hk0) ?_
                            refine lv_istore (lv' := [(5, .int (nI (L2 (w * y + x)))), (0, .ref m0), (1, .ref q_8), (2, .int (bz d2)), (3, .int (nI x)), (4, .int (nI y))]) hx hb dX2_regions_124 hl (by decide) rfl (fun ls hl => ?_)
                            refine lv_aload_n hx hb dX2_regions_126 rfl (lv_at hl 1 rfl) ?_
                            refine lv_iload_n hx hb dX2_regions_127 rfl (lv_at hl 4 rfl) ?_
                            refine lv_iconst (v := 1) hx hb dX2_regions_128 (by decide) ?_
                            refine lv_isub hx hb dX2_regions_129 ?_
                            refine lv_iload hx hb dX2_regions_130 (lv_at hl 5 rfl) ?_
                            refine s_callVi (As := [.int ((nI x) - 1), .int (nI y)]) (rest := []) F9 (m_X2_at l dC dI cI cZ cJ cD m0 w h nd wv mA rM K tA rT T ((nI x) - 1) (nI y) (gk)) (cwV 2 hts gX2_regions_X2_at rfl rfl rfl (by decide +kernel) ⟨Nat.le_of_ble_eq_true rfl, Nat.le_of_ble_eq_true rfl⟩) hK hN hP hD hS hA [0, 1, 2, 3, 4] [5, 6] 7 rfl rfl (by decide) (fun (_ : Unit) => ([[(m0, .inr (2, [.int (nI w), .int (nI h), .int (nI nd), .int wv, .ref mA, .ref tA]))], [(mA, .inl (cJ, w, .inr (.inr (.inr (.inr (gQ w rM))))))], gB w rM cI h (gM w K), [(tA, .inl (cD, w, .inr (.inr (.inr (.inr (gQ w rT))))))], gB w rT cZ h (gZ w T), [(q_8, .inl (cJ, w, .inr (.inr (.inr (.inr (gQ w r_8))))))], gB w r_8 cI h (gV w (lV K L2))] : gW)) [0, 1, 2, 3, 4] [5, 6] 7 (fun _ => rfl) (fun _ => rfl) (fun _ => rfl) (by decide) 0 0 (ci := 2) rfl rfl rfl rfl rfl hl.1 rfl (Nat.le_of_ble_eq_true rfl) dX2_regions_132 ⟨by show 6 + 0 ≤ 6; omega, by show 30 + 0 ≤ 30; omega⟩ (fun r_132 u H locs hp_132 hP hD hS => ?_)
                            have hP : va_P (dC, dI) vwCl (List.flatten ([[(m0, .inr (2, [.int (nI w), .int (nI h), .int (nI nd), .int wv, .ref mA, .ref tA]))], [(mA, .inl (cJ, w, .inr (.inr (.inr (.inr (gQ w rM))))))], gB w rM cI h (gM w K), [(tA, .inl (cD, w, .inr (.inr (.inr (.inr (gQ w rT))))))], gB w rT cZ h (gZ w T), [(q_8, .inl (cJ, w, .inr (.inr (.inr (.inr (gQ w r_8))))))], gB w r_8 cI h (gV w (lV K L2))] : gW)) H := hP
                            have hD : va_D A (List.flatten ([[(m0, .inr (2, [.int (nI w), .int (nI h), .int (nI nd), .int wv, .ref mA, .ref tA]))], [(mA, .inl (cJ, w, .inr (.inr (.inr (.inr (gQ w rM))))))], gB w rM cI h (gM w K), [(tA, .inl (cD, w, .inr (.inr (.inr (.inr (gQ w rT))))))], gB w rT cZ h (gZ w T), [(q_8, .inl (cJ, w, .inr (.inr (.inr (.inr (gQ w r_8))))))], gB w r_8 cI h (gV w (lV K L2))] : gW)) := hD
                            have hp_132 : r_132 = atI w h K ((nI x) - 1) (nI y) := hp_132
                            refine z_topi (y := atI w h K ((nI x) - 1) (nI y)) (hp_132) ?_
                            refine lv_aload_n hx hb dX2_regions_135 rfl (lv_at hl 1 rfl) ?_
                            refine s_get (D := (dC, dI)) (ci := 2) (v := .ref mA) (C := RX2) (T := TX2) (N := 6) hx hb hts iX2_regions_X2 hown hK hP 0 0 rfl rfl rfl 4 (by decide) (hts (.fieldLink RX2 21 "ColourTideLaw$Sim" "map" "[[I") (List.mem_of_getElem? (i := 5) rfl)) (fun _ h9 => h9) rfl dX2_regions_136 ?_
                            refine lv_iload_n hx hb dX2_regions_139 rfl (lv_at hl 4 rfl) ?_
                            refine s_qald hx hb hK hP 1 2 rfl rfl rfl x (rfl) (by omega) (by omega) dX2_regions_140 ?_
                            refine lv_iload hx hb dX2_regions_141 (lv_at hl 5 rfl) ?_
                            refine s_gald hx hb hK hP 2 0 x rfl (by omega) rfl y (rfl) (by omega) (by omega) dX2_regions_143 ?_
                            refine z_topi (y := nI (K (w * y + x))) (rfl) ?_
                            suffices j_162 : ∀ v_162 : Int32, v_162 = (nI (mS w h K L2 (w * y + x) 1)) → ∀ (H : Heap) (locs : List Loc) (ls : Array Slot), va_P (dC, dI) vwCl (List.flatten ([[(m0, .inr (2, [.int (nI w), .int (nI h), .int (nI nd), .int wv, .ref mA, .ref tA]))], [(mA, .inl (cJ, w, .inr (.inr (.inr (.inr (gQ w rM))))))], gB w rM cI h (gM w K), [(tA, .inl (cD, w, .inr (.inr (.inr (.inr (gQ w rT))))))], gB w rT cZ h (gZ w T), [(q_8, .inl (cJ, w, .inr (.inr (.inr (.inr (gQ w r_8))))))], gB w r_8 cI h (gV w (lV K L2))] : gW)) H → va_D A (List.flatten ([[(m0, .inr (2, [.int (nI w), .int (nI h), .int (nI nd), .int wv, .ref mA, .ref tA]))], [(mA, .inl (cJ, w, .inr (.inr (.inr (.inr (gQ w rM))))))], gB w rM cI h (gM w K), [(tA, .inl (cD, w, .inr (.inr (.inr (.inr (gQ w rT))))))], gB w rT cZ h (gZ w T), [(q_8, .inl (cJ, w, .inr (.inr (.inr (.inr (gQ w r_8))))))], gB w r_8 cI h (gV w (lV K L2))] : gW)) → va_S A s.heap H locs → lv_has ls 6 [(5, .int v_162), (0, .ref m0), (1, .ref q_8), (2, .int (bz d2)), (3, .int (nI x)), (4, .int (nI y))] → W p l e rmX2_regions s m args below meth c H locs (6) (30) Q (F0 m 162 ls []) by
                              refine lv_icmp_ne (tgt := 162) hx hb dX2_regions_144 (by decide) (fun c_144 => ?_) (fun c_144 => ?_)
                              · skip
                                exact j_162 _ (congrArg nI (ms_no (s := 0) (rs_f (sv0 gk hxw hyh) c_144)).symm) _ _ _ hP hD hS (lv_sub hl [0, 1, 2, 3, 4, 5] rfl)
                              · skip
                                obtain ⟨hp_x, hn_x, hk_x⟩ := rs_t (sv0 gk hxw hyh) hK4 hk0 c_144
                                have hd_x : w * y + (x - 1) < w * h := nbr_lt hcc hn_x
                                have hl_x : L2 (w * y + (x - 1)) < w * h := li_lt hI2.1 hd_x (by rw [hk_x]; exact hk0)
                                refine lv_iload hx hb dX2_regions_147 (lv_at hl 0 rfl) ?_
                                refine lv_aload_n hx hb dX2_regions_149 rfl (lv_at hl 2 rfl) ?_
                                refine lv_iload_n hx hb dX2_regions_150 rfl (lv_at hl 4 rfl) ?_
                                refine lv_iconst (v := 1) hx hb dX2_regions_151 (by decide) ?_
                                refine lv_isub hx hb dX2_regions_152 ?_
                                refine z_topi (y := nI (x - 1)) (pk_sub (a := x) (b := 1) (by omega)) ?_
                                refine s_qald hx hb hK hP 5 2 rfl rfl rfl (x - 1) (rfl) (by omega) (by omega) dX2_regions_153 ?_
                                refine lv_iload hx hb dX2_regions_154 (lv_at hl 5 rfl) ?_
                                refine s_gald hx hb hK hP 6 0 (x - 1) rfl (by omega) rfl y (rfl) (by omega) (by omega) dX2_regions_156 ?_
                                refine z_topi (y := nI (L2 (w * y + (x - 1)))) (lV_n (by rw [hk_x]; exact hk0)) ?_
                                refine va_mmin hx hb (by rw [hml]; exact hl.1.symm) hown (hts (.methodLink RX2 46 Lib.Math.min.name) (List.mem_of_getElem? (i := 6) rfl)) (hts (.static Lib.Math.min.name) (List.mem_of_getElem? (i := 7) rfl)) (hts (.initialized "java/lang/Math") (List.mem_of_getElem? (i := 8) rfl)) (hts (.code Lib.Math.min.name Lib.Math.min.code 2 (some .int)) (List.mem_of_getElem? (i := 9) rfl)) (Nat.le_of_ble_eq_true rfl) (Nat.le_of_ble_eq_true rfl) (by show 6 ≤ 6; omega) (by show 30 ≤ 30; omega) dX2_regions_157 ?_
                                refine z_topi (y := nI (mS w h K L2 (w * y + x) 1)) (ms_min (s := 0) hn_x hk_x (by have := ms_le (w := w) (h := h) (K := K) (L := L2) (c := w * y + x) 0; omega) (by omega)) ?_
                                refine lv_istore (lv' := [(5, .int (nI (mS w h K L2 (w * y + x) 1))), (0, .ref m0), (1, .ref q_8), (2, .int (bz d2)), (3, .int (nI x)), (4, .int (nI y))]) hx hb dX2_regions_160 hl (by decide) rfl (fun ls hl => ?_)
                                exact j_162 _ (rfl) _ _ _ hP hD hS (lv_sub hl [0, 1, 2, 3, 4, 5] rfl)
                            intro v_162 h_v_162 H locs ls hP hD hS hl
                            subst h_v_162
                            refine lv_aload_n hx hb dX2_regions_162 rfl (lv_at hl 1 rfl) ?_
                            refine lv_iload_n hx hb dX2_regions_163 rfl (lv_at hl 4 rfl) ?_
                            refine lv_iconst (v := 1) hx hb dX2_regions_164 (by decide) ?_
                            refine lv_iadd hx hb dX2_regions_165 ?_
                            refine z_topi (y := nI (x + 1)) (nI_add x 1) ?_
                            refine lv_iload hx hb dX2_regions_166 (lv_at hl 5 rfl) ?_
                            refine s_callVi (As := [.int (nI (x + 1)), .int (nI y)]) (rest := []) F9 (m_X2_at l dC dI cI cZ cJ cD m0 w h nd wv mA rM K tA rT T (nI (x + 1)) (nI y) (gk)) (cwV 2 hts gX2_regions_X2_at rfl rfl rfl (by decide +kernel) ⟨Nat.le_of_ble_eq_true rfl, Nat.le_of_ble_eq_true rfl⟩) hK hN hP hD hS hA [0, 1, 2, 3, 4] [5, 6] 7 rfl rfl (by decide) (fun (_ : Unit) => ([[(m0, .inr (2, [.int (nI w), .int (nI h), .int (nI nd), .int wv, .ref mA, .ref tA]))], [(mA, .inl (cJ, w, .inr (.inr (.inr (.inr (gQ w rM))))))], gB w rM cI h (gM w K), [(tA, .inl (cD, w, .inr (.inr (.inr (.inr (gQ w rT))))))], gB w rT cZ h (gZ w T), [(q_8, .inl (cJ, w, .inr (.inr (.inr (.inr (gQ w r_8))))))], gB w r_8 cI h (gV w (lV K L2))] : gW)) [0, 1, 2, 3, 4] [5, 6] 7 (fun _ => rfl) (fun _ => rfl) (fun _ => rfl) (by decide) 0 0 (ci := 2) rfl rfl rfl rfl rfl hl.1 rfl (Nat.le_of_ble_eq_true rfl) dX2_regions_168 ⟨by show 6 + 0 ≤ 6; omega, by show 30 + 0 ≤ 30; omega⟩ (fun r_168 u H locs hp_168 hP hD hS => ?_)
                            have hP : va_P (dC, dI) vwCl (List.flatten ([[(m0, .inr (2, [.int (nI w), .int (nI h), .int (nI nd), .int wv, .ref mA, .ref tA]))], [(mA, .inl (cJ, w, .inr (.inr (.inr (.inr (gQ w rM))))))], gB w rM cI h (gM w K), [(tA, .inl (cD, w, .inr (.inr (.inr (.inr (gQ w rT))))))], gB w rT cZ h (gZ w T), [(q_8, .inl (cJ, w, .inr (.inr (.inr (.inr (gQ w r_8))))))], gB w r_8 cI h (gV w (lV K L2))] : gW)) H := hP
                            have hD : va_D A (List.flatten ([[(m0, .inr (2, [.int (nI w), .int (nI h), .int (nI nd), .int wv, .ref mA, .ref tA]))], [(mA, .inl (cJ, w, .inr (.inr (.inr (.inr (gQ w rM))))))], gB w rM cI h (gM w K), [(tA, .inl (cD, w, .inr (.inr (.inr (.inr (gQ w rT))))))], gB w rT cZ h (gZ w T), [(q_8, .inl (cJ, w, .inr (.inr (.inr (.inr (gQ w r_8))))))], gB w r_8 cI h (gV w (lV K L2))] : gW)) := hD
                            have hp_168 : r_168 = atI w h K (nI (x + 1)) (nI y) := hp_168
                            refine z_topi (y := atI w h K (nI (x + 1)) (nI y)) (hp_168) ?_
                            refine lv_aload_n hx hb dX2_regions_171 rfl (lv_at hl 1 rfl) ?_
                            refine s_get (D := (dC, dI)) (ci := 2) (v := .ref mA) (C := RX2) (T := TX2) (N := 6) hx hb hts iX2_regions_X2 hown hK hP 0 0 rfl rfl rfl 4 (by decide) (hts (.fieldLink RX2 21 "ColourTideLaw$Sim" "map" "[[I") (List.mem_of_getElem? (i := 5) rfl)) (fun _ h9 => h9) rfl dX2_regions_172 ?_
                            refine lv_iload_n hx hb dX2_regions_175 rfl (lv_at hl 4 rfl) ?_
                            refine s_qald hx hb hK hP 1 2 rfl rfl rfl x (rfl) (by omega) (by omega) dX2_regions_176 ?_
                            refine lv_iload hx hb dX2_regions_177 (lv_at hl 5 rfl) ?_
                            refine s_gald hx hb hK hP 2 0 x rfl (by omega) rfl y (rfl) (by omega) (by omega) dX2_regions_179 ?_
                            refine z_topi (y := nI (K (w * y + x))) (rfl) ?_
                            suffices j_198 : ∀ v_198 : Int32, v_198 = (nI (mS w h K L2 (w * y + x) 2)) → ∀ (H : Heap) (locs : List Loc) (ls : Array Slot), va_P (dC, dI) vwCl (List.flatten ([[(m0, .inr (2, [.int (nI w), .int (nI h), .int (nI nd), .int wv, .ref mA, .ref tA]))], [(mA, .inl (cJ, w, .inr (.inr (.inr (.inr (gQ w rM))))))], gB w rM cI h (gM w K), [(tA, .inl (cD, w, .inr (.inr (.inr (.inr (gQ w rT))))))], gB w rT cZ h (gZ w T), [(q_8, .inl (cJ, w, .inr (.inr (.inr (.inr (gQ w r_8))))))], gB w r_8 cI h (gV w (lV K L2))] : gW)) H → va_D A (List.flatten ([[(m0, .inr (2, [.int (nI w), .int (nI h), .int (nI nd), .int wv, .ref mA, .ref tA]))], [(mA, .inl (cJ, w, .inr (.inr (.inr (.inr (gQ w rM))))))], gB w rM cI h (gM w K), [(tA, .inl (cD, w, .inr (.inr (.inr (.inr (gQ w rT))))))], gB w rT cZ h (gZ w T), [(q_8, .inl (cJ, w, .inr (.inr (.inr (.inr (gQ w r_8))))))], gB w r_8 cI h (gV w (lV K L2))] : gW)) → va_S A s.heap H locs → lv_has ls 6 [(5, .int v_198), (0, .ref m0), (1, .ref q_8), (2, .int (bz d2)), (3, .int (nI x)), (4, .int (nI y))] → W p l e rmX2_regions s m args below meth c H locs (6) (30) Q (F0 m 198 ls []) by
                              refine lv_icmp_ne (tgt := 198) hx hb dX2_regions_180 (by decide) (fun c_180 => ?_) (fun c_180 => ?_)
                              · skip
                                exact j_198 _ (congrArg nI (ms_no (s := 1) (rs_f (sv1 gk hxw hyh) c_180)).symm) _ _ _ hP hD hS (lv_sub hl [0, 1, 2, 3, 4, 5] rfl)
                              · skip
                                obtain ⟨hp_x, hn_x, hk_x⟩ := rs_t (sv1 gk hxw hyh) hK4 hk0 c_180
                                have hd_x : w * y + (x + 1) < w * h := nbr_lt hcc hn_x
                                have hl_x : L2 (w * y + (x + 1)) < w * h := li_lt hI2.1 hd_x (by rw [hk_x]; exact hk0)
                                refine lv_iload hx hb dX2_regions_183 (lv_at hl 0 rfl) ?_
                                refine lv_aload_n hx hb dX2_regions_185 rfl (lv_at hl 2 rfl) ?_
                                refine lv_iload_n hx hb dX2_regions_186 rfl (lv_at hl 4 rfl) ?_
                                refine lv_iconst (v := 1) hx hb dX2_regions_187 (by decide) ?_
                                refine lv_iadd hx hb dX2_regions_188 ?_
                                refine z_topi (y := nI (x + 1)) (nI_add x 1) ?_
                                refine s_qald hx hb hK hP 5 2 rfl rfl rfl (x + 1) (rfl) (by omega) (by omega) dX2_regions_189 ?_
                                refine lv_iload hx hb dX2_regions_190 (lv_at hl 5 rfl) ?_
                                refine s_gald hx hb hK hP 6 0 (x + 1) rfl (by omega) rfl y (rfl) (by omega) (by omega) dX2_regions_192 ?_
                                refine z_topi (y := nI (L2 (w * y + (x + 1)))) (lV_n (by rw [hk_x]; exact hk0)) ?_
                                refine va_mmin hx hb (by rw [hml]; exact hl.1.symm) hown (hts (.methodLink RX2 46 Lib.Math.min.name) (List.mem_of_getElem? (i := 6) rfl)) (hts (.static Lib.Math.min.name) (List.mem_of_getElem? (i := 7) rfl)) (hts (.initialized "java/lang/Math") (List.mem_of_getElem? (i := 8) rfl)) (hts (.code Lib.Math.min.name Lib.Math.min.code 2 (some .int)) (List.mem_of_getElem? (i := 9) rfl)) (Nat.le_of_ble_eq_true rfl) (Nat.le_of_ble_eq_true rfl) (by show 6 ≤ 6; omega) (by show 30 ≤ 30; omega) dX2_regions_193 ?_
                                refine z_topi (y := nI (mS w h K L2 (w * y + x) 2)) (ms_min (s := 1) hn_x hk_x (by have := ms_le (w := w) (h := h) (K := K) (L := L2) (c := w * y + x) 1; omega) (by omega)) ?_
                                refine lv_istore (lv' := [(5, .int (nI (mS w h K L2 (w * y + x) 2))), (0, .ref m0), (1, .ref q_8), (2, .int (bz d2)), (3, .int (nI x)), (4, .int (nI y))]) hx hb dX2_regions_196 hl (by decide) rfl (fun ls hl => ?_)
                                exact j_198 _ (rfl) _ _ _ hP hD hS (lv_sub hl [0, 1, 2, 3, 4, 5] rfl)
                            intro v_198 h_v_198 H locs ls hP hD hS hl
                            subst h_v_198
                            refine lv_aload_n hx hb dX2_regions_198 rfl (lv_at hl 1 rfl) ?_
                            refine lv_iload_n hx hb dX2_regions_199 rfl (lv_at hl 4 rfl) ?_
                            refine lv_iload hx hb dX2_regions_200 (lv_at hl 5 rfl) ?_
                            refine lv_iconst (v := 1) hx hb dX2_regions_202 (by decide) ?_
                            refine lv_isub hx hb dX2_regions_203 ?_
                            refine s_callVi (As := [.int (nI x), .int ((nI y) - 1)]) (rest := []) F9 (m_X2_at l dC dI cI cZ cJ cD m0 w h nd wv mA rM K tA rT T (nI x) ((nI y) - 1) (gk)) (cwV 2 hts gX2_regions_X2_at rfl rfl rfl (by decide +kernel) ⟨Nat.le_of_ble_eq_true rfl, Nat.le_of_ble_eq_true rfl⟩) hK hN hP hD hS hA [0, 1, 2, 3, 4] [5, 6] 7 rfl rfl (by decide) (fun (_ : Unit) => ([[(m0, .inr (2, [.int (nI w), .int (nI h), .int (nI nd), .int wv, .ref mA, .ref tA]))], [(mA, .inl (cJ, w, .inr (.inr (.inr (.inr (gQ w rM))))))], gB w rM cI h (gM w K), [(tA, .inl (cD, w, .inr (.inr (.inr (.inr (gQ w rT))))))], gB w rT cZ h (gZ w T), [(q_8, .inl (cJ, w, .inr (.inr (.inr (.inr (gQ w r_8))))))], gB w r_8 cI h (gV w (lV K L2))] : gW)) [0, 1, 2, 3, 4] [5, 6] 7 (fun _ => rfl) (fun _ => rfl) (fun _ => rfl) (by decide) 0 0 (ci := 2) rfl rfl rfl rfl rfl hl.1 rfl (Nat.le_of_ble_eq_true rfl) dX2_regions_204 ⟨by show 6 + 0 ≤ 6; omega, by show 30 + 0 ≤ 30; omega⟩ (fun r_204 u H locs hp_204 hP hD hS => ?_)
                            have hP : va_P (dC, dI) vwCl (List.flatten ([[(m0, .inr (2, [.int (nI w), .int (nI h), .int (nI nd), .int wv, .ref mA, .ref tA]))], [(mA, .inl (cJ, w, .inr (.inr (.inr (.inr (gQ w rM))))))], gB w rM cI h (gM w K), [(tA, .inl (cD, w, .inr (.inr (.inr (.inr (gQ w rT))))))], gB w rT cZ h (gZ w T), [(q_8, .inl (cJ, w, .inr (.inr (.inr (.inr (gQ w r_8))))))], gB w r_8 cI h (gV w (lV K L2))] : gW)) H := hP
                            have hD : va_D A (List.flatten ([[(m0, .inr (2, [.int (nI w), .int (nI h), .int (nI nd), .int wv, .ref mA, .ref tA]))], [(mA, .inl (cJ, w, .inr (.inr (.inr (.inr (gQ w rM))))))], gB w rM cI h (gM w K), [(tA, .inl (cD, w, .inr (.inr (.inr (.inr (gQ w rT))))))], gB w rT cZ h (gZ w T), [(q_8, .inl (cJ, w, .inr (.inr (.inr (.inr (gQ w r_8))))))], gB w r_8 cI h (gV w (lV K L2))] : gW)) := hD
                            have hp_204 : r_204 = atI w h K (nI x) ((nI y) - 1) := hp_204
                            refine z_topi (y := atI w h K (nI x) ((nI y) - 1)) (hp_204) ?_
                            refine lv_aload_n hx hb dX2_regions_207 rfl (lv_at hl 1 rfl) ?_
                            refine s_get (D := (dC, dI)) (ci := 2) (v := .ref mA) (C := RX2) (T := TX2) (N := 6) hx hb hts iX2_regions_X2 hown hK hP 0 0 rfl rfl rfl 4 (by decide) (hts (.fieldLink RX2 21 "ColourTideLaw$Sim" "map" "[[I") (List.mem_of_getElem? (i := 5) rfl)) (fun _ h9 => h9) rfl dX2_regions_208 ?_
                            refine lv_iload_n hx hb dX2_regions_211 rfl (lv_at hl 4 rfl) ?_
                            refine s_qald hx hb hK hP 1 2 rfl rfl rfl x (rfl) (by omega) (by omega) dX2_regions_212 ?_
                            refine lv_iload hx hb dX2_regions_213 (lv_at hl 5 rfl) ?_
                            refine s_gald hx hb hK hP 2 0 x rfl (by omega) rfl y (rfl) (by omega) (by omega) dX2_regions_215 ?_
                            refine z_topi (y := nI (K (w * y + x))) (rfl) ?_
                            suffices j_234 : ∀ v_234 : Int32, v_234 = (nI (mS w h K L2 (w * y + x) 3)) → ∀ (H : Heap) (locs : List Loc) (ls : Array Slot), va_P (dC, dI) vwCl (List.flatten ([[(m0, .inr (2, [.int (nI w), .int (nI h), .int (nI nd), .int wv, .ref mA, .ref tA]))], [(mA, .inl (cJ, w, .inr (.inr (.inr (.inr (gQ w rM))))))], gB w rM cI h (gM w K), [(tA, .inl (cD, w, .inr (.inr (.inr (.inr (gQ w rT))))))], gB w rT cZ h (gZ w T), [(q_8, .inl (cJ, w, .inr (.inr (.inr (.inr (gQ w r_8))))))], gB w r_8 cI h (gV w (lV K L2))] : gW)) H → va_D A (List.flatten ([[(m0, .inr (2, [.int (nI w), .int (nI h), .int (nI nd), .int wv, .ref mA, .ref tA]))], [(mA, .inl (cJ, w, .inr (.inr (.inr (.inr (gQ w rM))))))], gB w rM cI h (gM w K), [(tA, .inl (cD, w, .inr (.inr (.inr (.inr (gQ w rT))))))], gB w rT cZ h (gZ w T), [(q_8, .inl (cJ, w, .inr (.inr (.inr (.inr (gQ w r_8))))))], gB w r_8 cI h (gV w (lV K L2))] : gW)) → va_S A s.heap H locs → lv_has ls 6 [(5, .int v_234), (0, .ref m0), (1, .ref q_8), (2, .int (bz d2)), (3, .int (nI x)), (4, .int (nI y))] → W p l e rmX2_regions s m args below meth c H locs (6) (30) Q (F0 m 234 ls []) by
                              refine lv_icmp_ne (tgt := 234) hx hb dX2_regions_216 (by decide) (fun c_216 => ?_) (fun c_216 => ?_)
                              · skip
                                exact j_234 _ (congrArg nI (ms_no (s := 2) (rs_f (sv2 gk hxw hyh) c_216)).symm) _ _ _ hP hD hS (lv_sub hl [0, 1, 2, 3, 4, 5] rfl)
                              · skip
                                obtain ⟨hp_x, hn_x, hk_x⟩ := rs_t (sv2 gk hxw hyh) hK4 hk0 c_216
                                have hd_x : w * (y - 1) + x < w * h := nbr_lt hcc hn_x
                                have hl_x : L2 (w * (y - 1) + x) < w * h := li_lt hI2.1 hd_x (by rw [hk_x]; exact hk0)
                                refine lv_iload hx hb dX2_regions_219 (lv_at hl 0 rfl) ?_
                                refine lv_aload_n hx hb dX2_regions_221 rfl (lv_at hl 2 rfl) ?_
                                refine lv_iload_n hx hb dX2_regions_222 rfl (lv_at hl 4 rfl) ?_
                                refine s_qald hx hb hK hP 5 2 rfl rfl rfl x (rfl) (by omega) (by omega) dX2_regions_223 ?_
                                refine lv_iload hx hb dX2_regions_224 (lv_at hl 5 rfl) ?_
                                refine lv_iconst (v := 1) hx hb dX2_regions_226 (by decide) ?_
                                refine lv_isub hx hb dX2_regions_227 ?_
                                refine z_topi (y := nI (y - 1)) (pk_sub (a := y) (b := 1) (by omega)) ?_
                                refine s_gald hx hb hK hP 6 0 x rfl (by omega) rfl (y - 1) (rfl) (by omega) (by omega) dX2_regions_228 ?_
                                refine z_topi (y := nI (L2 (w * (y - 1) + x))) (lV_n (by rw [hk_x]; exact hk0)) ?_
                                refine va_mmin hx hb (by rw [hml]; exact hl.1.symm) hown (hts (.methodLink RX2 46 Lib.Math.min.name) (List.mem_of_getElem? (i := 6) rfl)) (hts (.static Lib.Math.min.name) (List.mem_of_getElem? (i := 7) rfl)) (hts (.initialized "java/lang/Math") (List.mem_of_getElem? (i := 8) rfl)) (hts (.code Lib.Math.min.name Lib.Math.min.code 2 (some .int)) (List.mem_of_getElem? (i := 9) rfl)) (Nat.le_of_ble_eq_true rfl) (Nat.le_of_ble_eq_true rfl) (by show 6 ≤ 6; omega) (by show 30 ≤ 30; omega) dX2_regions_229 ?_
                                refine z_topi (y := nI (mS w h K L2 (w * y + x) 3)) (ms_min (s := 2) hn_x hk_x (by have := ms_le (w := w) (h := h) (K := K) (L := L2) (c := w * y + x) 2; omega) (by omega)) ?_
                                refine lv_istore (lv' := [(5, .int (nI (mS w h K L2 (w * y + x) 3))), (0, .ref m0), (1, .ref q_8), (2, .int (bz d2)), (3, .int (nI x)), (4, .int (nI y))]) hx hb dX2_regions_232 hl (by decide) rfl (fun ls hl => ?_)
                                exact j_234 _ (rfl) _ _ _ hP hD hS (lv_sub hl [0, 1, 2, 3, 4, 5] rfl)
                            intro v_234 h_v_234 H locs ls hP hD hS hl
                            subst h_v_234
                            refine lv_aload_n hx hb dX2_regions_234 rfl (lv_at hl 1 rfl) ?_
                            refine lv_iload_n hx hb dX2_regions_235 rfl (lv_at hl 4 rfl) ?_
                            refine lv_iload hx hb dX2_regions_236 (lv_at hl 5 rfl) ?_
                            refine lv_iconst (v := 1) hx hb dX2_regions_238 (by decide) ?_
                            refine lv_iadd hx hb dX2_regions_239 ?_
                            refine z_topi (y := nI (y + 1)) (nI_add y 1) ?_
                            refine s_callVi (As := [.int (nI x), .int (nI (y + 1))]) (rest := []) F9 (m_X2_at l dC dI cI cZ cJ cD m0 w h nd wv mA rM K tA rT T (nI x) (nI (y + 1)) (gk)) (cwV 2 hts gX2_regions_X2_at rfl rfl rfl (by decide +kernel) ⟨Nat.le_of_ble_eq_true rfl, Nat.le_of_ble_eq_true rfl⟩) hK hN hP hD hS hA [0, 1, 2, 3, 4] [5, 6] 7 rfl rfl (by decide) (fun (_ : Unit) => ([[(m0, .inr (2, [.int (nI w), .int (nI h), .int (nI nd), .int wv, .ref mA, .ref tA]))], [(mA, .inl (cJ, w, .inr (.inr (.inr (.inr (gQ w rM))))))], gB w rM cI h (gM w K), [(tA, .inl (cD, w, .inr (.inr (.inr (.inr (gQ w rT))))))], gB w rT cZ h (gZ w T), [(q_8, .inl (cJ, w, .inr (.inr (.inr (.inr (gQ w r_8))))))], gB w r_8 cI h (gV w (lV K L2))] : gW)) [0, 1, 2, 3, 4] [5, 6] 7 (fun _ => rfl) (fun _ => rfl) (fun _ => rfl) (by decide) 0 0 (ci := 2) rfl rfl rfl rfl rfl hl.1 rfl (Nat.le_of_ble_eq_true rfl) dX2_regions_240 ⟨by show 6 + 0 ≤ 6; omega, by show 30 + 0 ≤ 30; omega⟩ (fun r_240 u H locs hp_240 hP hD hS => ?_)
                            have hP : va_P (dC, dI) vwCl (List.flatten ([[(m0, .inr (2, [.int (nI w), .int (nI h), .int (nI nd), .int wv, .ref mA, .ref tA]))], [(mA, .inl (cJ, w, .inr (.inr (.inr (.inr (gQ w rM))))))], gB w rM cI h (gM w K), [(tA, .inl (cD, w, .inr (.inr (.inr (.inr (gQ w rT))))))], gB w rT cZ h (gZ w T), [(q_8, .inl (cJ, w, .inr (.inr (.inr (.inr (gQ w r_8))))))], gB w r_8 cI h (gV w (lV K L2))] : gW)) H := hP
                            have hD : va_D A (List.flatten ([[(m0, .inr (2, [.int (nI w), .int (nI h), .int (nI nd), .int wv, .ref mA, .ref tA]))], [(mA, .inl (cJ, w, .inr (.inr (.inr (.inr (gQ w rM))))))], gB w rM cI h (gM w K), [(tA, .inl (cD, w, .inr (.inr (.inr (.inr (gQ w rT))))))], gB w rT cZ h (gZ w T), [(q_8, .inl (cJ, w, .inr (.inr (.inr (.inr (gQ w r_8))))))], gB w r_8 cI h (gV w (lV K L2))] : gW)) := hD
                            have hp_240 : r_240 = atI w h K (nI x) (nI (y + 1)) := hp_240
                            refine z_topi (y := atI w h K (nI x) (nI (y + 1))) (hp_240) ?_
                            refine lv_aload_n hx hb dX2_regions_243 rfl (lv_at hl 1 rfl) ?_
                            refine s_get (D := (dC, dI)) (ci := 2) (v := .ref mA) (C := RX2) (T := TX2) (N := 6) hx hb hts iX2_regions_X2 hown hK hP 0 0 rfl rfl rfl 4 (by decide) (hts (.fieldLink RX2 21 "ColourTideLaw$Sim" "map" "[[I") (List.mem_of_getElem? (i := 5) rfl)) (fun _ h9 => h9) rfl dX2_regions_244 ?_
                            refine lv_iload_n hx hb dX2_regions_247 rfl (lv_at hl 4 rfl) ?_
                            refine s_qald hx hb hK hP 1 2 rfl rfl rfl x (rfl) (by omega) (by omega) dX2_regions_248 ?_
                            refine lv_iload hx hb dX2_regions_249 (lv_at hl 5 rfl) ?_
                            refine s_gald hx hb hK hP 2 0 x rfl (by omega) rfl y (rfl) (by omega) (by omega) dX2_regions_251 ?_
                            refine z_topi (y := nI (K (w * y + x))) (rfl) ?_
                            suffices j_270 : ∀ v_270 : Int32, v_270 = (nI (mS w h K L2 (w * y + x) 4)) → ∀ (H : Heap) (locs : List Loc) (ls : Array Slot), va_P (dC, dI) vwCl (List.flatten ([[(m0, .inr (2, [.int (nI w), .int (nI h), .int (nI nd), .int wv, .ref mA, .ref tA]))], [(mA, .inl (cJ, w, .inr (.inr (.inr (.inr (gQ w rM))))))], gB w rM cI h (gM w K), [(tA, .inl (cD, w, .inr (.inr (.inr (.inr (gQ w rT))))))], gB w rT cZ h (gZ w T), [(q_8, .inl (cJ, w, .inr (.inr (.inr (.inr (gQ w r_8))))))], gB w r_8 cI h (gV w (lV K L2))] : gW)) H → va_D A (List.flatten ([[(m0, .inr (2, [.int (nI w), .int (nI h), .int (nI nd), .int wv, .ref mA, .ref tA]))], [(mA, .inl (cJ, w, .inr (.inr (.inr (.inr (gQ w rM))))))], gB w rM cI h (gM w K), [(tA, .inl (cD, w, .inr (.inr (.inr (.inr (gQ w rT))))))], gB w rT cZ h (gZ w T), [(q_8, .inl (cJ, w, .inr (.inr (.inr (.inr (gQ w r_8))))))], gB w r_8 cI h (gV w (lV K L2))] : gW)) → va_S A s.heap H locs → lv_has ls 6 [(5, .int v_270), (0, .ref m0), (1, .ref q_8), (2, .int (bz d2)), (3, .int (nI x)), (4, .int (nI y))] → W p l e rmX2_regions s m args below meth c H locs (6) (30) Q (F0 m 270 ls []) by
                              refine lv_icmp_ne (tgt := 270) hx hb dX2_regions_252 (by decide) (fun c_252 => ?_) (fun c_252 => ?_)
                              · skip
                                exact j_270 _ (congrArg nI (ms_no (s := 3) (rs_f (sv3 gk hxw hyh) c_252)).symm) _ _ _ hP hD hS (lv_sub hl [0, 1, 2, 3, 4, 5] rfl)
                              · skip
                                obtain ⟨hp_x, hn_x, hk_x⟩ := rs_t (sv3 gk hxw hyh) hK4 hk0 c_252
                                have hd_x : w * (y + 1) + x < w * h := nbr_lt hcc hn_x
                                have hl_x : L2 (w * (y + 1) + x) < w * h := li_lt hI2.1 hd_x (by rw [hk_x]; exact hk0)
                                refine lv_iload hx hb dX2_regions_255 (lv_at hl 0 rfl) ?_
                                refine lv_aload_n hx hb dX2_regions_257 rfl (lv_at hl 2 rfl) ?_
                                refine lv_iload_n hx hb dX2_regions_258 rfl (lv_at hl 4 rfl) ?_
                                refine s_qald hx hb hK hP 5 2 rfl rfl rfl x (rfl) (by omega) (by omega) dX2_regions_259 ?_
                                refine lv_iload hx hb dX2_regions_260 (lv_at hl 5 rfl) ?_
                                refine lv_iconst (v := 1) hx hb dX2_regions_262 (by decide) ?_
                                refine lv_iadd hx hb dX2_regions_263 ?_
                                refine z_topi (y := nI (y + 1)) (nI_add y 1) ?_
                                refine s_gald hx hb hK hP 6 0 x rfl (by omega) rfl (y + 1) (rfl) (by omega) (by omega) dX2_regions_264 ?_
                                refine z_topi (y := nI (L2 (w * (y + 1) + x))) (lV_n (by rw [hk_x]; exact hk0)) ?_
                                refine va_mmin hx hb (by rw [hml]; exact hl.1.symm) hown (hts (.methodLink RX2 46 Lib.Math.min.name) (List.mem_of_getElem? (i := 6) rfl)) (hts (.static Lib.Math.min.name) (List.mem_of_getElem? (i := 7) rfl)) (hts (.initialized "java/lang/Math") (List.mem_of_getElem? (i := 8) rfl)) (hts (.code Lib.Math.min.name Lib.Math.min.code 2 (some .int)) (List.mem_of_getElem? (i := 9) rfl)) (Nat.le_of_ble_eq_true rfl) (Nat.le_of_ble_eq_true rfl) (by show 6 ≤ 6; omega) (by show 30 ≤ 30; omega) dX2_regions_265 ?_
                                refine z_topi (y := nI (mS w h K L2 (w * y + x) 4)) (ms_min (s := 3) hn_x hk_x (by have := ms_le (w := w) (h := h) (K := K) (L := L2) (c := w * y + x) 3; omega) (by omega)) ?_
                                refine lv_istore (lv' := [(5, .int (nI (mS w h K L2 (w * y + x) 4))), (0, .ref m0), (1, .ref q_8), (2, .int (bz d2)), (3, .int (nI x)), (4, .int (nI y))]) hx hb dX2_regions_268 hl (by decide) rfl (fun ls hl => ?_)
                                exact j_270 _ (rfl) _ _ _ hP hD hS (lv_sub hl [0, 1, 2, 3, 4, 5] rfl)
                            intro v_270 h_v_270 H locs ls hP hD hS hl
                            subst h_v_270
                            refine lv_iload_n hx hb dX2_regions_270 rfl (lv_at hl 3 rfl) ?_
                            suffices j_290 : ∀ v_290 : Int32, v_290 = (bz (d2 && decide (mS w h K L2 (w * y + x) 4 = L2 (w * y + x)))) → W p l e rmX2_regions s m args below meth c H locs (6) (30) Q (F0 m 290 ls [.int v_290]) by
                              refine lv_if_eq (tgt := 289) hx hb dX2_regions_271 (by decide) (fun c_271 => ?_) (fun c_271 => ?_)
                              · skip
                                refine lv_iconst (v := 0) hx hb dX2_regions_289 (by decide) ?_
                                exact j_290 _ (by rw [bz_0 c_271]; rfl)
                              · skip
                                refine lv_iload hx hb dX2_regions_274 (lv_at hl 0 rfl) ?_
                                refine lv_aload_n hx hb dX2_regions_276 rfl (lv_at hl 2 rfl) ?_
                                refine lv_iload_n hx hb dX2_regions_277 rfl (lv_at hl 4 rfl) ?_
                                refine s_qald hx hb hK hP 5 2 rfl rfl rfl x (rfl) (by omega) (by omega) dX2_regions_278 ?_
                                refine lv_iload hx hb dX2_regions_279 (lv_at hl 5 rfl) ?_
                                refine s_gald hx hb hK hP 6 0 x rfl (by omega) rfl y (rfl) (by omega) (by omega) dX2_regions_281 ?_
                                refine z_topi (y := nI (L2 (w * y + x))) (lV_n hk0) ?_
                                have hm4 := ms_le (w := w) (h := h) (K := K) (L := L2) (c := w * y + x) 4
                                refine lv_icmp_ne (tgt := 289) hx hb dX2_regions_282 (by decide) (fun c_282 => ?_) (fun c_282 => ?_)
                                · skip
                                  have n_282 := zc_eq_f (a := (mS w h K L2 (w * y + x) 4)) (b := (L2 (w * y + x))) (by omega) (by omega) c_282
                                  refine lv_iconst (v := 0) hx hb dX2_regions_289 (by decide) ?_
                                  exact j_290 _ (by rw [decide_eq_false n_282, Bool.and_false]; rfl)
                                · skip
                                  have n_282 := zc_eq_t (a := (mS w h K L2 (w * y + x) 4)) (b := (L2 (w * y + x))) (by omega) (by omega) c_282
                                  refine lv_iconst (v := 1) hx hb dX2_regions_285 (by decide) ?_
                                  refine lv_goto (tgt := 290) hx hb dX2_regions_286 (by decide) ?_
                                  exact j_290 _ (by rw [bz_1 c_271, decide_eq_true n_282]; rfl)
                            intro v_290 h_v_290
                            rw [h_v_290]
                            refine lv_istore_n (lv' := [(2, .int (bz (d2 && decide (mS w h K L2 (w * y + x) 4 = L2 (w * y + x))))), (5, .int (nI (mS w h K L2 (w * y + x) 4))), (0, .ref m0), (1, .ref q_8), (3, .int (nI x)), (4, .int (nI y))]) hx hb dX2_regions_290 rfl hl (by decide) rfl (fun ls hl => ?_)
                            refine lv_aload_n hx hb dX2_regions_291 rfl (lv_at hl 3 rfl) ?_
                            refine lv_iload_n hx hb dX2_regions_292 rfl (lv_at hl 4 rfl) ?_
                            refine s_qald hx hb hK hP 5 2 rfl rfl rfl x (rfl) (by omega) (by omega) dX2_regions_293 ?_
                            refine lv_iload hx hb dX2_regions_294 (lv_at hl 5 rfl) ?_
                            refine lv_iload hx hb dX2_regions_296 (lv_at hl 1 rfl) ?_
                            refine s_gast hx hb hK hP hD hS 6 0 x rfl (by omega) rfl y (rfl) (by omega) (by omega) dX2_regions_298 (fun H locs hP hD hS => ?_)
                            have hP : va_P (dC, dI) vwCl (List.flatten ([[(m0, .inr (2, [.int (nI w), .int (nI h), .int (nI nd), .int wv, .ref mA, .ref tA]))], [(mA, .inl (cJ, w, .inr (.inr (.inr (.inr (gQ w rM))))))], gB w rM cI h (gM w K), [(tA, .inl (cD, w, .inr (.inr (.inr (.inr (gQ w rT))))))], gB w rT cZ h (gZ w T), [(q_8, .inl (cJ, w, .inr (.inr (.inr (.inr (gQ w r_8))))))], gB w r_8 cI h (gU (gV w (lV K L2)) x y (nI (mS w h K L2 (w * y + x) 4)))] : gW)) H := hP
                            have hD : va_D A (List.flatten ([[(m0, .inr (2, [.int (nI w), .int (nI h), .int (nI nd), .int wv, .ref mA, .ref tA]))], [(mA, .inl (cJ, w, .inr (.inr (.inr (.inr (gQ w rM))))))], gB w rM cI h (gM w K), [(tA, .inl (cD, w, .inr (.inr (.inr (.inr (gQ w rT))))))], gB w rT cZ h (gZ w T), [(q_8, .inl (cJ, w, .inr (.inr (.inr (.inr (gQ w r_8))))))], gB w r_8 cI h (gU (gV w (lV K L2)) x y (nI (mS w h K L2 (w * y + x) 4)))] : gW)) := hD
                            obtain ⟨hP, hD⟩ := sg_ren hP hD 6 rfl (M2 := (gV w (lV K (upN L2 (w * y + x) (mS w h K L2 (w * y + x) 4))))) (fun i j hi hj => lV_up hxw hi hk0)
                            have hP : va_P (dC, dI) vwCl (List.flatten ([[(m0, .inr (2, [.int (nI w), .int (nI h), .int (nI nd), .int wv, .ref mA, .ref tA]))], [(mA, .inl (cJ, w, .inr (.inr (.inr (.inr (gQ w rM))))))], gB w rM cI h (gM w K), [(tA, .inl (cD, w, .inr (.inr (.inr (.inr (gQ w rT))))))], gB w rT cZ h (gZ w T), [(q_8, .inl (cJ, w, .inr (.inr (.inr (.inr (gQ w r_8))))))], gB w r_8 cI h (gV w (lV K (upN L2 (w * y + x) (mS w h K L2 (w * y + x) 4))))] : gW)) H := hP
                            have hD : va_D A (List.flatten ([[(m0, .inr (2, [.int (nI w), .int (nI h), .int (nI nd), .int wv, .ref mA, .ref tA]))], [(mA, .inl (cJ, w, .inr (.inr (.inr (.inr (gQ w rM))))))], gB w rM cI h (gM w K), [(tA, .inl (cD, w, .inr (.inr (.inr (.inr (gQ w rT))))))], gB w rT cZ h (gZ w T), [(q_8, .inl (cJ, w, .inr (.inr (.inr (.inr (gQ w r_8))))))], gB w r_8 cI h (gV w (lV K (upN L2 (w * y + x) (mS w h K L2 (w * y + x) 4))))] : gW)) := hD
                            refine lv_iinc (v := nI (y + 1)) (lv' := [(4, .int (nI (y + 1))), (2, .int (bz (d2 && decide (mS w h K L2 (w * y + x) 4 = L2 (w * y + x))))), (5, .int (nI (mS w h K L2 (w * y + x) 4))), (0, .ref m0), (1, .ref q_8), (3, .int (nI x))]) hx hb dX2_regions_299 hl (k := 5) rfl (nI_1 y) (by decide) rfl (fun ls hl => ?_)
                            refine lv_goto (tgt := 94) hx hb dX2_regions_302 (by decide) ?_
                            exact ih_94 (y + 1) (upN L2 (w * y + x) (mS w h K L2 (w * y + x) 4)) (d2 && decide (mS w h K L2 (w * y + x) 4 = L2 (w * y + x))) (by omega) (ps_step hI2 hcc hk0) _ _ _ hP hD hS (lv_sub hl [3, 4, 1, 5, 0] rfl)
                          · skip
                            have n_112 := zc_eq_t (a := (K (w * y + x))) (b := 0) (by have := hK4 (w * y + x); omega) (by have := hK4 (w * y + x); omega) c_112
                            refine lv_goto (tgt := 299) hx hb dX2_regions_115 (by decide) ?_
                            refine lv_iinc (v := nI (y + 1)) (lv' := [(4, .int (nI (y + 1))), (0, .ref m0), (1, .ref q_8), (2, .int (bz d2)), (3, .int (nI x))]) hx hb dX2_regions_299 hl (k := 4) rfl (nI_1 y) (by decide) rfl (fun ls hl => ?_)
                            refine lv_goto (tgt := 94) hx hb dX2_regions_302 (by decide) ?_
                            exact ih_94 (y + 1) L2 d2 (by omega) (ps_bare hI2 n_112) _ _ _ hP hD hS (lv_sub hl [1, 2, 3, 4, 0] rfl)
                    exact loop_94 h 0 L1 d1 (by omega) (hI1) _ _ _ hP hD hS (lv_sub hl [1, 2, 3, 4, 0] rfl)
              exact loop_83 w 0 L0 true (by omega) (ps_0 hL0) _ _ _ hP hD hS (lv_sub hl [2, 3, 1, 0] rfl)
        have hl9 := hl
        have hP9 := hP
        have hD9 := hD
        have hS9 := hS
        obtain rfl : w = x := by omega
        have hl := hl9
        have hP := hP9
        have hD := hD9
        have hS := hS9
        obtain ⟨hP, hD⟩ := sg_ren hP hD 6 rfl (M2 := (gV w (lV K (fun c => c)))) (fun i j hi hj => gF_all _ hi)
        have hP : va_P (dC, dI) vwCl (List.flatten ([[(m0, .inr (2, [.int (nI w), .int (nI h), .int (nI nd), .int wv, .ref mA, .ref tA]))], [(mA, .inl (cJ, w, .inr (.inr (.inr (.inr (gQ w rM))))))], gB w rM cI h (gM w K), [(tA, .inl (cD, w, .inr (.inr (.inr (.inr (gQ w rT))))))], gB w rT cZ h (gZ w T), [(q_8, .inl (cJ, w, .inr (.inr (.inr (.inr (gQ w r_8))))))], gB w r_8 cI h (gV w (lV K (fun c => c)))] : gW)) H := hP
        have hD : va_D A (List.flatten ([[(m0, .inr (2, [.int (nI w), .int (nI h), .int (nI nd), .int wv, .ref mA, .ref tA]))], [(mA, .inl (cJ, w, .inr (.inr (.inr (.inr (gQ w rM))))))], gB w rM cI h (gM w K), [(tA, .inl (cD, w, .inr (.inr (.inr (.inr (gQ w rT))))))], gB w rT cZ h (gZ w T), [(q_8, .inl (cJ, w, .inr (.inr (.inr (.inr (gQ w r_8))))))], gB w r_8 cI h (gV w (lV K (fun c => c)))] : gW)) := hD
        exact loop_75 (smN (fun c => c) (w * h) + 1) (fun c => c) false (Or.inr (Nat.lt_succ_self _)) (li_0 w h K) (fun z => absurd z (by decide)) _ _ _ hP hD hS (lv_sub hl [1, 2, 0] rfl)
      · skip
        have n_20 := zc_le_f (a := w) (b := x) (by omega) (by omega) c_20
        exact absurd n_20 (by omega)
    | succ n ih_15 =>
      intro x hkn  H locs ls hP hD hS hl
      refine lv_iload_n hx hb dX2_regions_15 rfl (lv_at hl 2 rfl) ?_
      refine lv_aload_n hx hb dX2_regions_16 rfl (lv_at hl 0 rfl) ?_
      refine s_get (D := (dC, dI)) (ci := 2) (v := .int (nI w)) (C := RX2) (T := TX2) (N := 6) hx hb hts iX2_regions_X2 hown hK hP 0 0 rfl rfl rfl 0 (by decide) (hts (.fieldLink RX2 13 "ColourTideLaw$Sim" "w" "I") (List.mem_of_getElem? (i := 1) rfl)) (fun _ h9 => h9) rfl dX2_regions_17 ?_
      refine lv_icmp_ge (tgt := 73) hx hb dX2_regions_20 (by decide) (fun c_20 => ?_) (fun c_20 => ?_)
      · skip
        have n_20 := zc_le_t (a := w) (b := x) (by omega) (by omega) c_20
        exact absurd n_20 (by omega)
      · skip
        have n_20 := zc_le_f (a := w) (b := x) (by omega) (by omega) c_20
        refine lv_iconst (v := 0) hx hb dX2_regions_23 (by decide) ?_
        refine lv_istore_n (lv' := [(3, .int 0), (0, .ref m0), (1, .ref q_8), (2, .int (nI x))]) hx hb dX2_regions_24 rfl hl (by decide) rfl (fun ls hl => ?_)
        have loop_25 : ∀ (n : Nat) (y : Nat) (hkn : y + n = h) (H : Heap) (locs : List Loc) (ls : Array Slot) (hP : va_P (dC, dI) vwCl (List.flatten ([[(m0, .inr (2, [.int (nI w), .int (nI h), .int (nI nd), .int wv, .ref mA, .ref tA]))], [(mA, .inl (cJ, w, .inr (.inr (.inr (.inr (gQ w rM))))))], gB w rM cI h (gM w K), [(tA, .inl (cD, w, .inr (.inr (.inr (.inr (gQ w rT))))))], gB w rT cZ h (gZ w T), [(q_8, .inl (cJ, w, .inr (.inr (.inr (.inr (gQ w r_8))))))], gB w r_8 cI h (gF (fun a b => lV K (fun c => c) (w * b + a)) x y)] : gW)) H) (hD : va_D A (List.flatten ([[(m0, .inr (2, [.int (nI w), .int (nI h), .int (nI nd), .int wv, .ref mA, .ref tA]))], [(mA, .inl (cJ, w, .inr (.inr (.inr (.inr (gQ w rM))))))], gB w rM cI h (gM w K), [(tA, .inl (cD, w, .inr (.inr (.inr (.inr (gQ w rT))))))], gB w rT cZ h (gZ w T), [(q_8, .inl (cJ, w, .inr (.inr (.inr (.inr (gQ w r_8))))))], gB w r_8 cI h (gF (fun a b => lV K (fun c => c) (w * b + a)) x y)] : gW))) (hS : va_S A s.heap H locs) (hl : lv_has ls 6 [(0, .ref m0), (1, .ref q_8), (2, .int (nI x)), (3, .int (nI y))]), W p l e rmX2_regions s m args below meth c H locs (6) (30) Q (F0 m 25 ls []) := by
          intro n
          induction n with
          | zero =>
            intro y hkn  H locs ls hP hD hS hl
            refine lv_iload_n hx hb dX2_regions_25 rfl (lv_at hl 3 rfl) ?_
            refine lv_aload_n hx hb dX2_regions_26 rfl (lv_at hl 0 rfl) ?_
            refine s_get (D := (dC, dI)) (ci := 2) (v := .int (nI h)) (C := RX2) (T := TX2) (N := 6) hx hb hts iX2_regions_X2 hown hK hP 0 0 rfl rfl rfl 1 (by decide) (hts (.fieldLink RX2 16 "ColourTideLaw$Sim" "h" "I") (List.mem_of_getElem? (i := 2) rfl)) (fun _ h9 => h9) rfl dX2_regions_27 ?_
            refine lv_icmp_ge (tgt := 67) hx hb dX2_regions_30 (by decide) (fun c_30 => ?_) (fun c_30 => ?_)
            · skip
              have n_30 := zc_le_t (a := h) (b := y) (by omega) (by omega) c_30
              refine lv_iinc (v := nI (x + 1)) (lv' := [(2, .int (nI (x + 1))), (0, .ref m0), (1, .ref q_8), (3, .int (nI y))]) hx hb dX2_regions_67 hl (k := 2) rfl (nI_1 x) (by decide) rfl (fun ls hl => ?_)
              refine lv_goto (tgt := 15) hx hb dX2_regions_70 (by decide) ?_
              have hl9 := hl
              have hP9 := hP
              have hD9 := hD
              have hS9 := hS
              obtain rfl : h = y := by omega
              have hl := hl9
              have hP := hP9
              have hD := hD9
              have hS := hS9
              obtain ⟨hP, hD⟩ := sg_ren hP hD 6 rfl (M2 := (gF (fun a b => lV K (fun c => c) (w * b + a)) (x + 1) 0)) (fun i j hi hj => gF_row _ _ _ hj)
              have hP : va_P (dC, dI) vwCl (List.flatten ([[(m0, .inr (2, [.int (nI w), .int (nI h), .int (nI nd), .int wv, .ref mA, .ref tA]))], [(mA, .inl (cJ, w, .inr (.inr (.inr (.inr (gQ w rM))))))], gB w rM cI h (gM w K), [(tA, .inl (cD, w, .inr (.inr (.inr (.inr (gQ w rT))))))], gB w rT cZ h (gZ w T), [(q_8, .inl (cJ, w, .inr (.inr (.inr (.inr (gQ w r_8))))))], gB w r_8 cI h (gF (fun a b => lV K (fun c => c) (w * b + a)) (x + 1) 0)] : gW)) H := hP
              have hD : va_D A (List.flatten ([[(m0, .inr (2, [.int (nI w), .int (nI h), .int (nI nd), .int wv, .ref mA, .ref tA]))], [(mA, .inl (cJ, w, .inr (.inr (.inr (.inr (gQ w rM))))))], gB w rM cI h (gM w K), [(tA, .inl (cD, w, .inr (.inr (.inr (.inr (gQ w rT))))))], gB w rT cZ h (gZ w T), [(q_8, .inl (cJ, w, .inr (.inr (.inr (.inr (gQ w r_8))))))], gB w r_8 cI h (gF (fun a b => lV K (fun c => c) (w * b + a)) (x + 1) 0)] : gW)) := hD
              exact ih_15 (x + 1) (by omega)  _ _ _ hP hD hS (lv_sub hl [1, 2, 0] rfl)
            · skip
              have n_30 := zc_le_f (a := h) (b := y) (by omega) (by omega) c_30
              exact absurd n_30 (by omega)
          | succ n ih_25 =>
            intro y hkn  H locs ls hP hD hS hl
            refine lv_iload_n hx hb dX2_regions_25 rfl (lv_at hl 3 rfl) ?_
            refine lv_aload_n hx hb dX2_regions_26 rfl (lv_at hl 0 rfl) ?_
            refine s_get (D := (dC, dI)) (ci := 2) (v := .int (nI h)) (C := RX2) (T := TX2) (N := 6) hx hb hts iX2_regions_X2 hown hK hP 0 0 rfl rfl rfl 1 (by decide) (hts (.fieldLink RX2 16 "ColourTideLaw$Sim" "h" "I") (List.mem_of_getElem? (i := 2) rfl)) (fun _ h9 => h9) rfl dX2_regions_27 ?_
            refine lv_icmp_ge (tgt := 67) hx hb dX2_regions_30 (by decide) (fun c_30 => ?_) (fun c_30 => ?_)
            · skip
              have n_30 := zc_le_t (a := h) (b := y) (by omega) (by omega) c_30
              exact absurd n_30 (by omega)
            · skip
              have n_30 := zc_le_f (a := h) (b := y) (by omega) (by omega) c_30
              refine lv_aload_n hx hb dX2_regions_33 rfl (lv_at hl 1 rfl) ?_
              refine lv_iload_n hx hb dX2_regions_34 rfl (lv_at hl 2 rfl) ?_
              refine s_qald hx hb hK hP 5 2 rfl rfl rfl x (rfl) (by omega) (by omega) dX2_regions_35 ?_
              refine lv_iload_n hx hb dX2_regions_36 rfl (lv_at hl 3 rfl) ?_
              refine lv_aload_n hx hb dX2_regions_37 rfl (lv_at hl 0 rfl) ?_
              refine s_get (D := (dC, dI)) (ci := 2) (v := .ref mA) (C := RX2) (T := TX2) (N := 6) hx hb hts iX2_regions_X2 hown hK hP 0 0 rfl rfl rfl 4 (by decide) (hts (.fieldLink RX2 21 "ColourTideLaw$Sim" "map" "[[I") (List.mem_of_getElem? (i := 5) rfl)) (fun _ h9 => h9) rfl dX2_regions_38 ?_
              refine lv_iload_n hx hb dX2_regions_41 rfl (lv_at hl 2 rfl) ?_
              refine s_qald hx hb hK hP 1 2 rfl rfl rfl x (rfl) (by omega) (by omega) dX2_regions_42 ?_
              refine lv_iload_n hx hb dX2_regions_43 rfl (lv_at hl 3 rfl) ?_
              refine s_gald hx hb hK hP 2 0 x rfl (by omega) rfl y (rfl) (by omega) (by omega) dX2_regions_44 ?_
              refine z_topi (y := nI (K (w * y + x))) (rfl) ?_
              suffices j_60 : ∀ v_60 : Int32, v_60 = (lV K (fun c => c) (w * y + x)) → W p l e rmX2_regions s m args below meth c H locs (6) (30) Q (F0 m 60 ls [.int v_60, .int (nI y), .ref (r_8 x)]) by
                refine lv_if_ne (tgt := 52) hx hb dX2_regions_45 (by decide) (fun c_45 => ?_) (fun c_45 => ?_)
                · skip
                  have n_45 := zc_eq_f (a := (K (w * y + x))) (b := 0) (by have := hK4 (w * y + x); omega) (by have := hK4 (w * y + x); omega) c_45
                  refine lv_aload_n hx hb dX2_regions_52 rfl (lv_at hl 0 rfl) ?_
                  refine s_get (D := (dC, dI)) (ci := 2) (v := .int (nI w)) (C := RX2) (T := TX2) (N := 6) hx hb hts iX2_regions_X2 hown hK hP 0 0 rfl rfl rfl 0 (by decide) (hts (.fieldLink RX2 13 "ColourTideLaw$Sim" "w" "I") (List.mem_of_getElem? (i := 1) rfl)) (fun _ h9 => h9) rfl dX2_regions_53 ?_
                  refine lv_iload_n hx hb dX2_regions_56 rfl (lv_at hl 3 rfl) ?_
                  refine lv_imul hx hb dX2_regions_57 ?_
                  refine z_topi (y := nI (w * y)) (pk_mul w y) ?_
                  refine lv_iload_n hx hb dX2_regions_58 rfl (lv_at hl 2 rfl) ?_
                  refine lv_iadd hx hb dX2_regions_59 ?_
                  refine z_topi (y := nI ((w * y) + x)) (nI_add (w * y) x) ?_
                  exact j_60 _ ((lV_n (L := fun c => c) n_45).symm)
                · skip
                  have n_45 := zc_eq_t (a := (K (w * y + x))) (b := 0) (by have := hK4 (w * y + x); omega) (by have := hK4 (w * y + x); omega) c_45
                  refine lv_iconst (v := (-1)) hx hb dX2_regions_48 (by decide) ?_
                  refine lv_goto (tgt := 60) hx hb dX2_regions_49 (by decide) ?_
                  exact j_60 _ (lV_0 n_45)
              intro v_60 h_v_60
              rw [h_v_60]
              refine s_gast hx hb hK hP hD hS 6 0 x rfl (by omega) rfl y (rfl) (by omega) (by omega) dX2_regions_60 (fun H locs hP hD hS => ?_)
              have hP : va_P (dC, dI) vwCl (List.flatten ([[(m0, .inr (2, [.int (nI w), .int (nI h), .int (nI nd), .int wv, .ref mA, .ref tA]))], [(mA, .inl (cJ, w, .inr (.inr (.inr (.inr (gQ w rM))))))], gB w rM cI h (gM w K), [(tA, .inl (cD, w, .inr (.inr (.inr (.inr (gQ w rT))))))], gB w rT cZ h (gZ w T), [(q_8, .inl (cJ, w, .inr (.inr (.inr (.inr (gQ w r_8))))))], gB w r_8 cI h (gU (gF (fun a b => lV K (fun c => c) (w * b + a)) x y) x y (lV K (fun c => c) (w * y + x)))] : gW)) H := hP
              have hD : va_D A (List.flatten ([[(m0, .inr (2, [.int (nI w), .int (nI h), .int (nI nd), .int wv, .ref mA, .ref tA]))], [(mA, .inl (cJ, w, .inr (.inr (.inr (.inr (gQ w rM))))))], gB w rM cI h (gM w K), [(tA, .inl (cD, w, .inr (.inr (.inr (.inr (gQ w rT))))))], gB w rT cZ h (gZ w T), [(q_8, .inl (cJ, w, .inr (.inr (.inr (.inr (gQ w r_8))))))], gB w r_8 cI h (gU (gF (fun a b => lV K (fun c => c) (w * b + a)) x y) x y (lV K (fun c => c) (w * y + x)))] : gW)) := hD
              obtain ⟨hP, hD⟩ := sg_ren hP hD 6 rfl (M2 := (gF (fun a b => lV K (fun c => c) (w * b + a)) x (y + 1))) (fun i j hi hj => congrFun (congrFun (gF_step (fun a b => lV K (fun c => c) (w * b + a)) x y) i) j)
              have hP : va_P (dC, dI) vwCl (List.flatten ([[(m0, .inr (2, [.int (nI w), .int (nI h), .int (nI nd), .int wv, .ref mA, .ref tA]))], [(mA, .inl (cJ, w, .inr (.inr (.inr (.inr (gQ w rM))))))], gB w rM cI h (gM w K), [(tA, .inl (cD, w, .inr (.inr (.inr (.inr (gQ w rT))))))], gB w rT cZ h (gZ w T), [(q_8, .inl (cJ, w, .inr (.inr (.inr (.inr (gQ w r_8))))))], gB w r_8 cI h (gF (fun a b => lV K (fun c => c) (w * b + a)) x (y + 1))] : gW)) H := hP
              have hD : va_D A (List.flatten ([[(m0, .inr (2, [.int (nI w), .int (nI h), .int (nI nd), .int wv, .ref mA, .ref tA]))], [(mA, .inl (cJ, w, .inr (.inr (.inr (.inr (gQ w rM))))))], gB w rM cI h (gM w K), [(tA, .inl (cD, w, .inr (.inr (.inr (.inr (gQ w rT))))))], gB w rT cZ h (gZ w T), [(q_8, .inl (cJ, w, .inr (.inr (.inr (.inr (gQ w r_8))))))], gB w r_8 cI h (gF (fun a b => lV K (fun c => c) (w * b + a)) x (y + 1))] : gW)) := hD
              refine lv_iinc (v := nI (y + 1)) (lv' := [(3, .int (nI (y + 1))), (0, .ref m0), (1, .ref q_8), (2, .int (nI x))]) hx hb dX2_regions_61 hl (k := 3) rfl (nI_1 y) (by decide) rfl (fun ls hl => ?_)
              refine lv_goto (tgt := 25) hx hb dX2_regions_64 (by decide) ?_
              exact ih_25 (y + 1) (by omega)  _ _ _ hP hD hS (lv_sub hl [1, 2, 3, 0] rfl)
        exact loop_25 h 0 (by omega)  _ _ _ hP hD hS (lv_sub hl [1, 2, 3, 0] rfl)
  obtain ⟨hP, hD⟩ := sg_ren hP hD 6 rfl (M2 := (gF (fun a b => lV K (fun c => c) (w * b + a)) 0 0)) (fun i j hi hj => congrFun (congrFun (gF_0 (fun a b => lV K (fun c => c) (w * b + a))) i) j)
  have hP : va_P (dC, dI) vwCl (List.flatten ([[(m0, .inr (2, [.int (nI w), .int (nI h), .int (nI nd), .int wv, .ref mA, .ref tA]))], [(mA, .inl (cJ, w, .inr (.inr (.inr (.inr (gQ w rM))))))], gB w rM cI h (gM w K), [(tA, .inl (cD, w, .inr (.inr (.inr (.inr (gQ w rT))))))], gB w rT cZ h (gZ w T), [(q_8, .inl (cJ, w, .inr (.inr (.inr (.inr (gQ w r_8))))))], gB w r_8 cI h (gF (fun a b => lV K (fun c => c) (w * b + a)) 0 0)] : gW)) H := hP
  have hD : va_D A (List.flatten ([[(m0, .inr (2, [.int (nI w), .int (nI h), .int (nI nd), .int wv, .ref mA, .ref tA]))], [(mA, .inl (cJ, w, .inr (.inr (.inr (.inr (gQ w rM))))))], gB w rM cI h (gM w K), [(tA, .inl (cD, w, .inr (.inr (.inr (.inr (gQ w rT))))))], gB w rT cZ h (gZ w T), [(q_8, .inl (cJ, w, .inr (.inr (.inr (.inr (gQ w r_8))))))], gB w r_8 cI h (gF (fun a b => lV K (fun c => c) (w * b + a)) 0 0)] : gW)) := hD
  exact loop_15 w 0 (by omega)  _ _ _ hP hD hS (lv_sub hl [2, 1, 0] rfl)
