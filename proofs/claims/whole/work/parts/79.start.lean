/-! the law: what its calls ask of the tables; its loop; its start -/
theorem lw_str {own tx : String} {k : Nat} {args : Array Value} {s : State} (h1 : (Cond.stringRef own k tx).before args s = true) (h2 : (Cond.exactly (.string own k) "java/lang/String").before args s = true) : ∃ a, vk_R own k tx a s := by
  obtain ⟨a, c, cell, kk, e, -⟩ := Cond.exactly_spec (args := args) (first := s) (o := none) (s := s) (idx := []) (t := .string own k) (cls := "java/lang/String") h2
  exact ⟨a, vk_R.of h1 e⟩
theorem lw_arr {ty : FieldType} {args : Array Value} {s : State} (h : (Cond.arrayClass ty).before args s = true) : ∃ cA, ArrOfT s cA ty ∧ s.vm.findClass ("[" ++ ty.toString) = some cA := by
  obtain ⟨cA, kA, comp, h1, h2, h3⟩ := Cond.arrayClass_spec (args := args) (first := s) (o := none) (s := s) (idx := []) h
  exact ⟨cA, fun n z => ⟨fun k h => (by cases h), kA, h2, comp, h3⟩, h1⟩
theorem lw_strs {args : Array Value} {s : State} (hz : ∀ q ∈ zSt, ∃ a, vk_R RX1 q.1 q.2 a s) : ∃ ad : Nat → Nat, ∀ q ∈ zSt, vk_R RX1 q.1 q.2 (ad q.1) s := by
  refine ⟨fun k => Classical.epsilon (fun a : Nat => (Term.string RX1 k).eval #[] s none [] s = some (.ref a)), fun q hq => ?_⟩
  obtain ⟨a, h1, h2⟩ := hz q hq
  exact ⟨h1, Classical.epsilon_spec (p := fun a : Nat => (Term.string RX1 q.1).eval #[] s none [] s = some (.ref a)) ⟨a, h2⟩⟩
theorem lw_31 (x : Int32) : ∃ v : Nat, v < 32 ∧ x &&& 31 = nI v := by
  refine ⟨(x &&& 31).toBitVec.toNat, ?_, ?_⟩
  · rw [Int32.toBitVec_and, BitVec.toNat_and]
    exact Nat.lt_of_le_of_lt Nat.and_le_right (by decide)
  · apply Int32.toBitVec_inj.1
    show _ = BitVec.ofNat 32 _
    rw [BitVec.ofNat_toNat, BitVec.setWidth_eq]
theorem lw_cmpL {L i : Nat} (hL : L ≤ 2048) (hi : i ≤ 4096) : nI L - 4 < nI i ↔ L < i + 4 := by
  rcases Nat.lt_or_ge L 4 with h | h
  · have h0 : (0 : Int32) ≤ nI i := nI_pos' (by omega)
    have h1 : nI L - 4 < 0 := by
      rcases (show L = 0 ∨ L = 1 ∨ L = 2 ∨ L = 3 by omega) with rfl | rfl | rfl | rfl <;> decide +kernel
    exact ⟨fun _ => by omega, fun _ => Int32.lt_of_lt_of_le h1 h0⟩
  · obtain ⟨k, rfl⟩ : ∃ k, L = k + 4 := ⟨L - 4, by omega⟩
    have e : nI (k + 4) - 4 = nI k := by
      rw [← nI_add]
      exact Int32.add_sub_cancel _ _
    rw [e, nI_ltI (by omega) (by omega)]
    omega
set_option maxHeartbeats 4000000 in
set_option maxRecDepth 100000 in
theorem lw_zE {s : State} {b : Nat} (hts : ∀ w ∈ lw_tbl, w.before #[Value.ref b] s = true) (hgv : (Jvm.Cond.and given_1 narrow_1).before #[Value.ref b] s = true) : ∃ ad : Nat → Nat, zE (fun q : Nat => s.heap.size ≤ q) ad s s.heap := by
  have hs := flat_of_before _ hgv
  have hA : ∀ a : Nat, a < s.heap.size → ¬ (fun q : Nat => s.heap.size ≤ q) a := fun a h => Nat.not_le.mpr h
  have hz : ∀ q ∈ zSt, ∃ a, vk_R RX1 q.1 q.2 a s := by
    intro q hq
    simp only [zSt, List.mem_cons, List.not_mem_nil, or_false] at hq
    rcases hq with rfl | rfl | rfl | rfl | rfl | rfl | rfl
    · exact lw_str (hts (.stringRef RX1 39 "a map is 2 to 5 cells wide and high") (List.mem_of_getElem? (i := 301) (by decide +kernel))) (hs (.exactly (.string RX1 39) "java/lang/String") (by decide +kernel))
    · exact lw_str (hts (.stringRef RX1 53 "no such cell or colour") (List.mem_of_getElem? (i := 355) (by decide +kernel))) (hs (.exactly (.string RX1 53) "java/lang/String") (by decide +kernel))
    · exact lw_str (hts (.stringRef RX1 67 "no such cell") (List.mem_of_getElem? (i := 373) (by decide +kernel))) (hs (.exactly (.string RX1 67) "java/lang/String") (by decide +kernel))
    · exact lw_str (hts (.stringRef RX1 72 "the need is 1 to 4") (List.mem_of_getElem? (i := 381) (by decide +kernel))) (hs (.exactly (.string RX1 72) "java/lang/String") (by decide +kernel))
    · exact lw_str (hts (.stringRef RX1 77 "1 to 40 waves") (List.mem_of_getElem? (i := 389) (by decide +kernel))) (hs (.exactly (.string RX1 77) "java/lang/String") (by decide +kernel))
    · exact lw_str (hts (.stringRef RX1 103 "no such colour") (List.mem_of_getElem? (i := 434) (by decide +kernel))) (hs (.exactly (.string RX1 103) "java/lang/String") (by decide +kernel))
    · exact lw_str (hts (.stringRef RX1 140 "1 to 24 waves") (List.mem_of_getElem? (i := 493) (by decide +kernel))) (hs (.exactly (.string RX1 140) "java/lang/String") (by decide +kernel))
  obtain ⟨ad, had⟩ := lw_strs (args := #[]) hz
  refine ⟨ad, ⟨va_Nw.of rfl (hts (nwA) (List.mem_of_getElem? (i := 85) (by decide +kernel))), va_Nw.of rfl (hts (nwB) (List.mem_of_getElem? (i := 219) (by decide +kernel)))⟩, ?_, ?_, ⟨va_Nw.of rfl (hts (.castable xIA xIA) (List.mem_of_getElem? (i := 263) (by decide +kernel))), va_Nw.of rfl (hts (.castable xIO xIO) (List.mem_of_getElem? (i := 348) (by decide +kernel))), va_Nw.of rfl (hts (.declares (Bundle.initS "java/lang/RuntimeException")) (List.mem_of_getElem? (i := 265) (by decide +kernel))), va_Nw.of rfl (hts (.declares (Bundle.initS "java/lang/Exception")) (List.mem_of_getElem? (i := 267) (by decide +kernel))), va_Nw.of rfl (hts (.declares (Bundle.initS Bundle.tN)) (List.mem_of_getElem? (i := 269) (by decide +kernel))), ?_, ?_⟩, had⟩
  · exact vx_Zqof (hts (.laysStatic Bundle.tN "UNASSIGNED_STACK" Bundle.steD) (List.mem_of_getElem? (i := 288) (by decide +kernel))) (hts (.initialized Bundle.tN) (List.mem_of_getElem? (i := 36) (by decide +kernel))) (hs (.isRef (.static Bundle.tN "UNASSIGNED_STACK" Bundle.steD)) (by decide +kernel)) hA
  · exact vx_Zqof (hts (.laysStatic Bundle.tN "SUPPRESSED_SENTINEL" Bundle.listD) (List.mem_of_getElem? (i := 290) (by decide +kernel))) (hts (.initialized Bundle.tN) (List.mem_of_getElem? (i := 36) (by decide +kernel))) (hs (.isRef (.static Bundle.tN "SUPPRESSED_SENTINEL" Bundle.listD)) (by decide +kernel)) hA
  · exact va_Nc.of (args := #[Value.ref b]) (hs (.not (.castable xIA xIO)) (by decide +kernel))
  · exact va_Nc.of (args := #[Value.ref b]) (hs (.not (.castable xIO xIA)) (by decide +kernel))
set_option maxHeartbeats 4000000 in
set_option maxRecDepth 100000 in
theorem lw_get {p : Program} {l : Launch} {s : State} {m : MethodId} {meth : Method} {c : Code} {b L : Nat} {xs : Nat → Int32} (hflags : l.flags = flags0) (hL : L ≤ 2048) (C0 : lw_At p s m meth c b L xs) : ∃ (dC : Nat → ClassId) (dI : Nat → Nat → Nat) (cI cZ cJ cD : ClassId) (ad : Nat → Nat), lwC p l s m c b L xs dC dI cI cZ cJ cD ad := by
  obtain ⟨hx, hb, hr, hml, hown, hts, hX, hbl, hlocks, hgv⟩ := id C0
  have htsL : ∀ w ∈ wsL_law, w.before #[Value.ref b] s = true := fun w h => hts w (wsL_law_in w h)
  obtain ⟨c0, i0, k0⟩ := u_known (C := RX0) (T := TX0) (N := 6) (n := 6) hts inX0 (htsL (.instantiable RX0 6) (List.mem_of_getElem? (i := 15) rfl))
  obtain ⟨c1, i1, k1⟩ := u_known (C := RX1) (T := TX1) (N := 5) (n := 5) hts inX1 (htsL (.instantiable RX1 5) (List.mem_of_getElem? (i := 1) rfl))
  obtain ⟨c2, i2, k2⟩ := u_known (C := RX2) (T := TX2) (N := 14) (n := 14) hts inX2 (htsL (.instantiable RX2 14) (List.mem_of_getElem? (i := 4) rfl))
  obtain ⟨cI, eI, fI⟩ := lw_arr (htsL (.arrayClass .int) (List.mem_of_getElem? (i := 27) rfl))
  obtain ⟨cZ, eZ, fZ⟩ := lw_arr (htsL (.arrayClass .boolean) (List.mem_of_getElem? (i := 46) rfl))
  obtain ⟨cJ, eJ, fJ⟩ := lw_arr (htsL (.arrayClass .long) (List.mem_of_getElem? (i := 6) rfl))
  obtain ⟨cD, eD, fD⟩ := lw_arr (htsL (.arrayClass .double) (List.mem_of_getElem? (i := 7) rfl))
  obtain ⟨ad, hE⟩ := lw_zE hts hgv
  refine ⟨fun k => if k = 0 then c0 else if k = 1 then c1 else c2, fun k => if k = 0 then i0 else if k = 1 then i1 else i2, cI, cZ, cJ, cD, ad, ⟨hx, hb, hml, hown, htsL⟩, ⟨?_, ?_⟩, hE, hX, hbl, ?_, hL⟩
  · intro k q hq
    match k, hq with
    | 0, hq => cases hq; exact k0
    | 1, hq => cases hq; exact k1
    | 2, hq => cases hq; exact k2
    | k + 3, hq => simp [vwCl] at hq
  · intro k q hq
    match k, hq with
    | 0, hq => cases hq; exact ⟨eI, fI⟩
    | 1, hq => cases hq; exact ⟨eZ, fZ⟩
    | 2, hq => cases hq; exact ⟨eJ, fJ⟩
    | 3, hq => cases hq; exact ⟨eD, fD⟩
    | k + 4, hq => simp [wT] at hq
  · unfold Launch.stackTraces
    rw [hflags]
    decide +kernel
set_option maxHeartbeats 4000000 in
set_option maxRecDepth 100000 in
theorem lw_loop {p : Program} {l : Launch} {e : Env} {s : State} {m : MethodId} {below : List Frame} {meth : Method} {c : Code} {Q : State → Prop} {b L : Nat} {xs : Nat → Int32} {dC : Nat → ClassId} {dI : Nat → Nat → Nat} {cI cZ cJ cD : ClassId} {ad : Nat → Nat} (C : lwC p l s m c b L xs dC dI cI cZ cJ cD ad) {h0 hM aS aC aG hV bS bC bG m0 a1 a2 a3 a4 a5 a6 a7 a8 o1 o2 : Nat} (fin : ∀ (H : Heap) (locs : List Loc) (ls : Array Slot), va_S (fun q : Nat => s.heap.size ≤ q) s.heap H locs → W p l e room_1 s m #[Value.ref b] below meth c H locs 601024 7293034 Q (F0 m 1520 ls [])) : ∀ (n i cells slots : Nat), L ≤ i + 4 * n → i ≤ 2048 → cells + 2 * n ≤ 601024 → slots + 20 * n ≤ 7293034 → ∀ (H : Heap) (locs : List Loc) (ls : Array Slot), lwSt s dC dI cI cZ cJ cD b h0 hM aS aC aG hV bS bC bG m0 a1 a2 a3 a4 a5 a6 a7 a8 o1 o2 i H locs ls → W p l e room_1 s m #[Value.ref b] below meth c H locs cells slots Q (F0 m 28 ls []) := by
  obtain ⟨F9, hK, hE, hX, hbl, hst, hL⟩ := id C
  have hN := hE.1
  have hx := F9.1
  have hb := F9.2.1
  have hts := F9.2.2.2.2
  have hA : ∀ q : Nat, s.heap.size ≤ q → (fun q : Nat => s.heap.size ≤ q) q := fun _ h => h
  have hbA : ¬ (fun q : Nat => s.heap.size ≤ q) b := Nat.not_le.mpr hbl
  have hL2 : L < 2 ^ 31 := by omega
  intro n
  induction n with
  | zero =>
    intro i cells slots h1 h2 h3 h4 H locs ls St
    obtain ⟨wn, hn, q0, wv, bd, sb, S0, Cr, G0, bd2, sb2, nd2, S2, Cr2, G2, th, mn, K0, T0, NX, KP, RG, SZ, LN, ov, od, I, hP, hD, hS, hl⟩ := St
    refine lv_iload hx hb dL_law_28 (lv_at hl 5 rfl) ?_
    refine lv_aload_n hx hb dL_law_30 rfl (lv_at hl 0 rfl) ?_
    refine va_slen hx hb hX hbl hbA hS dL_law_31 ?_
    refine lv_iconst (v := 4) hx hb dL_law_32 (by decide) ?_
    refine lv_isub hx hb dL_law_33 ?_
    exact lv_icmp_gt (tgt := 1520) hx hb dL_law_34 (by decide) (fun _ => W.widen (by omega) (by omega) (fin _ _ _ hS)) (fun c0 => absurd ((lw_cmpL hL (by omega)).mpr (by omega)) c0)
  | succ n ih =>
    intro i cells slots h1 h2 h3 h4 H locs ls St
    have St0 := St
    obtain ⟨wn, hn, q0, wv, bd, sb, S0, Cr, G0, bd2, sb2, nd2, S2, Cr2, G2, th, mn, K0, T0, NX, KP, RG, SZ, LN, ov, od, I, hP, hD, hS, hl⟩ := St
    refine lv_iload hx hb dL_law_28 (lv_at hl 5 rfl) ?_
    refine lv_aload_n hx hb dL_law_30 rfl (lv_at hl 0 rfl) ?_
    refine va_slen hx hb hX hbl hbA hS dL_law_31 ?_
    refine lv_iconst (v := 4) hx hb dL_law_32 (by decide) ?_
    refine lv_isub hx hb dL_law_33 ?_
    refine lv_icmp_gt (tgt := 1520) hx hb dL_law_34 (by decide) (fun _ => W.widen (by omega) (by omega) (fin _ _ _ hS)) (fun c0 => ?_)
    have hi : i + 4 ≤ L := Nat.not_lt.mp (fun q => c0 ((lw_cmpL hL (by omega)).mpr q))
    have kk : ∀ (H : Heap) (locs : List Loc) (ls : Array Slot), lwSt s dC dI cI cZ cJ cD b h0 hM aS aC aG hV bS bC bG m0 a1 a2 a3 a4 a5 a6 a7 a8 o1 o2 i H locs ls → W p l e room_1 s m #[Value.ref b] below meth c H locs (cells + 2) (slots + 20) Q (F0 m 1514 ls []) := by
      intro H locs ls St
      obtain ⟨wn, hn, q0, wv, bd, sb, S0, Cr, G0, bd2, sb2, nd2, S2, Cr2, G2, th, mn, K0, T0, NX, KP, RG, SZ, LN, ov, od, I, hP, hD, hS, hl⟩ := St
      refine lv_iinc (v := nI (i + 4)) (lv' := [(5, .int (nI (i + 4))), (0, .ref b), (1, .ref h0), (2, .ref m0), (3, .ref o1), (4, .ref o2)]) hx hb dL_law_1514 hl (k := 5) rfl (nI_add i 4) (by decide) rfl (fun ls hl => ?_)
      refine lv_goto (tgt := 28) hx hb dL_law_1517 (by decide) ?_
      exact ih (i + 4) _ _ (by omega) (by omega) (by omega) (by omega) H locs ls ⟨wn, hn, q0, wv, bd, sb, S0, Cr, G0, bd2, sb2, nd2, S2, Cr2, G2, th, mn, K0, T0, NX, KP, RG, SZ, LN, ov, od, I, hP, hD, hS, lv_sub hl [1, 2, 3, 4, 5, 0] rfl⟩
    have ko : W p l e room_1 s m #[Value.ref b] below meth c H locs cells slots Q (F0 m 1514 ls []) := W.widen (by omega) (by omega) (kk H locs ls St0)
    refine lv_aload_n hx hb dL_law_37 rfl (lv_at hl 0 rfl) ?_
    refine lv_iload hx hb dL_law_38 (lv_at hl 5 rfl) ?_
    refine va_sld hx hb hX hbl hbA hS (vp_in_nI (by omega) hL2) dL_law_40 ?_
    refine lv_bipush (v := 31) hx hb dL_law_41 (by decide +kernel) ?_
    refine lv_iand hx hb dL_law_43 ?_
    obtain ⟨v, hv, ev⟩ := lw_31 (xs (nI i).toNatClampNeg)
    refine z_topi ev ?_
    rcases (show v = 0 ∨ v = 1 ∨ v = 2 ∨ v = 3 ∨ v = 4 ∨ v = 5 ∨ v = 6 ∨ v = 7 ∨ v = 8 ∨ v = 9 ∨ v = 10 ∨ v = 11 ∨ v = 12 ∨ v = 13 ∨ v = 14 ∨ v = 15 ∨ v = 16 ∨ v = 17 ∨ v = 18 ∨ v = 19 ∨ v = 20 ∨ v = 21 ∨ v = 22 ∨ v = 23 ∨ v = 24 ∨ v = 25 ∨ v = 26 ∨ v = 27 ∨ v = 28 ∨ v = 29 ∨ v = 30 ∨ v = 31 by omega) with rfl | rfl | rfl | rfl | rfl | rfl | rfl | rfl | rfl | rfl | rfl | rfl | rfl | rfl | rfl | rfl | rfl | rfl | rfl | rfl | rfl | rfl | rfl | rfl | rfl | rfl | rfl | rfl | rfl | rfl | rfl | rfl
    · exact lv_tableIn (off := 132) (tgt := 176) hx hb dL_law_44 (by decide +kernel) (by decide +kernel) rfl (by decide) (lwc_0 C hi (Nat.le_refl _) (Nat.le_refl _) (by omega) (by omega) kk St0)
    · exact lv_tableIn (off := 200) (tgt := 244) hx hb dL_law_44 (by decide +kernel) (by decide +kernel) rfl (by decide) (lwc_1 C hi (Nat.le_refl _) (Nat.le_refl _) (by omega) (by omega) kk St0)
    · exact lv_tableIn (off := 280) (tgt := 324) hx hb dL_law_44 (by decide +kernel) (by decide +kernel) rfl (by decide) (lwc_2 C hi (Nat.le_refl _) (Nat.le_refl _) (by omega) (by omega) kk St0)
    · exact lv_tableIn (off := 355) (tgt := 399) hx hb dL_law_44 (by decide +kernel) (by decide +kernel) rfl (by decide) (lwc_3 C hi (Nat.le_refl _) (Nat.le_refl _) (by omega) (by omega) kk St0)
    · exact lv_tableIn (off := 411) (tgt := 455) hx hb dL_law_44 (by decide +kernel) (by decide +kernel) rfl (by decide) (lwc_4 C hi (Nat.le_refl _) (Nat.le_refl _) (by omega) (by omega) kk St0)
    · exact lv_tableIn (off := 467) (tgt := 511) hx hb dL_law_44 (by decide +kernel) (by decide +kernel) rfl (by decide) (lwc_5 C hi (Nat.le_refl _) (Nat.le_refl _) (by omega) (by omega) kk St0)
    · exact lv_tableIn (off := 535) (tgt := 579) hx hb dL_law_44 (by decide +kernel) (by decide +kernel) rfl (by decide) (lwc_6 C hi (Nat.le_refl _) (Nat.le_refl _) (by omega) (by omega) kk St0)
    · exact lv_tableIn (off := 610) (tgt := 654) hx hb dL_law_44 (by decide +kernel) (by decide +kernel) rfl (by decide) (lwc_7 C hi (Nat.le_refl _) (Nat.le_refl _) (by omega) (by omega) kk St0)
    · exact lv_tableIn (off := 690) (tgt := 734) hx hb dL_law_44 (by decide +kernel) (by decide +kernel) rfl (by decide) (lwc_8 C hi (Nat.le_refl _) (Nat.le_refl _) (by omega) (by omega) kk St0)
    · exact lv_tableIn (off := 758) (tgt := 802) hx hb dL_law_44 (by decide +kernel) (by decide +kernel) rfl (by decide) (lwc_9 C hi (Nat.le_refl _) (Nat.le_refl _) (by omega) (by omega) kk St0)
    · exact lv_tableIn (off := 826) (tgt := 870) hx hb dL_law_44 (by decide +kernel) (by decide +kernel) rfl (by decide) (lwc_10 C hi (Nat.le_refl _) (Nat.le_refl _) (by omega) (by omega) kk St0)
    · exact lv_tableIn (off := 839) (tgt := 883) hx hb dL_law_44 (by decide +kernel) (by decide +kernel) rfl (by decide) (lwc_11 C hi (Nat.le_refl _) (Nat.le_refl _) (by omega) (by omega) kk St0)
    · exact lv_tableIn (off := 852) (tgt := 896) hx hb dL_law_44 (by decide +kernel) (by decide +kernel) rfl (by decide) (lwc_12 C hi (Nat.le_refl _) (Nat.le_refl _) (by omega) (by omega) kk St0)
    · exact lv_tableIn (off := 865) (tgt := 909) hx hb dL_law_44 (by decide +kernel) (by decide +kernel) rfl (by decide) (lwc_13 C hi (Nat.le_refl _) (Nat.le_refl _) (by omega) (by omega) kk St0)
    · exact lv_tableIn (off := 878) (tgt := 922) hx hb dL_law_44 (by decide +kernel) (by decide +kernel) rfl (by decide) (lwc_14 C hi (Nat.le_refl _) (Nat.le_refl _) (by omega) (by omega) kk St0)
    · exact lv_tableIn (off := 891) (tgt := 935) hx hb dL_law_44 (by decide +kernel) (by decide +kernel) rfl (by decide) (lwc_15 C hi (Nat.le_refl _) (Nat.le_refl _) (by omega) (by omega) kk St0)
    · exact lv_tableIn (off := 947) (tgt := 991) hx hb dL_law_44 (by decide +kernel) (by decide +kernel) rfl (by decide) (lwc_16 C hi (Nat.le_refl _) (Nat.le_refl _) (by omega) (by omega) kk St0)
    · exact lv_tableIn (off := 1003) (tgt := 1047) hx hb dL_law_44 (by decide +kernel) (by decide +kernel) rfl (by decide) (lwc_17 C hi (Nat.le_refl _) (Nat.le_refl _) (by omega) (by omega) kk St0)
    · exact lv_tableIn (off := 1059) (tgt := 1103) hx hb dL_law_44 (by decide +kernel) (by decide +kernel) rfl (by decide) (lwc_18 C hi (Nat.le_refl _) (Nat.le_refl _) (by omega) (by omega) kk St0)
    · exact lv_tableIn (off := 1072) (tgt := 1116) hx hb dL_law_44 (by decide +kernel) (by decide +kernel) rfl (by decide) (lwc_19 C hi (Nat.le_refl _) (Nat.le_refl _) (by omega) (by omega) kk St0)
    · exact lv_tableIn (off := 1085) (tgt := 1129) hx hb dL_law_44 (by decide +kernel) (by decide +kernel) rfl (by decide) (lwc_20 C hi (Nat.le_refl _) (Nat.le_refl _) (by omega) (by omega) kk St0)
    · exact lv_tableIn (off := 1098) (tgt := 1142) hx hb dL_law_44 (by decide +kernel) (by decide +kernel) rfl (by decide) (lwc_21 C hi (Nat.le_refl _) (Nat.le_refl _) (by omega) (by omega) kk St0)
    · exact lv_tableIn (off := 1111) (tgt := 1155) hx hb dL_law_44 (by decide +kernel) (by decide +kernel) rfl (by decide) (lwc_22 C hi (Nat.le_refl _) (Nat.le_refl _) (by omega) (by omega) kk St0)
    · exact lv_tableIn (off := 1124) (tgt := 1168) hx hb dL_law_44 (by decide +kernel) (by decide +kernel) rfl (by decide) (lwc_23 C hi (Nat.le_refl _) (Nat.le_refl _) (by omega) (by omega) kk St0)
    · exact lv_tableIn (off := 1192) (tgt := 1236) hx hb dL_law_44 (by decide +kernel) (by decide +kernel) rfl (by decide) (lwc_24 C hi (Nat.le_refl _) (Nat.le_refl _) (by omega) (by omega) kk St0)
    · exact lv_tableIn (off := 1255) (tgt := 1299) hx hb dL_law_44 (by decide +kernel) (by decide +kernel) rfl (by decide) (lwc_25 C hi (Nat.le_refl _) (Nat.le_refl _) (by omega) (by omega) kk St0)
    · exact lv_tableIn (off := 1311) (tgt := 1355) hx hb dL_law_44 (by decide +kernel) (by decide +kernel) rfl (by decide) (lwc_26 C hi (Nat.le_refl _) (Nat.le_refl _) (by omega) (by omega) kk St0)
    · exact lv_tableIn (off := 1379) (tgt := 1423) hx hb dL_law_44 (by decide +kernel) (by decide +kernel) rfl (by decide) (lwc_27 C hi (Nat.le_refl _) (Nat.le_refl _) (by omega) (by omega) kk St0)
    · exact lv_tableIn (off := 1456) (tgt := 1500) hx hb dL_law_44 (by decide +kernel) (by decide +kernel) rfl (by decide) (lwc_28 C hi (Nat.le_refl _) (Nat.le_refl _) (by omega) (by omega) kk St0)
    · exact lv_tableOut (tgt := 1514) hx hb dL_law_44 (by decide +kernel) (by decide) ko
    · exact lv_tableOut (tgt := 1514) hx hb dL_law_44 (by decide +kernel) (by decide) ko
    · exact lv_tableOut (tgt := 1514) hx hb dL_law_44 (by decide +kernel) (by decide) ko
set_option maxHeartbeats 4000000 in
set_option maxRecDepth 100000 in
theorem whole_start {p : Program} {e : Env} {s : State} {m : MethodId} {below : List Frame} {meth : Method} {c : Code} (l : Launch) (hflags : l.flags = flags0) {b L : Nat} {xs : Nat → Int32} (hL : L ≤ 2048) (C0 : lw_At p s m meth c b L xs) : W p l e room_1 s m #[Value.ref b] below meth c s.heap [] 0 0 (lw_Z below #[Value.ref b] s) (entryFrame m ([Value.ref b] : List Value).toArray 9) := by
  obtain ⟨dC, dI, cI, cZ, cJ, cD, ad, C⟩ := lw_get hflags hL C0
  obtain ⟨hx, hb, hr, hml, hown, hts, hX, hbl, hlocks, hgv⟩ := id C0
  obtain ⟨F9, hK, hE, -, -, hst, -⟩ := id C
  have hN := hE.1
  have htsL := F9.2.2.2.2
  have fin : ∀ (H : Heap) (locs : List Loc) (ls : Array Slot), va_S (fun q : Nat => s.heap.size ≤ q) s.heap H locs → W p l e room_1 s m #[Value.ref b] below meth c H locs 601024 7293034 (lw_Z below #[Value.ref b] s) (F0 m 1520 ls []) := by
    intro H locs ls hS
    refine lv_iconst (v := 1) hx hb dL_law_1520 (by decide) ?_
    refine va_forget (fun q hq => hS.2.2 q hq) ?_
    exact lw_ret (d0 := s.drawn) (Drawn.sameBut.refl s.drawn lw_cs) hx hb hr hlocks dL_law_1521
  generalize lw_Z below #[Value.ref b] s = Q at fin ⊢
  have hA : ∀ q : Nat, s.heap.size ≤ q → (fun q : Nat => s.heap.size ≤ q) q := fun _ h => h
  have hS : va_S (fun q : Nat => s.heap.size ≤ q) s.heap s.heap [] := va_S.rf
  have hP : va_P (dC, dI) vwCl [] s.heap := fun k q h => by simp at h
  have hD : va_D (fun q : Nat => s.heap.size ≤ q) [] := ⟨fun i j p q h => by simp at h, fun k q h => by simp at h⟩
  have hl := lv_entry ([.ref b]) (n := 9) (Nat.le_of_ble_eq_true rfl)
  rw [lg_entry_eq]
  generalize (lg_sl ([.ref b]) ++ List.replicate (9 - (lg_sl ([.ref b])).length) Slot.unset).toArray = ls at hl ⊢
  have hl : lv_has ls 9 [(0, .ref b)] := hl
  refine va_new (ci := 1) (fs := [.null, .null, .int 0, .int 0, .int 0]) (C := RX1) (T := TX1) (N := 5) hx hb htsL inlX1 tyX1 tyX1_ok hown (htsL (.classLink RL 8 RX1) (List.mem_of_getElem? (i := 0) rfl)) (htsL (.instantiable RX1 5) (List.mem_of_getElem? (i := 1) rfl)) (htsL (.initialized RX1) (List.mem_of_getElem? (i := 2) rfl)) hK hP hD hS hA rfl (fun j hj => by rcases (show j = 0 ∨ j = 1 ∨ j = 2 ∨ j = 3 ∨ j = 4 by omega) with rfl | rfl | rfl | rfl | rfl <;> rfl) (Nat.le_of_ble_eq_true rfl) (Nat.le_of_ble_eq_true rfl) dL_law_0 (fun h0 H hP hD hS => ?_)
  have hP : va_P (dC, dI) vwCl [(h0, .inr (1, [.null, .null, .int 0, .int 0, .int 0]))] H := hP
  have hD : va_D (fun q : Nat => s.heap.size ≤ q) [(h0, .inr (1, [.null, .null, .int 0, .int 0, .int 0]))] := hD
  refine W.widen (k := 1) (n := 5) (Nat.le_of_ble_eq_true rfl) (Nat.le_of_ble_eq_true rfl) ?_
  refine lv_dup hx hb dL_law_3 rfl ?_
  refine z_callI (As := []) (rest := [.ref h0]) (wr := []) F9 (m_X1_init l dC dI cI cZ cJ cD h0) (cwI 0 htsL gL_law_X1_init rfl rfl rfl (htsL (.initialized RX1) (List.mem_of_getElem? (i := 2) rfl)) (htsL (.methodLink RL 73 yX1_init) (List.mem_of_getElem? (i := 8) rfl)) (htsL (.instanceMethod yX1_init) (List.mem_of_getElem? (i := 9) rfl)) rfl (by decide +kernel) ⟨Nat.le_of_ble_eq_true rfl, Nat.le_of_ble_eq_true rfl⟩) hK hN hP hD hS hA [0] [] rfl rfl (by decide) (by decide) (by decide) rfl hl.1 rfl (Nat.le_of_ble_eq_true rfl) dL_law_4 ⟨Nat.le_of_ble_eq_true rfl, Nat.le_of_ble_eq_true rfl⟩ (fun u H locs hp hP hD hS => ?_)
  obtain ⟨hM, aS, aC, aG, hV, bS, bC, bG⟩ := u
  have hP : va_P (dC, dI) vwCl [(h0, .inr (1, [.ref hM, .ref hV, .int 4, .int 4, .int 0])), (hM, .inr (0, [.int (pBrd 4 4), .int 0, .int 2, .ref aS, .ref aC, .ref aG])), (aS, .inl (cI, 5, .inl (zfill (pClrF (pBrd 4 4)) (fun _ => 0) 5))), (aC, .inl (cI, 5, .inl (fun _ => 0))), (aG, .inl (cI, 5, .inl (fun _ => 0))), (hV, .inr (0, [.int 0, .int 0, .int 2, .ref bS, .ref bC, .ref bG])), (bS, .inl (cI, 5, .inl (fun _ => 0))), (bC, .inl (cI, 5, .inl (fun _ => 0))), (bG, .inl (cI, 5, .inl (fun _ => 0)))] H := hP
  have hD : va_D (fun q : Nat => s.heap.size ≤ q) [(h0, .inr (1, [.ref hM, .ref hV, .int 4, .int 4, .int 0])), (hM, .inr (0, [.int (pBrd 4 4), .int 0, .int 2, .ref aS, .ref aC, .ref aG])), (aS, .inl (cI, 5, .inl (zfill (pClrF (pBrd 4 4)) (fun _ => 0) 5))), (aC, .inl (cI, 5, .inl (fun _ => 0))), (aG, .inl (cI, 5, .inl (fun _ => 0))), (hV, .inr (0, [.int 0, .int 0, .int 2, .ref bS, .ref bC, .ref bG])), (bS, .inl (cI, 5, .inl (fun _ => 0))), (bC, .inl (cI, 5, .inl (fun _ => 0))), (bG, .inl (cI, 5, .inl (fun _ => 0)))] := hD
  refine W.widen (k := 9) (n := 47) (Nat.le_of_ble_eq_true rfl) (Nat.le_of_ble_eq_true rfl) ?_
  refine lv_astore_n (lv' := [(1, .ref h0), (0, .ref b)]) hx hb dL_law_7 rfl hl (by decide) rfl (fun ls hl => ?_)
  refine va_new (ci := 2) (fs := [.int 0, .int 0, .int 0, .int 0, .int 0, .null, .null, .null, .null, .null, .null, .null, .null, .int 0]) (C := RX2) (T := TX2) (N := 14) hx hb htsL inlX2 tyX2 tyX2_ok hown (htsL (.classLink RL 74 RX2) (List.mem_of_getElem? (i := 3) rfl)) (htsL (.instantiable RX2 14) (List.mem_of_getElem? (i := 4) rfl)) (htsL (.initialized RX2) (List.mem_of_getElem? (i := 5) rfl)) hK hP hD hS hA rfl (fun j hj => by rcases (show j = 0 ∨ j = 1 ∨ j = 2 ∨ j = 3 ∨ j = 4 ∨ j = 5 ∨ j = 6 ∨ j = 7 ∨ j = 8 ∨ j = 9 ∨ j = 10 ∨ j = 11 ∨ j = 12 ∨ j = 13 by omega) with rfl | rfl | rfl | rfl | rfl | rfl | rfl | rfl | rfl | rfl | rfl | rfl | rfl | rfl <;> rfl) (Nat.le_of_ble_eq_true rfl) (Nat.le_of_ble_eq_true rfl) dL_law_8 (fun m0 H hP hD hS => ?_)
  have hP : va_P (dC, dI) vwCl [(h0, .inr (1, [.ref hM, .ref hV, .int 4, .int 4, .int 0])), (hM, .inr (0, [.int (pBrd 4 4), .int 0, .int 2, .ref aS, .ref aC, .ref aG])), (aS, .inl (cI, 5, .inl (zfill (pClrF (pBrd 4 4)) (fun _ => 0) 5))), (aC, .inl (cI, 5, .inl (fun _ => 0))), (aG, .inl (cI, 5, .inl (fun _ => 0))), (hV, .inr (0, [.int 0, .int 0, .int 2, .ref bS, .ref bC, .ref bG])), (bS, .inl (cI, 5, .inl (fun _ => 0))), (bC, .inl (cI, 5, .inl (fun _ => 0))), (bG, .inl (cI, 5, .inl (fun _ => 0))), (m0, .inr (2, [.int 0, .int 0, .int 0, .int 0, .int 0, .null, .null, .null, .null, .null, .null, .null, .null, .int 0]))] H := hP
  have hD : va_D (fun q : Nat => s.heap.size ≤ q) [(h0, .inr (1, [.ref hM, .ref hV, .int 4, .int 4, .int 0])), (hM, .inr (0, [.int (pBrd 4 4), .int 0, .int 2, .ref aS, .ref aC, .ref aG])), (aS, .inl (cI, 5, .inl (zfill (pClrF (pBrd 4 4)) (fun _ => 0) 5))), (aC, .inl (cI, 5, .inl (fun _ => 0))), (aG, .inl (cI, 5, .inl (fun _ => 0))), (hV, .inr (0, [.int 0, .int 0, .int 2, .ref bS, .ref bC, .ref bG])), (bS, .inl (cI, 5, .inl (fun _ => 0))), (bC, .inl (cI, 5, .inl (fun _ => 0))), (bG, .inl (cI, 5, .inl (fun _ => 0))), (m0, .inr (2, [.int 0, .int 0, .int 0, .int 0, .int 0, .null, .null, .null, .null, .null, .null, .null, .null, .int 0]))] := hD
  refine W.widen (k := 10) (n := 61) (Nat.le_of_ble_eq_true rfl) (Nat.le_of_ble_eq_true rfl) ?_
  refine lv_dup hx hb dL_law_11 rfl ?_
  refine z_callI (As := []) (rest := [.ref m0]) (wr := [(h0, .inr (1, [.ref hM, .ref hV, .int 4, .int 4, .int 0])), (hM, .inr (0, [.int (pBrd 4 4), .int 0, .int 2, .ref aS, .ref aC, .ref aG])), (aS, .inl (cI, 5, .inl (zfill (pClrF (pBrd 4 4)) (fun _ => 0) 5))), (aC, .inl (cI, 5, .inl (fun _ => 0))), (aG, .inl (cI, 5, .inl (fun _ => 0))), (hV, .inr (0, [.int 0, .int 0, .int 2, .ref bS, .ref bC, .ref bG])), (bS, .inl (cI, 5, .inl (fun _ => 0))), (bC, .inl (cI, 5, .inl (fun _ => 0))), (bG, .inl (cI, 5, .inl (fun _ => 0)))]) F9 (m_X2_init l dC dI cI cZ cJ cD m0) (cwI 0 htsL gL_law_X2_init rfl rfl rfl (htsL (.initialized RX2) (List.mem_of_getElem? (i := 5) rfl)) (htsL (.methodLink RL 76 yX2_init) (List.mem_of_getElem? (i := 39) rfl)) (htsL (.instanceMethod yX2_init) (List.mem_of_getElem? (i := 40) rfl)) rfl (by decide +kernel) ⟨Nat.le_of_ble_eq_true rfl, Nat.le_of_ble_eq_true rfl⟩) hK hN hP hD hS hA [9] [0, 1, 2, 3, 4, 5, 6, 7, 8] rfl rfl (by decide) (by decide) (by decide) rfl hl.1 rfl (Nat.le_of_ble_eq_true rfl) dL_law_12 ⟨Nat.le_of_ble_eq_true rfl, Nat.le_of_ble_eq_true rfl⟩ (fun u H locs hp hP hD hS => ?_)
  obtain ⟨a1, a2, a3, a4, a5, a6, a7, a8⟩ := u
  have hP : va_P (dC, dI) vwCl [(h0, .inr (1, [.ref hM, .ref hV, .int 4, .int 4, .int 0])), (hM, .inr (0, [.int (pBrd 4 4), .int 0, .int 2, .ref aS, .ref aC, .ref aG])), (aS, .inl (cI, 5, .inl (zfill (pClrF (pBrd 4 4)) (fun _ => 0) 5))), (aC, .inl (cI, 5, .inl (fun _ => 0))), (aG, .inl (cI, 5, .inl (fun _ => 0))), (hV, .inr (0, [.int 0, .int 0, .int 2, .ref bS, .ref bC, .ref bG])), (bS, .inl (cI, 5, .inl (fun _ => 0))), (bC, .inl (cI, 5, .inl (fun _ => 0))), (bG, .inl (cI, 5, .inl (fun _ => 0))), (m0, .inr (2, [.int 0, .int (nI 4), .int (nI 4), .int 2, .int 0, .ref a1, .ref a2, .ref a3, .ref a4, .ref a5, .ref a6, .ref a7, .ref a8, .int 0])), (a1, .inl (cI, 25, .inl (kI (fun _ => 0)))), (a2, .inl (cI, 25, .inl (fun _ => 0))), (a3, .inl (cZ, 25, .inl (zB (fun _ => false)))), (a4, .inl (cI, 100, .inl (bI 4 4))), (a5, .inl (cI, 25, .inl (fun _ => 0))), (a6, .inl (cI, 25, .inl (fun _ => 0))), (a7, .inl (cI, 26, .inl (fun _ => 0))), (a8, .inl (cI, 25, .inl (fun _ => 0)))] H := hP
  have hD : va_D (fun q : Nat => s.heap.size ≤ q) [(h0, .inr (1, [.ref hM, .ref hV, .int 4, .int 4, .int 0])), (hM, .inr (0, [.int (pBrd 4 4), .int 0, .int 2, .ref aS, .ref aC, .ref aG])), (aS, .inl (cI, 5, .inl (zfill (pClrF (pBrd 4 4)) (fun _ => 0) 5))), (aC, .inl (cI, 5, .inl (fun _ => 0))), (aG, .inl (cI, 5, .inl (fun _ => 0))), (hV, .inr (0, [.int 0, .int 0, .int 2, .ref bS, .ref bC, .ref bG])), (bS, .inl (cI, 5, .inl (fun _ => 0))), (bC, .inl (cI, 5, .inl (fun _ => 0))), (bG, .inl (cI, 5, .inl (fun _ => 0))), (m0, .inr (2, [.int 0, .int (nI 4), .int (nI 4), .int 2, .int 0, .ref a1, .ref a2, .ref a3, .ref a4, .ref a5, .ref a6, .ref a7, .ref a8, .int 0])), (a1, .inl (cI, 25, .inl (kI (fun _ => 0)))), (a2, .inl (cI, 25, .inl (fun _ => 0))), (a3, .inl (cZ, 25, .inl (zB (fun _ => false)))), (a4, .inl (cI, 100, .inl (bI 4 4))), (a5, .inl (cI, 25, .inl (fun _ => 0))), (a6, .inl (cI, 25, .inl (fun _ => 0))), (a7, .inl (cI, 26, .inl (fun _ => 0))), (a8, .inl (cI, 25, .inl (fun _ => 0)))] := hD
  refine W.widen (k := 18) (n := 337) (Nat.le_of_ble_eq_true rfl) (Nat.le_of_ble_eq_true rfl) ?_
  refine lv_astore_n (lv' := [(2, .ref m0), (1, .ref h0), (0, .ref b)]) hx hb dL_law_15 rfl hl (by decide) rfl (fun ls hl => ?_)
  refine lv_iconst (v := 1) hx hb dL_law_16 (by decide) ?_
  refine z_newa (atype := .long) (ty := .long) (N' := 1) (n := 1) (cA := cJ) (a0 := (1, .inr (.inl (fun _ => 0)))) hx hb (htsL (.arrayClass .long) (List.mem_of_getElem? (i := 6) rfl)) rfl hK hP hD hS hA 2 rfl (fun _ => rfl) (by decide +kernel) (by decide +kernel) (by decide +kernel) (Nat.le_of_ble_eq_true rfl) (Nat.le_of_ble_eq_true rfl) dL_law_17 (fun o1 H hP hD hS => ?_)
  have hP : va_P (dC, dI) vwCl [(h0, .inr (1, [.ref hM, .ref hV, .int 4, .int 4, .int 0])), (hM, .inr (0, [.int (pBrd 4 4), .int 0, .int 2, .ref aS, .ref aC, .ref aG])), (aS, .inl (cI, 5, .inl (zfill (pClrF (pBrd 4 4)) (fun _ => 0) 5))), (aC, .inl (cI, 5, .inl (fun _ => 0))), (aG, .inl (cI, 5, .inl (fun _ => 0))), (hV, .inr (0, [.int 0, .int 0, .int 2, .ref bS, .ref bC, .ref bG])), (bS, .inl (cI, 5, .inl (fun _ => 0))), (bC, .inl (cI, 5, .inl (fun _ => 0))), (bG, .inl (cI, 5, .inl (fun _ => 0))), (m0, .inr (2, [.int 0, .int (nI 4), .int (nI 4), .int 2, .int 0, .ref a1, .ref a2, .ref a3, .ref a4, .ref a5, .ref a6, .ref a7, .ref a8, .int 0])), (a1, .inl (cI, 25, .inl (kI (fun _ => 0)))), (a2, .inl (cI, 25, .inl (fun _ => 0))), (a3, .inl (cZ, 25, .inl (zB (fun _ => false)))), (a4, .inl (cI, 100, .inl (bI 4 4))), (a5, .inl (cI, 25, .inl (fun _ => 0))), (a6, .inl (cI, 25, .inl (fun _ => 0))), (a7, .inl (cI, 26, .inl (fun _ => 0))), (a8, .inl (cI, 25, .inl (fun _ => 0))), (o1, .inl (cJ, 1, .inr (.inl (fun _ => 0))))] H := hP
  have hD : va_D (fun q : Nat => s.heap.size ≤ q) [(h0, .inr (1, [.ref hM, .ref hV, .int 4, .int 4, .int 0])), (hM, .inr (0, [.int (pBrd 4 4), .int 0, .int 2, .ref aS, .ref aC, .ref aG])), (aS, .inl (cI, 5, .inl (zfill (pClrF (pBrd 4 4)) (fun _ => 0) 5))), (aC, .inl (cI, 5, .inl (fun _ => 0))), (aG, .inl (cI, 5, .inl (fun _ => 0))), (hV, .inr (0, [.int 0, .int 0, .int 2, .ref bS, .ref bC, .ref bG])), (bS, .inl (cI, 5, .inl (fun _ => 0))), (bC, .inl (cI, 5, .inl (fun _ => 0))), (bG, .inl (cI, 5, .inl (fun _ => 0))), (m0, .inr (2, [.int 0, .int (nI 4), .int (nI 4), .int 2, .int 0, .ref a1, .ref a2, .ref a3, .ref a4, .ref a5, .ref a6, .ref a7, .ref a8, .int 0])), (a1, .inl (cI, 25, .inl (kI (fun _ => 0)))), (a2, .inl (cI, 25, .inl (fun _ => 0))), (a3, .inl (cZ, 25, .inl (zB (fun _ => false)))), (a4, .inl (cI, 100, .inl (bI 4 4))), (a5, .inl (cI, 25, .inl (fun _ => 0))), (a6, .inl (cI, 25, .inl (fun _ => 0))), (a7, .inl (cI, 26, .inl (fun _ => 0))), (a8, .inl (cI, 25, .inl (fun _ => 0))), (o1, .inl (cJ, 1, .inr (.inl (fun _ => 0))))] := hD
  refine W.widen (k := 19) (n := 338) (Nat.le_of_ble_eq_true rfl) (Nat.le_of_ble_eq_true rfl) ?_
  refine lv_astore_n (lv' := [(3, .ref o1), (2, .ref m0), (1, .ref h0), (0, .ref b)]) hx hb dL_law_19 rfl hl (by decide) rfl (fun ls hl => ?_)
  refine lv_iconst (v := 1) hx hb dL_law_20 (by decide) ?_
  refine z_newa (atype := .double) (ty := .double) (N' := 1) (n := 1) (cA := cD) (a0 := (1, .inr (.inr (.inr (.inl (fun _ => 0)))))) hx hb (htsL (.arrayClass .double) (List.mem_of_getElem? (i := 7) rfl)) rfl hK hP hD hS hA 3 rfl (fun _ => rfl) (by decide +kernel) (by decide +kernel) (by decide +kernel) (Nat.le_of_ble_eq_true rfl) (Nat.le_of_ble_eq_true rfl) dL_law_21 (fun o2 H hP hD hS => ?_)
  have hP : va_P (dC, dI) vwCl [(h0, .inr (1, [.ref hM, .ref hV, .int (nI 4), .int (nI 4), .int 0])), (hM, .inr (0, [.int (pBrd 4 4), .int 0, .int (nI 2), .ref aS, .ref aC, .ref aG])), (aS, .inl (cI, 5, .inl (zfill (pClrF (pBrd 4 4)) (fun _ => 0) 5))), (aC, .inl (cI, 5, .inl (fun _ => 0))), (aG, .inl (cI, 5, .inl (fun _ => 0))), (hV, .inr (0, [.int 0, .int 0, .int 2, .ref bS, .ref bC, .ref bG])), (bS, .inl (cI, 5, .inl (fun _ => 0))), (bC, .inl (cI, 5, .inl (fun _ => 0))), (bG, .inl (cI, 5, .inl (fun _ => 0))), (m0, .inr (2, [.int 0, .int (nI 4), .int (nI 4), .int (nI 2), .int 0, .ref a1, .ref a2, .ref a3, .ref a4, .ref a5, .ref a6, .ref a7, .ref a8, .int 0])), (a1, .inl (cI, 25, .inl (kI (fun _ => 0)))), (a2, .inl (cI, 25, .inl (fun _ => 0))), (a3, .inl (cZ, 25, .inl (zB (fun _ => false)))), (a4, .inl (cI, 100, .inl (bI 4 4))), (a5, .inl (cI, 25, .inl (fun _ => 0))), (a6, .inl (cI, 25, .inl (fun _ => 0))), (a7, .inl (cI, 26, .inl (fun _ => 0))), (a8, .inl (cI, 25, .inl (fun _ => 0))), (o1, .inl (cJ, 1, .inr (.inl (fun _ => 0)))), (o2, .inl (cD, 1, .inr (.inr (.inr (.inl (fun _ => 0))))))] H := hP
  have hD : va_D (fun q : Nat => s.heap.size ≤ q) [(h0, .inr (1, [.ref hM, .ref hV, .int (nI 4), .int (nI 4), .int 0])), (hM, .inr (0, [.int (pBrd 4 4), .int 0, .int (nI 2), .ref aS, .ref aC, .ref aG])), (aS, .inl (cI, 5, .inl (zfill (pClrF (pBrd 4 4)) (fun _ => 0) 5))), (aC, .inl (cI, 5, .inl (fun _ => 0))), (aG, .inl (cI, 5, .inl (fun _ => 0))), (hV, .inr (0, [.int 0, .int 0, .int 2, .ref bS, .ref bC, .ref bG])), (bS, .inl (cI, 5, .inl (fun _ => 0))), (bC, .inl (cI, 5, .inl (fun _ => 0))), (bG, .inl (cI, 5, .inl (fun _ => 0))), (m0, .inr (2, [.int 0, .int (nI 4), .int (nI 4), .int (nI 2), .int 0, .ref a1, .ref a2, .ref a3, .ref a4, .ref a5, .ref a6, .ref a7, .ref a8, .int 0])), (a1, .inl (cI, 25, .inl (kI (fun _ => 0)))), (a2, .inl (cI, 25, .inl (fun _ => 0))), (a3, .inl (cZ, 25, .inl (zB (fun _ => false)))), (a4, .inl (cI, 100, .inl (bI 4 4))), (a5, .inl (cI, 25, .inl (fun _ => 0))), (a6, .inl (cI, 25, .inl (fun _ => 0))), (a7, .inl (cI, 26, .inl (fun _ => 0))), (a8, .inl (cI, 25, .inl (fun _ => 0))), (o1, .inl (cJ, 1, .inr (.inl (fun _ => 0)))), (o2, .inl (cD, 1, .inr (.inr (.inr (.inl (fun _ => 0))))))] := hD
  refine W.widen (k := 20) (n := 339) (Nat.le_of_ble_eq_true rfl) (Nat.le_of_ble_eq_true rfl) ?_
  refine lv_astore (lv' := [(4, .ref o2), (3, .ref o1), (2, .ref m0), (1, .ref h0), (0, .ref b)]) hx hb dL_law_23 hl (by decide) rfl (fun ls hl => ?_)
  refine lv_iconst (v := 0) hx hb dL_law_25 (by decide) ?_
  refine lv_istore (lv' := [(5, .int 0), (4, .ref o2), (3, .ref o1), (2, .ref m0), (1, .ref h0), (0, .ref b)]) hx hb dL_law_26 hl (by decide) rfl (fun ls hl => ?_)
  have g4 : gok 4 4 := ⟨by decide, by decide, by decide, by decide⟩
  have I : lwI 4 4 2 (pBrd 4 4) 0 (zfill (pClrF (pBrd 4 4)) (fun _ => 0) 5) (fun _ => 0) (fun _ => false) := ⟨g4, ⟨by decide, by decide⟩, fun _ => Nat.zero_le _, t_board g4, t_calm, t_clear g4 _⟩
  have hl : lv_has ls 9 [(0, .ref b), (1, .ref h0), (2, .ref m0), (3, .ref o1), (4, .ref o2), (5, .int (nI 0))] := lv_sub hl [5, 4, 3, 2, 1, 0] rfl
  exact lw_loop C fin 512 0 20 339 (by omega) (by omega) (by omega) (by omega) H _ ls ⟨_, _, _, _, _, _, _, _, _, _, _, _, _, _, _, _, _, _, _, _, _, _, _, _, _, _, I, hP, hD, hS, hl⟩
