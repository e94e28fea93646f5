abbrev rmL_below : Room := { frames := 0, cells := 0, slots := 0, locals := 0 }
set_option maxHeartbeats 4000000 in
set_option maxRecDepth 100000 in
theorem m_L_below (l : Launch) (dC : Nat → ClassId) (dI : Nat → Nat → Nat) (cI cZ cJ cD : ClassId) (v : Int32) (n : Nat) (h0 : 0 < n) (hn : n < 1000) : sI l (dC, dI) (wT cI cZ cJ cD) yL_below wsL_below rmL_below [] [.int v, .int (nI n)] (fun (u : Nat) => ([] : gW)) (fun (r : Int32) (u : Nat) => r = nI u ∧ u < n) 0 0 := by
  intro sz
  refine Met.ofW (cc := cL_below) (maxL := 2) (ret := (some .int)) (by decide) rfl ?_
  intro p e s m args below meth c s₁ B hml hv
  obtain ⟨ha, hsz, hP, hK, hD0, hN⟩ := hv
  have hx := B.exec
  have hb := B.bytes
  have hr := B.returns
  have hts := atoms_spec (ws := wsL_below) B.pre
  have hown : s.vm.findClass RL = some m.cls := findClass_of_methodNamed B.named
  have hlocks := B.notSynchronized
  subst hsz
  have hD := hD0.self (sz := s.heap.size)
  generalize hAe : va_A (List.flatten ([] : gW)) s.heap.size = A at hD ⊢
  have hA : ∀ q : Nat, s.heap.size ≤ q → A q := fun q h => by rw [← hAe]; exact Or.inr h
  have hS : va_S A s.heap s.heap [] := va_S.rf
  generalize hQ : MQ below (va_Qi (fun (r : Int32) (u : Nat) => r = nI u ∧ u < n) (fun u t => va_P (dC, dI) vwCl (List.flatten ((fun (u : Nat) => ([] : gW)) u)) t.heap ∧ va_D A (List.flatten ((fun (u : Nat) => ([] : gW)) u))) A) args s 0 0 A = Q
  have F9 : CallFix p m c cL_below 2 s args wsL_below RL := ⟨hx, hb, hml, hown, hts⟩
  refine z_entry (R := rmL_below) ha (Nat.le_of_ble_eq_true rfl) (fun ls hl => ?_)
  have hl : lv_has ls 2 [(0, .int v), (1, .int (nI n))] := hl
  refine lv_iload_n hx hb dL_below_0 rfl (lv_at hl 0 rfl) ?_
  refine lv_ldc hx hb hown (hts (.constant RL 7 (2147483647)) (List.mem_of_getElem? (i := 1) rfl)) dL_below_1 ?_
  refine lv_iand hx hb dL_below_3 ?_
  refine z_topi (y := nI (v.toBitVec.toNat % 2 ^ 31)) (pk_and v 31 rfl) ?_
  refine lv_iload_n hx hb dL_below_4 rfl (lv_at hl 1 rfl) ?_
  refine lv_irem hx hb dL_below_5 (nI_ne0 h0 (by omega)) ?_
  refine z_topi (y := nI (blw v n)) (pk_rem (Nat.mod_lt _ (by decide)) h0 (by omega)) ?_
  rw [← hQ]
  exact s_iret (W1 := (fun (u : Nat) => ([] : gW))) hx hb hr hlocks hP hD hS (blw v n) [] [] 0 rfl rfl (by decide) (⟨rfl, Nat.mod_lt _ h0⟩) (by omega) (by omega) dL_below_6
abbrev rmL_cell : Room := { frames := 0, cells := 0, slots := 0, locals := 0 }
set_option maxHeartbeats 4000000 in
set_option maxRecDepth 100000 in
theorem m_L_cell (l : Launch) (dC : Nat → ClassId) (dI : Nat → Nat → Nat) (cI cZ cJ cD : ClassId) (b0 L0 : Nat) (xs0 : Nat → Int32) (k : Nat) (hL0 : L0 ≤ 260) (hk : k < 1000) : sXI l (dC, dI) (wT cI cZ cJ cD) b0 L0 xs0 yL_cell wsL_cell rmL_cell [] [.ref b0, .int (nI k)] (fun (_ : Unit) => ([] : gW)) (fun (r : Int32) (_ : Unit) => True) 0 0 := by
  intro sz
  refine Met.ofW (cc := cL_cell) (maxL := 2) (ret := (some .int)) (by decide) rfl ?_
  intro p e s m args below meth c s₁ B hml hv
  obtain ⟨ha, hsz, hP, hK, hD0, hN, hX, hbl, hbw⟩ := hv
  have hx := B.exec
  have hb := B.bytes
  have hr := B.returns
  have hts := atoms_spec (ws := wsL_cell) B.pre
  have hown : s.vm.findClass RL = some m.cls := findClass_of_methodNamed B.named
  have hlocks := B.notSynchronized
  subst hsz
  have hD := hD0.self (sz := s.heap.size)
  generalize hAe : va_A (List.flatten ([] : gW)) s.heap.size = A at hD ⊢
  have hA : ∀ q : Nat, s.heap.size ≤ q → A q := fun q h => by rw [← hAe]; exact Or.inr h
  have hbA : ¬ A b0 := by rw [← hAe]; exact fun z => (sg_memA.mp z).elim (fun z => hbw z) (fun z => Nat.not_le.mpr hbl z)
  have hS : va_S A s.heap s.heap [] := va_S.rf
  generalize hQ : MQ below (va_Qi (fun (r : Int32) (_ : Unit) => True) (fun u t => va_P (dC, dI) vwCl (List.flatten ((fun (_ : Unit) => ([] : gW)) u)) t.heap ∧ va_D A (List.flatten ((fun (_ : Unit) => ([] : gW)) u))) A) args s 0 0 A = Q
  have F9 : CallFix p m c cL_cell 2 s args wsL_cell RL := ⟨hx, hb, hml, hown, hts⟩
  refine z_entry (R := rmL_cell) ha (Nat.le_of_ble_eq_true rfl) (fun ls hl => ?_)
  have hl : lv_has ls 2 [(0, .ref b0), (1, .int (nI k))] := hl
  refine lv_iload_n hx hb dL_cell_0 rfl (lv_at hl 1 rfl) ?_
  refine lv_aload_n hx hb dL_cell_1 rfl (lv_at hl 0 rfl) ?_
  refine va_slen hx hb hX hbl hbA hS dL_cell_2 ?_
  refine lv_icmp_ge (tgt := 12) hx hb dL_cell_3 (by decide) (fun c_3 => ?_) (fun c_3 => ?_)
  · skip
    have n_3 := zc_le_t (a := L0) (b := k) (by omega) (by omega) c_3
    refine lv_ldc hx hb hown (hts (.constant RL 8 (790386105)) (List.mem_of_getElem? (i := 1) rfl)) dL_cell_12 ?_
    refine lv_iload_n hx hb dL_cell_14 rfl (lv_at hl 1 rfl) ?_
    refine lv_iconst (v := 3) hx hb dL_cell_15 (by decide) ?_
    refine lv_iadd hx hb dL_cell_16 ?_
    refine z_topi (y := nI (k + 3)) (nI_add k 3) ?_
    refine lv_imul hx hb dL_cell_17 ?_
    refine z_topi (y := nI (790386105 * (k + 3))) (pk_mul 790386105 (k + 3)) ?_
    rw [← hQ]
    exact s_iret (W1 := (fun (_ : Unit) => ([] : gW))) hx hb hr hlocks hP hD hS () [] [] 0 rfl rfl (by decide) (trivial) (by omega) (by omega) dL_cell_18
  · skip
    have n_3 := zc_le_f (a := L0) (b := k) (by omega) (by omega) c_3
    refine lv_aload_n hx hb dL_cell_6 rfl (lv_at hl 0 rfl) ?_
    refine lv_iload_n hx hb dL_cell_7 rfl (lv_at hl 1 rfl) ?_
    refine s_sld hx hb hX hbl hbA hS k (rfl) (by omega) (by omega) dL_cell_8 ?_
    refine lv_goto (tgt := 18) hx hb dL_cell_9 (by decide) ?_
    rw [← hQ]
    exact s_iret (W1 := (fun (_ : Unit) => ([] : gW))) hx hb hr hlocks hP hD hS () [] [] 0 rfl rfl (by decide) (trivial) (by omega) (by omega) dL_cell_18
