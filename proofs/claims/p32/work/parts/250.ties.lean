/-! class and reference: the same answers -/
theorem ct_full {p : Nat → Bool} : ∀ {n : Nat}, ct p n = n ↔ ∀ k, k < n → p k = true
  | 0 => ⟨fun _ k hk => absurd hk (Nat.not_lt_zero k), fun _ => rfl⟩
  | n + 1 => by
    have h1 := ct_le p n
    rw [ct_succ]
    constructor
    · intro q k hk
      by_cases e : p n = true
      · rw [if_pos e] at q
        rcases Nat.lt_succ_iff_lt_or_eq.mp hk with z | z
        · exact ct_full.mp (by omega) k z
        · subst z; exact e
      · rw [if_neg e] at q; omega
    · intro q
      rw [if_pos (q n (Nat.lt_succ_self n)), ct_full.mpr (fun k hk => q k (Nat.lt_succ_of_lt hk))]
theorem ccN_full {K : Nat → Nat} {j n : Nat} : ccN K j n = n ↔ ∀ c, c < n → K c = j := by
  unfold ccN
  rw [ct_full]
  exact ⟨fun q c hc => of_decide_eq_true (q c hc), fun q c hc => decide_eq_true (q c hc)⟩
theorem stN_iff {w h nd : Nat} {T : Nat → Bool} {K : Nat → Nat} : ∀ n, stN w h nd T K n = true ↔ ∀ c, c < n → nxt w h nd T K c = K c
  | 0 => ⟨fun _ k hk => absurd hk (Nat.not_lt_zero k), fun _ => rfl⟩
  | n + 1 => by
    rw [stN, Bool.and_eq_true, stN_iff n, decide_eq_true_iff]
    constructor
    · rintro ⟨a, b⟩ c hc
      rcases Nat.lt_succ_iff_lt_or_eq.mp hc with z | z
      · exact a c z
      · subst z; exact b
    · intro q
      exact ⟨fun c hc => q c (Nat.lt_succ_of_lt hc), q n (Nat.lt_succ_self n)⟩
theorem first_gen {A : Nat → Int32} {z : Int32} {k : Nat} (hk : k ≤ 4) (e : ∀ j, 1 ≤ j → j < 5 → (A j &&& z = 0 ↔ ¬ k = j)) : pFirst A z = nI k := by
  rcases Nat.eq_zero_or_pos k with q | q
  · subst q
    exact (pFirst_no (fun j h1 h2 => (e j h1 h2).mpr (by omega))).symm
  · exact (pFirst_at q (by omega) (fun j h1 h2 => (e j h1 (by omega)).mpr (by omega)) (fun h => (e k q (by omega)).mp h rfl)).symm
section TI
variable {w h nd : Nat} {T : Nat → Bool} {K : Nat → Nat} {S : Nat → Int32} {bd sb : Int32}
theorem rs_mk (hS : RS w h K S) {j : Nat} (hj : j < 5) : mk w h (S j) (fun c => decide (K c = j)) := hS j hj
theorem rs_cw (hS : RS w h K S) {j : Nat} (hj : j < 5) : mk w h (pCW S (nI j)) (fun c => decide (K c = j)) := by rw [← pCW_at S hj]; exact rs_mk hS hj
theorem rb_mk (hB : RB w h bd) : mk w h bd (fun _ => true) := fun p hp => by rw [hB p hp, Bool.and_true]
theorem t_count (g : gok w h) (hS : RS w h K S) {j : Nat} (hj : j < 5) : pBC (pCW S (nI j)) = nI (ccN K j (w * h)) := mk_count g (rs_cw hS hj)
theorem t_stub (g : gok w h) (hT : RT w h T sb) : pBC sb = nI (ct T (w * h)) := mk_count g hT
theorem pp_at {a : Nat} (b : Nat) (ha : a < w) : ppos w (w * b + a) = a + 6 * b := by
  unfold ppos
  rw [Nat.mul_add_mod, Nat.mod_eq_of_lt ha, Nat.mul_add_div (by omega), Nat.div_eq_of_lt ha, Nat.add_zero]
theorem cell_mk (g : gok w h) {a b : Nat} (ha : a < w) (hb : b < h) : mk w h (pCell (nI a) (nI b)) (fun c => decide (c = w * b + a)) := by
  obtain ⟨g1, g2, g3, g4⟩ := id g
  intro p hp
  rw [b_cell (by omega) hp]
  by_cases e : p = a + 6 * b
  · have h1 : pon w h p = true := pon_iff.mpr ⟨by omega, by omega⟩
    have h2 : pix w p = w * b + a := by
      unfold pix
      rw [show p / 6 = b by omega, show p % 6 = a by omega]
    rw [decide_eq_true e, h1, h2]
    show true = (true && decide (w * b + a = w * b + a))
    rw [decide_eq_true rfl]; rfl
  · rw [decide_eq_false e]
    cases ho : pon w h p with
    | false => rfl
    | true =>
      have h3 : ¬ pix w p = w * b + a := fun q => e (by rw [← ppos_pix ho, q, pp_at b ha])
      show false = (true && decide (pix w p = w * b + a))
      rw [decide_eq_false h3]; rfl
theorem and_zero {x z : Int32} {P : Nat → Bool} {c : Nat} (g : gok w h) (hx : mk w h x P) (hz : mk w h z (fun d => decide (d = c))) (hc : c < w * h) : x &&& z = 0 ↔ ¬ P c = true := by
  have hp : ppos w c < 32 := by have := ppos_lt g hc; omega
  constructor
  · intro q r
    have e : bt (x &&& z) (ppos w c) = bt 0 (ppos w c) := by rw [q]
    rw [b_and, mk_at g hx hc, mk_at g hz hc, r, b_0, decide_eq_true rfl] at e
    cases e
  · intro q
    refine b_ext (fun p hp => ?_)
    rw [b_and, hx p hp, hz p hp, b_0]
    cases ho : pon w h p with
    | false => rfl
    | true =>
      by_cases e : pix w p = c
      · rw [e]
        cases hP : P c with
        | false => rfl
        | true => exact absurd hP q
      · show (true && P (pix w p) && (true && decide (pix w p = c))) = false
        rw [decide_eq_false e, Bool.and_false, Bool.and_false]
theorem first_at (g : gok w h) (hS : RS w h K S) (hK : ∀ c, K c ≤ 4) {c : Nat} (hc : c < w * h) {z : Int32} (hz : mk w h z (fun d => decide (d = c))) : pFirst S z = nI (K c) :=
  first_gen (hK c) (fun j h1 h2 => by rw [and_zero g (rs_mk hS h2) hz hc, decide_eq_true_iff])
theorem t_next (g : gok w h) (hB : RB w h bd) (hT : RT w h T sb) (hS : RS w h K S) (hK : ∀ c, K c ≤ 4) (h1 : 1 ≤ nd) (h4 : nd ≤ 4) {c : Nat} (hc : c < w * h) {z : Int32} (hz : mk w h z (fun d => decide (d = c))) : pFore S (pG0 S bd sb nd) z = nI (nxt w h nd T K c) := by
  have hg := gain_le (w := w) (h := h) (K := K) h1 c
  have e1 : pFirst (pG0 S bd sb nd) z = nI (if T c = true then 0 else gain w h nd K c) := by
    refine first_gen (by split <;> omega) (fun j j1 j2 => ?_)
    have hm : mk w h (pG0 S bd sb nd j) (fun d => !T d && (decide (gain w h nd K d = j) && decide (j ≠ 0))) := fun p hp => g0_all g hB hT hS h1 h4 j2 hp
    rw [and_zero g hm hz hc]
    cases ht : T c with
    | true =>
      rw [if_pos rfl]
      exact ⟨fun _ => by omega, fun _ q => by cases q⟩
    | false =>
      rw [if_neg (by decide)]
      show ¬ (true && (decide (gain w h nd K c = j) && decide (j ≠ 0))) = true ↔ _
      rw [Bool.true_and, decide_eq_true (show j ≠ 0 by omega), Bool.and_true, decide_eq_true_iff]
  unfold pFore nxt
  rw [e1, first_at g hS hK hc hz]
  cases ht : T c with
  | true => rw [if_pos rfl, if_pos rfl]; exact if_pos rfl
  | false =>
    simp only [Bool.false_eq_true, if_false]
    by_cases q : gain w h nd K c = 0
    · rw [q]; rfl
    · rw [if_neg (show ¬ nI (gain w h nd K c) = 0 from fun e => q ((nI_eq (b := 0) (by omega) (by omega)).mp e)), if_neg q]
theorem t_still (g : gok w h) (hB : RB w h bd) (hT : RT w h T sb) (hS : RS w h K S) (h1 : 1 ≤ nd) (h4 : nd ≤ 4) : (if pC0 S bd sb nd = 0 then (1 : Int32) else 0) = bz (stN w h nd T K (w * h)) := by
  by_cases q : pC0 S bd sb nd = 0
  · rw [if_pos q, (stN_iff (w * h)).mpr ((ch_zero g hB hT hS h1 h4).mp q)]; rfl
  · rw [if_neg q]
    cases e : stN w h nd T K (w * h) with
    | false => rfl
    | true => exact absurd ((ch_zero g hB hT hS h1 h4).mpr ((stN_iff (w * h)).mp e)) q
theorem cw_bd (g : gok w h) (hB : RB w h bd) (hS : RS w h K S) {j : Nat} (hj : j < 5) : pCW S (nI j) = bd ↔ ∀ c, c < w * h → K c = j := by
  constructor
  · intro q c hc
    have e := mk_at g (rs_cw hS hj) hc
    rw [q, mk_at g (rb_mk hB) hc] at e
    exact of_decide_eq_true e.symm
  · intro q
    exact mk_eq (rs_cw hS hj) (rb_mk hB) (fun c hc => decide_eq_true (q c hc))
theorem t_winner (g : gok w h) (hB : RB w h bd) (hS : RS w h K S) (hK : ∀ c, K c ≤ 4) : pWr S bd = nI (allN K (w * h)) := by
  have g6 := wh_pos g
  have h0 := hK 0
  unfold allN
  by_cases q : ccN K (K 0) (w * h) = w * h
  · rw [if_pos q]
    have hall := ccN_full.mp q
    rcases Nat.eq_zero_or_pos (K 0) with z | z
    · rw [z]
      exact (pWr_no (fun j j1 j2 e => by have := (cw_bd g hB hS j2).mp e 0 (by omega); omega)).symm
    · exact (pWr_at z (by omega) (fun j j1 j2 e => by have := (cw_bd g hB hS (show j < 5 by omega)).mp e 0 (by omega); omega) ((cw_bd g hB hS (by omega)).mpr hall)).symm
  · rw [if_neg q]
    refine (pWr_no (fun j j1 j2 e => q (ccN_full.mpr ?_))).symm
    have hall := (cw_bd g hB hS j2).mp e
    intro c hc
    rw [hall c hc, hall 0 (by omega)]
theorem t_lead (g : gok w h) (hS : RS w h K S) : ∀ i, i ≤ 4 → pLm S i = nI (mostL (ccF K (w * h)) 1 i) ∧ pLb S i = bestL (ccF K (w * h)) 1 i ∧ mostL (ccF K (w * h)) 1 i ≤ w * h
  | 0, _ => ⟨rfl, rfl, Nat.zero_le _⟩
  | i + 1, hi => by
    obtain ⟨a, b, d⟩ := t_lead g hS i (by omega)
    have g5 := wh_le g
    have hc : ccF K (w * h) (i + 1) ≤ w * h := ccN_le _ _ _
    have e : pBC (pCW S (nI (i + 1))) = nI (ccF K (w * h) (i + 1)) := t_count g hS (by omega)
    rw [pLm, pLb, mostL, bestL, a, b, e]
    by_cases q : mostL (ccF K (w * h)) 1 i < ccF K (w * h) (i + 1)
    · have n1 : ¬ nI (ccF K (w * h) (i + 1)) ≤ nI (mostL (ccF K (w * h)) 1 i) := fun z => by have := (nI_leI (by omega) (by omega)).mp z; omega
      rw [if_pos q, if_neg n1, if_neg n1, if_pos q]
      exact ⟨rfl, rfl, hc⟩
    · have n1 : nI (ccF K (w * h) (i + 1)) ≤ nI (mostL (ccF K (w * h)) 1 i) := (nI_leI (by omega) (by omega)).mpr (by omega)
      rw [if_neg q, if_pos n1, if_pos n1, if_neg q]
      exact ⟨rfl, rfl, d⟩
theorem t_size (g : gok w h) (hS : RS w h K S) (hK : ∀ c, K c ≤ 4) {c : Nat} (hc : c < w * h) {z : Int32} (hz : mk w h z (fun d => decide (d = c))) : pSoR S z = nI (sz0 w h K c) := by
  unfold pSoR sz0
  have hk := hK c
  rw [first_at g hS hK hc hz]
  by_cases q : K c = 0
  · rw [q, if_pos rfl]; exact if_pos rfl
  · rw [if_neg q, if_neg (show ¬ nI (K c) = 0 from fun e => q ((nI_eq (b := 0) (by omega) (by omega)).mp e))]
    exact mk_count g (rf_region (K := K) (k := K c) g (rs_cw hS (by omega)) (fun d _ e => of_decide_eq_true e) (fun u v s _ _ _ _ e => decide_eq_true e) hc (decide_eq_true rfl) hz)
theorem t_regs (g : gok w h) (hS : RS w h K S) {j : Nat} (h0 : j ≠ 0) (hj : j < 5) : pCR 25 (pCW S (nI j)) 0 = rsm w h K j (w * h) := by
  have g5 := wh_le g
  have e := cr_count (K := K) (k := j) g h0 25 (pCW S (nI j)) _ 0 (rs_cw hS hj) (fun d _ e => of_decide_eq_true e) (fun u v s _ _ _ _ e => decide_eq_true e) (Nat.le_trans (ct_le _ _) g5)
  rw [e, Nat.zero_add]
  unfold rsm
  exact ct_cong (fun c _ => Bool.and_comm _ _)
theorem rmx_max (w h : Nat) (K : Nat → Nat) (j : Nat) : ∀ i, (∀ c, c < i → K c = j → rsz w h K c ≤ rmx w h K j i) ∧ (rmx w h K j i = 0 ∨ ∃ c, c < i ∧ K c = j ∧ rsz w h K c = rmx w h K j i)
  | 0 => ⟨fun c hc => absurd hc (Nat.not_lt_zero c), Or.inl rfl⟩
  | i + 1 => by
    obtain ⟨a, b⟩ := rmx_max w h K j i
    by_cases e : K i = j
    · rw [rmx_y e]
      by_cases q : rmx w h K j i < rsz w h K i
      · rw [if_pos q]
        refine ⟨fun c hc hk => ?_, Or.inr ⟨i, Nat.lt_succ_self i, e, rfl⟩⟩
        rcases Nat.lt_succ_iff_lt_or_eq.mp hc with z | z
        · exact Nat.le_trans (a c z hk) (Nat.le_of_lt q)
        · subst z; exact Nat.le_refl _
      · rw [if_neg q]
        refine ⟨fun c hc hk => ?_, ?_⟩
        · rcases Nat.lt_succ_iff_lt_or_eq.mp hc with z | z
          · exact a c z hk
          · subst z; exact Nat.not_lt.mp q
        · rcases b with b | ⟨c, c1, c2, c3⟩
          · exact Or.inl b
          · exact Or.inr ⟨c, by omega, c2, c3⟩
    · rw [rmx_n e]
      refine ⟨fun c hc hk => ?_, ?_⟩
      · rcases Nat.lt_succ_iff_lt_or_eq.mp hc with z | z
        · exact a c z hk
        · subst z; exact absurd hk e
      · rcases b with b | ⟨c, c1, c2, c3⟩
        · exact Or.inl b
        · exact Or.inr ⟨c, by omega, c2, c3⟩
theorem t_great (g : gok w h) (hS : RS w h K S) {j : Nat} (h0 : j ≠ 0) (hj : j < 5) : pGR 25 (pCW S (nI j)) 0 = nI (rmx w h K j (w * h)) := by
  have g5 := wh_le g
  obtain ⟨b, e, b1, b2, b3, b4⟩ := gr_max (K := K) (k := j) g h0 25 (pCW S (nI j)) _ 0 (rs_cw hS hj) (fun d _ e => of_decide_eq_true e) (fun u v s _ _ _ _ e => decide_eq_true e) (Nat.le_trans (ct_le _ _) g5) (by omega)
  obtain ⟨m1, m2⟩ := rmx_max w h K j (w * h)
  have e2 : b = rmx w h K j (w * h) := by
    refine Nat.le_antisymm ?_ ?_
    · rcases b4 with z | ⟨c, c1, c2, c3⟩
      · omega
      · rw [← c3]; exact m1 c c1 (of_decide_eq_true c2)
    · rcases m2 with z | ⟨c, c1, c2, c3⟩
      · omega
      · rw [← c3]; exact b3 c c1 (decide_eq_true c2)
  rw [← e2]
  exact e
end TI
