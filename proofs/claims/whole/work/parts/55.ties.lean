/-! fewest seeds: masks of one or two places, and cells -/
theorem four {r r2 : Int32} {p0 p1 p2 : Prop} (a : (r = 0 ∧ p0) ∨ (r = 1 ∧ ¬ p0 ∧ p1) ∨ (r = 2 ∧ ¬ p0 ∧ ¬ p1 ∧ p2) ∨ (r = -1 ∧ ¬ p0 ∧ ¬ p1 ∧ ¬ p2)) (b : (r2 = 0 ∧ p0) ∨ (r2 = 1 ∧ ¬ p0 ∧ p1) ∨ (r2 = 2 ∧ ¬ p0 ∧ ¬ p1 ∧ p2) ∨ (r2 = -1 ∧ ¬ p0 ∧ ¬ p1 ∧ ¬ p2)) : r = r2 := by
  rcases a with ⟨a, a0⟩ | ⟨a, a0, a1⟩ | ⟨a, a0, a1, a2⟩ | ⟨a, a0, a1, a2⟩
  · rcases b with ⟨b, b0⟩ | ⟨b, b0, b1⟩ | ⟨b, b0, b1, b2⟩ | ⟨b, b0, b1, b2⟩
    · rw [a, b]
    · exact absurd a0 b0
    · exact absurd a0 b0
    · exact absurd a0 b0
  · rcases b with ⟨b, b0⟩ | ⟨b, b0, b1⟩ | ⟨b, b0, b1, b2⟩ | ⟨b, b0, b1, b2⟩
    · exact absurd b0 a0
    · rw [a, b]
    · exact absurd a1 b1
    · exact absurd a1 b1
  · rcases b with ⟨b, b0⟩ | ⟨b, b0, b1⟩ | ⟨b, b0, b1, b2⟩ | ⟨b, b0, b1, b2⟩
    · exact absurd b0 a0
    · exact absurd b1 a1
    · rw [a, b]
    · exact absurd a2 b2
  · rcases b with ⟨b, b0⟩ | ⟨b, b0, b1⟩ | ⟨b, b0, b1, b2⟩ | ⟨b, b0, b1, b2⟩
    · exact absurd b0 a0
    · exact absurd b1 a1
    · exact absurd b2 a2
    · rw [a, b]
theorem sd_bit {j p : Nat} (hj : j < 32) (hp : p < 32) : bt (pSd j) p = decide (p = j) := by
  unfold pSd
  rw [b_shl j hj 1 hp, b_1]
  by_cases q : j ≤ p
  · rw [decide_eq_true q, Bool.true_and]
    exact decide_eq_decide.mpr (by omega)
  · rw [decide_eq_false q, decide_eq_false (show ¬ p = j by omega)]; rfl
section TS
variable {w h nd : Nat} {T : Nat → Bool} {K : Nat → Nat} {S : Nat → Int32} {bd sb : Int32}
theorem pix_at {p j : Nat} (hp : pon w h p = true) (hj : pon w h j = true) (e : pix w p = pix w j) : p = j := by rw [← ppos_pix hp, e, ppos_pix hj]
theorem sd_mk {j : Nat} (hj : j < 30) (ho : pon w h j = true) : mk w h (pSd j) (fun d => decide (d = pix w j)) := by
  intro p hp
  rw [sd_bit (by omega) hp]
  by_cases q : p = j
  · subst q
    rw [ho, decide_eq_true rfl]
    exact (decide_eq_true rfl).symm
  · rw [decide_eq_false q]
    cases hpo : pon w h p with
    | false => rfl
    | true =>
      show false = (true && decide (pix w p = pix w j))
      rw [decide_eq_false (fun e => q (pix_at hpo ho e))]; rfl
theorem and_sd (hB : RB w h bd) {j : Nat} (hj : j < 30) : ¬ bd &&& pSd j = 0 ↔ pon w h j = true := by
  constructor
  · intro q
    cases ho : pon w h j with
    | true => rfl
    | false =>
      refine absurd (b_ext (fun p hp => ?_)) q
      rw [b_and, hB p hp, sd_bit (by omega) hp, b_0]
      by_cases e : p = j
      · subst e; rw [ho]; rfl
      · rw [decide_eq_false e, Bool.and_false]
  · intro ho q
    have e : bt (bd &&& pSd j) j = bt 0 j := by rw [q]
    rw [b_and, hB j (by omega), sd_bit (by omega) (by omega), ho, b_0, decide_eq_true rfl] at e
    cases e
theorem bd_sd (hB : RB w h bd) {j : Nat} (hj : j < 30) (ho : pon w h j = true) : bd &&& pSd j = pSd j := by
  refine b_ext (fun p hp => ?_)
  rw [b_and, hB p hp, sd_bit (by omega) hp]
  by_cases e : p = j
  · subst e; rw [ho]; rfl
  · rw [decide_eq_false e, Bool.and_false]
theorem two_sd (hB : RB w h bd) {i j : Nat} (hi : i < 30) (hj : j < 30) : (pSd i ||| pSd j) &&& (bd ^^^ (-1)) = 0 ↔ pon w h i = true ∧ pon w h j = true := by
  constructor
  · intro q
    have key : ∀ p, p < 32 → (p = i ∨ p = j) → pon w h p = true := by
      intro p hp hq
      have e : bt ((pSd i ||| pSd j) &&& (bd ^^^ (-1))) p = bt 0 p := by rw [q]
      rw [b_and, b_or, b_not _ hp, hB p hp, sd_bit (by omega) hp, sd_bit (by omega) hp, b_0] at e
      cases ho : pon w h p with
      | true => rfl
      | false =>
        rw [ho] at e
        rcases hq with z | z
        · rw [decide_eq_true z] at e; cases e
        · rw [decide_eq_true z, Bool.or_true] at e; cases e
    exact ⟨key i (by omega) (Or.inl rfl), key j (by omega) (Or.inr rfl)⟩
  · rintro ⟨a, b⟩
    refine b_ext (fun p hp => ?_)
    rw [b_and, b_or, b_not _ hp, hB p hp, sd_bit (by omega) hp, sd_bit (by omega) hp, b_0]
    by_cases e1 : p = i
    · subst e1; rw [a]; exact Bool.and_false _
    · by_cases e2 : p = j
      · subst e2; rw [b]; exact Bool.and_false _
      · rw [decide_eq_false e1, decide_eq_false e2]; rfl
theorem mk_or {x y : Int32} {P Q : Nat → Bool} (hx : mk w h x P) (hy : mk w h y Q) : mk w h (x ||| y) (fun d => P d || Q d) := by
  intro p hp
  rw [b_or, hx p hp, hy p hp]
  exact (Bool.and_or_distrib_left _ _ _).symm
theorem w_none (g : gok w h) (hB : RB w h bd) (hT : RT w h T sb) (hS : RS w h K S) (h1 : 1 ≤ nd) (h4 : nd ≤ 4) {j : Nat} (h0 : j ≠ 0) (hj : j < 5) : pWin S bd sb nd 0 (nI j) ↔ sW w h nd T j K none none = true := by
  have hd := t_dye hS (mk_none (w := w) (h := h)) hj
  have e : (fun d => if (fun _ => false) d = true then j else K d) = K := by
    funext d
    exact if_neg Bool.false_ne_true
  have hd2 : RS w h K (pDye S 0 (nI j)) := by rw [← e]; exact hd
  exact t_win g hB hT h1 h4 h0 hj hd2
theorem w_one (g : gok w h) (hB : RB w h bd) (hT : RT w h T sb) (hS : RS w h K S) (h1 : 1 ≤ nd) (h4 : nd ≤ 4) {j : Nat} (h0 : j ≠ 0) (hj : j < 5) {i : Nat} (hi : i < 30) (ho : pon w h i = true) : pWin S bd sb nd (pSd i) (nI j) ↔ sW w h nd T j K (some (pix w i)) none = true :=
  t_win g hB hT h1 h4 h0 hj (t_dye1 hS (sd_mk hi ho) hj)
theorem w_two (g : gok w h) (hB : RB w h bd) (hT : RT w h T sb) (hS : RS w h K S) (h1 : 1 ≤ nd) (h4 : nd ≤ 4) {j : Nat} (h0 : j ≠ 0) (hj : j < 5) {i k : Nat} (hi : i < 30) (hk : k < 30) (ho : pon w h i = true) (hp : pon w h k = true) : pWin S bd sb nd (pSd i ||| pSd k) (nI j) ↔ sW w h nd T j K (some (pix w k)) (some (pix w i)) = true := by
  have hd := t_dye hS (mk_or (sd_mk hi ho) (sd_mk hk hp)) hj
  have e : (fun d => if (decide (d = pix w i) || decide (d = pix w k)) = true then j else K d) = put (put K (some (pix w k)) j) (some (pix w i)) j := by
    funext d
    show _ = if d = pix w i then j else if d = pix w k then j else K d
    by_cases a : d = pix w i
    · rw [if_pos a, decide_eq_true a, Bool.true_or, if_pos rfl]
    · by_cases b : d = pix w k
      · rw [if_neg a, if_pos b, decide_eq_true b, Bool.or_true, if_pos rfl]
      · rw [if_neg a, if_neg b, decide_eq_false a, decide_eq_false b]; rfl
  rw [e] at hd
  exact t_win g hB hT h1 h4 h0 hj hd
theorem t_one (g : gok w h) (hB : RB w h bd) (hT : RT w h T sb) (hS : RS w h K S) (h1 : 1 ≤ nd) (h4 : nd ≤ 4) {j : Nat} (h0 : j ≠ 0) (hj : j < 5) : (∃ i, i < 30 ∧ ¬ bd &&& pSd i = 0 ∧ pWin S bd sb nd (bd &&& pSd i) (nI j)) ↔ ∃ d, d < w * h ∧ sW w h nd T j K (some d) none = true := by
  constructor
  · rintro ⟨i, hi, a, b⟩
    have ho := (and_sd hB hi).mp a
    rw [bd_sd hB hi ho] at b
    exact ⟨pix w i, pix_lt ho, (w_one g hB hT hS h1 h4 h0 hj hi ho).mp b⟩
  · rintro ⟨d, hd, a⟩
    have hw : 0 < w := by have := g.1; omega
    have ho := pon_ppos (h := h) hw g.2.1 hd
    have hi := ppos_lt g hd
    refine ⟨ppos w d, hi, (and_sd hB hi).mpr ho, ?_⟩
    rw [bd_sd hB hi ho]
    refine (w_one g hB hT hS h1 h4 h0 hj hi ho).mpr ?_
    rw [pix_ppos hw g.2.1]
    exact a
theorem t_two (g : gok w h) (hB : RB w h bd) (hT : RT w h T sb) (hS : RS w h K S) (h1 : 1 ≤ nd) (h4 : nd ≤ 4) {j : Nat} (h0 : j ≠ 0) (hj : j < 5) : (∃ i k, i < k ∧ k < 30 ∧ (pSd i ||| pSd k) &&& (bd ^^^ (-1)) = 0 ∧ pWin S bd sb nd (pSd i ||| pSd k) (nI j)) ↔ ∃ d k, k < d ∧ d < w * h ∧ sW w h nd T j K (some d) (some k) = true := by
  have hw : 0 < w := by have := g.1; omega
  constructor
  · rintro ⟨i, k, l, hk, a, b⟩
    obtain ⟨o1, o2⟩ := (two_sd hB (by omega) hk).mp a
    exact ⟨pix w k, pix w i, pix_mono o1 o2 l, pix_lt o2, (w_two g hB hT hS h1 h4 h0 hj (by omega) hk o1 o2).mp b⟩
  · rintro ⟨d, k, l, hd, a⟩
    have hk : k < w * h := Nat.lt_trans l hd
    have o1 := pon_ppos (h := h) hw g.2.1 hk
    have o2 := pon_ppos (h := h) hw g.2.1 hd
    have i1 := ppos_lt g hk
    have i2 := ppos_lt g hd
    have hl : ppos w k < ppos w d := by
      rcases Nat.lt_trichotomy (ppos w k) (ppos w d) with q | q | q
      · exact q
      · have := ppos_inj hw g.2.1 q
        omega
      · have := pix_mono o2 o1 q
        rw [pix_ppos hw g.2.1, pix_ppos hw g.2.1] at this
        omega
    refine ⟨ppos w k, ppos w d, hl, i2, (two_sd hB i1 i2).mpr ⟨o1, o2⟩, ?_⟩
    refine (w_two g hB hT hS h1 h4 h0 hj i1 i2 o1 o2).mpr ?_
    rw [pix_ppos hw g.2.1, pix_ppos hw g.2.1]
    exact a
theorem bf {b : Bool} : b = false ↔ ¬ b = true := by cases b <;> decide
theorem t_fs (g : gok w h) (hB : RB w h bd) (hT : RT w h T sb) (hS : RS w h K S) (h1 : 1 ≤ nd) (h4 : nd ≤ 4) {j : Nat} (h0 : j ≠ 0) (hj : j < 5) {r r2 : Int32}
    (a : (r = 0 ∧ pWin S bd sb nd 0 (nI j)) ∨ (r = 1 ∧ ¬ pWin S bd sb nd 0 (nI j) ∧ (∃ i, i < 30 ∧ ¬ bd &&& pSd i = 0 ∧ pWin S bd sb nd (bd &&& pSd i) (nI j))) ∨ (r = 2 ∧ ¬ pWin S bd sb nd 0 (nI j) ∧ (∀ i, i < 30 → ¬ (¬ bd &&& pSd i = 0 ∧ pWin S bd sb nd (bd &&& pSd i) (nI j))) ∧ (∃ i k, i < k ∧ k < 30 ∧ (pSd i ||| pSd k) &&& (bd ^^^ (-1)) = 0 ∧ pWin S bd sb nd (pSd i ||| pSd k) (nI j))) ∨ (r = -1 ∧ ¬ pWin S bd sb nd 0 (nI j) ∧ (∀ i, i < 30 → ¬ (¬ bd &&& pSd i = 0 ∧ pWin S bd sb nd (bd &&& pSd i) (nI j))) ∧ (∀ i k, i < k → k < 30 → ¬ ((pSd i ||| pSd k) &&& (bd ^^^ (-1)) = 0 ∧ pWin S bd sb nd (pSd i ||| pSd k) (nI j)))))
    (b : (r2 = 0 ∧ sW w h nd T j K none none = true) ∨ (r2 = 1 ∧ sW w h nd T j K none none = false ∧ ∃ d, d < w * h ∧ sW w h nd T j K (some d) none = true) ∨ (r2 = 2 ∧ sW w h nd T j K none none = false ∧ (∀ d, d < w * h → sW w h nd T j K (some d) none = false) ∧ ∃ d k, k < d ∧ d < w * h ∧ sW w h nd T j K (some d) (some k) = true) ∨ (r2 = -1 ∧ sW w h nd T j K none none = false ∧ (∀ d, d < w * h → sW w h nd T j K (some d) none = false) ∧ ∀ d, d < w * h → ∀ k, k < d → sW w h nd T j K (some d) (some k) = false)) : r = r2 := by
  have e0 := w_none g hB hT hS h1 h4 h0 hj
  have e1 := t_one g hB hT hS h1 h4 h0 hj
  have e2 := t_two g hB hT hS h1 h4 h0 hj
  refine four (p0 := sW w h nd T j K none none = true) (p1 := ∃ d, d < w * h ∧ sW w h nd T j K (some d) none = true) (p2 := ∃ d k, k < d ∧ d < w * h ∧ sW w h nd T j K (some d) (some k) = true) ?_ ?_
  · rcases a with ⟨a, a0⟩ | ⟨a, a0, a1⟩ | ⟨a, a0, a1, a2⟩ | ⟨a, a0, a1, a2⟩
    · exact Or.inl ⟨a, e0.mp a0⟩
    · exact Or.inr (Or.inl ⟨a, fun q => a0 (e0.mpr q), e1.mp a1⟩)
    · refine Or.inr (Or.inr (Or.inl ⟨a, fun q => a0 (e0.mpr q), fun q => ?_, e2.mp a2⟩))
      obtain ⟨i, i1, i2⟩ := e1.mpr q
      exact a1 i i1 i2
    · refine Or.inr (Or.inr (Or.inr ⟨a, fun q => a0 (e0.mpr q), fun q => ?_, fun q => ?_⟩))
      · obtain ⟨i, i1, i2⟩ := e1.mpr q
        exact a1 i i1 i2
      · obtain ⟨i, k, i1, i2, i3⟩ := e2.mpr q
        exact a2 i k i1 i2 i3
  · rcases b with ⟨b, b0⟩ | ⟨b, b0, b1⟩ | ⟨b, b0, b1, b2⟩ | ⟨b, b0, b1, b2⟩
    · exact Or.inl ⟨b, b0⟩
    · exact Or.inr (Or.inl ⟨b, bf.mp b0, b1⟩)
    · refine Or.inr (Or.inr (Or.inl ⟨b, bf.mp b0, ?_, b2⟩))
      rintro ⟨d, d1, d2⟩
      exact bf.mp (b1 d d1) d2
    · refine Or.inr (Or.inr (Or.inr ⟨b, bf.mp b0, ?_, ?_⟩))
      · rintro ⟨d, d1, d2⟩
        exact bf.mp (b1 d d1) d2
      · rintro ⟨d, k, d1, d2, d3⟩
        exact bf.mp (b2 d d2 k d1) d3
end TS
