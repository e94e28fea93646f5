theorem z_side {x : Int32} (h : pSide x) : ∃ n : Nat, 2 ≤ n ∧ n ≤ 5 ∧ x = nI n := by
  rcases pk_ix x (n := 6) (by decide) with q | q | ⟨j, hj, rfl⟩
  · exact absurd (Int32.lt_trans q (by decide)) h.1
  · exfalso
    have h2 : ¬ 5 < x := h.2
    exact h2 (Int32.lt_of_lt_of_le (show (5 : Int32) < nI 6 by decide +kernel) q)
  · refine ⟨j, ?_, by omega, rfl⟩
    rcases Nat.lt_or_ge j 2 with q | q
    · exact absurd (nI_lt (a := j) (b := 2) q (by decide)) h.1
    · exact q
theorem z_rng {x M : Int32} {N : Nat} (hM : M = nI N) (hN : N < 1000) (h1 : ¬ x < 1) (h2 : x ≤ M) : ∃ n : Nat, 1 ≤ n ∧ n ≤ N ∧ x = nI n := by
  rcases pk_ix x (n := N + 1) (by omega) with q | q | ⟨j, hj, rfl⟩
  · exact absurd (Int32.lt_trans q (by decide)) h1
  · exfalso
    have h3 : nI N < nI (N + 1) := nI_lt (by omega) (by omega)
    rw [hM] at h2
    exact Int32.lt_irrefl (Int32.lt_of_lt_of_le h3 (Int32.le_trans q h2))
  · refine ⟨j, ?_, by omega, rfl⟩
    rcases Nat.lt_or_ge j 1 with q | q
    · exact absurd (nI_lt (a := j) (b := 1) q (by decide)) h1
    · exact q
theorem pFore_in (S : Nat → Int32) (bd sb : Int32) (q0 : Nat) (G : Nat → Int32) (c : Int32) : pFore S (pGf S bd sb q0 G) c = pFore S (pG0 S bd sb q0) c := by
  unfold pFore
  rw [pFirst_in (fun j hj => pGf_in S bd sb q0 G hj) c]
theorem pB_step {F : Nat → Int32} {c : Nat} (h : F c ≤ pBb F c) : pBb F (c + 1) = pBb F c ∧ pBi F (c + 1) = pBi F c := by
  rw [pBb, pBi, if_pos h, if_pos h]; exact ⟨rfl, rfl⟩
theorem pB_take {F : Nat → Int32} {c : Nat} (h : ¬ F c ≤ pBb F c) : pBb F (c + 1) = F c ∧ pBi F (c + 1) = c := by
  rw [pBb, pBi, if_neg h, if_neg h]; exact ⟨rfl, rfl⟩
theorem pBF_at {S : Nat → Int32} {bd sb : Int32} {q0 w : Nat} {col : Int32} {n x : Nat} (y : Nat) (h : x < w) : pBF S bd sb q0 w col n (w * y + x) = pAft S bd sb q0 (pCell (nI x) (nI y)) col n := by
  unfold pBF
  rw [(wy_mod y h).1, (wy_mod y h).2]
theorem z_col {x : Int32} (h : pCol x) : ∃ n : Nat, 1 ≤ n ∧ n ≤ 4 ∧ x = nI n := z_rng (M := 4) (N := 4) rfl (by decide) h.1 (Int32.not_lt.mp h.2)
theorem mul_pos4 {w h : Nat} (hw : 2 ≤ w) (hh : 2 ≤ h) (hw5 : w ≤ 5) (hh5 : h ≤ 5) : 4 ≤ w * h ∧ w * h ≤ 25 := ⟨Nat.le_trans (Nat.mul_le_mul_left 2 hh) (Nat.mul_le_mul_right h hw), Nat.le_trans (Nat.mul_le_mul_right h hw5) (Nat.mul_le_mul_left 5 hh5)⟩
theorem z_ne0 {n : Nat} (h : 0 < n) (h2 : n < 1000) : ¬ nI n = 0 := nI_ne0 h (by omega)
