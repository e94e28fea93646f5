theorem ch_no {w h nd : Nat} {T : Nat → Bool} {K : Nat → Nat} {k : Nat} (e : nxt w h nd T K k = K k) : chgN w h nd T K k = chgN w h nd T K (k + 1) := by
  show _ = ct _ k + (if decide (nxt w h nd T K k ≠ K k) = true then 1 else 0)
  rw [decide_eq_false (fun z => z e)]; rfl
theorem ch_yes {w h nd : Nat} {T : Nat → Bool} {K : Nat → Nat} {k : Nat} (e : ¬ nxt w h nd T K k = K k) : nI (chgN w h nd T K k) + 1 = nI (chgN w h nd T K (k + 1)) := by
  rw [nI_1]
  congr 1
  show _ = ct _ k + (if decide (nxt w h nd T K k ≠ K k) = true then 1 else 0)
  rw [decide_eq_true e]; rfl
theorem rg_sub {r its mx : Nat} (hr : 1 ≤ r) (hx : r + mx ≤ its + 1) (hm : mx ≤ its) (hb : its ≤ 25) : nI r - 1 ≤ nI (its - mx) := by
  have e : nI r - nI 1 = nI (r - 1) := pk_sub hr
  show nI r - nI 1 ≤ _
  rw [e]
  exact nI_le (by omega) (by omega)
theorem allN_le {K : Nat → Nat} (hK : ∀ c, K c ≤ 4) (n : Nat) : allN K n ≤ 4 := by
  unfold allN
  split
  · exact hK 0
  · exact Nat.zero_le _
theorem bo_nI {w h : Nat} {K : Nat → Nat} (g : gok w h) : nI (boN w h K (w * h)) ≤ nI (w * (h - 1) + h * (w - 1)) := by
  have h1 := bo_le (K := K) g
  obtain ⟨g1, g2, g3, g4⟩ := g
  have a := Nat.mul_le_mul g2 (show h - 1 ≤ 4 by omega)
  have b := Nat.mul_le_mul g4 (show w - 1 ≤ 4 by omega)
  exact nI_le h1 (by omega)
