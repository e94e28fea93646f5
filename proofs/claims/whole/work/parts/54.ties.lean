/-! digests, waves until still, best cells: class and reference -/
section TD
variable {w h nd : Nat} {T : Nat → Bool} {K : Nat → Nat} {S : Nat → Int32} {bd sb : Int32}
theorem cell_of (g : gok w h) {c : Nat} (hc : c < w * h) : mk w h (pCell (nI (c % w)) (nI (c / w))) (fun d => decide (d = c)) := by
  have hw : 0 < w := by have := g.1; omega
  have e := cell_mk g (Nat.mod_lt c hw) (div_lt_h hw hc)
  rw [Nat.div_add_mod] at e
  exact e
theorem dgL_9 (v0 v1 v2 v3 v4 v5 v6 v7 v8 : Int32) : dgL (dgA v0 v1 v2 v3 v4 v5 v6 v7 v8) 9 = pm (pm (pm (pm (pm (pm (pm (pm (pm 1871 v0) v1) v2) v3) v4) v5) v6) v7) v8 := rfl
theorem t_dgC (g : gok w h) (hS : RS w h K S) (d : Int64) : ∀ k, k ≤ 4 → pDc d S k = dgC w h K d k
  | 0, _ => rfl
  | k + 1, hk => by
    rw [pDc, dgC, t_dgC g hS d k (by omega), t_count g hS (show k + 1 < 5 by omega), t_regs g hS (Nat.succ_ne_zero k) (by omega), t_great g hS (Nat.succ_ne_zero k) (by omega)]
    rfl
theorem t_dgD (g : gok w h) (hB : RB w h bd) (hT : RT w h T sb) (hS : RS w h K S) (hK : ∀ c, K c ≤ 4) (h1 : 1 ≤ nd) (h4 : nd ≤ 4) (d : Int64) : ∀ n, n ≤ w * h → pDz d w S sb (pG0 S bd sb nd) n = dgD w h nd T K d n
  | 0, _ => rfl
  | n + 1, hn => by
    have hc : n < w * h := by omega
    have hz := cell_of g hc
    rw [pDz, dgD, pMc, t_dgD g hB hT hS hK h1 h4 d n (by omega), first_at g hS hK hc hz, t_isT g hT hc hz, t_next g hB hT hS hK h1 h4 hc hz, t_size g hS hK hc hz]
    rfl
theorem t_digest (g : gok w h) (hB : RB w h bd) (hT : RT w h T sb) (hS : RS w h K S) (hK : ∀ c, K c ≤ 4) (h1 : 1 ≤ nd) (h4 : nd ≤ 4) (wv : Int32) : pDi w h (nI nd) wv bd sb nd S = dgD w h nd T K (dgC w h K (dgL (dgA (nI w) (nI h) (nI nd) wv (nI (ct T (w * h))) (nI (boN w h K (w * h))) (nI (bestL (ccF K (w * h)) 1 4)) (bz (stN w h nd T K (w * h))) (nI (allN K (w * h)))) 9) 4) (w * h) := by
  unfold pDi
  rw [t_dgD g hB hT hS hK h1 h4 _ _ (Nat.le_refl _), t_dgC g hS _ 4 (Nat.le_refl 4), dgL_9]
  unfold pDm
  rw [t_stub g hT, t_borders g hB hS hK, (t_lead g hS 4 (Nat.le_refl 4)).2.1, t_still g hB hT hS h1 h4, t_winner g hB hS hK]
theorem t_wus (g : gok w h) (hB : RB w h bd) (hT : RT w h T sb) (hS : RS w h K S) (h1 : 1 ≤ nd) (h4 : nd ≤ 4) {r r2 : Int32}
    (a : (∃ k, k ≤ 40 ∧ r = nI k ∧ pC0 (pIt bd sb nd S k) bd sb nd = 0 ∧ ∀ j, j < k → ¬ pC0 (pIt bd sb nd S j) bd sb nd = 0) ∨ (r = -1 ∧ ∀ j, j ≤ 40 → ¬ pC0 (pIt bd sb nd S j) bd sb nd = 0))
    (b : (r2 = -1 ∧ ∀ j, j < 41 → 0 < chg w h nd T (wavN w h nd T K j)) ∨ (∃ k, k ≤ 40 ∧ r2 = nI k ∧ chg w h nd T (wavN w h nd T K k) = 0 ∧ ∀ j, j < k → 0 < chg w h nd T (wavN w h nd T K j))) : r = r2 := by
  have e := fun k => t_zero g hB hT hS h1 h4 k
  rcases a with ⟨k, k1, k2, k3, k4⟩ | ⟨a1, a2⟩
  · rcases b with ⟨b1, b2⟩ | ⟨i, i1, i2, i3, i4⟩
    · have := b2 k (by omega)
      have := (e k).mp k3
      omega
    · rcases Nat.lt_trichotomy k i with q | q | q
      · have := i4 k q
        have := (e k).mp k3
        omega
      · rw [k2, i2, q]
      · exact absurd ((e i).mpr i3) (k4 i q)
  · rcases b with ⟨b1, b2⟩ | ⟨i, i1, i2, i3, i4⟩
    · rw [a1, b1]
    · exact absurd ((e i).mpr i3) (a2 i i1)
theorem t_bcF (g : gok w h) (hB : RB w h bd) (hT : RT w h T sb) (hS : RS w h K S) (h1 : 1 ≤ nd) (h4 : nd ≤ 4) {j : Nat} (hj : j < 5) (n : Nat) {c : Nat} (hc : c < w * h) : pBF S bd sb nd w (nI j) n c = nI (bcF w h nd T K j n c) :=
  t_aft g hB hT h1 h4 hj (t_dye1 hS (cell_of g hc) hj) n
theorem bi_gen {F : Nat → Int32} {f : Nat → Nat} {m : Nat} (e : ∀ c, c < m → F c = nI (f c)) (hf : ∀ c, f c < 1000) : ∀ i, i ≤ m → pBi F i = bcI f i ∧ pBb F i = oI i (f (bcI f i))
  | 0, _ => ⟨rfl, rfl⟩
  | i + 1, hi => by
    obtain ⟨a, b⟩ := bi_gen e hf i (by omega)
    rw [pBi, pBb, a, b, e i (by omega)]
    by_cases q : oI i (f (bcI f i)) < nI (f i)
    · have n1 : ¬ nI (f i) ≤ oI i (f (bcI f i)) := Int32.not_le.mpr q
      rw [if_neg n1, if_neg n1, bc_y hf q, oI_s]
      exact ⟨rfl, rfl⟩
    · have n1 : nI (f i) ≤ oI i (f (bcI f i)) := Int32.not_lt.mp q
      obtain ⟨z1, z2⟩ := bc_n hf q
      rw [if_pos n1, if_pos n1, z2, oI_s]
      exact ⟨rfl, if_neg z1⟩
theorem t_best (g : gok w h) (hB : RB w h bd) (hT : RT w h T sb) (hS : RS w h K S) (h1 : 1 ≤ nd) (h4 : nd ≤ 4) {j : Nat} (hj : j < 5) (n : Nat) : pBi (pBF S bd sb nd w (nI j) n) (w * h) = bcI (bcF w h nd T K j n) (w * h) := by
  have g5 := wh_le g
  exact (bi_gen (fun c hc => t_bcF g hB hT hS h1 h4 hj n hc) (fun c => by have := bcF_le w h nd T K j n c; omega) (w * h) (Nat.le_refl _)).1
end TD
