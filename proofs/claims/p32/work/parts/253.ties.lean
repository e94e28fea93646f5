/-! borders: pairs of one colour taken from all pairs; each pair seen from its other cell -/
theorem ct_shift {F : Nat → Bool} {n : Nat} (m : Nat) (h1 : ∀ c, c < m → F c = false) (h2 : ∀ c, n ≤ c → c < n + m → F c = false) : ct (fun k => F (m + k)) n = ct F n := by
  have a := ct_split F m n
  have b := ct_out (p := F) (m := n) m h2
  rw [Nat.add_comm n m] at b
  rw [ct_cong (q := fun _ => false) h1, ct_none] at a
  omega
section TB
variable {w h nd : Nat} {T : Nat → Bool} {K : Nat → Nat} {S : Nat → Int32} {bd sb : Int32}
def hv (w h : Nat) (P : Nat → Bool) : Nat := ct (fun c => P c && nb1 w h P c 0) (w * h) + ct (fun c => P c && nb1 w h P c 2) (w * h)
theorem hv_pairs (g : gok w h) {z : Int32} {P : Nat → Bool} (hz : mk w h z P) : pPairs z = nI (hv w h P) := by
  have m0 : mk w h (z &&& (z <<< ((1 : Int32) &&& 31))) (fun c => P c && nb1 w h P c 0) := by
    intro p hp
    rw [b_and, b_shl1 z hp, hz p hp]
    cases ho : pon w h p with
    | false => rfl
    | true =>
      have e := (nb_bits g hz (pix_lt ho)).1
      rw [ppos_pix ho] at e
      rw [e]; rfl
  have m2 : mk w h (z &&& (z <<< ((6 : Int32) &&& 31))) (fun c => P c && nb1 w h P c 2) := by
    intro p hp
    rw [b_and, b_shl6 z hp, hz p hp]
    cases ho : pon w h p with
    | false => rfl
    | true =>
      have e := (nb_bits g hz (pix_lt ho)).2.2.1
      rw [ppos_pix ho] at e
      rw [e]; rfl
  unfold pPairs hv
  rw [mk_count g m0, mk_count g m2]
  exact nI_add _ _
def jP (K : Nat → Nat) (j : Nat) : Nat → Bool := fun c => decide (K c = j)
def zP (K : Nat → Nat) : Nat → Bool := fun c => decide (¬ K c = 0)
theorem five_pt : ∀ a, a < 5 → ∀ b, b < 5 → bN (decide (¬ a = 0) && decide (¬ b = 0)) = bN (decide (a = 1) && decide (b = 1)) + bN (decide (a = 2) && decide (b = 2)) + bN (decide (a = 3) && decide (b = 3)) + bN (decide (a = 4) && decide (b = 4)) + bN (decide (a ≠ 0 ∧ b ≠ 0 ∧ a ≠ b)) := by decide
theorem pair_pt (hK : ∀ c, K c ≤ 4) (c s : Nat) : bN (zP K c && nb1 w h (zP K) c s) = bN (jP K 1 c && nb1 w h (jP K 1) c s) + bN (jP K 2 c && nb1 w h (jP K 2) c s) + bN (jP K 3 c && nb1 w h (jP K 3) c s) + bN (jP K 4 c && nb1 w h (jP K 4) c s) + bN (bo1 w h K c s) := by
  cases e : nbr w h c s with
  | none => rw [nb1_none e, nb1_none e, nb1_none e, nb1_none e, nb1_none e, bo1_none e, Bool.and_false, Bool.and_false, Bool.and_false, Bool.and_false, Bool.and_false]; rfl
  | some d =>
    have a := hK c
    have b := hK d
    rw [nb1_some e, nb1_some e, nb1_some e, nb1_some e, nb1_some e, bo1_some e]
    exact five_pt (K c) (by omega) (K d) (by omega)
theorem ct_bN (p : Nat → Bool) (n : Nat) : ct p (n + 1) = ct p n + bN (p n) := rfl
theorem pair_ct (hK : ∀ c, K c ≤ 4) (s : Nat) : ∀ n, ct (fun c => zP K c && nb1 w h (zP K) c s) n = ct (fun c => jP K 1 c && nb1 w h (jP K 1) c s) n + ct (fun c => jP K 2 c && nb1 w h (jP K 2) c s) n + ct (fun c => jP K 3 c && nb1 w h (jP K 3) c s) n + ct (fun c => jP K 4 c && nb1 w h (jP K 4) c s) n + ct (fun c => bo1 w h K c s) n
  | 0 => rfl
  | n + 1 => by
    rw [ct_bN, ct_bN, ct_bN, ct_bN, ct_bN, ct_bN, pair_ct hK s n]
    have := pair_pt (w := w) (h := h) hK n s
    omega
theorem bo1_sym {c d s t : Nat} (e1 : nbr w h c s = some d) (e2 : nbr w h d t = some c) : bo1 w h K c s = bo1 w h K d t := by
  rw [bo1_some e1, bo1_some e2]
  exact decide_eq_decide.mpr ⟨fun q => ⟨q.2.1, q.1, fun z => q.2.2 z.symm⟩, fun q => ⟨q.2.1, q.1, fun z => q.2.2 z.symm⟩⟩
theorem bo_across (g : gok w h) : ct (fun c => bo1 w h K c 1) (w * h) = ct (fun c => bo1 w h K c 0) (w * h) := by
  obtain ⟨g1, g2, g3, g4⟩ := id g
  have hw : 0 < w := by omega
  rw [← ct_shift (F := fun c => bo1 w h K c 0) 1 ?_ ?_]
  · refine ct_cong (fun c hc => ?_)
    show bo1 w h K c 1 = bo1 w h K (1 + c) 0
    have hx := Nat.mod_lt c hw
    have hd := Nat.div_add_mod c w
    by_cases q : c % w < w - 1
    · have e1 : nbr w h c 1 = some (1 + c) := by unfold nbr; rw [if_neg (by decide), if_pos rfl, if_pos q, Nat.add_comm]
      have e3 : (1 + c) % w = c % w + 1 := by
        have : 1 + c = w * (c / w) + (c % w + 1) := by omega
        rw [this, Nat.mul_add_mod, Nat.mod_eq_of_lt (by omega)]
      have e2 : nbr w h (1 + c) 0 = some c := by unfold nbr; rw [if_pos rfl, if_pos (by omega), Nat.add_sub_cancel_left]
      exact bo1_sym e1 e2
    · have e1 : nbr w h c 1 = none := by unfold nbr; rw [if_neg (by decide), if_pos rfl, if_neg q]
      have e3 : (1 + c) % w = 0 := by
        have : 1 + c = w * (c / w + 1) := by rw [Nat.mul_succ]; omega
        rw [this, Nat.mul_mod_right]
      have e2 : nbr w h (1 + c) 0 = none := by unfold nbr; rw [if_pos rfl, if_neg (by omega)]
      rw [bo1_none e1, bo1_none e2]
  · intro c hc
    obtain rfl : c = 0 := by omega
    exact bo1_none (by unfold nbr; rw [if_pos rfl, if_neg (by rw [Nat.zero_mod]; omega)])
  · intro c h1 h2
    obtain rfl : c = w * h := by omega
    exact bo1_none (by unfold nbr; rw [if_pos rfl, if_neg (by rw [Nat.mul_mod_right]; omega)])
theorem bo_down (g : gok w h) : ct (fun c => bo1 w h K c 3) (w * h) = ct (fun c => bo1 w h K c 2) (w * h) := by
  obtain ⟨g1, g2, g3, g4⟩ := id g
  have hw : 0 < w := by omega
  rw [ct_cong (p := fun c => bo1 w h K c 2) (q := fun c => decide (c < w * h) && bo1 w h K c 2) (fun c hc => by rw [decide_eq_true hc]; rfl)]
  rw [← ct_shift (F := fun c => decide (c < w * h) && bo1 w h K c 2) w ?_ ?_]
  · refine ct_cong (fun c hc => ?_)
    show bo1 w h K c 3 = (decide (w + c < w * h) && bo1 w h K (w + c) 2)
    have hx := Nat.mod_lt c hw
    have hd := Nat.div_add_mod c w
    have hy : c / w < h := div_lt_h hw hc
    by_cases q : c / w < h - 1
    · have e1 : nbr w h c 3 = some (w + c) := by unfold nbr; rw [if_neg (by decide), if_neg (by decide), if_neg (by decide), if_pos q, Nat.add_comm]
      have hl : w + c < w * h := nbr_lt hc e1
      have e2 : nbr w h (w + c) 2 = some c := by
        unfold nbr
        rw [if_neg (by decide), if_neg (by decide), if_pos rfl, if_pos (by rw [Nat.add_div_left c hw]; exact Nat.succ_pos _), Nat.add_sub_cancel_left]
      rw [decide_eq_true hl, Bool.true_and]
      exact bo1_sym e1 e2
    · have e1 : nbr w h c 3 = none := by unfold nbr; rw [if_neg (by decide), if_neg (by decide), if_neg (by decide), if_neg q]
      have hn : ¬ w + c < w * h := by
        intro z
        have := div_lt_h hw z
        rw [Nat.add_div_left c hw] at this
        omega
      rw [bo1_none e1, decide_eq_false hn]; rfl
  · intro c hc
    show (_ && bo1 w h K c 2) = false
    rw [bo1_none (by unfold nbr; rw [if_neg (by decide), if_neg (by decide), if_pos rfl, if_neg (by rw [Nat.div_eq_of_lt hc]; omega)]), Bool.and_false]
  · intro c h1 h2
    show (decide (c < w * h) && _) = false
    rw [decide_eq_false (by omega)]; rfl
theorem boN_ct (w h : Nat) (K : Nat → Nat) : ∀ n, boN w h K n = ct (fun c => bo1 w h K c 1) n + ct (fun c => bo1 w h K c 3) n
  | 0 => rfl
  | n + 1 => by
    rw [boN, ct_bN, ct_bN, boN_ct w h K n]
    show _ + (0 + bN (bo1 w h K n 1) + bN (bo1 w h K n 3)) = _
    omega
theorem t_borders (g : gok w h) (hB : RB w h bd) (hS : RS w h K S) (hK : ∀ c, K c ≤ 4) : pBo S bd 4 = nI (boN w h K (w * h)) := by
  have mz : mk w h (bd &&& (S 0 ^^^ (-1))) (zP K) := by
    intro p hp
    rw [b_and, b_not _ hp, hB p hp, rs_mk hS (by omega) p hp]
    unfold zP
    cases ho : pon w h p with
    | false => rfl
    | true =>
      show (true && !(true && decide (K (pix w p) = 0))) = (true && decide (¬ K (pix w p) = 0))
      by_cases q : K (pix w p) = 0
      · rw [decide_eq_true q, decide_eq_false (fun z => z q)]; rfl
      · rw [decide_eq_false q, decide_eq_true q]; rfl
  have a0 := pair_ct (w := w) (h := h) hK 0 (w * h)
  have a2 := pair_ct (w := w) (h := h) hK 2 (w * h)
  have e : hv w h (zP K) = hv w h (jP K 1) + hv w h (jP K 2) + hv w h (jP K 3) + hv w h (jP K 4) + boN w h K (w * h) := by
    rw [boN_ct, bo_across g, bo_down g]
    unfold hv
    omega
  show pPairs (bd &&& (S 0 ^^^ (-1))) - pPairs (S 1) - pPairs (S 2) - pPairs (S 3) - pPairs (S 4) = _
  rw [hv_pairs g mz, hv_pairs g (rs_mk hS (show 1 < 5 by omega)), hv_pairs g (rs_mk hS (show 2 < 5 by omega)), hv_pairs g (rs_mk hS (show 3 < 5 by omega)), hv_pairs g (rs_mk hS (show 4 < 5 by omega))]
  show nI (hv w h (zP K)) - nI (hv w h (jP K 1)) - nI (hv w h (jP K 2)) - nI (hv w h (jP K 3)) - nI (hv w h (jP K 4)) = _
  rw [pk_sub (by omega), pk_sub (by omega), pk_sub (by omega), pk_sub (by omega)]
  congr 1
  omega
end TB
