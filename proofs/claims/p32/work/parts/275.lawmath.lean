/-! what the law itself counts: neighbours, what a wave changes, regions, the leader, the winner, the shares -/
def sN (F : Nat → Nat) : Nat → Nat
  | 0 => 0
  | c + 1 => sN F c + F c
theorem sN_mono (F : Nat → Nat) : ∀ {a b : Nat}, a ≤ b → sN F a ≤ sN F b
  | a, 0, h => by rw [Nat.le_zero.mp h]; exact Nat.le_refl _
  | a, b + 1, h => by
    rcases Nat.lt_succ_iff_lt_or_eq.mp (Nat.lt_succ_of_le h) with q | rfl
    · exact Nat.le_trans (sN_mono F (by omega : a ≤ b)) (Nat.le_add_right _ _)
    · exact Nat.le_refl _
def tF (F : Nat → Int32) (k : Nat) : Nat → Int32 := fun i => if i < k then F i else 0
theorem tF_0 (F : Nat → Int32) : (fun _ => (0 : Int32)) = tF F 0 := by funext i; rw [tF, if_neg (Nat.not_lt_zero _)]
theorem tF_step (F : Nat → Int32) (k : Nat) : upd (tF F k) k (F k) = tF F (k + 1) := by
  funext i
  unfold upd tF
  by_cases q : i = k
  · subst q; rw [if_pos rfl, if_pos (by omega)]
  · rw [if_neg q]
    by_cases z : i < k
    · rw [if_pos z, if_pos (by omega)]
    · rw [if_neg z, if_neg (by omega)]
theorem tF_at {F : Nat → Int32} {n k : Nat} (h : k < n) : tF F n k = F k := by rw [tF, if_pos h]
theorem dk_lt {w h k : Nat} (hk : k < w * h) : k / w < h := Nat.div_lt_of_lt_mul hk
theorem side_k {w h : Nat} {K : Nat → Nat} (hK4 : ∀ c, K c ≤ 4) (hw : 0 < w) (k : Nat) : sidN w h (k % w) (k / w) = sN (cnbs w h K k) 5 := by
  have h1 := side_sum (h := h) hK4 (y := k / w) (Nat.mod_lt k hw)
  rw [Nat.div_add_mod] at h1
  rw [h1]
  show _ = 0 + cnbs w h K k 0 + cnbs w h K k 1 + cnbs w h K k 2 + cnbs w h K k 3 + cnbs w h K k 4
  omega
theorem ch_all {w h nd : Nat} {T : Nat → Bool} {K : Nat → Nat} {c : Nat} (h1 : 1 ≤ nd) (hc : nxt w h nd T K c ≠ K c) : T c = false ∧ nxt w h nd T K c ≠ 0 ∧ nxt w h nd T K c ≤ 4 ∧ nd ≤ cnbs w h K c (nxt w h nd T K c) ∧ ∀ i, 1 ≤ i → i ≤ 4 → i ≠ nxt w h nd T K c → cnbs w h K c i < cnbs w h K c (nxt w h nd T K c) := by
  cases hT : T c with
  | true => exact absurd (nxt_t hT) hc
  | false =>
    by_cases q : gain w h nd K c = 0
    · exact absurd (by rw [nxt, if_neg (by rw [hT]; decide), if_pos q]) hc
    · have e : nxt w h nd T K c = gain w h nd K c := by rw [nxt, if_neg (by rw [hT]; decide), if_neg q]
      have h4 := gain_le (w := w) (h := h) (K := K) h1 c
      rw [e]
      obtain ⟨b1, b2⟩ := (win_iff (cnbs w h K c) h1 (j := gain w h nd K c) ⟨by omega, h4⟩).mp rfl
      exact ⟨rfl, q, h4, b1, b2⟩
theorem wav_at {w h nd : Nat} {T : Nat → Bool} {K : Nat → Nat} {k : Nat} (hk : k < w * h) : wavN w h nd T K 1 k = nxt w h nd T K k := by
  show (if k < w * h then nxt w h nd T K k else K k) = _
  rw [if_pos hk]
theorem bare_le {w h nd : Nat} {T : Nat → Bool} {K : Nat → Nat} (h1 : 1 ≤ nd) : ccN (wavN w h nd T K 1) 0 (w * h) ≤ ccN K 0 (w * h) := by
  refine ct_sub (fun k hk e => ?_)
  have e := of_decide_eq_true e
  rw [wav_at hk] at e
  refine decide_eq_true ?_
  by_cases q : nxt w h nd T K k = K k
  · rw [← q, e]
  · exact absurd e (ch_all h1 q).2.1
theorem nbs_pos {w h : Nat} {P : Nat → Bool} {c : Nat} (hc : c < w * h) (hp : 0 < nbs w h P c) : ∃ d, d < w * h ∧ P d = true := by
  have key : ∀ s, nb1 w h P c s = true → ∃ d, d < w * h ∧ P d = true := fun s e => by
    obtain ⟨d, e1, e2⟩ := nb1_iff.mp e
    exact ⟨d, nbr_lt hc e1, e2⟩
  cases e0 : nb1 w h P c 0 with
  | true => exact key 0 e0
  | false =>
    cases e1 : nb1 w h P c 1 with
    | true => exact key 1 e1
    | false =>
      cases e2 : nb1 w h P c 2 with
      | true => exact key 2 e2
      | false =>
        cases e3 : nb1 w h P c 3 with
        | true => exact key 3 e3
        | false => rw [nbs, e0, e1, e2, e3] at hp; exact absurd hp (by decide)
theorem no_new {w h nd : Nat} {T : Nat → Bool} {K : Nat → Nat} {j : Nat} (h1 : 1 ≤ nd) (e : ccN K j (w * h) = 0) : ccN (wavN w h nd T K 1) j (w * h) = 0 := by
  have none : ∀ k, k < w * h → ¬ K k = j := fun k hk => of_decide_eq_false (ct_zero e k hk)
  refine (ct_cong (q := fun _ => false) (fun k hk => decide_eq_false (fun z => ?_))).trans (ct_none _)
  rw [wav_at hk] at z
  by_cases q : nxt w h nd T K k = K k
  · exact none k hk (by rw [← q, z])
  · have h4 := (ch_all h1 q).2.2.2.1
    rw [z] at h4
    obtain ⟨d, d1, d2⟩ := nbs_pos (P := fun d => decide (K d = j)) hk (show 0 < nbs w h _ k from Nat.lt_of_lt_of_le h1 h4)
    exact none d d1 (of_decide_eq_true d2)
theorem all_5 {K : Nat → Nat} (hK : ∀ c, K c ≤ 4) : ∀ n, sN (fun j => ccN K j n) 5 = n
  | 0 => rfl
  | n + 1 => by
    have ih := all_5 hK n
    have h5 := five_b (hK n)
    have s : ∀ j, ccN K j (n + 1) = ccN K j n + bN (decide (K n = j)) := fun j => rfl
    have ih' : ((((0 + ccN K 0 n) + ccN K 1 n) + ccN K 2 n) + ccN K 3 n) + ccN K 4 n = n := ih
    show ((((0 + ccN K 0 (n + 1)) + ccN K 1 (n + 1)) + ccN K 2 (n + 1)) + ccN K 3 (n + 1)) + ccN K 4 (n + 1) = n + 1
    rw [s, s, s, s, s]
    omega
section REG
variable {w h : Nat} {K : Nat → Nat} {j : Nat}
theorem has_L (w h : Nat) (K : Nat → Nat) : ∃ L : Nat → Nat, RLb w h K L := by
  have hx : ∀ c, ∃ f, c < w * h → K c ≠ 0 → isF w h K f = true ∧ cmp w h K f c = true ∧ f ≤ c := fun c => by
    by_cases q : c < w * h ∧ K c ≠ 0
    · obtain ⟨f, f1, f2, f3⟩ := has_first (w := w) (h := h) (K := K) (c + 1) c (by omega) q.1 q.2
      exact ⟨f, fun _ _ => ⟨f2, f3, f1⟩⟩
    · exact ⟨0, fun a b => absurd ⟨a, b⟩ q⟩
  exact ⟨fun c => Classical.choose (hx c), fun c hc h0 => Classical.choose_spec (hx c) hc h0⟩
noncomputable def rF (w h : Nat) (K : Nat → Nat) (j a : Nat) : Nat := if (isF w h K a && decide (K a = j)) = true then rsz w h K a else 0
theorem rg_sum (hj : 1 ≤ j) {L : Nat → Nat} (hR : RLb w h K L) : ∀ i, i ≤ w * h → ct (fun d => decide (K d = j) && decide (L d < i)) (w * h) = sN (rF w h K j) i
  | 0, _ => (ct_cong (q := fun _ => false) (fun d _ => by rw [decide_eq_false (Nat.not_lt_zero _), Bool.and_false])).trans (ct_none _)
  | i + 1, hi => by
    have ih := rg_sum hj hR i (by omega)
    have e1 : ct (fun d => decide (K d = j) && decide (L d < i + 1)) (w * h) = ct (fun d => (decide (K d = j) && decide (L d < i)) || (decide (K d = j) && decide (L d = i))) (w * h) := ct_cong (fun d _ => by
      by_cases a : K d = j
      · rw [decide_eq_true a]
        by_cases b : L d < i
        · rw [decide_eq_true b, decide_eq_true (show L d < i + 1 by omega)]; rfl
        · rw [decide_eq_false b]
          by_cases c : L d = i
          · rw [decide_eq_true c, decide_eq_true (show L d < i + 1 by omega)]; rfl
          · rw [decide_eq_false c, decide_eq_false (show ¬ L d < i + 1 by omega)]; rfl
      · rw [decide_eq_false a]; rfl)
    rw [e1, ct_or (fun d _ z => by
      have a := of_decide_eq_true (Bool.and_eq_true_iff.mp z.1).2
      have b := of_decide_eq_true (Bool.and_eq_true_iff.mp z.2).2
      omega), ih]
    show _ = sN (rF w h K j) i + rF w h K j i
    congr 1
    unfold rF
    by_cases q : (isF w h K i && decide (K i = j)) = true
    · rw [if_pos q]
      obtain ⟨q1, q2⟩ := Bool.and_eq_true_iff.mp q
      have q2 := of_decide_eq_true q2
      refine ct_cong (fun d hd => ?_)
      cases e : cmp w h K i d with
      | true =>
        have k1 : K d = j := by rw [cmp_col e, q2]
        obtain ⟨a1, a2, a3⟩ := hR d hd (by omega)
        have k2 : L d = i := first_one a1 q1 (by omega) (by omega) a2 e
        rw [decide_eq_true k1, decide_eq_true k2]; rfl
      | false =>
        cases e2 : decide (K d = j) && decide (L d = i) with
        | false => rfl
        | true =>
          obtain ⟨a, b⟩ := Bool.and_eq_true_iff.mp e2
          have a := of_decide_eq_true a
          have b := of_decide_eq_true b
          have a2 := (hR d hd (by omega)).2.1
          rw [b, e] at a2
          cases a2
    · rw [if_neg q]
      refine (ct_cong (q := fun _ => false) (fun d hd => ?_)).trans (ct_none _)
      cases e2 : decide (K d = j) && decide (L d = i) with
      | false => rfl
      | true =>
        obtain ⟨a, b⟩ := Bool.and_eq_true_iff.mp e2
        have a := of_decide_eq_true a
        have b := of_decide_eq_true b
        obtain ⟨a1, a2, a3⟩ := hR d hd (by omega)
        refine absurd ?_ q
        rw [← b, a1, decide_eq_true (show K (L d) = j by rw [← cmp_col a2, a])]
        rfl
theorem rg_all (hj : 1 ≤ j) : sN (rF w h K j) (w * h) = ccN K j (w * h) := by
  obtain ⟨L, hR⟩ := has_L w h K
  rw [← rg_sum hj hR (w * h) (Nat.le_refl _)]
  refine ct_cong (fun d hd => ?_)
  by_cases a : K d = j
  · have := (hR d hd (by omega)).2.2
    rw [decide_eq_true a, decide_eq_true (show L d < w * h by omega)]; rfl
  · rw [decide_eq_false a]; rfl
theorem rg_up : ∀ i, i ≤ w * h → sN (rF w h K j) i ≤ rsm w h K j i * rmx w h K j (w * h)
  | 0, _ => Nat.zero_le _
  | i + 1, hi => by
    have ih := rg_up i (by omega)
    show sN (rF w h K j) i + rF w h K j i ≤ _
    unfold rF rsm
    rw [ct_succ]
    by_cases q : (isF w h K i && decide (K i = j)) = true
    · rw [if_pos q, if_pos q, Nat.succ_mul]
      have := (rmx_max w h K j (w * h)).1 i hi (of_decide_eq_true (Bool.and_eq_true_iff.mp q).2)
      have ih : sN (rF w h K j) i ≤ ct (fun c => isF w h K c && decide (K c = j)) i * rmx w h K j (w * h) := ih
      show sN (rF w h K j) i + _ ≤ _
      omega
    · rw [if_neg q, if_neg q]
      exact ih
theorem rg_lo {a0 : Nat} (h1 : isF w h K a0 = true) (h2 : K a0 = j) : ∀ i, i ≤ w * h → rsm w h K j i + (if a0 < i then rsz w h K a0 - 1 else 0) ≤ sN (rF w h K j) i
  | 0, _ => by rw [if_neg (Nat.not_lt_zero _)]; exact Nat.le_refl _
  | i + 1, hi => by
    have ih := rg_lo h1 h2 i (by omega)
    show _ ≤ sN (rF w h K j) i + rF w h K j i
    have e : rsm w h K j (i + 1) = rsm w h K j i + (if (isF w h K i && decide (K i = j)) = true then 1 else 0) := rfl
    rw [e]
    unfold rF
    have hp := rsz_pos (w := w) (h := h) (K := K) (a := i) (by omega)
    by_cases q0 : a0 = i
    · subst q0
      rw [if_pos (Nat.lt_succ_self _), if_pos (by rw [h1, decide_eq_true h2]; rfl), if_pos (by rw [h1, decide_eq_true h2]; rfl)]
      rw [if_neg (Nat.lt_irrefl _)] at ih
      have ih : rsm w h K j a0 + 0 ≤ sN (rF w h K j) a0 := ih
      show _ ≤ sN (rF w h K j) a0 + _
      omega
    · have e2 : (if a0 < i + 1 then rsz w h K a0 - 1 else 0) = (if a0 < i then rsz w h K a0 - 1 else 0) := by
        by_cases z : a0 < i
        · rw [if_pos z, if_pos (by omega)]
        · rw [if_neg z, if_neg (by omega)]
      rw [e2]
      show _ ≤ sN (rF w h K j) i + _
      by_cases q : (isF w h K i && decide (K i = j)) = true
      · rw [if_pos q, if_pos q]; omega
      · rw [if_neg q, if_neg q]; omega
theorem rg_4 (hj : 1 ≤ j) : (rsm w h K j (w * h) = 0 ↔ ccN K j (w * h) = 0) ∧ rmx w h K j (w * h) ≤ ccN K j (w * h) ∧ ccN K j (w * h) ≤ rsm w h K j (w * h) * rmx w h K j (w * h) ∧ (0 < ccN K j (w * h) → rsm w h K j (w * h) + rmx w h K j (w * h) ≤ ccN K j (w * h) + 1) := by
  have hup := rg_up (w := w) (h := h) (K := K) (j := j) (w * h) (Nat.le_refl _)
  rw [rg_all hj] at hup
  have hsm : rsm w h K j (w * h) ≤ ccN K j (w * h) := ct_sub (fun k _ e => (Bool.and_eq_true_iff.mp e).2)
  have hz : rsm w h K j (w * h) = 0 ↔ ccN K j (w * h) = 0 := ⟨fun e => by rw [e, Nat.zero_mul] at hup; omega, fun e => by omega⟩
  rcases (rmx_max w h K j (w * h)).2 with e | ⟨c, c1, c2, c3⟩
  · exact ⟨hz, by omega, hup, fun _ => by omega⟩
  · obtain ⟨f, f1, f2, f3⟩ := has_first (w := w) (h := h) (K := K) (c + 1) c (by omega) c1 (by omega)
    have k : K f = j := by rw [← cmp_col f3, c2]
    have hl := rg_lo f2 k (w * h) (Nat.le_refl _)
    rw [rg_all hj, if_pos (by omega), ← rsz_same (by omega) f3, c3] at hl
    have hp := rsz_pos (w := w) (h := h) (K := K) (a := c) c1
    have hmx : rmx w h K j (w * h) ≤ ccN K j (w * h) := by
      rw [← c3]
      exact ct_sub (fun d _ e => decide_eq_true (by rw [cmp_col e, c2]))
    exact ⟨hz, hmx, hup, fun _ => by omega⟩
end REG
theorem lead_4 (n : Nat → Nat) {j : Nat} (hj : 1 ≤ j ∧ j ≤ 4) : (bestL n 1 4 = 0 → n j = 0) ∧ (bestL n 1 4 ≠ 0 → n j ≤ n (bestL n 1 4) ∧ (n j = n (bestL n 1 4) → bestL n 1 4 ≤ j)) := by
  obtain ⟨a1, a2, a3, a4, a5⟩ := best_inv n (Nat.le_refl 1) 4
  have h1 := a1 j hj.1 hj.2
  refine ⟨fun e => by have := a4 e; omega, fun e => ?_⟩
  obtain ⟨b1, b2, b3⟩ := a5 (by omega)
  refine ⟨by omega, fun e2 => ?_⟩
  rcases Nat.lt_or_ge j (bestL n 1 4) with q | q
  · have := best_first (n := n) (nd := 1) 4 j hj.1 q
    omega
  · exact q
theorem lead_le (n : Nat → Nat) : bestL n 1 4 ≤ 4 := (best_inv n (Nat.le_refl 1) 4).2.2.1
theorem win_4 {w h : Nat} {K : Nat → Nat} (g : gok w h) {j : Nat} (hj : 1 ≤ j) : allN K (w * h) = j ↔ ccN K j (w * h) = w * h := by
  rw [all_j g (by omega)]
  constructor
  · exact fun z => ct_full.mpr (fun k hk => decide_eq_true (z k hk))
  · exact fun z k hk => of_decide_eq_true (ct_full.mp z k hk)
theorem bo_le {w h : Nat} {K : Nat → Nat} (g : gok w h) : boN w h K (w * h) ≤ w * (h - 1) + h * (w - 1) := by
  rw [boN_ct]
  have key : ∀ s, ct (fun c => bo1 w h K c s) (w * h) ≤ ct (fun c => (nbr w h c s).isSome) (w * h) := fun s => ct_sub (fun k _ e => by
    cases q : nbr w h k s with
    | none => rw [bo1_none q] at e; cases e
    | some d => rfl)
  have h1 := key 1
  have h3 := key 3
  have hn : ct (fun c => (nbr w h c 1).isSome) (w * h) = h * (w - 1) ∧ ct (fun c => (nbr w h c 3).isSome) (w * h) = w * (h - 1) := by
    clear h1 h3 key
    obtain ⟨g1, g2, g3, g4⟩ := g
    rcases (show w = 2 ∨ w = 3 ∨ w = 4 ∨ w = 5 by omega) with rfl | rfl | rfl | rfl <;> rcases (show h = 2 ∨ h = 3 ∨ h = 4 ∨ h = 5 by omega) with rfl | rfl | rfl | rfl <;> exact ⟨by decide +kernel, by decide +kernel⟩
  omega
