/-! a wave -/
def mostL (n : Nat → Nat) (nd : Nat) : Nat → Nat
  | 0 => nd - 1
  | i + 1 => if mostL n nd i < n (i + 1) then n (i + 1) else mostL n nd i
def bestL (n : Nat → Nat) (nd : Nat) : Nat → Nat
  | 0 => 0
  | i + 1 => if mostL n nd i < n (i + 1) then i + 1 else bestL n nd i
def aloneL (n : Nat → Nat) (nd : Nat) : Nat → Bool
  | 0 => false
  | i + 1 => if mostL n nd i < n (i + 1) then true else if n (i + 1) = mostL n nd i then false else aloneL n nd i
def win (n : Nat → Nat) (nd : Nat) : Nat := if 0 < bestL n nd 4 ∧ aloneL n nd 4 = true then bestL n nd 4 else 0
theorem best_inv (n : Nat → Nat) {nd : Nat} (h1 : 1 ≤ nd) : ∀ i, (∀ k, 1 ≤ k → k ≤ i → n k ≤ mostL n nd i) ∧ nd - 1 ≤ mostL n nd i ∧ bestL n nd i ≤ i ∧ (bestL n nd i = 0 → mostL n nd i = nd - 1) ∧ (0 < bestL n nd i → n (bestL n nd i) = mostL n nd i ∧ nd ≤ mostL n nd i ∧ (aloneL n nd i = true ↔ ∀ k, 1 ≤ k → k ≤ i → k ≠ bestL n nd i → n k < mostL n nd i))
  | 0 => ⟨fun k a b => by omega, Nat.le_refl _, Nat.le_refl _, fun _ => rfl, fun h => absurd h (by simp [bestL])⟩
  | i + 1 => by
    obtain ⟨a1, a2, a3, a4, a5⟩ := best_inv n h1 i
    by_cases c1 : mostL n nd i < n (i + 1)
    · have em : mostL n nd (i + 1) = n (i + 1) := by rw [mostL, if_pos c1]
      have eb : bestL n nd (i + 1) = i + 1 := by rw [bestL, if_pos c1]
      have ea : aloneL n nd (i + 1) = true := by rw [aloneL, if_pos c1]
      rw [em, eb, ea]
      refine ⟨fun k k1 k2 => ?_, by omega, Nat.le_refl _, fun h => by omega, fun _ => ⟨rfl, by omega, fun _ k k1 k2 k3 => ?_, fun _ => rfl⟩⟩
      · rcases Nat.lt_or_ge k (i + 1) with q | q
        · have := a1 k k1 (by omega); omega
        · have : k = i + 1 := by omega
          rw [this]; exact Nat.le_refl _
      · have := a1 k k1 (by omega); omega
    · have em : mostL n nd (i + 1) = mostL n nd i := by rw [mostL, if_neg c1]
      have eb : bestL n nd (i + 1) = bestL n nd i := by rw [bestL, if_neg c1]
      rw [em, eb]
      refine ⟨fun k k1 k2 => ?_, a2, by omega, a4, fun hb => ?_⟩
      · rcases Nat.lt_or_ge k (i + 1) with q | q
        · exact a1 k k1 (by omega)
        · have : k = i + 1 := by omega
          rw [this]; omega
      · obtain ⟨b1, b2, b3⟩ := a5 hb
        refine ⟨b1, b2, ?_⟩
        by_cases c2 : n (i + 1) = mostL n nd i
        · have ea : aloneL n nd (i + 1) = false := by rw [aloneL, if_neg c1, if_pos c2]
          rw [ea]
          refine ⟨fun h => (by cases h), fun h => ?_⟩
          have := h (i + 1) (by omega) (Nat.le_refl _) (by omega)
          omega
        · have ea : aloneL n nd (i + 1) = aloneL n nd i := by rw [aloneL, if_neg c1, if_neg c2]
          rw [ea, b3]
          refine ⟨fun h k k1 k2 k3 => ?_, fun h k k1 k2 k3 => h k k1 (by omega) k3⟩
          rcases Nat.lt_or_ge k (i + 1) with q | q
          · exact h k k1 (by omega) k3
          · have : k = i + 1 := by omega
            rw [this]; omega
theorem win_iff (n : Nat → Nat) {nd : Nat} (h1 : 1 ≤ nd) {j : Nat} (hj : 1 ≤ j ∧ j ≤ 4) : win n nd = j ↔ nd ≤ n j ∧ ∀ i, 1 ≤ i → i ≤ 4 → i ≠ j → n i < n j := by
  obtain ⟨a1, a2, a3, a4, a5⟩ := best_inv n h1 4
  unfold win
  by_cases c : 0 < bestL n nd 4 ∧ aloneL n nd 4 = true
  · rw [if_pos c]
    obtain ⟨b1, b2, b3⟩ := a5 c.1
    have b4 := b3.mp c.2
    constructor
    · rintro rfl
      exact ⟨by omega, fun i i1 i2 i3 => by rw [b1]; exact b4 i i1 i2 i3⟩
    · rintro ⟨q1, q2⟩
      by_cases e : bestL n nd 4 = j
      · exact e
      · have r1 := q2 (bestL n nd 4) c.1 a3 e
        have r2 := a1 j hj.1 hj.2
        omega
  · rw [if_neg c]
    constructor
    · intro e; omega
    · rintro ⟨q1, q2⟩
      exfalso
      have r2 := a1 j hj.1 hj.2
      have hb : 0 < bestL n nd 4 := by
        rcases Nat.eq_zero_or_pos (bestL n nd 4) with z | z
        · have := a4 z; omega
        · exact z
      obtain ⟨b1, b2, b3⟩ := a5 hb
      have e : bestL n nd 4 = j := by
        by_cases e : bestL n nd 4 = j
        · exact e
        · have r1 := q2 (bestL n nd 4) hb a3 e
          omega
      exact c ⟨hb, b3.mpr (fun k k1 k2 k3 => by rw [← b1, e]; exact q2 k k1 k2 (by rw [← e]; exact k3))⟩
theorem win_le (n : Nat → Nat) {nd : Nat} (h1 : 1 ≤ nd) : win n nd ≤ 4 := by
  have := (best_inv n h1 4).2.2.1
  unfold win; split <;> omega
def cnbs (w h : Nat) (K : Nat → Nat) (c j : Nat) : Nat := nbs w h (fun d => decide (K d = j)) c
def gain (w h nd : Nat) (K : Nat → Nat) (c : Nat) : Nat := win (cnbs w h K c) nd
def nxt (w h nd : Nat) (T : Nat → Bool) (K : Nat → Nat) (c : Nat) : Nat := if T c = true then K c else if gain w h nd K c = 0 then K c else gain w h nd K c
def wav (w h nd : Nat) (T : Nat → Bool) (K : Nat → Nat) : Nat → Nat := fun c => if c < w * h then nxt w h nd T K c else K c
def wavN (w h nd : Nat) (T : Nat → Bool) (K : Nat → Nat) : Nat → Nat → Nat
  | 0 => K
  | n + 1 => wav w h nd T (wavN w h nd T K n)
theorem nbs_le (w h : Nat) (P : Nat → Bool) (c : Nat) : nbs w h P c ≤ 4 := by
  have hb : ∀ b : Bool, bN b ≤ 1 := fun b => by cases b <;> decide
  have := hb (nb1 w h P c 0)
  have := hb (nb1 w h P c 1)
  have := hb (nb1 w h P c 2)
  have := hb (nb1 w h P c 3)
  unfold nbs; omega
section WB
variable {w h nd : Nat} {T : Nat → Bool} {K : Nat → Nat} {S : Nat → Int32} {bd sb : Int32}
theorem crowd_bit (g : gok w h) (hS : RS w h K S) {j : Nat} (hj : j < 5) {c : Nat} (hc : c < w * h) {q : Nat} (h1 : 1 ≤ q) (h4 : q ≤ 4) : bt (wN (S j) q) (ppos w c) = decide (q ≤ cnbs w h K c j) :=
  wN_bit g (P := fun d => decide (K d = j)) (hS j hj) hc h1 h4
theorem so_bit (g : gok w h) (hS : RS w h K S) {c : Nat} (hc : c < w * h) {q : Nat} (h1 : 1 ≤ q) (h4 : q ≤ 4) : ∀ i, i ≤ 4 → (bt (pSo S q i) (ppos w c) = true ↔ ∃ a, 1 ≤ a ∧ a ≤ i ∧ q ≤ cnbs w h K c a)
  | 0, _ => by
    rw [pSo, b_0]
    exact ⟨fun h => (by cases h), fun ⟨a, a1, a2, _⟩ => by omega⟩
  | i + 1, hi => by
    rw [pSo, b_or, crowd_bit g hS (by omega) hc h1 h4, Bool.or_eq_true, so_bit g hS hc h1 h4 i (by omega), decide_eq_true_iff]
    constructor
    · rintro (⟨a, a1, a2, a3⟩ | h)
      · exact ⟨a, a1, by omega, a3⟩
      · exact ⟨i + 1, by omega, Nat.le_refl _, h⟩
    · rintro ⟨a, a1, a2, a3⟩
      rcases Nat.lt_or_ge a (i + 1) with q1 | q1
      · exact Or.inl ⟨a, a1, by omega, a3⟩
      · have : a = i + 1 := by omega
        subst this
        exact Or.inr a3
theorem se_bit (g : gok w h) (hS : RS w h K S) {c : Nat} (hc : c < w * h) {q : Nat} (h1 : 1 ≤ q) (h4 : q ≤ 4) : ∀ i, i ≤ 4 → (bt (pSe S q i) (ppos w c) = true ↔ ∃ a b, 1 ≤ a ∧ a < b ∧ b ≤ i ∧ q ≤ cnbs w h K c a ∧ q ≤ cnbs w h K c b)
  | 0, _ => by
    rw [pSe, b_0]
    exact ⟨fun h => (by cases h), fun ⟨a, b, a1, a2, a3, _⟩ => by omega⟩
  | i + 1, hi => by
    rw [pSe, b_or, b_and, crowd_bit g hS (by omega) hc h1 h4, Bool.or_eq_true, Bool.and_eq_true, se_bit g hS hc h1 h4 i (by omega), so_bit g hS hc h1 h4 i (by omega), decide_eq_true_iff]
    constructor
    · rintro (⟨a, b, a1, a2, a3, a4⟩ | ⟨⟨a, a1, a2, a3⟩, h⟩)
      · exact ⟨a, b, a1, a2, by omega, a4⟩
      · exact ⟨a, i + 1, a1, by omega, Nat.le_refl _, a3, h⟩
    · rintro ⟨a, b, a1, a2, a3, a4, a5⟩
      rcases Nat.lt_or_ge b (i + 1) with q1 | q1
      · exact Or.inl ⟨a, b, a1, a2, by omega, a4, a5⟩
      · have : b = i + 1 := by omega
        subst this
        exact Or.inr ⟨⟨a, a1, by omega, a4⟩, a5⟩
theorem gs_bit (g : gok w h) (hB : RB w h bd) (hT : RT w h T sb) (hS : RS w h K S) {G : Nat → Int32} {j : Nat} (hj : 1 ≤ j ∧ j < 5) {c : Nat} (hc : c < w * h) (h1 : 1 ≤ nd) (hG : bt (G j) (ppos w c) = false) : ∀ i, nd + i ≤ 5 → (bt (pGs S bd sb nd G i j) (ppos w c) = true ↔ T c = false ∧ ∃ q, nd ≤ q ∧ q < nd + i ∧ q ≤ cnbs w h K c j ∧ ∀ k, 1 ≤ k → k ≤ 4 → k ≠ j → cnbs w h K c k < q)
  | 0, _ => by
    rw [pGs, hG]
    exact ⟨fun h => (by cases h), fun ⟨_, q, q1, q2, _⟩ => by omega⟩
  | i + 1, hi => by
    obtain ⟨g1, g2, g3, g4⟩ := id g
    have hp : ppos w c < 32 := by have := ppos_lt g hc; omega
    have hpo := pon_ppos (w := w) (h := h) (by omega) g2 hc
    have e1 : pGs S bd sb nd G (i + 1) j = pAddF S bd sb (nd + i) (pGs S bd sb nd G i) j := zfrom_in hj.1 (by omega)
    rw [e1]
    unfold pAddF
    rw [b_or, b_and, b_and, b_and, b_not _ hp, b_not _ hp, hB _ hp, hT _ hp, hpo, pix_ppos (by omega) g2, crowd_bit g hS hj.2 hc (by omega) (by omega), Bool.or_eq_true, gs_bit g hB hT hS hj hc h1 hG i (by omega)]
    have es := se_bit g hS hc (q := nd + i) (by omega) (by omega) 4 (Nat.le_refl 4)
    cases hTc : T c
    · simp only [Bool.true_and, Bool.and_true, Bool.not_false, true_and, Bool.and_eq_true, decide_eq_true_eq, Bool.not_eq_true', Bool.and_false]
      constructor
      · rintro (⟨q, q1, q2, q3⟩ | ⟨q1, q2⟩)
        · exact ⟨q, q1, by omega, q3⟩
        · refine ⟨nd + i, by omega, by omega, q1, fun k k1 k2 k3 => ?_⟩
          rcases Nat.lt_or_ge (cnbs w h K c k) (nd + i) with r | r
          · exact r
          · exfalso
            have h9 : bt (pSe S (nd + i) 4) (ppos w c) = true := by
              rw [es]
              rcases Nat.lt_or_ge k j with s | s
              · exact ⟨k, j, k1, s, by omega, r, q1⟩
              · exact ⟨j, k, hj.1, by omega, k2, q1, r⟩
            rw [h9] at q2
            cases q2
      · rintro ⟨q, q1, q2, q3, q4⟩
        rcases Nat.lt_or_ge q (nd + i) with r | r
        · exact Or.inl ⟨q, q1, r, q3, q4⟩
        · have : q = nd + i := by omega
          subst this
          refine Or.inr ⟨q3, ?_⟩
          cases hse : bt (pSe S (nd + i) 4) (ppos w c)
          · rfl
          · exfalso
            obtain ⟨a, b, a1, a2, a3, a4, a5⟩ := es.mp hse
            by_cases e : a = j
            · have := q4 b (by omega) a3 (by omega); omega
            · have := q4 a a1 (by omega) e; omega
    · simp
theorem g0_bit (g : gok w h) (hB : RB w h bd) (hT : RT w h T sb) (hS : RS w h K S) (h1 : 1 ≤ nd) (h4 : nd ≤ 4) {j : Nat} (hj : 1 ≤ j ∧ j < 5) {c : Nat} (hc : c < w * h) : bt (pG0 S bd sb nd j) (ppos w c) = (!T c && decide (gain w h nd K c = j)) := by
  have e := gs_bit (G := zfill (fun _ => 0) (fun _ => 0) 5) g hB hT hS hj hc h1 (by rw [zfill_in hj.2, b_0]) (5 - nd) (by omega)
  have e2 : pG0 S bd sb nd = pGs S bd sb nd (zfill (fun _ => 0) (fun _ => 0) 5) (5 - nd) := rfl
  rw [e2, Bool.eq_iff_iff, e, Bool.and_eq_true, decide_eq_true_iff]
  unfold gain
  rw [win_iff _ h1 ⟨hj.1, by omega⟩]
  have hT2 : (!T c) = true ↔ T c = false := by cases T c <;> simp
  rw [hT2]
  constructor
  · rintro ⟨a, q, q1, q2, q3, q4⟩
    exact ⟨a, by omega, fun i i1 i2 i3 => by have := q4 i i1 i2 i3; omega⟩
  · rintro ⟨a, b, d⟩
    have hle : cnbs w h K c j ≤ 4 := nbs_le _ _ _ _
    exact ⟨a, cnbs w h K c j, b, by omega, Nat.le_refl _, d⟩
theorem gs_off (hB : RB w h bd) {G : Nat → Int32} {j p : Nat} (hp : p < 32) (ho : pon w h p = false) (hG : bt (G j) p = false) : ∀ i, bt (pGs S bd sb nd G i j) p = false
  | 0 => hG
  | i + 1 => by
    have ih := gs_off hB hp ho hG i
    show bt (zfrom _ _ 4 j) p = false
    unfold zfrom
    split
    · unfold pAddF
      rw [b_or, ih, b_and, b_and, hB p hp, ho]
      simp
    · exact ih
theorem g0_zero : pG0 S bd sb nd 0 = 0 := by
  have : ∀ i, pGs S bd sb nd (zfill (fun _ => 0) (fun _ => 0) 5) i 0 = 0 := by
    intro i
    induction i with
    | zero => rfl
    | succ i ih =>
      show zfrom _ _ 4 0 = 0
      unfold zfrom
      rw [if_neg (by omega)]
      exact ih
  exact this _
theorem g0_all (g : gok w h) (hB : RB w h bd) (hT : RT w h T sb) (hS : RS w h K S) (h1 : 1 ≤ nd) (h4 : nd ≤ 4) {j : Nat} (hj : j < 5) {p : Nat} (hp : p < 32) : bt (pG0 S bd sb nd j) p = (pon w h p && (!T (pix w p) && (decide (gain w h nd K (pix w p) = j) && decide (j ≠ 0)))) := by
  rcases Nat.eq_zero_or_pos j with rfl | hj0
  · rw [g0_zero, b_0]; simp
  · cases ho : pon w h p
    · rw [Bool.false_and]
      exact gs_off hB hp ho (by rw [zfill_in hj, b_0]) _
    · have e1 := ppos_pix ho
      have e2 := g0_bit g hB hT hS h1 h4 ⟨hj0, hj⟩ (pix_lt ho)
      rw [e1] at e2
      rw [e2, decide_eq_true (show j ≠ 0 by omega)]
      simp
theorem gain_le (h1 : 1 ≤ nd) (c : Nat) : gain w h nd K c ≤ 4 := win_le _ h1
theorem ch_bit (g : gok w h) (hB : RB w h bd) (hT : RT w h T sb) (hS : RS w h K S) (h1 : 1 ≤ nd) (h4 : nd ≤ 4) {p : Nat} (hp : p < 32) : bt (pC0 S bd sb nd) p = (pon w h p && decide (nxt w h nd T K (pix w p) ≠ K (pix w p))) := by
  have hi : ∀ i, i ≤ 4 → (bt (pCh S (pG0 S bd sb nd) i) p = true ↔ pon w h p = true ∧ T (pix w p) = false ∧ ∃ j, 1 ≤ j ∧ j ≤ i ∧ gain w h nd K (pix w p) = j ∧ K (pix w p) ≠ j) := by
    intro i
    induction i with
    | zero =>
      intro _
      rw [pCh, b_0]
      exact ⟨fun h => (by cases h), fun ⟨_, _, j, j1, j2, _⟩ => by omega⟩
    | succ i ih =>
      intro hi
      rw [pCh, b_or, b_and, b_not _ hp, Bool.or_eq_true, ih (by omega), g0_all g hB hT hS h1 h4 (by omega) hp, hS (i + 1) (by omega) p hp]
      cases pon w h p
      · simp
      · cases T (pix w p)
        · simp only [Bool.true_and, Bool.not_false, true_and, Bool.and_eq_true, decide_eq_true_eq, Bool.not_eq_true', decide_eq_false_iff_not]
          constructor
          · rintro (⟨j, j1, j2, j3⟩ | ⟨⟨a, b⟩, d⟩)
            · exact ⟨j, j1, by omega, j3⟩
            · exact ⟨i + 1, by omega, Nat.le_refl _, a, d⟩
          · rintro ⟨j, j1, j2, j3, j4⟩
            rcases Nat.lt_or_ge j (i + 1) with r | r
            · exact Or.inl ⟨j, j1, by omega, j3, j4⟩
            · have : j = i + 1 := by omega
              subst this
              exact Or.inr ⟨⟨j3, by omega⟩, j4⟩
        · simp
  rw [Bool.eq_iff_iff]
  unfold pC0
  rw [hi 4 (Nat.le_refl 4), Bool.and_eq_true, decide_eq_true_iff]
  have hg := gain_le (w := w) (h := h) (K := K) h1 (pix w p)
  unfold nxt
  cases hTp : T (pix w p)
  · rw [if_neg (by simp)]
    constructor
    · rintro ⟨a, _, j, j1, j2, j3, j4⟩
      refine ⟨a, ?_⟩
      rw [if_neg (by omega), j3]
      exact fun e => j4 e.symm
    · rintro ⟨a, b⟩
      by_cases e : gain w h nd K (pix w p) = 0
      · rw [if_pos e] at b; exact absurd rfl b
      · rw [if_neg e] at b
        exact ⟨a, rfl, gain w h nd K (pix w p), by omega, hg, rfl, fun q => b q.symm⟩
  · rw [if_pos rfl]
    simp
theorem take_bit (g : gok w h) (hB : RB w h bd) (hT : RT w h T sb) (hS : RS w h K S) (h1 : 1 ≤ nd) (h4 : nd ≤ 4) : RS w h (wav w h nd T K) (pTake S (pG0 S bd sb nd) (pC0 S bd sb nd)) := by
  intro j hj p hp
  have e1 : pTake S (pG0 S bd sb nd) (pC0 S bd sb nd) j = (S j &&& (pC0 S bd sb nd ^^^ (-1))) ||| (pG0 S bd sb nd j &&& pC0 S bd sb nd) := zfill_in hj
  rw [e1, b_or, b_and, b_and, b_not _ hp, ch_bit g hB hT hS h1 h4 hp, g0_all g hB hT hS h1 h4 hj hp, hS j hj p hp]
  cases ho : pon w h p
  · simp
  · have hlt := pix_lt ho
    have ew : wav w h nd T K (pix w p) = nxt w h nd T K (pix w p) := if_pos hlt
    rw [ew]
    simp only [Bool.true_and]
    unfold nxt
    cases hTp : T (pix w p)
    · rw [if_neg (by simp)]
      by_cases e : gain w h nd K (pix w p) = 0
      · rw [if_pos e]; simp
      · rw [if_neg e]
        by_cases e2 : gain w h nd K (pix w p) = K (pix w p)
        · rw [e2]; simp
        · by_cases e3 : gain w h nd K (pix w p) = j
          · have : j ≠ 0 := by omega
            have e5 : ¬ j = K (pix w p) := by rw [← e3]; exact e2
            simp [e2, e3, this]
            exact Or.inr e5
          · simp [e2, e3]
    · rw [if_pos rfl]; simp
theorem ch_zero (g : gok w h) (hB : RB w h bd) (hT : RT w h T sb) (hS : RS w h K S) (h1 : 1 ≤ nd) (h4 : nd ≤ 4) : pC0 S bd sb nd = 0 ↔ ∀ c, c < w * h → nxt w h nd T K c = K c := by
  obtain ⟨g1, g2, g3, g4⟩ := id g
  constructor
  · intro e c hc
    have hp : ppos w c < 32 := by have := ppos_lt g hc; omega
    have e1 := ch_bit g hB hT hS h1 h4 hp
    rw [e, b_0, pon_ppos (by omega) g2 hc, pix_ppos (by omega) g2] at e1
    simpa using e1.symm
  · intro e
    refine b_ext (fun p hp => ?_)
    rw [b_0, ch_bit g hB hT hS h1 h4 hp]
    cases ho : pon w h p
    · rfl
    · rw [e _ (pix_lt ho)]; simp
theorem wav_same (hz : ∀ c, c < w * h → nxt w h nd T K c = K c) : wav w h nd T K = K := by
  funext c
  unfold wav
  split
  · exact hz c (by assumption)
  · rfl
theorem it_RS (g : gok w h) (hB : RB w h bd) (hT : RT w h T sb) (hS : RS w h K S) (h1 : 1 ≤ nd) (h4 : nd ≤ 4) : ∀ n, RS w h (wavN w h nd T K n) (pIt bd sb nd S n)
  | 0 => hS
  | n + 1 => by
    have ih := it_RS g hB hT hS h1 h4 n
    show RS w h (wav w h nd T (wavN w h nd T K n)) (if _ then _ else _)
    split
    · rename_i c
      rw [wav_same ((ch_zero g hB hT ih h1 h4).mp c)]
      exact ih
    · exact take_bit g hB hT ih h1 h4
/-- how many cells a wave changes -/
def chg (w h nd : Nat) (T : Nat → Bool) (K : Nat → Nat) : Nat := ct (fun c => decide (nxt w h nd T K c ≠ K c)) (w * h)
theorem ch_count (g : gok w h) (hB : RB w h bd) (hT : RT w h T sb) (hS : RS w h K S) (h1 : 1 ≤ nd) (h4 : nd ≤ 4) : pBC (pC0 S bd sb nd) = nI (chg w h nd T K) := by
  obtain ⟨g1, g2, g3, g4⟩ := id g
  rw [pBC_ct, ct_cells g (z := bt (pC0 S bd sb nd)) (fun p hp hb => by
    rw [ch_bit g hB hT hS h1 h4 hp, Bool.and_eq_true] at hb; exact hb.1)]
  congr 1
  refine ct_cong (fun c hc => ?_)
  have hp : ppos w c < 32 := by have := ppos_lt g hc; omega
  rw [ch_bit g hB hT hS h1 h4 hp, pon_ppos (by omega) g2 hc, pix_ppos (by omega) g2]
  rfl
end WB
