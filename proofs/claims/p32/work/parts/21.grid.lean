/-! the grid: places p = x + 6 * y of the class, cells c = w * y + x of the reference -/
def gok (w h : Nat) : Prop := 2 ≤ w ∧ w ≤ 5 ∧ 2 ≤ h ∧ h ≤ 5
def pon (w h p : Nat) : Bool := decide (p % 6 < w) && decide (p / 6 < h)
def pix (w p : Nat) : Nat := w * (p / 6) + p % 6
def ppos (w c : Nat) : Nat := c % w + 6 * (c / w)
theorem pon_iff {w h p : Nat} : pon w h p = true ↔ p % 6 < w ∧ p / 6 < h := by simp [pon]
theorem ppos_mod {w : Nat} (hw : 0 < w) (h5 : w ≤ 5) (c : Nat) : ppos w c % 6 = c % w := by
  have := Nat.mod_lt c hw
  unfold ppos; omega
theorem ppos_div {w : Nat} (hw : 0 < w) (h5 : w ≤ 5) (c : Nat) : ppos w c / 6 = c / w := by
  have := Nat.mod_lt c hw
  unfold ppos; omega
theorem pix_ppos {w : Nat} (hw : 0 < w) (h5 : w ≤ 5) (c : Nat) : pix w (ppos w c) = c := by
  unfold pix
  rw [ppos_mod hw h5, ppos_div hw h5]
  exact Nat.div_add_mod c w
theorem div_lt_h {w h c : Nat} (hw : 0 < w) (hc : c < w * h) : c / w < h := by
  rw [Nat.div_lt_iff_lt_mul hw, Nat.mul_comm]; exact hc
theorem pon_ppos {w h c : Nat} (hw : 0 < w) (h5 : w ≤ 5) (hc : c < w * h) : pon w h (ppos w c) = true := by
  rw [pon_iff, ppos_mod hw h5, ppos_div hw h5]
  exact ⟨Nat.mod_lt _ hw, div_lt_h hw hc⟩
theorem ppos_pix {w h p : Nat} (hp : pon w h p = true) : ppos w (pix w p) = p := by
  rw [pon_iff] at hp
  unfold ppos pix
  have hw : 0 < w := by omega
  rw [Nat.mul_add_mod, Nat.mod_eq_of_lt hp.1, Nat.mul_add_div hw, Nat.div_eq_of_lt hp.1]
  omega
theorem pix_lt {w h p : Nat} (hp : pon w h p = true) : pix w p < w * h := by
  rw [pon_iff] at hp
  unfold pix
  have h1 : w * (p / 6 + 1) ≤ w * h := Nat.mul_le_mul_left w hp.2
  rw [Nat.mul_succ] at h1
  omega
theorem pon_lt {w h p : Nat} (h5 : h ≤ 5) (hp : pon w h p = true) : p < 30 := by
  rw [pon_iff] at hp
  omega
theorem ppos_lt {w h c : Nat} (g : gok w h) (hc : c < w * h) : ppos w c < 30 := pon_lt g.2.2.2 (pon_ppos (by have := g.1; omega) g.2.1 hc)
theorem ppos_inj {w : Nat} (hw : 0 < w) (h5 : w ≤ 5) {c d : Nat} (e : ppos w c = ppos w d) : c = d := by
  rw [← pix_ppos hw h5 c, ← pix_ppos hw h5 d, e]
theorem wh_le {w h : Nat} (g : gok w h) : w * h ≤ 25 := Nat.le_trans (Nat.mul_le_mul_right h g.2.1) (Nat.mul_le_mul_left 5 g.2.2.2)
theorem wh_pos {w h : Nat} (g : gok w h) : 4 ≤ w * h := Nat.le_trans (Nat.mul_le_mul_left 2 g.2.2.1) (Nat.mul_le_mul_right h g.1)
/-- places in order are cells in order -/
theorem pix_mono {w h p q : Nat} (hp : pon w h p = true) (hq : pon w h q = true) (l : p < q) : pix w p < pix w q := by
  rw [pon_iff] at hp hq
  unfold pix
  by_cases e : p / 6 = q / 6
  · rw [e]; omega
  · have h1 : p / 6 + 1 ≤ q / 6 := by omega
    have h2 : w * (p / 6 + 1) ≤ w * (q / 6) := Nat.mul_le_mul_left w h1
    rw [Nat.mul_succ] at h2
    omega
/-- a count over the places is the count over the cells -/
theorem ct_rows {w : Nat} (hw : 0 < w) (h5 : w ≤ 5) {z : Nat → Bool} : ∀ h, (∀ p, p < 6 * h → z p = true → p % 6 < w) → ct z (6 * h) = ct (fun c => z (ppos w c)) (w * h)
  | 0, _ => rfl
  | h + 1, hz => by
    have ih := ct_rows hw h5 (z := z) h (fun p hp => hz p (by omega))
    rw [Nat.mul_succ, Nat.mul_succ, ct_split z (6 * h) 6, ct_split _ (w * h) w, ih]
    congr 1
    have e1 : ct (fun k => z (6 * h + k)) 6 = ct (fun k => z (6 * h + k)) w := by
      obtain ⟨n, hn⟩ : ∃ n, 5 = w + n := ⟨5 - w, by omega⟩
      have h6 : ct (fun k => z (6 * h + k)) (w + (n + 1)) = ct (fun k => z (6 * h + k)) w := ct_out (n + 1) (fun k h1 h2 => by
        cases hk : z (6 * h + k)
        · rfl
        · have := hz (6 * h + k) (by omega) hk
          omega)
      rw [show w + (n + 1) = 6 by omega] at h6
      exact h6
    rw [e1]
    refine ct_cong (fun k hk => ?_)
    show z (6 * h + k) = z (ppos w (w * h + k))
    congr 1
    unfold ppos
    rw [Nat.mul_add_mod, Nat.mod_eq_of_lt hk, Nat.mul_add_div hw, Nat.div_eq_of_lt hk]
    omega
theorem ct_cells {w h : Nat} (g : gok w h) {z : Nat → Bool} (hz : ∀ p, p < 32 → z p = true → pon w h p = true) : ct z 32 = ct (fun c => z (ppos w c)) (w * h) := by
  obtain ⟨g1, g2, g3, g4⟩ := id g
  rw [← ct_rows (by omega) g2 h (fun p hp hp2 => (pon_iff.mp (hz p (by omega) hp2)).1)]
  obtain ⟨n, hn⟩ : ∃ n, 32 = 6 * h + n := ⟨32 - 6 * h, by omega⟩
  rw [hn]
  refine ct_out n (fun k h1 h2 => ?_)
  cases hk : z k
  · rfl
  · have := (pon_iff.mp (hz k (by omega) hk)).2
    omega
/-- cell numbers of the neighbours: left, right, above, below; none beyond the map -/
def nbr (w h c s : Nat) : Option Nat :=
  if s = 0 then (if 0 < c % w then some (c - 1) else none)
  else if s = 1 then (if c % w < w - 1 then some (c + 1) else none)
  else if s = 2 then (if 0 < c / w then some (c - w) else none)
  else (if c / w < h - 1 then some (c + w) else none)
/-- the sets of a map: the board, the stubborn ones, the cells of each colour -/
def RB (w h : Nat) (bd : Int32) : Prop := ∀ p, p < 32 → bt bd p = pon w h p
def RT (w h : Nat) (T : Nat → Bool) (sb : Int32) : Prop := ∀ p, p < 32 → bt sb p = (pon w h p && T (pix w p))
def RS (w h : Nat) (K : Nat → Nat) (S : Nat → Int32) : Prop := ∀ j, j < 5 → ∀ p, p < 32 → bt (S j) p = (pon w h p && decide (K (pix w p) = j))
/-- has the cell a neighbour on side s that is in the set P -/
def nb1 (w h : Nat) (P : Nat → Bool) (c s : Nat) : Bool := match nbr w h c s with
  | none => false
  | some d => P d
def bN (b : Bool) : Nat := if b then 1 else 0
def nbs (w h : Nat) (P : Nat → Bool) (c : Nat) : Nat := bN (nb1 w h P c 0) + bN (nb1 w h P c 1) + bN (nb1 w h P c 2) + bN (nb1 w h P c 3)
theorem nbr_lt {w h c s d : Nat} (hc : c < w * h) (e : nbr w h c s = some d) : d < w * h := by
  unfold nbr at e
  have hw : 0 < w := by
    rcases Nat.eq_zero_or_pos w with rfl | h1
    · omega
    · exact h1
  have hm := Nat.mod_lt c hw
  have hdm := Nat.div_add_mod c w
  split at e
  · split at e
    · cases e; omega
    · cases e
  · split at e
    · split at e
      · rename_i h1 h2
        cases e
        have h3 := div_lt_h hw hc
        have h4 : w * (c / w + 1) ≤ w * h := Nat.mul_le_mul_left w h3
        rw [Nat.mul_succ] at h4
        omega
      · cases e
    · split at e
      · split at e
        · cases e; omega
        · cases e
      · split at e
        · rename_i h1 h2 h3 h4
          cases e
          have h5 : w * (c / w + 1 + 1) ≤ w * h := Nat.mul_le_mul_left w (Nat.add_lt_of_lt_sub h4)
          rw [Nat.mul_succ, Nat.mul_succ] at h5
          omega
        · cases e
/-- a set of places that is a set P of cells on the board: the four neighbours' bits -/
theorem nb_bits {w h : Nat} (g : gok w h) {P : Nat → Bool} {z : Int32} (hz : ∀ p, p < 32 → bt z p = (pon w h p && P (pix w p))) {c : Nat} (hc : c < w * h) :
    (decide (1 ≤ ppos w c) && bt z (ppos w c - 1)) = nb1 w h P c 0 ∧ bt z (1 + ppos w c) = nb1 w h P c 1 ∧ (decide (6 ≤ ppos w c) && bt z (ppos w c - 6)) = nb1 w h P c 2 ∧ bt z (6 + ppos w c) = nb1 w h P c 3 := by
  obtain ⟨g1, g2, g3, g4⟩ := id g
  have hw : 0 < w := by omega
  have hp := ppos_lt g hc
  have hx : c % w < w := Nat.mod_lt c hw
  have hy : c / w < h := div_lt_h hw hc
  have hcd : w * (c / w) + c % w = c := Nat.div_add_mod c w
  have ep : ppos w c = c % w + 6 * (c / w) := rfl
  generalize hX : c % w = X at *
  generalize hY : c / w = Y at *
  refine ⟨?_, ?_, ?_, ?_⟩
  · unfold nb1 nbr
    rw [if_pos rfl, hX]
    by_cases h0 : 0 < X
    · rw [if_pos h0, decide_eq_true (show 1 ≤ ppos w c by omega), Bool.true_and, hz _ (by omega)]
      have e1 : (ppos w c - 1) % 6 = X - 1 := by omega
      have e2 : (ppos w c - 1) / 6 = Y := by omega
      have e3 : pon w h (ppos w c - 1) = true := pon_iff.mpr ⟨by omega, by omega⟩
      have e4 : pix w (ppos w c - 1) = c - 1 := by unfold pix; rw [e1, e2]; omega
      rw [e3, e4]; rfl
    · rw [if_neg h0]
      by_cases h1 : 1 ≤ ppos w c
      · rw [hz _ (by omega)]
        have e3 : pon w h (ppos w c - 1) = false := by
          cases hq : pon w h (ppos w c - 1)
          · rfl
          · have := (pon_iff.mp hq).1; omega
        rw [e3]; simp
      · rw [decide_eq_false h1]; rfl
  · unfold nb1 nbr
    rw [if_neg (by decide), if_pos rfl, hX]
    rw [hz _ (by omega)]
    by_cases h0 : X < w - 1
    · rw [if_pos h0]
      have e1 : (1 + ppos w c) % 6 = X + 1 := by omega
      have e2 : (1 + ppos w c) / 6 = Y := by omega
      have e3 : pon w h (1 + ppos w c) = true := pon_iff.mpr ⟨by omega, by omega⟩
      have e4 : pix w (1 + ppos w c) = c + 1 := by unfold pix; rw [e1, e2]; omega
      rw [e3, e4]; rfl
    · rw [if_neg h0]
      have e3 : pon w h (1 + ppos w c) = false := by
        cases hq : pon w h (1 + ppos w c)
        · rfl
        · have := (pon_iff.mp hq).1; omega
      rw [e3]; rfl
  · unfold nb1 nbr
    rw [if_neg (by decide), if_neg (by decide), if_pos rfl, hY]
    by_cases h0 : 0 < Y
    · rw [if_pos h0, decide_eq_true (show 6 ≤ ppos w c by omega), Bool.true_and, hz _ (by omega)]
      have e1 : (ppos w c - 6) % 6 = X := by omega
      have e2 : (ppos w c - 6) / 6 = Y - 1 := by omega
      have e3 : pon w h (ppos w c - 6) = true := pon_iff.mpr ⟨by omega, by omega⟩
      have e4 : pix w (ppos w c - 6) = c - w := by
        unfold pix; rw [e1, e2]
        obtain ⟨Z, rfl⟩ : ∃ Z, Y = Z + 1 := ⟨Y - 1, by omega⟩
        rw [Nat.mul_succ] at hcd
        show w * (Z + 1 - 1) + X = c - w
        rw [Nat.add_sub_cancel]; omega
      rw [e3, e4]; rfl
    · rw [if_neg h0, decide_eq_false (show ¬ 6 ≤ ppos w c by omega)]; rfl
  · unfold nb1 nbr
    rw [if_neg (by decide), if_neg (by decide), if_neg (by decide), hY]
    by_cases h0 : Y < h - 1
    · rw [if_pos h0, hz _ (by omega)]
      have e1 : (6 + ppos w c) % 6 = X := by omega
      have e2 : (6 + ppos w c) / 6 = Y + 1 := by omega
      have e3 : pon w h (6 + ppos w c) = true := pon_iff.mpr ⟨by omega, by omega⟩
      have e4 : pix w (6 + ppos w c) = c + w := by
        unfold pix; rw [e1, e2, Nat.mul_succ]; omega
      rw [e3, e4]; rfl
    · rw [if_neg h0]
      by_cases h1 : 6 + ppos w c < 32
      · rw [hz _ h1]
        have e3 : pon w h (6 + ppos w c) = false := by
          cases hq : pon w h (6 + ppos w c)
          · rfl
          · have := (pon_iff.mp hq).2; omega
        rw [e3]; rfl
      · rw [b_big (by omega)]
theorem b4 (l r u d : Bool) : (((l || r) || (u || d)) = decide (1 ≤ bN l + bN r + bN u + bN d)) ∧ ((((l && r) || (u && d)) || ((l || r) && (u || d))) = decide (2 ≤ bN l + bN r + bN u + bN d)) ∧ ((((l && r) && (u || d)) || ((l || r) && (u && d))) = decide (3 ≤ bN l + bN r + bN u + bN d)) ∧ (((l && r) && (u && d)) = decide (4 ≤ bN l + bN r + bN u + bN d)) := by
  cases l <;> cases r <;> cases u <;> cases d <;> decide
/-- withNeighbours: at least q neighbours in the set -/
theorem wN_bit {w h : Nat} (g : gok w h) {P : Nat → Bool} {z : Int32} (hz : ∀ p, p < 32 → bt z p = (pon w h p && P (pix w p))) {c : Nat} (hc : c < w * h) {q : Nat} (h1 : 1 ≤ q) (h4 : q ≤ 4) : bt (wN z q) (ppos w c) = decide (q ≤ nbs w h P c) := by
  obtain ⟨e0, e1, e2, e3⟩ := nb_bits g hz hc
  have hp : ppos w c < 32 := by have := ppos_lt g hc; omega
  have hB : bt (oB z) (ppos w c) = (nb1 w h P c 0 || nb1 w h P c 1) := by unfold oB; rw [b_or, b_shl1 z hp, b_us1, e0, e1]
  have hb : bt (bB z) (ppos w c) = (nb1 w h P c 0 && nb1 w h P c 1) := by unfold bB; rw [b_and, b_shl1 z hp, b_us1, e0, e1]
  have hA : bt (oA z) (ppos w c) = (nb1 w h P c 2 || nb1 w h P c 3) := by unfold oA; rw [b_or, b_shl6 z hp, b_us6, e2, e3]
  have ha : bt (bA z) (ppos w c) = (nb1 w h P c 2 && nb1 w h P c 3) := by unfold bA; rw [b_and, b_shl6 z hp, b_us6, e2, e3]
  obtain ⟨f1, f2, f3, f4⟩ := b4 (nb1 w h P c 0) (nb1 w h P c 1) (nb1 w h P c 2) (nb1 w h P c 3)
  rcases (show q = 1 ∨ q = 2 ∨ q = 3 ∨ q = 4 by omega) with rfl | rfl | rfl | rfl
  · show bt (oB z ||| oA z) _ = _
    rw [b_or, hB, hA]; exact f1
  · show bt ((bB z ||| bA z) ||| (oB z &&& oA z)) _ = _
    rw [b_or, b_or, b_and, hB, hA, hb, ha]; exact f2
  · show bt ((bB z &&& oA z) ||| (oB z &&& bA z)) _ = _
    rw [b_or, b_and, b_and, hB, hA, hb, ha]; exact f3
  · show bt (bB z &&& bA z) _ = _
    rw [b_and, hb, ha]; exact f4
