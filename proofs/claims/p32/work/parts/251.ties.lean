/-! waves, paint, stubbornness, a new map: the same relation again -/
section TJ
variable {w h nd : Nat} {T : Nat → Bool} {K : Nat → Nat} {S : Nat → Int32} {bd sb : Int32}
theorem t_last (g : gok w h) (hB : RB w h bd) (hT : RT w h T sb) (hS : RS w h K S) (h1 : 1 ≤ nd) (h4 : nd ≤ 4) : ∀ n, pBC (pLast bd sb nd S n) = nI (lchg w h nd T K n)
  | 0 => by show pBC 0 = nI 0; decide +kernel
  | n + 1 => ch_count g hB hT (it_RS g hB hT hS h1 h4 n) h1 h4
theorem chg_zero {w h nd : Nat} {T : Nat → Bool} {K : Nat → Nat} : chg w h nd T K = 0 ↔ ∀ c, c < w * h → nxt w h nd T K c = K c := by
  unfold chg
  constructor
  · intro q c hc
    have := ct_zero q c hc
    exact Decidable.not_not.mp (of_decide_eq_false this)
  · intro q
    rw [ct_cong (q := fun _ => false) (fun c hc => decide_eq_false (fun z => z (q c hc))), ct_none]
theorem t_zero (g : gok w h) (hB : RB w h bd) (hT : RT w h T sb) (hS : RS w h K S) (h1 : 1 ≤ nd) (h4 : nd ≤ 4) (k : Nat) : pC0 (pIt bd sb nd S k) bd sb nd = 0 ↔ chg w h nd T (wavN w h nd T K k) = 0 := by
  rw [ch_zero g hB hT (it_RS g hB hT hS h1 h4 k) h1 h4, chg_zero]
theorem nI5 {i j : Nat} (hi : i < 5) (hj : j < 5) : nI i = nI j ↔ i = j := nI_eq (by omega) (by omega)
theorem t_dye (hS : RS w h K S) {z : Int32} {P : Nat → Bool} (hz : mk w h z P) {j : Nat} (hj : j < 5) : RS w h (fun d => if P d = true then j else K d) (pDye S z (nI j)) := by
  intro i hi p hp
  have e : pDye S z (nI j) i = if nI i = nI j then S i ||| z else S i &&& (z ^^^ (-1)) := zfill_in hi
  rw [e]
  have hSi := hS i hi p hp
  have hzp := hz p hp
  by_cases q : i = j
  · rw [if_pos (by rw [q]), b_or, hSi, hzp]
    cases ho : pon w h p with
    | false => rfl
    | true =>
      show (decide (K (pix w p) = i) || P (pix w p)) = decide ((if P (pix w p) = true then j else K (pix w p)) = i)
      cases hP : P (pix w p) with
      | true => rw [if_pos rfl, decide_eq_true q.symm, Bool.or_true]
      | false => rw [if_neg (by decide), Bool.or_false]
  · rw [if_neg (fun z => q ((nI5 hi hj).mp z)), b_and, b_not z hp, hSi, hzp]
    cases ho : pon w h p with
    | false => rfl
    | true =>
      show (decide (K (pix w p) = i) && !P (pix w p)) = decide ((if P (pix w p) = true then j else K (pix w p)) = i)
      cases hP : P (pix w p) with
      | true => rw [if_pos rfl, decide_eq_false (show ¬ j = i from fun z => q z.symm)]; exact Bool.and_false _
      | false => rw [if_neg (by decide)]; exact Bool.and_true _
theorem t_dye1 (hS : RS w h K S) {z : Int32} {c : Nat} (hz : mk w h z (fun d => decide (d = c))) {j : Nat} (hj : j < 5) : RS w h (fun d => if d = c then j else K d) (pDye S z (nI j)) := by
  have e : (fun d => if d = c then j else K d) = (fun d => if decide (d = c) = true then j else K d) := by
    funext d
    by_cases q : d = c
    · rw [if_pos q, if_pos (decide_eq_true q)]
    · rw [if_neg q, if_neg (by rw [decide_eq_false q]; decide)]
  rw [e]
  exact t_dye hS hz hj
theorem mk_none : mk w h 0 (fun _ => false) := fun p _ => by rw [b_0, Bool.and_false]
theorem t_turn (hT : RT w h T sb) {z : Int32} {c : Nat} (hz : mk w h z (fun d => decide (d = c))) : RT w h (fun d => if d = c then !T c else T d) (sb ^^^ z) := by
  intro p hp
  rw [b_xor, hT p hp, hz p hp]
  cases ho : pon w h p with
  | false => rfl
  | true =>
    show (T (pix w p) ^^ decide (pix w p = c)) = if pix w p = c then !T c else T (pix w p)
    by_cases q : pix w p = c
    · rw [if_pos q, decide_eq_true q, q, Bool.xor_true]
    · rw [if_neg q, decide_eq_false q, Bool.xor_false]
theorem t_isT (g : gok w h) (hT : RT w h T sb) {z : Int32} {c : Nat} (hc : c < w * h) (hz : mk w h z (fun d => decide (d = c))) : (if sb &&& z = 0 then (0 : Int32) else 1) = bz (T c) := by
  have e := and_zero (x := sb) (P := T) g hT hz hc
  cases ht : T c with
  | true => rw [if_neg (fun q => e.mp q ht)]; rfl
  | false => rw [if_pos (e.mpr (by rw [ht]; decide))]; rfl
theorem row_bit {b : Int32} {y : Nat} (hy : y < 5) : ∀ x, x ≤ 5 → ∀ p, p < 32 → bt (pRow y b x) p = (bt b p || (decide (p / 6 = y) && decide (p % 6 < x)))
  | 0, _, p, _ => by show bt b p = _; rw [decide_eq_false (Nat.not_lt_zero _), Bool.and_false, Bool.or_false]
  | x + 1, hx, p, hp => by
    rw [pRow, b_or, row_bit hy x (by omega) p hp, b_cell (by omega) hp, Bool.or_assoc]
    congr 1
    by_cases q : p = x + 6 * y
    · rw [decide_eq_true q, Bool.or_true, decide_eq_true (show p / 6 = y by omega), decide_eq_true (show p % 6 < x + 1 by omega)]; rfl
    · rw [decide_eq_false q, Bool.or_false]
      by_cases z : p / 6 = y
      · rw [decide_eq_true z, Bool.true_and, Bool.true_and]
        exact decide_eq_decide.mpr (by omega)
      · rw [decide_eq_false z]; rfl
theorem brd_bit {w : Nat} (hw : w ≤ 5) : ∀ y, y ≤ 5 → ∀ p, p < 32 → bt (pBrd w y) p = pon w y p
  | 0, _, p, _ => by
    show bt 0 p = _
    unfold pon
    rw [b_0, decide_eq_false (Nat.not_lt_zero _), Bool.and_false]
  | y + 1, hy, p, hp => by
    rw [pBrd, row_bit (by omega) w hw p hp, brd_bit hw y (by omega) p hp]
    unfold pon
    by_cases a : p % 6 < w
    · rw [decide_eq_true a, Bool.true_and, Bool.true_and, Bool.and_true, ← Bool.decide_or]
      exact decide_eq_decide.mpr (by omega)
    · rw [decide_eq_false a]; simp
theorem t_board (g : gok w h) : RB w h (pBrd w h) := fun p hp => brd_bit g.2.1 h g.2.2.2 p hp
theorem t_clear (g : gok w h) (G : Nat → Int32) : RS w h (fun _ => 0) (zfill (pClrF (pBrd w h)) G 5) := by
  intro j hj p hp
  rw [zfill_in hj]
  unfold pClrF
  by_cases q : j = 0
  · subst q
    show bt (if nI 0 = nI 0 then pBrd w h else 0) p = (pon w h p && decide (0 = 0))
    rw [if_pos rfl, t_board g p hp, decide_eq_true rfl, Bool.and_true]
  · show bt (if nI j = nI 0 then pBrd w h else 0) p = (pon w h p && decide (0 = j))
    rw [if_neg (fun z => q ((nI5 hj (by omega)).mp z)), b_0, decide_eq_false (fun z => q z.symm), Bool.and_false]
theorem t_calm : RT w h (fun _ => false) 0 := fun p _ => by rw [b_0, Bool.and_false]
theorem t_aft (g : gok w h) (hB : RB w h bd) (hT : RT w h T sb) (h1 : 1 ≤ nd) (h4 : nd ≤ 4) {z : Int32} {j : Nat} (hj : j < 5) (hS : RS w h K (pDye S z (nI j))) (n : Nat) : pAft S bd sb nd z (nI j) n = nI (ccN (wavN w h nd T K n) j (w * h)) :=
  t_count g (it_RS g hB hT hS h1 h4 n) hj
/-- a map of one colour stays as it is -/
theorem one_still (g : gok w h) {j : Nat} (h1 : 1 ≤ nd) (hall : ∀ c, c < w * h → K c = j) {c : Nat} (hc : c < w * h) : nxt w h nd T K c = K c := by
  unfold nxt
  by_cases ht : T c = true
  · rw [if_pos ht]
  · rw [if_neg ht]
    by_cases q : gain w h nd K c = 0
    · rw [if_pos q]
    · rw [if_neg q]
      have h5 := gain_le (w := w) (h := h) (K := K) h1 c
      obtain ⟨a, _⟩ := (win_iff (cnbs w h K c) h1 (j := gain w h nd K c) ⟨by omega, h5⟩).mp rfl
      rw [hall c hc]
      rcases Nat.decEq (gain w h nd K c) j with z | z
      · exfalso
        have e : ∀ s, nb1 w h (fun d => decide (K d = gain w h nd K c)) c s = false := by
          intro s
          cases en : nbr w h c s with
          | none => exact nb1_none en
          | some d => rw [nb1_some en]; exact decide_eq_false (fun e => z (by rw [← e]; exact hall d (nbr_lt hc en)))
        have e2 : cnbs w h K c (gain w h nd K c) = 0 := by
          unfold cnbs nbs
          rw [e, e, e, e]; rfl
        omega
      · exact z
theorem wavN_add (a b : Nat) : wavN w h nd T (wavN w h nd T K a) b = wavN w h nd T K (a + b) := by
  induction b with
  | zero => rfl
  | succ b ih =>
    show wav w h nd T (wavN w h nd T (wavN w h nd T K a) b) = wav w h nd T (wavN w h nd T K (a + b))
    rw [ih]
theorem wavN_still (hz : ∀ c, c < w * h → nxt w h nd T K c = K c) : ∀ n, wavN w h nd T K n = K
  | 0 => rfl
  | n + 1 => by show wav w h nd T _ = K; rw [wavN_still hz n, wav_same hz]
theorem all_j (g : gok w h) {j : Nat} (h0 : j ≠ 0) : allN K (w * h) = j ↔ ∀ c, c < w * h → K c = j := by
  have g6 := wh_pos g
  unfold allN
  constructor
  · intro q
    by_cases e : ccN K (K 0) (w * h) = w * h
    · rw [if_pos e] at q
      rw [← q]; exact ccN_full.mp e
    · rw [if_neg e] at q; exact absurd q.symm h0
  · intro q
    have e0 := q 0 (by omega)
    rw [e0, if_pos (ccN_full.mpr q)]
theorem t_winF (g : gok w h) (h1 : 1 ≤ nd) {j : Nat} (h0 : j ≠ 0) : ∀ n (K : Nat → Nat), winF w h nd T j n K = true ↔ ∀ c, c < w * h → wavN w h nd T K n c = j
  | 0, K => by rw [winF, decide_eq_true_iff]; exact all_j g h0
  | n + 1, K => by
    rw [winF]
    by_cases a : allN K (w * h) = j
    · rw [if_pos a]
      have hall := (all_j g h0).mp a
      rw [wavN_still (fun c hc => one_still g h1 hall hc) (n + 1)]
      exact ⟨fun _ => hall, fun _ => rfl⟩
    · rw [if_neg a]
      by_cases b : chg w h nd T K = 0
      · rw [if_pos b, wavN_still (chg_zero.mp b) (n + 1)]
        exact ⟨(fun q => by cases q), (fun q => absurd ((all_j g h0).mpr q) a)⟩
      · rw [if_neg b, t_winF g h1 h0 n (wav w h nd T K)]
        have e : wavN w h nd T (wav w h nd T K) n = wavN w h nd T K (n + 1) := by
          have := wavN_add (w := w) (h := h) (nd := nd) (T := T) (K := K) 1 n
          rw [Nat.add_comm 1 n] at this
          exact this
        rw [e]
theorem t_win (g : gok w h) (hB : RB w h bd) (hT : RT w h T sb) (h1 : 1 ≤ nd) (h4 : nd ≤ 4) {z : Int32} {j : Nat} (h0 : j ≠ 0) (hj : j < 5) (hS : RS w h K (pDye S z (nI j))) : pWin S bd sb nd z (nI j) ↔ winF w h nd T j 8 K = true := by
  rw [t_winF g h1 h0]
  exact cw_bd g hB (it_RS g hB hT hS h1 h4 8) hj
end TJ
