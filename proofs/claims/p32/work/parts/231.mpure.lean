/-! the reference: its arrays by Nat functions; pure facts for its walks -/
def kI (K : Nat → Nat) : Nat → Int32 := fun c => nI (K c)
def bz (b : Bool) : Int32 := if b then 1 else 0
def zB (T : Nat → Bool) : Nat → Int32 := fun c => bz (T c)
def bV : Option Nat → Int32
  | none => -1
  | some d => nI d
def bI (w h : Nat) : Nat → Int32 := fun k => bV (nbr w h (k / 4) (k % 4))
theorem bI_at (w h : Nat) {c i : Nat} (hi : i < 4) : bI w h (4 * c + i) = bV (nbr w h c i) := by
  unfold bI
  rw [show (4 * c + i) / 4 = c by omega, show (4 * c + i) % 4 = i by omega]
theorem bV_some {o : Option Nat} (h : ¬ bV o = -1) : ∃ d, o = some d := by
  cases o with
  | none => exact absurd rfl h
  | some d => exact ⟨d, rfl⟩
theorem nI_nm1 {d : Nat} (h : d < 2 ^ 31) : ¬ nI d = -1 := fun e => by
  have h1 := nI_pos h
  rw [e] at h1
  exact h1 (by decide)
theorem bV_none {o : Option Nat} (h : bV o = -1) (hb : ∀ d, o = some d → d < 2 ^ 31) : o = none := by
  cases o with
  | none => rfl
  | some d => exact absurd h (nI_nm1 (hb d rfl))
theorem bz_0 {b : Bool} (h : bz b = 0) : b = false := by cases b; rfl; exact absurd h (by decide)
theorem bz_1 {b : Bool} (h : ¬ bz b = 0) : b = true := by cases b; exact absurd rfl h; rfl
theorem bz_nar (b : Bool) : vp_nar .boolean (bz b) = bz b := z_nar b
theorem bz_ret (b : Bool) : narrow .boolean (.int (bz b)) = .int (bz b) := by cases b <;> decide +kernel
theorem kI_upd (K : Nat → Nat) (c v : Nat) : upd (kI K) c (nI v) = kI (fun d => if d = c then v else K d) := by
  funext d
  unfold upd kI
  by_cases h : d = c
  · simp [h]
  · simp [h]
theorem zB_upd (T : Nat → Bool) (c : Nat) (v : Bool) : upd (zB T) c (bz v) = zB (fun d => if d = c then v else T d) := by
  funext d
  unfold upd zB
  by_cases h : d = c
  · simp [h]
  · simp [h]
/-- arrays that agree on their places are the same cell -/
theorem z_ren {D : va_G} {cl : List vw_C} {ws : va_W} {H : Heap} (hP : va_P D cl ws H) (k : Nat) {a : Nat} {cA : ClassId} {n : Nat} {f : Nat → Int32} (hk : ws[k]? = some (a, .inl (cA, n, .inl f))) (g : Nat → Int32) (h : ∀ j, j < n → f j = g j) : va_P D cl (ws.set k (a, .inl (cA, n, .inl g))) H := by
  have hl : k < ws.length := (List.getElem?_eq_some_iff.mp hk).1
  intro i q hq
  by_cases e : k = i
  · subst e
    rw [List.getElem?_set_self hl] at hq
    cases hq
    have h1 : H[a]? = some (vp_cell cA (n, .inl f)) := hP k _ hk
    show H[a]? = some (vp_cell cA (n, .inl g))
    rw [h1]
    congr 1
    show arrV cA n (fun j => .int (f j)) = arrV cA n (fun j => .int (g j))
    unfold arrV
    congr 1
    apply Array.ext_getElem?
    intro i
    simp only [Array.getElem?_ofFn]
    split
    · rename_i hi
      rw [h i hi]
    · rfl
  · rw [List.getElem?_set_ne e] at hq
    exact hP i q hq
/-- sums over the sides -/
def ps (w h : Nat) (P : Nat → Bool) (c : Nat) : Nat → Nat
  | 0 => 0
  | i + 1 => ps w h P c i + bN (nb1 w h P c i)
theorem ps_4 (w h : Nat) (P : Nat → Bool) (c : Nat) : ps w h P c 4 = nbs w h P c := by
  show 0 + bN _ + bN _ + bN _ + bN _ = _
  rw [Nat.zero_add]; rfl
theorem nb1_none {w h : Nat} {P : Nat → Bool} {c i : Nat} (e : nbr w h c i = none) : nb1 w h P c i = false := by unfold nb1; rw [e]
theorem nb1_some {w h : Nat} {P : Nat → Bool} {c i d : Nat} (e : nbr w h c i = some d) : nb1 w h P c i = P d := by unfold nb1; rw [e]
theorem most_le {n : Nat → Nat} {nd : Nat} (hn : ∀ i, n i ≤ 4) (h4 : nd ≤ 4) : ∀ i, mostL n nd i ≤ 4
  | 0 => by show nd - 1 ≤ 4; omega
  | i + 1 => by rw [mostL]; split; exact hn _; exact most_le hn h4 i
theorem nxt_t {w h nd : Nat} {T : Nat → Bool} {K : Nat → Nat} {c : Nat} (h1 : T c = true) : nxt w h nd T K c = K c := by unfold nxt; rw [if_pos h1]
theorem nxt_win {w h nd : Nat} {T : Nat → Bool} {K : Nat → Nat} {c : Nat} (h1 : T c = false) (h2 : 0 < bestL (cnbs w h K c) nd 4) (h3 : aloneL (cnbs w h K c) nd 4 = true) : nxt w h nd T K c = bestL (cnbs w h K c) nd 4 := by
  have e : gain w h nd K c = bestL (cnbs w h K c) nd 4 := by unfold gain win; rw [if_pos ⟨h2, h3⟩]
  unfold nxt
  rw [h1, if_neg (by decide), e, if_neg (by omega)]
theorem nxt_no {w h nd : Nat} {T : Nat → Bool} {K : Nat → Nat} {c : Nat} (h1 : T c = false) (h2 : ¬ (0 < bestL (cnbs w h K c) nd 4 ∧ aloneL (cnbs w h K c) nd 4 = true)) : nxt w h nd T K c = K c := by
  have e : gain w h nd K c = 0 := by unfold gain win; rw [if_neg h2]
  unfold nxt
  rw [h1, if_neg (by decide), e, if_pos rfl]
theorem nxt_le {w h nd : Nat} {T : Nat → Bool} {K : Nat → Nat} (h1 : 1 ≤ nd) (hK : ∀ c, K c ≤ 4) (c : Nat) : nxt w h nd T K c ≤ 4 := by
  have := gain_le (w := w) (h := h) (K := K) h1 c
  have := hK c
  unfold nxt
  split
  · omega
  · split <;> omega
theorem wav_le {w h nd : Nat} {T : Nat → Bool} {K : Nat → Nat} (h1 : 1 ≤ nd) (hK : ∀ c, K c ≤ 4) (c : Nat) : wav w h nd T K c ≤ 4 := by
  unfold wav; split
  · exact nxt_le h1 hK c
  · exact hK c
theorem wavN_le {w h nd : Nat} {T : Nat → Bool} {K : Nat → Nat} (h1 : 1 ≤ nd) (hK : ∀ c, K c ≤ 4) : ∀ n c, wavN w h nd T K n c ≤ 4
  | 0, c => hK c
  | n + 1, c => wav_le h1 (wavN_le h1 hK n) c
theorem wav_fill (w h nd : Nat) (T : Nat → Bool) (K : Nat → Nat) (NX : Nat → Int32) : zfill (zfill (kI (nxt w h nd T K)) NX (w * h)) (kI K) (w * h) = kI (wav w h nd T K) := by
  funext c
  unfold zfill kI wav
  by_cases hc : c < w * h
  · simp [hc]
  · simp [hc]
def chgN (w h nd : Nat) (T : Nat → Bool) (K : Nat → Nat) (n : Nat) : Nat := ct (fun c => decide (nxt w h nd T K c ≠ K c)) n
def ccN (K : Nat → Nat) (j : Nat) (n : Nat) : Nat := ct (fun c => decide (K c = j)) n
theorem ite_dec {p : Prop} [Decidable p] (h : p) : (if (decide p) = true then 1 else 0 : Nat) = 1 := by rw [decide_eq_true h]; rfl
theorem ite_dec0 {p : Prop} [Decidable p] (h : ¬ p) : (if (decide p) = true then 1 else 0 : Nat) = 0 := by rw [decide_eq_false h]; rfl
theorem irem_nI {c w : Nat} (hc : c < 1000) (h0 : 0 < w) (hw : w < 1000) : nI c - nI c / nI w * nI w = nI (c % w) := pk_rem (by omega) h0 (by omega)
theorem idiv_nI {c w : Nat} (hc : c < 1000) (h0 : 0 < w) (hw : w < 1000) : nI c / nI w = nI (c / w) := pk_div (by omega) h0 (by omega)
abbrev pIn (v lo hi : Int32) : Prop := ¬ v < lo ∧ ¬ hi < v
theorem in_any (x : Int32) : pIn x 0 4 ↔ pAny x := by
  constructor
  · intro h
    rcases pk_ix x (n := 5) (by decide) with q | q | ⟨j, hj, rfl⟩
    · exact absurd q h.1
    · exfalso
      exact h.2 (Int32.lt_of_lt_of_le (show (4 : Int32) < nI 5 by decide +kernel) q)
    · rcases Nat.eq_zero_or_pos j with rfl | hp
      · exact Or.inl rfl
      · exact Or.inr ⟨nI_nlt (a := j) (b := 1) hp (by omega), nI_nlt (a := 4) (b := j) (by omega) (by decide)⟩
  · rintro (rfl | ⟨h1, h2⟩)
    · exact ⟨by decide, by decide⟩
    · exact ⟨fun q => h1 (Int32.lt_trans q (by decide)), h2⟩
theorem in_on {x : Int32} {w : Nat} (h1 : 1 ≤ w) (hw : w < 1000) : pIn x 0 (nI w - 1) ↔ (¬ x < 0 ∧ ¬ nI w ≤ x) := by
  have e : nI w - 1 = nI (w - 1) := pk_sub (a := w) (b := 1) h1
  rw [e]
  constructor
  · rintro ⟨a, b⟩
    refine ⟨a, fun q => b (Int32.lt_of_lt_of_le (nI_lt (a := w - 1) (b := w) (by omega) (by omega)) q)⟩
  · rintro ⟨a, b⟩
    refine ⟨a, fun q => b ?_⟩
    rcases pk_ix x (n := w) (by omega) with r | r | ⟨j, hj, rfl⟩
    · exact absurd r a
    · exact r
    · have := (nI_ltI (by omega) (by omega)).mp q
      omega
theorem on_of {x y : Int32} {w h : Nat} (hw : w < 1000) (hh : h < 1000) (q : pOn x y (nI w) (nI h)) : ∃ a b : Nat, a < w ∧ b < h ∧ x = nI a ∧ y = nI b := by
  obtain ⟨q1, q2, q3, q4⟩ := q
  rcases pk_ix x (n := w) (by omega) with r | r | ⟨a, ha, ea⟩
  · exact absurd r q1
  · exact absurd r q2
  · rcases pk_ix y (n := h) (by omega) with r | r | ⟨b, hb, eb⟩
    · exact absurd r q3
    · exact absurd r q4
    · exact ⟨a, b, ha, hb, ea, eb⟩
theorem any_of {x : Int32} (q : pAny x) : ∃ j : Nat, j < 5 ∧ x = nI j := by
  rcases q with rfl | q
  · exact ⟨0, by omega, rfl⟩
  · obtain ⟨n, n1, n2, e⟩ := z_col q
    exact ⟨n, by omega, e⟩
theorem cell_lt {w h x y : Nat} (hx : x < w) (hy : y < h) : w * y + x < w * h := by
  have : w * (y + 1) ≤ w * h := Nat.mul_le_mul_left w hy
  rw [Nat.mul_succ] at this
  omega
theorem on_mk {x y w h : Int32} (a : ¬ x < 0 ∧ ¬ w ≤ x) (b : ¬ y < 0 ∧ ¬ h ≤ y) : pOn x y w h := ⟨a.1, a.2, b.1, b.2⟩
theorem bv0_no {w h c : Nat} (n : c % w ≤ 0) : (-1 : Int32) = bV (nbr w h c 0) := by
  unfold nbr
  rw [if_pos rfl, if_neg (Nat.not_lt.mpr n)]; rfl
theorem bv0_yes {w h c : Nat} (_ : c < 1000) (n : 0 < c % w) : nI c - 1 = bV (nbr w h c 0) := by
  unfold nbr
  rw [if_pos rfl, if_pos n]
  exact pk_sub (a := c) (b := 1) (Nat.le_trans n (Nat.mod_le c w))
theorem bv1_no {w h c : Nat} (n : w - 1 ≤ c % w) : (-1 : Int32) = bV (nbr w h c 1) := by
  unfold nbr
  rw [if_neg (by decide), if_pos rfl, if_neg (Nat.not_lt.mpr n)]; rfl
theorem bv1_yes {w h c : Nat} (n : c % w < w - 1) : nI c + 1 = bV (nbr w h c 1) := by
  unfold nbr
  rw [if_neg (by decide), if_pos rfl, if_pos n]
  exact nI_1 c
theorem bv2_no {w h c : Nat} (n : c / w ≤ 0) : (-1 : Int32) = bV (nbr w h c 2) := by
  unfold nbr
  rw [if_neg (by decide), if_neg (by decide), if_pos rfl, if_neg (Nat.not_lt.mpr n)]; rfl
theorem bv2_yes {w h c : Nat} (_ : c < 1000) (n : 0 < c / w) : nI c - nI w = bV (nbr w h c 2) := by
  unfold nbr
  rw [if_neg (by decide), if_neg (by decide), if_pos rfl, if_pos n]
  refine pk_sub (a := c) (b := w) ?_
  rcases Nat.lt_or_ge c w with q | q
  · rw [Nat.div_eq_of_lt q] at n; exact absurd n (Nat.lt_irrefl 0)
  · exact q
theorem bv3_no {w h c : Nat} (n : h - 1 ≤ c / w) : (-1 : Int32) = bV (nbr w h c 3) := by
  unfold nbr
  rw [if_neg (by decide), if_neg (by decide), if_neg (by decide), if_neg (Nat.not_lt.mpr n)]; rfl
theorem bv3_yes {w h c : Nat} (n : c / w < h - 1) : nI c + nI w = bV (nbr w h c 3) := by
  unfold nbr
  rw [if_neg (by decide), if_neg (by decide), if_neg (by decide), if_pos n]
  exact nI_add c w
