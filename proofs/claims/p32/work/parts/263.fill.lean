/-! column by column: what is filled, what is counted -/
def gF (F : Nat → Nat → Int32) (x y : Nat) : Nat → Nat → Int32 := fun a b => if a < x ∨ (a = x ∧ b < y) then F a b else 0
theorem gF_0 (F : Nat → Nat → Int32) : (fun (_ _ : Nat) => (0 : Int32)) = gF F 0 0 := by
  funext a b
  rw [gF, if_neg (by omega)]
theorem gF_step (F : Nat → Nat → Int32) (x y : Nat) : gU (gF F x y) x y (F x y) = gF F x (y + 1) := by
  funext a b
  unfold gU gF
  by_cases ha : a = x
  · subst ha
    rw [if_pos rfl]
    unfold upd
    by_cases hb : b = y
    · subst hb
      rw [if_pos rfl, if_pos (by omega)]
    · rw [if_neg hb]
      show (if a < a ∨ (a = a ∧ b < y) then F a b else 0) = _
      by_cases q : b < y
      · rw [if_pos (by omega), if_pos (by omega)]
      · rw [if_neg (by omega), if_neg (by omega)]
  · rw [if_neg ha]
    by_cases q : a < x
    · rw [if_pos (by omega), if_pos (by omega)]
    · rw [if_neg (by omega), if_neg (by omega)]
theorem gF_at (F : Nat → Nat → Int32) (x y : Nat) : gF F x (y + 1) x y = F x y := by rw [gF, if_pos (by omega)]
theorem gF_row (F : Nat → Nat → Int32) (x h : Nat) {i j : Nat} (hj : j < h) : gF F x h i j = gF F (x + 1) 0 i j := by
  unfold gF
  by_cases q : i < x + 1
  · rw [if_pos (by omega), if_pos (by omega)]
  · rw [if_neg (by omega), if_neg (by omega)]
theorem gF_all (F : Nat → Nat → Int32) {w i j : Nat} (hi : i < w) : gF F w 0 i j = F i j := by rw [gF, if_pos (by omega)]
def c2 (p : Nat → Nat → Bool) (h : Nat) : Nat → Nat
  | 0 => 0
  | x + 1 => c2 p h x + ct (p x) h
theorem c2_le (p : Nat → Nat → Bool) (h : Nat) : ∀ x, c2 p h x ≤ x * h
  | 0 => Nat.zero_le _
  | x + 1 => by
    have ih := c2_le p h x
    have := ct_le (p x) h
    rw [c2, Nat.succ_mul]
    omega
theorem ct_add2 (p : Nat → Bool) (a : Nat) : ∀ n, ct p (n + 1) + a = (ct p n + a) + bN (p n) := fun n => by rw [ct_succ]; show ct p n + bN (p n) + a = _; omega
theorem c2_rows (q : Nat → Bool) (w : Nat) : ∀ (h x : Nat), x ≤ w → c2 (fun a b => q (w * b + a)) (h + 1) x = c2 (fun a b => q (w * b + a)) h x + ct (fun k => q (w * h + k)) x
  | h, 0, _ => rfl
  | h, x + 1, hx => by
    rw [c2, c2, c2_rows q w h x (by omega), ct_succ, ct_succ]
    omega
theorem c2_all (q : Nat → Bool) (w : Nat) : ∀ h, c2 (fun a b => q (w * b + a)) h w = ct q (w * h)
  | 0 => by
    have : ∀ x, c2 (fun a b => q (w * b + a)) 0 x = 0 := by
      intro x
      induction x with
      | zero => rfl
      | succ x ih => rw [c2, ih]; rfl
    rw [this]; rfl
  | h + 1 => by rw [c2_rows q w h w (Nat.le_refl _), c2_all q w h, Nat.mul_succ, ct_split]
/-- the count so far, before the place (x, y) -/
def cN (q : Nat → Bool) (w h x y : Nat) : Nat := c2 (fun a b => q (w * b + a)) h x + ct (fun b => q (w * b + x)) y
theorem cN_step (q : Nat → Bool) (w h x y : Nat) : nI (cN q w h x y) + nI (bN (q (w * y + x))) = nI (cN q w h x (y + 1)) := by
  rw [nI_add]
  unfold cN
  rw [ct_succ, ← Nat.add_assoc]
  rfl
theorem cN_row (q : Nat → Bool) (w h x : Nat) : cN q w h x h = cN q w h (x + 1) 0 := rfl
theorem cN_all (q : Nat → Bool) (w h : Nat) : cN q w h w 0 = ct q (w * h) := c2_all q w h
abbrev nxF (w h nd : Nat) (T : Nat → Bool) (K : Nat → Nat) : Nat → Nat → Int32 := fun a b => nI (nxt w h nd T K (w * b + a))
abbrev chQ (w h nd : Nat) (T : Nat → Bool) (K : Nat → Nat) : Nat → Bool := fun c => decide (nxt w h nd T K c ≠ K c)
theorem gF_wav {w h nd : Nat} {T : Nat → Bool} {K : Nat → Nat} {i j : Nat} (hi : i < w) (hj : j < h) : gF (nxF w h nd T K) w 0 i j = gM w (wav w h nd T K) i j := by
  rw [gF_all _ hi]
  unfold gM wav
  rw [if_pos (cell_lt hi hj)]
