/-! what isSame counts by hand: the sizes of the regions, stubborn cells, borders, the leader, the winner -/
def lq (K L : Nat → Nat) (k : Nat) : Nat → Bool := fun c => decide (K c ≠ 0) && decide (L c = k)
def sX (K L : Nat → Nat) (w h x y : Nat) : Nat → Int32 := fun k => nI (cN (lq K L k) w h x y)
theorem cN_00 (q : Nat → Bool) (w h : Nat) : cN q w h 0 0 = 0 := rfl
theorem cN_up (q : Nat → Bool) (w h x y : Nat) : cN q w h x (y + 1) = cN q w h x y + bN (q (w * y + x)) := by
  unfold cN
  rw [ct_succ, ← Nat.add_assoc]
  rfl
theorem c2_mono (p : Nat → Nat → Bool) (h : Nat) : ∀ {a b : Nat}, a ≤ b → c2 p h a ≤ c2 p h b
  | a, 0, hab => by rw [Nat.le_zero.mp hab]; exact Nat.le_refl _
  | a, b + 1, hab => by
    rcases Nat.lt_succ_iff_lt_or_eq.mp (Nat.lt_succ_of_le hab) with q | rfl
    · have := c2_mono p h (a := a) (b := b) (by omega)
      rw [c2]
      omega
    · exact Nat.le_refl _
theorem cN_le (q : Nat → Bool) {w h x y : Nat} (hx : x < w) (hy : y ≤ h) : cN q w h x y ≤ w * h := by
  have h1 : cN q w h x y ≤ c2 (fun a b => q (w * b + a)) h (x + 1) := by
    unfold cN
    rw [c2]
    have : ct (fun b => q (w * b + x)) y ≤ ct (fun b => q (w * b + x)) h := by
      obtain ⟨d, rfl⟩ : ∃ d, h = y + d := ⟨h - y, by omega⟩
      rw [ct_split]
      omega
    omega
  have h2 := c2_mono (fun a b => q (w * b + a)) h (a := x + 1) (b := w) hx
  have h3 := c2_le (fun a b => q (w * b + a)) h w
  omega
theorem cN_lew (q : Nat → Bool) (w h : Nat) : cN q w h w 0 ≤ w * h := by
  rw [cN_all]; exact ct_le _ _
theorem sX_0 (K L : Nat → Nat) (w h : Nat) : (fun _ => (0 : Int32)) = sX K L w h 0 0 := rfl
theorem sX_add {K L : Nat → Nat} {w h x y : Nat} (h0 : K (w * y + x) ≠ 0) : upd (sX K L w h x y) (L (w * y + x)) (nI (cN (lq K L (L (w * y + x))) w h x y + 1)) = sX K L w h x (y + 1) := by
  funext k
  unfold upd sX
  rw [cN_up]
  by_cases q : k = L (w * y + x)
  · subst q
    rw [if_pos rfl]
    have e : lq K L (L (w * y + x)) (w * y + x) = true := by unfold lq; rw [decide_eq_true h0, decide_eq_true rfl]; rfl
    rw [e]
    rfl
  · rw [if_neg q]
    have e : lq K L k (w * y + x) = false := by unfold lq; rw [decide_eq_false (show ¬ L (w * y + x) = k from fun z => q z.symm), Bool.and_false]
    rw [e]
    rfl
theorem sX_bare {K L : Nat → Nat} {w h x y : Nat} (h0 : K (w * y + x) = 0) : sX K L w h x y = sX K L w h x (y + 1) := by
  funext k
  unfold sX
  rw [cN_up]
  have e : lq K L k (w * y + x) = false := by unfold lq; rw [decide_eq_false (fun z => z h0), Bool.false_and]
  rw [e]
  rfl
theorem lV_lt {K L : Nat → Nat} {c : Nat} (hl : L c < 1000) (q : lV K L c < 0) : K c = 0 := by
  by_cases z : K c = 0
  · exact z
  · rw [lV_n z] at q
    exact absurd q (nI_pos (by omega))
theorem lV_nlt {K L : Nat → Nat} {c : Nat} (q : ¬ lV K L c < 0) : K c ≠ 0 := fun z => q (by rw [← lV_0 z]; decide)
theorem lab_eq {w h : Nat} {K L : Nat → Nat} (hR : RLb w h K L) {c d : Nat} (hc : c < w * h) (h0 : K c ≠ 0) (hd : d < w * h) : (K d ≠ 0 ∧ L d = L c) ↔ cmp w h K c d = true := by
  obtain ⟨a1, a2, a3⟩ := hR c hc h0
  have hl : L c < w * h := by omega
  constructor
  · rintro ⟨k, e⟩
    obtain ⟨b1, b2, b3⟩ := hR d hd k
    rw [e] at b2
    exact cmp_trans (cmp_symm hl a2) b2
  · intro e
    have k : K d ≠ 0 := by rw [cmp_col e]; exact h0
    obtain ⟨b1, b2, b3⟩ := hR d hd k
    exact ⟨k, first_one b1 a1 (by omega) hl b2 (cmp_trans a2 e)⟩
theorem sz_rsz {w h : Nat} {K L : Nat → Nat} (hR : RLb w h K L) {c : Nat} (hc : c < w * h) (h0 : K c ≠ 0) : ct (lq K L (L c)) (w * h) = rsz w h K c := by
  unfold rsz
  refine ct_cong (fun d hd => ?_)
  have h1 := lab_eq hR hc h0 hd
  unfold lq
  cases e : cmp w h K c d with
  | true =>
    obtain ⟨k1, k2⟩ := h1.mpr e
    rw [decide_eq_true k1, decide_eq_true k2]; rfl
  | false =>
    cases e2 : decide (K d ≠ 0) && decide (L d = L c) with
    | false => rfl
    | true =>
      rw [Bool.and_eq_true, decide_eq_true_iff, decide_eq_true_iff] at e2
      rw [h1.mp e2] at e
      cases e
theorem sX_size {w h : Nat} {K L : Nat → Nat} (hR : RLb w h K L) {c : Nat} (hc : c < w * h) (h0 : K c ≠ 0) : sX K L w h w 0 (L c) = nI (rsz w h K c) := by
  unfold sX
  rw [cN_all, sz_rsz hR hc h0]
theorem lab_first {w h : Nat} {K L : Nat → Nat} (hR : RLb w h K L) {c : Nat} (hc : c < w * h) (h0 : K c ≠ 0) : L c = c ↔ isF w h K c = true := by
  obtain ⟨a1, a2, a3⟩ := hR c hc h0
  constructor
  · intro e; rw [← e]; exact a1
  · intro e; exact first_one a1 e (by omega) hc a2 (cmp_self c)
/-- a neighbour's colour over Nat -/
def atN (w h : Nat) (K : Nat → Nat) (x y : Int32) : Nat := if x < 0 ∨ y < 0 ∨ nI w ≤ x ∨ nI h ≤ y then 0 else K (w * y.toNatClampNeg + x.toNatClampNeg)
theorem atI_nat (w h : Nat) (K : Nat → Nat) (x y : Int32) : atI w h K x y = nI (atN w h K x y) := by
  unfold atI atN
  split <;> rfl
theorem atN_le {w h : Nat} {K : Nat → Nat} (hK4 : ∀ c, K c ≤ 4) (x y : Int32) : atN w h K x y ≤ 4 := by
  unfold atN
  split
  · omega
  · exact hK4 _
theorem bo_at {w h : Nat} {K : Nat → Nat} {c s d : Nat} {p : Prop} {x y : Int32} (hK4 : ∀ c, K c ≤ 4) (hv : (p ∧ nbr w h c s = some d ∧ atI w h K x y = nI (K d)) ∨ (nbr w h c s = none ∧ atI w h K x y = 0)) : bo1 w h K c s = decide (K c ≠ 0 ∧ atN w h K x y ≠ 0 ∧ K c ≠ atN w h K x y) := by
  have h4 := atN_le (w := w) (h := h) hK4 x y
  rcases hv with ⟨_, h1, h2⟩ | ⟨h1, h2⟩
  · rw [atI_nat] at h2
    have h5 := hK4 d
    rw [(nI_eq (by omega) (by omega)).mp h2, bo1_some h1]
  · rw [atI_nat] at h2
    have e : atN w h K x y = 0 := (nI_eq (a := atN w h K x y) (b := 0) (by omega) (by omega)).mp h2
    rw [bo1_none h1, e]
    exact (decide_eq_false (fun z => z.2.1 rfl)).symm
abbrev bQ (w h : Nat) (K : Nat → Nat) (s : Nat) : Nat → Bool := fun c => bo1 w h K c s
theorem bo_yes {w h : Nat} {K : Nat → Nat} {x y s d : Nat} {p : Prop} {xi yi : Int32} (z : Nat) (hK4 : ∀ c, K c ≤ 4) (hv : (p ∧ nbr w h (w * y + x) s = some d ∧ atI w h K xi yi = nI (K d)) ∨ (nbr w h (w * y + x) s = none ∧ atI w h K xi yi = 0)) (q : K (w * y + x) ≠ 0 ∧ atN w h K xi yi ≠ 0 ∧ K (w * y + x) ≠ atN w h K xi yi) : cN (bQ w h K s) w h x y + z + 1 = cN (bQ w h K s) w h x (y + 1) + z := by
  rw [cN_up]
  have e : bQ w h K s (w * y + x) = true := by
    show bo1 w h K (w * y + x) s = true
    rw [bo_at hK4 hv, decide_eq_true q]
  rw [e]
  show _ = _ + 1 + z
  omega
theorem bo_no {w h : Nat} {K : Nat → Nat} {x y s d : Nat} {p : Prop} {xi yi : Int32} (hK4 : ∀ c, K c ≤ 4) (hv : (p ∧ nbr w h (w * y + x) s = some d ∧ atI w h K xi yi = nI (K d)) ∨ (nbr w h (w * y + x) s = none ∧ atI w h K xi yi = 0)) (q : ¬ (K (w * y + x) ≠ 0 ∧ atN w h K xi yi ≠ 0 ∧ K (w * y + x) ≠ atN w h K xi yi)) : cN (bQ w h K s) w h x y = cN (bQ w h K s) w h x (y + 1) := by
  rw [cN_up]
  have e : bQ w h K s (w * y + x) = false := by
    show bo1 w h K (w * y + x) s = false
    rw [bo_at hK4 hv, decide_eq_false q]
  rw [e]
  rfl
theorem bo_tot (w h : Nat) (K : Nat → Nat) : cN (bQ w h K 1) w h w 0 + cN (bQ w h K 3) w h w 0 = boN w h K (w * h) := by rw [cN_all, cN_all, boN_ct]
/-- is the map still -/
theorem st_f {w h nd : Nat} {T : Nat → Bool} {K : Nat → Nat} {x y : Nat} (q : bz (decide (cN (chQ w h nd T K) w h x y = 0)) = 0) : 0 = bz (decide (cN (chQ w h nd T K) w h x (y + 1) = 0)) := by
  have h1 := of_decide_eq_false (bz_0 q)
  rw [cN_up, decide_eq_false (by omega)]; rfl
theorem st_n {w h nd : Nat} {T : Nat → Bool} {K : Nat → Nat} {x y : Nat} (q : nxt w h nd T K (w * y + x) ≠ K (w * y + x)) : 0 = bz (decide (cN (chQ w h nd T K) w h x (y + 1) = 0)) := by
  have e : chQ w h nd T K (w * y + x) = true := decide_eq_true q
  rw [cN_up, e, decide_eq_false (by show ¬ (_ + 1 = 0); omega)]; rfl
theorem st_y {w h nd : Nat} {T : Nat → Bool} {K : Nat → Nat} {x y : Nat} (q : ¬ bz (decide (cN (chQ w h nd T K) w h x y = 0)) = 0) (e : nxt w h nd T K (w * y + x) = K (w * y + x)) : 1 = bz (decide (cN (chQ w h nd T K) w h x (y + 1) = 0)) := by
  have h1 := of_decide_eq_true (bz_1 q)
  have e : chQ w h nd T K (w * y + x) = false := decide_eq_false (fun z => z e)
  rw [cN_up, e, h1]; rfl
theorem st_tot (w h nd : Nat) (T : Nat → Bool) (K : Nat → Nat) : decide (cN (chQ w h nd T K) w h w 0 = 0) = stN w h nd T K (w * h) := by
  rw [cN_all]
  cases e : stN w h nd T K (w * h) with
  | true =>
    refine decide_eq_true ?_
    have h1 := (stN_iff (w * h)).mp e
    exact (chg_zero (w := w) (h := h)).mpr h1
  | false =>
    refine decide_eq_false (fun z => ?_)
    have h1 := (stN_iff (w * h)).mpr ((chg_zero (w := w) (h := h)).mp z)
    rw [h1] at e
    cases e
/-- the leader, from the greatest colour down -/
def ldI (f : Nat → Nat) (m ld : Nat) : Prop := (ld = 0 ∧ ∀ j, m < j → j ≤ 4 → f j = 0) ∨ (m < ld ∧ ld ≤ 4 ∧ 0 < f ld ∧ ∀ j, m < j → j ≤ 4 → f j ≤ f ld ∧ (f j = f ld → ld ≤ j))
theorem ld_0 (f : Nat → Nat) : ldI f 4 0 := Or.inl ⟨rfl, fun j a b => by omega⟩
theorem ld_take {f : Nat → Nat} {m ld : Nat} (hm : 1 ≤ m ∧ m ≤ 4) (I : ldI f m ld) (h0 : 0 < f m) (q : f ld ≤ f m ∨ ld = 0) : ldI f (m - 1) m := by
  refine Or.inr ⟨by omega, hm.2, h0, fun j a b => ?_⟩
  rcases Nat.lt_or_ge m j with z | z
  · rcases I with ⟨_, i2⟩ | ⟨i1, i2, i3, i4⟩
    · have := i2 j z b
      exact ⟨by omega, fun e => by omega⟩
    · rcases q with q | q
      · have := (i4 j z b).1
        exact ⟨by omega, fun _ => by omega⟩
      · omega
  · have e : j = m := by omega
    subst e
    exact ⟨Nat.le_refl _, fun _ => Nat.le_refl _⟩
theorem ld_keep {f : Nat → Nat} {m ld : Nat} (hm : 1 ≤ m ∧ m ≤ 4) (I : ldI f m ld) (q : f m = 0 ∨ (f m < f ld ∧ ld ≠ 0)) : ldI f (m - 1) ld := by
  rcases I with ⟨i1, i2⟩ | ⟨i1, i2, i3, i4⟩
  · refine Or.inl ⟨i1, fun j a b => ?_⟩
    rcases Nat.lt_or_ge m j with z | z
    · exact i2 j z b
    · have e : j = m := by omega
      subst e
      rcases q with q | q
      · exact q
      · exact absurd i1 q.2
  · refine Or.inr ⟨by omega, i2, i3, fun j a b => ?_⟩
    rcases Nat.lt_or_ge m j with z | z
    · exact i4 j z b
    · have e : j = m := by omega
      subst e
      rcases q with q | q
      · exact ⟨by omega, fun e => by omega⟩
      · exact ⟨by omega, fun e => by omega⟩
theorem best_first {n : Nat → Nat} {nd : Nat} : ∀ i j, 1 ≤ j → j < bestL n nd i → n j < mostL n nd i
  | 0, j, a, b => by rw [bestL] at b; omega
  | i + 1, j, a, b => by
    rw [bestL] at b
    rw [mostL]
    by_cases c : mostL n nd i < n (i + 1)
    · rw [if_pos c] at b
      rw [if_pos c]
      have hle : ∀ i, (∀ k, 1 ≤ k → k ≤ i → n k ≤ mostL n nd i) := fun i => by
        induction i with
        | zero => intro k a b; omega
        | succ i ih =>
          intro k a b
          rw [mostL]
          rcases Nat.lt_succ_iff_lt_or_eq.mp (Nat.lt_succ_of_le b) with z | rfl
          · have := ih k a (by omega)
            split <;> omega
          · split <;> omega
      have := hle i j a (by omega)
      omega
    · rw [if_neg c] at b
      rw [if_neg c]
      exact best_first i j a b
theorem ld_end {f : Nat → Nat} {ld : Nat} (I : ldI f 0 ld) : ld = bestL f 1 4 := by
  obtain ⟨a1, a2, a3, a4, a5⟩ := best_inv f (nd := 1) (Nat.le_refl 1) 4
  have a6 := best_first (n := f) (nd := 1) 4
  rcases Nat.eq_zero_or_pos (bestL f 1 4) with q | q
  · have e := a4 q
    rcases I with ⟨i1, _⟩ | ⟨i1, i2, i3, i4⟩
    · omega
    · have := a1 ld i1 i2
      omega
  · obtain ⟨b1, b2, _⟩ := a5 q
    rcases I with ⟨i1, i2⟩ | ⟨i1, i2, i3, i4⟩
    · have := i2 _ q a3
      omega
    · have c1 := a1 ld i1 i2
      have c2 := i4 _ q a3
      rcases Nat.lt_or_ge ld (bestL f 1 4) with z | z
      · have := a6 ld i1 z
        omega
      · have := c2.2 (by omega)
        omega
/-- the winner -/
def wnI (f : Nat → Nat) (n m wn : Nat) : Prop := (wn = 0 ∧ ∀ j, m < j → j ≤ 4 → f j ≠ n) ∨ (m < wn ∧ wn ≤ 4 ∧ f wn = n)
theorem wn_0 (f : Nat → Nat) (n : Nat) : wnI f n 4 0 := Or.inl ⟨rfl, fun j a b => by omega⟩
theorem wn_take {f : Nat → Nat} {n m wn : Nat} (hm : 1 ≤ m ∧ m ≤ 4) (e : f m = n) : wnI f n (m - 1) m ∧ wn = wn := ⟨Or.inr ⟨by omega, hm.2, e⟩, rfl⟩
theorem wn_keep {f : Nat → Nat} {n m wn : Nat} (hm : 1 ≤ m ∧ m ≤ 4) (I : wnI f n m wn) (e : f m ≠ n) : wnI f n (m - 1) wn := by
  rcases I with ⟨i1, i2⟩ | ⟨i1, i2, i3⟩
  · refine Or.inl ⟨i1, fun j a b => ?_⟩
    rcases Nat.lt_or_ge m j with z | z
    · exact i2 j z b
    · have e2 : j = m := by omega
      subst e2
      exact e
  · exact Or.inr ⟨by omega, i2, i3⟩
theorem cc_all {K : Nat → Nat} {j n : Nat} (e : ccN K j n = n) : ∀ c, c < n → K c = j := fun c hc => by
  by_cases q : K c = j
  · exact q
  · have h1 : ct (fun c => decide (K c = j)) n + 1 ≤ ct (fun _ => true) n := ct_lt (fun k _ _ => rfl) ⟨c, hc, decide_eq_false q, rfl⟩
    have h2 := ct_le (fun _ => true) n
    have h3 : ct (fun c => decide (K c = j)) n = n := e
    omega
theorem wn_end {K : Nat → Nat} {n wn : Nat} (hn : 0 < n) (hK4 : ∀ c, K c ≤ 4) (I : wnI (ccF K n) n 0 wn) : wn = allN K n := by
  unfold allN
  rcases I with ⟨i1, i2⟩ | ⟨i1, i2, i3⟩
  · rw [i1]
    by_cases q : ccN K (K 0) n = n
    · rw [if_pos q]
      rcases Nat.eq_zero_or_pos (K 0) with z | z
      · exact z.symm
      · exact absurd q (i2 _ z (hK4 0))
    · rw [if_neg q]
  · have e := cc_all (K := K) (j := wn) i3 0 hn
    have i4 : ccN K wn n = n := i3
    rw [e, if_pos i4]
/-- regions of a colour, and the greatest -/
noncomputable def mQ (w h : Nat) (K : Nat → Nat) (m : Nat) : Nat → Bool := fun c => decide (isF w h K c = true ∧ K c = m)
theorem mQ_tot (w h : Nat) (K : Nat → Nat) (m : Nat) : cN (mQ w h K m) w h w 0 = rsm w h K m (w * h) := by
  rw [cN_all]
  unfold rsm
  refine ct_cong (fun c _ => ?_)
  unfold mQ
  by_cases a : isF w h K c = true <;> by_cases b : K c = m <;> simp [a, b]
theorem mQ_no {w h : Nat} {K : Nat → Nat} {m x y : Nat} (e : K (w * y + x) ≠ m) : cN (mQ w h K m) w h x y = cN (mQ w h K m) w h x (y + 1) := by
  rw [cN_up]
  have : mQ w h K m (w * y + x) = false := by unfold mQ; exact decide_eq_false (fun z => e z.2)
  rw [this]; rfl
theorem mQ_1 {w h : Nat} {K L : Nat → Nat} (hR : RLb w h K L) {m x y : Nat} (hc : w * y + x < w * h) (hm : 1 ≤ m) (e : K (w * y + x) = m) (q : L (w * y + x) = w * y + x) : 1 = nI (bN (mQ w h K m (w * y + x))) := by
  have : mQ w h K m (w * y + x) = true := by unfold mQ; exact decide_eq_true ⟨(lab_first hR hc (by omega)).mp q, e⟩
  rw [this]; rfl
theorem mQ_2 {w h : Nat} {K L : Nat → Nat} (hR : RLb w h K L) {m x y : Nat} (hc : w * y + x < w * h) (hm : 1 ≤ m) (e : K (w * y + x) = m) (q : L (w * y + x) ≠ w * y + x) : 0 = nI (bN (mQ w h K m (w * y + x))) := by
  have : mQ w h K m (w * y + x) = false := by unfold mQ; exact decide_eq_false (fun z => q ((lab_first hR hc (by omega)).mpr z.1))
  rw [this]; rfl
def mxI (w h : Nat) (K : Nat → Nat) (m x y mx : Nat) : Prop := (∀ a b, a < w → b < h → (a < x ∨ (a = x ∧ b < y)) → K (w * b + a) = m → rsz w h K (w * b + a) ≤ mx) ∧ (mx = 0 ∨ ∃ c, c < w * h ∧ K c = m ∧ rsz w h K c = mx)
theorem mx_0 (w h : Nat) (K : Nat → Nat) (m : Nat) : mxI w h K m 0 0 0 := ⟨fun a b _ _ z => by omega, Or.inl rfl⟩
theorem mx_row {w h : Nat} {K : Nat → Nat} {m x mx : Nat} (I : mxI w h K m x h mx) : mxI w h K m (x + 1) 0 mx := ⟨fun a b ha hb z e => I.1 a b ha hb (by omega) e, I.2⟩
theorem mx_no {w h : Nat} {K : Nat → Nat} {m x y mx : Nat} (I : mxI w h K m x y mx) (q : K (w * y + x) ≠ m) : mxI w h K m x (y + 1) mx := by
  refine ⟨fun a b ha hb z e => ?_, I.2⟩
  by_cases e2 : a = x ∧ b = y
  · rw [e2.1, e2.2] at e
    exact absurd e q
  · exact I.1 a b ha hb (by omega) e
theorem mx_yes {w h : Nat} {K : Nat → Nat} {m x y mx : Nat} (I : mxI w h K m x y mx) (hc : w * y + x < w * h) (q : K (w * y + x) = m) : mxI w h K m x (y + 1) (if mx < rsz w h K (w * y + x) then rsz w h K (w * y + x) else mx) := by
  refine ⟨fun a b ha hb z e => ?_, ?_⟩
  · by_cases e2 : a = x ∧ b = y
    · rw [e2.1, e2.2]
      split <;> omega
    · have := I.1 a b ha hb (by omega) e
      split <;> omega
  · split
    · exact Or.inr ⟨_, hc, q, rfl⟩
    · exact I.2
theorem mx_end {w h : Nat} {K : Nat → Nat} {m mx : Nat} (I : mxI w h K m w 0 mx) : mx = rmx w h K m (w * h) := by
  obtain ⟨r1, r2⟩ := rmx_max w h K m (w * h)
  have i1 : ∀ c, c < w * h → K c = m → rsz w h K c ≤ mx := fun c hc e => by
    have hw : 0 < w := Nat.pos_of_ne_zero (fun q => by rw [q, Nat.zero_mul] at hc; omega)
    have h1 := Nat.mod_lt c hw
    have h2 := div_lt_h hw hc
    have h3 := Nat.div_add_mod c w
    have := I.1 (c % w) (c / w) h1 h2 (Or.inl h1) (by rw [h3]; exact e)
    rw [h3] at this
    exact this
  rcases I.2 with z | ⟨c, c1, c2, c3⟩
  · rcases r2 with q | ⟨c, c1, c2, c3⟩
    · omega
    · have := i1 c c1 c2
      omega
  · have a := r1 c c1 c2
    rcases r2 with q | ⟨d, d1, d2, d3⟩
    · omega
    · have := i1 d d1 d2
      omega
theorem mx_bd {w h : Nat} {K : Nat → Nat} {m x y mx : Nat} (I : mxI w h K m x y mx) : mx ≤ w * h := by
  rcases I.2 with z | ⟨c, _, _, c3⟩
  · omega
  · rw [← c3]; exact rsz_le w h K c
theorem q_same : ∀ a, a < 26 → ∀ b, b < 26 → 4 ≤ b → Op.cmpValue (FP.dcmp (FP.ddiv (FP.i2d (nI a)) (FP.i2d (nI b))) (FP.ddiv (FP.i2d (nI a)) (FP.i2d (nI b)))) .l = 0 := by decide +kernel
theorem sz0_0 {w h : Nat} {K : Nat → Nat} {c : Nat} (e : K c = 0) : 0 = nI (sz0 w h K c) := by rw [sz0, if_pos e]; rfl
theorem sz0_n {w h : Nat} {K : Nat → Nat} {c : Nat} (e : K c ≠ 0) : nI (rsz w h K c) = nI (sz0 w h K c) := by rw [sz0, if_neg e]
theorem m1_nI {m : Nat} (h : 1 ≤ m) : nI m + (-1) = nI (m - 1) := by
  obtain ⟨k, rfl⟩ : ∃ k, m = k + 1 := ⟨m - 1, by omega⟩
  exact pk_m1 k
theorem ld_next {f : Nat → Nat} {m ld : Nat} (hm : 1 ≤ m ∧ m ≤ 4) (I : ldI f m ld) : ldI f (m - 1) (if (0 < f m ∧ f ld ≤ f m) ∨ (ld = 0 ∧ 0 < f m) then m else ld) := by
  by_cases q : (0 < f m ∧ f ld ≤ f m) ∨ (ld = 0 ∧ 0 < f m)
  · rw [if_pos q]
    exact ld_take hm I (by omega) (by omega)
  · rw [if_neg q]
    exact ld_keep hm I (by omega)
theorem wn_next {f : Nat → Nat} {n m wn : Nat} (hm : 1 ≤ m ∧ m ≤ 4) (I : wnI f n m wn) : wnI f n (m - 1) (if f m = n then m else wn) := by
  by_cases q : f m = n
  · rw [if_pos q]
    exact (wn_take (wn := wn) hm q).1
  · rw [if_neg q]
    exact wn_keep hm I q
theorem ld_le {f : Nat → Nat} {m ld : Nat} (I : ldI f m ld) : ld ≤ 4 := by
  rcases I with ⟨z, _⟩ | ⟨_, z, _⟩ <;> omega
theorem wn_le {f : Nat → Nat} {n m wn : Nat} (I : wnI f n m wn) : wn ≤ 4 := by
  rcases I with ⟨z, _⟩ | ⟨_, z, _⟩ <;> omega
