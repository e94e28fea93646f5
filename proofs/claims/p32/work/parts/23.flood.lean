/-! regions -/
def Rch (w h : Nat) (K : Nat → Nat) (k a b : Nat) : Prop := ∀ X : Nat → Prop, X a → (∀ u v s, X u → s < 4 → nbr w h u s = some v → K v = k → X v) → X b
section RC
variable {w h : Nat} {K : Nat → Nat} {k : Nat}
theorem rch_refl (a : Nat) : Rch w h K k a a := fun X h1 _ => h1
theorem rch_step {a u v s : Nat} (h1 : Rch w h K k a u) (hs : s < 4) (e : nbr w h u s = some v) (hv : K v = k) : Rch w h K k a v := fun X ha hc => hc u v s (h1 X ha hc) hs e hv
theorem rch_trans {a b c : Nat} (h1 : Rch w h K k a b) (h2 : Rch w h K k b c) : Rch w h K k a c := fun X ha hc => h2 X (h1 X ha hc) hc
theorem rch_lt {a b : Nat} (ha : a < w * h) (h1 : Rch w h K k a b) : b < w * h := h1 (fun b => b < w * h) ha (fun u v s hu _ e _ => nbr_lt hu e)
theorem rch_col {a b : Nat} (ha : K a = k) (h1 : Rch w h K k a b) : K b = k := h1 (fun b => K b = k) ha (fun u v s _ _ _ hv => hv)
theorem nbr_symm {u v s : Nat} (hu : u < w * h) (hs : s < 4) (e : nbr w h u s = some v) : ∃ s2, s2 < 4 ∧ nbr w h v s2 = some u := by
  have hw : 0 < w := by
    rcases Nat.eq_zero_or_pos w with rfl | h1
    · omega
    · exact h1
  have hm := Nat.mod_lt u hw
  have hd := div_lt_h hw hu
  have hdm := Nat.div_add_mod u w
  have key : ∀ X Y : Nat, X < w → (w * Y + X) % w = X ∧ (w * Y + X) / w = Y := fun X Y hX => by
    rw [Nat.mul_add_mod, Nat.mod_eq_of_lt hX, Nat.mul_add_div hw, Nat.div_eq_of_lt hX]
    exact ⟨rfl, by omega⟩
  generalize hX : u % w = X at *
  generalize hY : u / w = Y at *
  unfold nbr at e
  rw [hX, hY] at e
  rcases (show s = 0 ∨ s = 1 ∨ s = 2 ∨ s = 3 by omega) with rfl | rfl | rfl | rfl
  · rw [if_pos rfl] at e
    split at e
    · cases e
      obtain ⟨k1, k2⟩ := key (X - 1) Y (by omega)
      rw [show w * Y + (X - 1) = u - 1 by omega] at k1 k2
      refine ⟨1, by decide, ?_⟩
      unfold nbr
      rw [if_neg (by decide), if_pos rfl, k1, if_pos (by omega), show u - 1 + 1 = u by omega]
    · cases e
  · rw [if_neg (by decide), if_pos rfl] at e
    split at e
    · cases e
      obtain ⟨k1, k2⟩ := key (X + 1) Y (by omega)
      rw [show w * Y + (X + 1) = u + 1 by omega] at k1 k2
      refine ⟨0, by decide, ?_⟩
      unfold nbr
      rw [if_pos rfl, k1, if_pos (by omega), show u + 1 - 1 = u by omega]
    · cases e
  · rw [if_neg (by decide), if_neg (by decide), if_pos rfl] at e
    split at e
    · cases e
      obtain ⟨Z, rfl⟩ : ∃ Z, Y = Z + 1 := ⟨Y - 1, by omega⟩
      rw [Nat.mul_succ] at hdm
      obtain ⟨k1, k2⟩ := key X Z hm
      rw [show w * Z + X = u - w by omega] at k1 k2
      refine ⟨3, by decide, ?_⟩
      unfold nbr
      rw [if_neg (by decide), if_neg (by decide), if_neg (by decide), k2, if_pos (by omega), show u - w + w = u by omega]
    · cases e
  · rw [if_neg (by decide), if_neg (by decide), if_neg (by decide)] at e
    split at e
    · cases e
      obtain ⟨k1, k2⟩ := key X (Y + 1) hm
      rw [Nat.mul_succ, show w * Y + w + X = u + w by omega] at k1 k2
      refine ⟨2, by decide, ?_⟩
      unfold nbr
      rw [if_neg (by decide), if_neg (by decide), if_pos rfl, k2, if_pos (by omega), show u + w - w = u by omega]
    · cases e
theorem rch_symm {a b : Nat} (ha : a < w * h) (hk : K a = k) (h1 : Rch w h K k a b) : Rch w h K k b a := by
  have := h1 (fun b => b < w * h ∧ K b = k ∧ Rch w h K k b a) ⟨ha, hk, rch_refl a⟩ (fun u v s hu hs e hv => by
    obtain ⟨s2, hs2, e2⟩ := nbr_symm hu.1 hs e
    exact ⟨nbr_lt hu.1 e, hv, rch_trans (rch_step (rch_refl v) hs2 e2 hu.2.1) hu.2.2⟩)
  exact this.2.2
end RC
noncomputable def cmp (w h : Nat) (K : Nat → Nat) (a : Nat) : Nat → Bool := fun b => @decide (Rch w h K (K a) a b) (Classical.propDecidable _)
theorem cmp_iff {w h : Nat} {K : Nat → Nat} {a b : Nat} : cmp w h K a b = true ↔ Rch w h K (K a) a b := by simp [cmp]
noncomputable def rsz (w h : Nat) (K : Nat → Nat) (a : Nat) : Nat := ct (cmp w h K a) (w * h)
noncomputable def isF (w h : Nat) (K : Nat → Nat) (c : Nat) : Bool := @decide (K c ≠ 0 ∧ ∀ d, d < c → cmp w h K c d = false) (Classical.propDecidable _)
theorem isF_iff {w h : Nat} {K : Nat → Nat} {c : Nat} : isF w h K c = true ↔ K c ≠ 0 ∧ ∀ d, d < c → cmp w h K c d = false := by simp [isF]
section CM
variable {w h : Nat} {K : Nat → Nat}
theorem cmp_self (a : Nat) : cmp w h K a a = true := cmp_iff.mpr (rch_refl a)
theorem cmp_col {a b : Nat} (h1 : cmp w h K a b = true) : K b = K a := rch_col rfl (cmp_iff.mp h1)
theorem cmp_lt {a b : Nat} (ha : a < w * h) (h1 : cmp w h K a b = true) : b < w * h := rch_lt ha (cmp_iff.mp h1)
theorem cmp_symm {a b : Nat} (ha : a < w * h) (h1 : cmp w h K a b = true) : cmp w h K b a = true := by
  have e := cmp_col h1
  rw [cmp_iff] at h1 ⊢
  rw [e]
  exact rch_symm ha rfl h1
theorem cmp_trans {a b c : Nat} (h1 : cmp w h K a b = true) (h2 : cmp w h K b c = true) : cmp w h K a c = true := by
  have e := cmp_col h1
  rw [cmp_iff] at h1 h2 ⊢
  rw [e] at h2
  exact rch_trans h1 h2
theorem cmp_same {a b : Nat} (ha : a < w * h) (h1 : cmp w h K a b = true) : cmp w h K b = cmp w h K a := by
  funext d
  rw [Bool.eq_iff_iff]
  exact ⟨fun h2 => cmp_trans h1 h2, fun h2 => cmp_trans (cmp_symm ha h1) h2⟩
theorem rsz_same {a b : Nat} (ha : a < w * h) (h1 : cmp w h K a b = true) : rsz w h K b = rsz w h K a := by unfold rsz; rw [cmp_same ha h1]
theorem cmp_step {a u v s : Nat} (h1 : cmp w h K a u = true) (hs : s < 4) (e : nbr w h u s = some v) (hv : K v = K a) : cmp w h K a v = true := cmp_iff.mpr (rch_step (cmp_iff.mp h1) hs e hv)
theorem rsz_pos {a : Nat} (ha : a < w * h) : 1 ≤ rsz w h K a := by
  have := ct_lt (p := fun _ => false) (q := cmp w h K a) (n := w * h) (fun k _ h1 => (by cases h1)) ⟨a, ha, rfl, cmp_self a⟩
  unfold rsz; omega
/-- every coloured cell has the first cell of its region -/
theorem has_first : ∀ (n c : Nat), c < n → c < w * h → K c ≠ 0 → ∃ f, f ≤ c ∧ isF w h K f = true ∧ cmp w h K f c = true
  | 0, c, hn, _, _ => by omega
  | n + 1, c, hn, hc, hk => by
    by_cases hf : isF w h K c = true
    · exact ⟨c, Nat.le_refl c, hf, cmp_self c⟩
    · have h1 : ∃ d, d < c ∧ cmp w h K c d = true := by
        rcases Classical.em (∃ d, d < c ∧ cmp w h K c d = true) with q | q
        · exact q
        · exfalso
          refine hf (isF_iff.mpr ⟨hk, fun d hd => ?_⟩)
          cases hx : cmp w h K c d
          · rfl
          · exact absurd ⟨d, hd, hx⟩ q
      obtain ⟨d, hd, hcd⟩ := h1
      obtain ⟨f, f1, f2, f3⟩ := has_first n d (by omega) (by omega) (by rw [cmp_col hcd]; exact hk)
      exact ⟨f, by omega, f2, cmp_trans f3 (cmp_symm hc hcd)⟩
theorem first_one {f f2 c : Nat} (h1 : isF w h K f = true) (h2 : isF w h K f2 = true) (hf : f < w * h) (hf2 : f2 < w * h) (c1 : cmp w h K f c = true) (c2 : cmp w h K f2 c = true) : f = f2 := by
  have a1 : cmp w h K f f2 = true := cmp_trans c1 (cmp_symm hf2 c2)
  have a2 := cmp_symm hf a1
  rcases Nat.lt_trichotomy f f2 with q | q | q
  · have := (isF_iff.mp h2).2 f q; rw [a2] at this; cases this
  · exact q
  · have := (isF_iff.mp h1).2 f2 q; rw [a1] at this; cases this
end CM
/-! the class's growing set -/
def mk (w h : Nat) (r : Int32) (P : Nat → Bool) : Prop := ∀ p, p < 32 → bt r p = (pon w h p && P (pix w p))
def nany (w h : Nat) (P : Nat → Bool) (c : Nat) : Bool := nb1 w h P c 0 || nb1 w h P c 1 || (nb1 w h P c 2 || nb1 w h P c 3)
theorem nb1_iff {w h : Nat} {P : Nat → Bool} {c s : Nat} : nb1 w h P c s = true ↔ ∃ d, nbr w h c s = some d ∧ P d = true := by
  unfold nb1
  cases nbr w h c s with
  | none => simp
  | some d => simp
theorem nany_iff {w h : Nat} {P : Nat → Bool} {c : Nat} : nany w h P c = true ↔ ∃ s d, s < 4 ∧ nbr w h c s = some d ∧ P d = true := by
  unfold nany
  simp only [Bool.or_eq_true, nb1_iff]
  constructor
  · rintro ((⟨d, h1⟩ | ⟨d, h1⟩) | (⟨d, h1⟩ | ⟨d, h1⟩))
    · exact ⟨0, d, by decide, h1⟩
    · exact ⟨1, d, by decide, h1⟩
    · exact ⟨2, d, by decide, h1⟩
    · exact ⟨3, d, by decide, h1⟩
  · rintro ⟨s, d, hs, h1⟩
    rcases (show s = 0 ∨ s = 1 ∨ s = 2 ∨ s = 3 by omega) with rfl | rfl | rfl | rfl
    · exact Or.inl (Or.inl ⟨d, h1⟩)
    · exact Or.inl (Or.inr ⟨d, h1⟩)
    · exact Or.inr (Or.inl ⟨d, h1⟩)
    · exact Or.inr (Or.inr ⟨d, h1⟩)
theorem next_bit {w h : Nat} (g : gok w h) {r : Int32} {P : Nat → Bool} (hr : mk w h r P) {c : Nat} (hc : c < w * h) : bt (pNext r) (ppos w c) = nany w h P c := by
  obtain ⟨e0, e1, e2, e3⟩ := nb_bits g hr hc
  have hp : ppos w c < 32 := by have := ppos_lt g hc; omega
  unfold pNext nany
  rw [b_or, b_or, b_or, b_shl1 r hp, b_us1, b_shl6 r hp, b_us6, e0, e1, e2, e3, Bool.or_assoc (nb1 w h P c 0 || nb1 w h P c 1)]
theorem mk_at {w h : Nat} (g : gok w h) {r : Int32} {P : Nat → Bool} (hr : mk w h r P) {c : Nat} (hc : c < w * h) : bt r (ppos w c) = P c := by
  have hp : ppos w c < 32 := by have := ppos_lt g hc; omega
  rw [hr _ hp, pon_ppos (by have := g.1; omega) g.2.1 hc, pix_ppos (by have := g.1; omega) g.2.1]; rfl
/-- equal sets of cells, equal masks -/
theorem mk_eq {w h : Nat} {r r2 : Int32} {P P2 : Nat → Bool} (hr : mk w h r P) (hr2 : mk w h r2 P2) (e : ∀ c, c < w * h → P c = P2 c) : r = r2 := by
  refine b_ext (fun p hp => ?_)
  rw [hr p hp, hr2 p hp]
  cases ho : pon w h p
  · rfl
  · rw [e _ (pix_lt ho)]
theorem mk_cong {w h : Nat} {r : Int32} {P P2 : Nat → Bool} (hr : mk w h r P) (e : ∀ c, c < w * h → P c = P2 c) : mk w h r P2 := fun p hp => by
  rw [hr p hp]
  cases ho : pon w h p
  · rfl
  · rw [e _ (pix_lt ho)]
theorem mk_count {w h : Nat} (g : gok w h) {r : Int32} {P : Nat → Bool} (hr : mk w h r P) : pBC r = nI (ct P (w * h)) := by
  rw [pBC_ct, ct_cells g (z := bt r) (fun p hp hb => by rw [hr p hp, Bool.and_eq_true] at hb; exact hb.1)]
  congr 1
  exact ct_cong (fun c hc => mk_at g hr hc)
def grow (w h : Nat) (P Pr : Nat → Bool) : Nat → Bool := fun c => Pr c || (nany w h Pr c && P c)
theorem grow_mk {w h : Nat} (g : gok w h) {z r : Int32} {P Pr : Nat → Bool} (hz : mk w h z P) (hr : mk w h r Pr) : mk w h (r ||| (pNext r &&& z)) (grow w h P Pr) := by
  intro p hp
  rw [b_or, b_and, hr p hp, hz p hp]
  cases ho : pon w h p
  · simp
  · have e := next_bit g hr (pix_lt ho)
    rw [ppos_pix ho] at e
    rw [e]; rfl
section RF
variable {w h : Nat} {K : Nat → Nat} {k c0 : Nat} {z : Int32} {P : Nat → Bool}
theorem rf_inv (g : gok w h) (hz : mk w h z P) (hk : ∀ c, c < w * h → P c = true → K c = k) : ∀ (n : Nat) (r : Int32) (Pr : Nat → Bool), mk w h r Pr → (∀ c, c < w * h → Pr c = true → P c = true ∧ Rch w h K k c0 c) →
    ∃ Pf, mk w h (pRF z n r) Pf ∧ (∀ c, c < w * h → Pf c = true → P c = true ∧ Rch w h K k c0 c) ∧ (∀ c, c < w * h → Pr c = true → Pf c = true) ∧ ((∀ c, c < w * h → nany w h Pf c = true → P c = true → Pf c = true) ∨ ct Pr (w * h) + n ≤ ct Pf (w * h))
  | 0, r, Pr, hr, h1 => ⟨Pr, hr, h1, fun _ _ q => q, Or.inr (Nat.le_refl _)⟩
  | n + 1, r, Pr, hr, h1 => by
    have hg := grow_mk g hz hr
    rw [pRF]
    split
    · rename_i e
      refine ⟨Pr, hr, h1, fun _ _ q => q, Or.inl (fun c hc q1 q2 => ?_)⟩
      have e1 := mk_at g hg hc
      rw [e, mk_at g hr hc] at e1
      rw [e1]; unfold grow; rw [q1, q2]; simp
    · rename_i e
      have hnew : ∀ c, c < w * h → grow w h P Pr c = true → P c = true ∧ Rch w h K k c0 c := by
        intro c hc q
        unfold grow at q
        rw [Bool.or_eq_true, Bool.and_eq_true] at q
        rcases q with q | ⟨q1, q2⟩
        · exact h1 c hc q
        · obtain ⟨s, d, hs, e1, e2⟩ := nany_iff.mp q1
          have hd := nbr_lt hc e1
          obtain ⟨s2, hs2, e3⟩ := nbr_symm hc hs e1
          exact ⟨q2, rch_step (h1 d hd e2).2 hs2 e3 (hk c hc q2)⟩
      obtain ⟨Pf, f1, f2, f3, f4⟩ := rf_inv g hz hk n _ _ hg hnew
      have hsub : ∀ c, c < w * h → Pr c = true → grow w h P Pr c = true := fun c _ q => by unfold grow; rw [q]; rfl
      refine ⟨Pf, f1, f2, fun c hc q => f3 c hc (hsub c hc q), ?_⟩
      rcases f4 with f4 | f4
      · exact Or.inl f4
      · right
        have hex : ∃ c, c < w * h ∧ Pr c = false ∧ grow w h P Pr c = true := by
          rcases Classical.em (∃ c, c < w * h ∧ Pr c = false ∧ grow w h P Pr c = true) with q | q
          · exact q
          · exfalso
            refine e (mk_eq hg hr (fun c hc => ?_))
            cases hp : Pr c
            · cases hq : grow w h P Pr c
              · rfl
              · exact absurd ⟨c, hc, hp, hq⟩ q
            · exact hsub c hc hp
        have := ct_lt (p := Pr) (q := grow w h P Pr) (n := w * h) hsub hex
        omega
/-- regionFrom finds the region -/
theorem rf_region (g : gok w h) (hz : mk w h z P) (hk : ∀ c, c < w * h → P c = true → K c = k) (hcl : ∀ u v s, u < w * h → P u = true → s < 4 → nbr w h u s = some v → K v = k → P v = true) {r : Int32} (hc0 : c0 < w * h) (hP0 : P c0 = true) (hr : mk w h r (fun c => decide (c = c0))) : mk w h (pRF z 25 r) (cmp w h K c0) := by
  have hk0 : K c0 = k := hk c0 hc0 hP0
  obtain ⟨Pf, f1, f2, f3, f4⟩ := rf_inv (K := K) (k := k) (c0 := c0) g hz hk 25 r _ hr (fun c hc q => by
    have : c = c0 := of_decide_eq_true q
    subst this
    exact ⟨hP0, rch_refl c⟩)
  have h0 : Pf c0 = true := f3 c0 hc0 (decide_eq_true rfl)
  have hfix : ∀ c, c < w * h → nany w h Pf c = true → P c = true → Pf c = true := by
    rcases f4 with f4 | f4
    · exact f4
    · exfalso
      have h1 := ct_le Pf (w * h)
      have h2 := wh_le g
      have h3 := ct_lt (p := fun _ => false) (q := fun c => decide (c = c0)) (n := w * h) (fun k _ h1 => (by cases h1)) ⟨c0, hc0, rfl, decide_eq_true rfl⟩
      omega
  refine mk_cong f1 (fun c hc => ?_)
  rw [Bool.eq_iff_iff, cmp_iff, hk0]
  constructor
  · exact fun q => (f2 c hc q).2
  · intro q
    have := q (fun v => v < w * h ∧ Pf v = true) ⟨hc0, h0⟩ (fun u v s hu hs e hv => by
      have hv2 := nbr_lt hu.1 e
      obtain ⟨s2, hs2, e2⟩ := nbr_symm hu.1 hs e
      exact ⟨hv2, hfix v hv2 (nany_iff.mpr ⟨s2, u, hs2, e2, hu.2⟩) (hcl u v s hu.1 (f2 u hu.1 hu.2).1 hs e hv)⟩)
    exact this.2
end RF
/-! the lowest bit -/
theorem low_form : ∀ (m n : Nat), n ≤ m → 0 < n → ∃ p k, n = 2 ^ (p + 1) * k + 2 ^ p
  | 0, n, h1, h2 => by omega
  | m + 1, n, h1, h2 => by
    rcases Nat.mod_two_eq_zero_or_one n with e | e
    · obtain ⟨p, k, h3⟩ := low_form m (n / 2) (by omega) (by omega)
      refine ⟨p + 1, k, ?_⟩
      have e2 : n = 2 * (n / 2) := by omega
      rw [e2, h3, Nat.mul_add, ← Nat.mul_assoc, Nat.pow_succ 2 (p + 1), Nat.pow_succ 2 p]
      have : 2 * (2 ^ p * 2) = 2 ^ p * 2 * 2 := by omega
      rw [this]; omega
    · exact ⟨0, n / 2, by simp; omega⟩
theorem low_bit {x : Int32} (hx : x ≠ 0) : ∃ p, p < 32 ∧ bt x p = true ∧ (∀ q, q < p → bt x q = false) ∧ ∀ q, q < 32 → bt (x &&& (-x)) q = decide (q = p) := by
  obtain ⟨n, hn, rfl⟩ : ∃ n : Nat, n < 2 ^ 32 ∧ x = nI n := by
    refine ⟨x.toBitVec.toNat, x.toBitVec.isLt, ?_⟩
    apply Int32.toBitVec_inj.mp
    show x.toBitVec = BitVec.ofNat 32 x.toBitVec.toNat
    rw [BitVec.ofNat_toNat, BitVec.setWidth_eq]
  have hn0 : 0 < n := by
    rcases Nat.eq_zero_or_pos n with e | e
    · subst e; exact absurd rfl hx
    · exact e
  obtain ⟨p, k, e⟩ := low_form n n (Nat.le_refl n) hn0
  have hp : p < 32 := by
    rcases Nat.lt_or_ge p 32 with q | q
    · exact q
    · have : 2 ^ 32 ≤ 2 ^ p := Nat.pow_le_pow_right (by decide) q
      omega
  have hpp : 2 ^ p < 2 ^ (p + 1) := by rw [Nat.pow_succ]; have := Nat.two_pow_pos p; omega
  have hsplit : 2 ^ 32 = 2 ^ (p + 1) * 2 ^ (31 - p) := by rw [← Nat.pow_add]; congr 1; omega
  have hk : k < 2 ^ (31 - p) := by
    rcases Nat.lt_or_ge k (2 ^ (31 - p)) with q | q
    · exact q
    · have : 2 ^ (p + 1) * 2 ^ (31 - p) ≤ 2 ^ (p + 1) * k := Nat.mul_le_mul_left _ q
      omega
  have eneg : -(nI n) = nI (2 ^ 32 - n) := by
    have h1 : nI (2 ^ 32 - n) + nI n = 0 := by rw [nI_add, Nat.sub_add_cancel (by omega)]; decide +kernel
    have h2 : -(nI n) = (nI (2 ^ 32 - n) + nI n) + -(nI n) := by rw [h1, Int32.zero_add]
    rw [h2, Int32.add_assoc, Int32.add_right_neg, Int32.add_zero]
  have e2 : 2 ^ 32 - n = 2 ^ (p + 1) * (2 ^ (31 - p) - (k + 1)) + 2 ^ p := by
    have h3 : 2 ^ (p + 1) * (k + 1) ≤ 2 ^ 32 := by rw [hsplit]; exact Nat.mul_le_mul_left _ hk
    have h4 : 2 ^ (p + 1) * (2 ^ (31 - p) - (k + 1)) = 2 ^ 32 - 2 ^ (p + 1) * (k + 1) := by rw [Nat.mul_sub, ← hsplit]
    have h5 : 2 ^ (p + 1) = 2 * 2 ^ p := by rw [Nat.pow_succ]; omega
    rw [h4]
    rw [Nat.mul_succ] at h3 ⊢
    omega
  have b1 : ∀ q, bt (nI n) q = if q < p + 1 then decide (p = q) else k.testBit (q - (p + 1)) := fun q => by
    rw [b_nI hn, e, Nat.testBit_two_pow_mul_add _ hpp, Nat.testBit_two_pow]
  have b2 : ∀ q, bt (-(nI n)) q = if q < p + 1 then decide (p = q) else (decide (q - (p + 1) < 31 - p) && !k.testBit (q - (p + 1))) := fun q => by
    rw [eneg, b_nI (by omega), e2, Nat.testBit_two_pow_mul_add _ hpp, Nat.testBit_two_pow, Nat.testBit_two_pow_sub_succ hk]
  refine ⟨p, hp, ?_, ?_, ?_⟩
  · rw [b1, if_pos (by omega)]; simp
  · intro q hq
    rw [b1, if_pos (by omega)]
    exact decide_eq_false (by omega)
  · intro q hq
    rw [b_and, b1, b2]
    by_cases c : q < p + 1
    · rw [if_pos c, if_pos c, Bool.and_self]
      by_cases c2 : q = p
      · subst c2; simp
      · rw [decide_eq_false (show ¬ p = q by omega), decide_eq_false c2]
    · rw [if_neg c, if_neg c, decide_eq_false (show ¬ q = p by omega)]
      cases k.testBit (q - (p + 1)) <;> simp
/-! the class's loops over the regions of a colour -/
section RL
variable {w h : Nat} {K : Nat → Nat} {k : Nat}
theorem zcut_step (g : gok w h) (hk0 : k ≠ 0) {z : Int32} {P : Nat → Bool} (hz : mk w h z P) (hk : ∀ c, c < w * h → P c = true → K c = k) (hcl : ∀ u v s, u < w * h → P u = true → s < 4 → nbr w h u s = some v → K v = k → P v = true) (hne : z ≠ 0) :
    ∃ c0, c0 < w * h ∧ P c0 = true ∧ isF w h K c0 = true ∧ mk w h (pLow z) (cmp w h K c0) ∧ mk w h (pCut z) (fun c => P c && !cmp w h K c0 c) ∧ (∀ c, c < w * h → cmp w h K c0 c = true → P c = true) := by
  obtain ⟨p, p1, p2, p3, p4⟩ := low_bit hne
  have ho : pon w h p = true := by
    have := hz p p1
    rw [p2] at this
    cases hx : pon w h p
    · rw [hx] at this; cases this
    · rfl
  have hlt := pix_lt ho
  have hP0 : P (pix w p) = true := by
    have := hz p p1
    rw [p2, ho] at this
    simpa using this.symm
  have hr : mk w h (z &&& (-z)) (fun c => decide (c = pix w p)) := by
    intro q hq
    rw [p4 q hq]
    by_cases e : q = p
    · subst e; rw [ho]; simp
    · rw [decide_eq_false e]
      cases hx : pon w h q
      · rfl
      · rw [Bool.true_and]
        symm
        exact decide_eq_false (fun e2 => e (by rw [← ppos_pix hx, e2, ppos_pix ho]))
  have hR : mk w h (pLow z) (cmp w h K (pix w p)) := rf_region (K := K) g hz hk hcl hlt hP0 hr
  have hsub : ∀ c, c < w * h → cmp w h K (pix w p) c = true → P c = true := by
    intro c hc q
    have hk1 := hk _ hlt hP0
    rw [cmp_iff, hk1] at q
    have := q (fun v => v < w * h ∧ P v = true) ⟨hlt, hP0⟩ (fun u v s hu hs e hv => ⟨nbr_lt hu.1 e, hcl u v s hu.1 hu.2 hs e hv⟩)
    exact this.2
  refine ⟨pix w p, hlt, hP0, ?_, hR, ?_, hsub⟩
  · rw [isF_iff]
    refine ⟨by rw [hk _ hlt hP0]; exact hk0, fun d hd => ?_⟩
    cases hx : cmp w h K (pix w p) d
    · rfl
    · exfalso
      have hd2 := cmp_lt hlt hx
      have hPd := hsub d hd2 hx
      have hon := pon_ppos (w := w) (h := h) (by have := g.1; omega) g.2.1 hd2
      have hpd : ppos w d < p := by
        rcases Nat.lt_trichotomy (ppos w d) p with a | a | a
        · exact a
        · exfalso
          have := pix_ppos (w := w) (by have := g.1; omega) g.2.1 d
          rw [a] at this; omega
        · exfalso
          have := pix_mono ho hon a
          rw [pix_ppos (by have := g.1; omega) g.2.1] at this; omega
      have h1 := mk_at g hz hd2
      rw [p3 _ hpd, hPd] at h1
      cases h1
  · intro q hq
    show bt (z &&& (pLow z ^^^ (-1))) q = _
    rw [b_and, b_not _ hq, hz q hq, hR q hq]
    cases pon w h q <;> simp
theorem zcut_closed {P : Nat → Bool} {c0 : Nat} (hc0 : c0 < w * h) (hkc : K c0 = k) (hk : ∀ c, c < w * h → P c = true → K c = k) (hcl : ∀ u v s, u < w * h → P u = true → s < 4 → nbr w h u s = some v → K v = k → P v = true) : ∀ u v s, u < w * h → (P u && !cmp w h K c0 u) = true → s < 4 → nbr w h u s = some v → K v = k → (P v && !cmp w h K c0 v) = true := by
  intro u v s hu h1 hs e hv
  rw [Bool.and_eq_true] at h1 ⊢
  refine ⟨hcl u v s hu h1.1 hs e hv, ?_⟩
  cases hx : cmp w h K c0 v
  · rfl
  · exfalso
    obtain ⟨s2, hs2, e2⟩ := nbr_symm hu hs e
    have := cmp_step hx hs2 e2 (by rw [hkc]; exact hk u hu h1.1)
    rw [this] at h1
    exact absurd h1.2 (by decide)
theorem cr_count (g : gok w h) (hk0 : k ≠ 0) : ∀ (n : Nat) (z : Int32) (P : Nat → Bool) (a : Nat), mk w h z P → (∀ c, c < w * h → P c = true → K c = k) → (∀ u v s, u < w * h → P u = true → s < 4 → nbr w h u s = some v → K v = k → P v = true) → ct P (w * h) ≤ n → pCR n z a = a + ct (fun c => P c && isF w h K c) (w * h)
  | 0, z, P, a, hz, hk, hcl, hn => by
    have h1 := ct_zero (p := P) (n := w * h) (by omega)
    rw [pCR, show ct (fun c => P c && isF w h K c) (w * h) = 0 from ?_]
    · rfl
    · have := ct_sub (p := fun c => P c && isF w h K c) (q := P) (n := w * h) (fun c hc q => by rw [Bool.and_eq_true] at q; exact q.1)
      omega
  | n + 1, z, P, a, hz, hk, hcl, hn => by
    rw [pCR]
    split
    · rename_i e
      have : ct (fun c => P c && isF w h K c) (w * h) = 0 := by
        have h2 : ∀ c, c < w * h → (P c && isF w h K c) = (fun _ => false) c := fun c hc => by
          have := mk_at g hz hc
          rw [e, b_0] at this
          rw [← this]; rfl
        rw [ct_cong h2]
        have := ct_out (p := fun _ => false) (m := 0) (w * h) (fun _ _ _ => rfl)
        rw [Nat.zero_add] at this
        exact this
      omega
    · rename_i e
      obtain ⟨c0, a1, a2, a3, a4, a5, a6⟩ := zcut_step g hk0 hz hk hcl e
      have hkc := hk c0 a1 a2
      have hlt := ct_lt (p := fun c => P c && !cmp w h K c0 c) (q := P) (n := w * h) (fun c hc q => by rw [Bool.and_eq_true] at q; exact q.1) ⟨c0, a1, by rw [cmp_self]; simp, a2⟩
      rw [cr_count g hk0 n _ _ (a + 1) a5 (fun c hc q => by rw [Bool.and_eq_true] at q; exact hk c hc q.1) (zcut_closed a1 hkc hk hcl) (by omega)]
      -- only c0 is first within its region
      have h1 : ct (fun c => P c && isF w h K c) (w * h) = ct (fun c => (P c && !cmp w h K c0 c) && isF w h K c) (w * h) + 1 := by
        have key : ∀ n, c0 < n → n ≤ w * h → ct (fun c => P c && isF w h K c) n = ct (fun c => (P c && !cmp w h K c0 c) && isF w h K c) n + 1 := by
          have same : ∀ c, c < w * h → c ≠ c0 → (P c && isF w h K c) = ((P c && !cmp w h K c0 c) && isF w h K c) := by
            intro c hc hne
            cases hx : cmp w h K c0 c
            · simp
            · cases hf : isF w h K c
              · simp
              · exact absurd (first_one a3 hf a1 hc hx (cmp_self c)).symm hne
          intro n
          induction n with
          | zero => intro q; omega
          | succ n ih =>
            intro q1 q2
            rw [ct_succ, ct_succ]
            rcases Nat.lt_or_ge c0 n with q | q
            · rw [ih q (by omega), same n (by omega) (by omega)]
              omega
            · have : c0 = n := by omega
              subst this
              rw [ct_cong (p := fun c => P c && isF w h K c) (q := fun c => (P c && !cmp w h K c0 c) && isF w h K c) (fun c hc => same c (by omega) (by omega))]
              rw [a2, a3, cmp_self]
              simp
        exact key _ a1 (Nat.le_refl _)
      omega
theorem gr_max (g : gok w h) (hk0 : k ≠ 0) : ∀ (n : Nat) (z : Int32) (P : Nat → Bool) (a : Nat), mk w h z P → (∀ c, c < w * h → P c = true → K c = k) → (∀ u v s, u < w * h → P u = true → s < 4 → nbr w h u s = some v → K v = k → P v = true) → ct P (w * h) ≤ n → a ≤ 25 → ∃ b, pGR n z (nI a) = nI b ∧ a ≤ b ∧ b ≤ 25 ∧ (∀ c, c < w * h → P c = true → rsz w h K c ≤ b) ∧ (b = a ∨ ∃ c, c < w * h ∧ P c = true ∧ rsz w h K c = b)
  | 0, z, P, a, hz, hk, hcl, hn, ha => by
    have h1 := ct_zero (p := P) (n := w * h) (by omega)
    exact ⟨a, rfl, Nat.le_refl _, ha, fun c hc q => (by rw [h1 c hc] at q; cases q), Or.inl rfl⟩
  | n + 1, z, P, a, hz, hk, hcl, hn, ha => by
    rw [pGR]
    split
    · rename_i e
      refine ⟨a, rfl, Nat.le_refl _, ha, fun c hc q => ?_, Or.inl rfl⟩
      have := mk_at g hz hc
      rw [e, b_0, q] at this
      cases this
    · rename_i e
      obtain ⟨c0, a1, a2, a3, a4, a5, a6⟩ := zcut_step g hk0 hz hk hcl e
      have hkc := hk c0 a1 a2
      have hlt := ct_lt (p := fun c => P c && !cmp w h K c0 c) (q := P) (n := w * h) (fun c hc q => by rw [Bool.and_eq_true] at q; exact q.1) ⟨c0, a1, by rw [cmp_self]; simp, a2⟩
      have hs : rsz w h K c0 ≤ 25 := Nat.le_trans (ct_le _ _) (wh_le g)
      have hcnt : pBC (pLow z) = nI (rsz w h K c0) := mk_count g a4
      have emax : (if nI a < pBC (pLow z) then pBC (pLow z) else nI a) = nI (if a < rsz w h K c0 then rsz w h K c0 else a) := by
        rw [hcnt]
        by_cases q : a < rsz w h K c0
        · rw [if_pos ((nI_ltI (by omega) (by omega)).mpr q), if_pos q]
        · rw [if_neg (fun q2 => q ((nI_ltI (by omega) (by omega)).mp q2)), if_neg q]
      rw [emax]
      obtain ⟨b, b1, b2, b3, b4, b5⟩ := gr_max g hk0 n _ _ (if a < rsz w h K c0 then rsz w h K c0 else a) a5 (fun c hc q => by rw [Bool.and_eq_true] at q; exact hk c hc q.1) (zcut_closed a1 hkc hk hcl) (by omega) (by split <;> omega)
      have hge : a ≤ b ∧ rsz w h K c0 ≤ b := by split at b2 <;> omega
      refine ⟨b, b1, hge.1, b3, fun c hc q => ?_, ?_⟩
      · cases hx : cmp w h K c0 c
        · exact b4 c hc (by rw [q, hx]; rfl)
        · rw [rsz_same a1 hx]; exact hge.2
      · rcases b5 with b5 | ⟨c, c1, c2, c3⟩
        · by_cases q : a < rsz w h K c0
          · rw [if_pos q] at b5
            exact Or.inr ⟨c0, a1, a2, b5.symm⟩
          · rw [if_neg q] at b5
            exact Or.inl b5
        · rw [Bool.and_eq_true] at c2
          exact Or.inr ⟨c, c1, c2.1, c3⟩
end RL
