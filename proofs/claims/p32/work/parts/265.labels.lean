/-! regions by labels: each cell takes the least label among itself and its neighbours of the same colour, until nothing changes: then it is the first cell of its region -/
def gV (w : Nat) (V : Nat → Int32) : Nat → Nat → Int32 := fun x y => V (w * y + x)
def lV (K L : Nat → Nat) : Nat → Int32 := fun c => if K c = 0 then -1 else nI (L c)
theorem lV_0 {K L : Nat → Nat} {c : Nat} (h : K c = 0) : -1 = lV K L c := by rw [lV, if_pos h]
theorem lV_n {K L : Nat → Nat} {c : Nat} (h : K c ≠ 0) : lV K L c = nI (L c) := by rw [lV, if_neg h]
def upN (L : Nat → Nat) (c v : Nat) : Nat → Nat := fun d => if d = c then v else L d
theorem wy_inj {w x y i j : Nat} (hx : x < w) (hi : i < w) (e : w * j + i = w * y + x) : i = x ∧ j = y := by
  have a := wy_mod j hi
  have b := wy_mod y hx
  rw [e] at a
  exact ⟨a.1.symm.trans b.1, a.2.symm.trans b.2⟩
theorem lV_up {w : Nat} {K L : Nat → Nat} {x y v i j : Nat} (hx : x < w) (hi : i < w) (h0 : K (w * y + x) ≠ 0) : gU (gV w (lV K L)) x y (nI v) i j = gV w (lV K (upN L (w * y + x) v)) i j := by
  unfold gU gV
  by_cases q : i = x
  · subst q
    rw [if_pos rfl]
    unfold upd
    by_cases z : j = y
    · subst z
      rw [if_pos rfl, lV_n h0, upN, if_pos rfl]
    · rw [if_neg z]
      have : w * j + i ≠ w * y + i := fun e => z (wy_inj hx hi e).2
      unfold lV upN
      rw [if_neg this]
  · rw [if_neg q]
    have : w * j + i ≠ w * y + x := fun e => q (wy_inj hx hi e).1
    unfold lV upN
    rw [if_neg this]
section SV
variable {w h : Nat} {K : Nat → Nat} {x y : Nat}
theorem sv0 (gk : gok w h) (hx : x < w) (hy : y < h) : (1 ≤ x ∧ nbr w h (w * y + x) 0 = some (w * y + (x - 1)) ∧ atI w h K (nI x - 1) (nI y) = nI (K (w * y + (x - 1)))) ∨ (nbr w h (w * y + x) 0 = none ∧ atI w h K (nI x - 1) (nI y) = 0) := by
  obtain ⟨e1, e2⟩ := wy_mod y hx
  rcases Nat.eq_zero_or_pos x with q | q
  · right
    refine ⟨?_, ?_⟩
    · rw [nbr, if_pos rfl, e1, if_neg (by omega)]
    · rw [q]; exact (atI_out (Or.inl nI_0m1)).symm
  · left
    refine ⟨q, ?_, ?_⟩
    · rw [nbr, if_pos rfl, e1, if_pos q, show w * y + x - 1 = w * y + (x - 1) by omega]
    · obtain ⟨z, rfl⟩ : ∃ z, x = z + 1 := ⟨x - 1, by omega⟩
      rw [nI_sm1, atI_in gk (by omega) hy]
      rfl
theorem sv1 (gk : gok w h) (hx : x < w) (hy : y < h) : (x + 1 < w ∧ nbr w h (w * y + x) 1 = some (w * y + (x + 1)) ∧ atI w h K (nI (x + 1)) (nI y) = nI (K (w * y + (x + 1)))) ∨ (nbr w h (w * y + x) 1 = none ∧ atI w h K (nI (x + 1)) (nI y) = 0) := by
  obtain ⟨e1, e2⟩ := wy_mod y hx
  obtain ⟨_, g2, _, g4⟩ := id gk
  by_cases q : x < w - 1
  · left
    refine ⟨by omega, ?_, atI_in gk (by omega) hy⟩
    rw [nbr, if_neg (by decide), if_pos rfl, e1, if_pos q, Nat.add_assoc]
  · right
    refine ⟨?_, ?_⟩
    · rw [nbr, if_neg (by decide), if_pos rfl, e1, if_neg q]
    · exact (atI_out (Or.inr (Or.inr (Or.inl (nI_le (by omega) (by omega)))))).symm
theorem sv2 (gk : gok w h) (hx : x < w) (hy : y < h) : (1 ≤ y ∧ nbr w h (w * y + x) 2 = some (w * (y - 1) + x) ∧ atI w h K (nI x) (nI y - 1) = nI (K (w * (y - 1) + x))) ∨ (nbr w h (w * y + x) 2 = none ∧ atI w h K (nI x) (nI y - 1) = 0) := by
  obtain ⟨e1, e2⟩ := wy_mod y hx
  rcases Nat.eq_zero_or_pos y with q | q
  · right
    refine ⟨?_, ?_⟩
    · rw [nbr, if_neg (by decide), if_neg (by decide), if_pos rfl, e2, if_neg (by omega)]
    · rw [q]; exact (atI_out (Or.inr (Or.inl nI_0m1))).symm
  · left
    obtain ⟨z, rfl⟩ : ∃ z, y = z + 1 := ⟨y - 1, by omega⟩
    refine ⟨q, ?_, ?_⟩
    · rw [nbr, if_neg (by decide), if_neg (by decide), if_pos rfl, e2, if_pos q, Nat.add_sub_cancel, show w * (z + 1) + x - w = w * z + x by rw [Nat.mul_succ]; omega]
    · rw [nI_sm1, atI_in gk hx (by omega)]
      rfl
theorem sv3 (gk : gok w h) (hx : x < w) (hy : y < h) : (y + 1 < h ∧ nbr w h (w * y + x) 3 = some (w * (y + 1) + x) ∧ atI w h K (nI x) (nI (y + 1)) = nI (K (w * (y + 1) + x))) ∨ (nbr w h (w * y + x) 3 = none ∧ atI w h K (nI x) (nI (y + 1)) = 0) := by
  obtain ⟨e1, e2⟩ := wy_mod y hx
  obtain ⟨_, g2, _, g4⟩ := id gk
  by_cases q : y < h - 1
  · left
    refine ⟨by omega, ?_, atI_in gk hx (by omega)⟩
    rw [nbr, if_neg (by decide), if_neg (by decide), if_neg (by decide), e2, if_pos q, show w * y + x + w = w * (y + 1) + x by rw [Nat.mul_succ]; omega]
  · right
    refine ⟨?_, ?_⟩
    · rw [nbr, if_neg (by decide), if_neg (by decide), if_neg (by decide), e2, if_neg q]
    · exact (atI_out (Or.inr (Or.inr (Or.inr (nI_le (by omega) (by omega)))))).symm
end SV
theorem rs_t {w h : Nat} {K : Nat → Nat} {c s d : Nat} {p : Prop} {v : Int32} (hv : (p ∧ nbr w h c s = some d ∧ v = nI (K d)) ∨ (nbr w h c s = none ∧ v = 0)) (hK4 : ∀ c, K c ≤ 4) (h0 : K c ≠ 0) (e : v = nI (K c)) : p ∧ nbr w h c s = some d ∧ K d = K c := by
  have h4 := hK4 c
  rcases hv with ⟨a, b, rfl⟩ | ⟨_, rfl⟩
  · have h5 := hK4 d
    exact ⟨a, b, (nI_eq (by omega) (by omega)).mp e⟩
  · exact absurd ((nI_eq (a := 0) (b := K c) (by omega) (by omega)).mp e).symm h0
theorem rs_f {w h : Nat} {K : Nat → Nat} {c s d : Nat} {p : Prop} {v : Int32} (hv : (p ∧ nbr w h c s = some d ∧ v = nI (K d)) ∨ (nbr w h c s = none ∧ v = 0)) (e : ¬ v = nI (K c)) : ∀ z, nbr w h c s = some z → K z ≠ K c := by
  intro z hz q
  rcases hv with ⟨_, b, rfl⟩ | ⟨b, _⟩
  · rw [b] at hz
    cases hz
    exact e (by rw [q])
  · rw [b] at hz; cases hz
/-- the least label so far: the cell's own, and those of the first sides -/
def mS (w h : Nat) (K L : Nat → Nat) (c : Nat) : Nat → Nat
  | 0 => L c
  | s + 1 => match nbr w h c s with
    | some d => if K d = K c then (if mS w h K L c s < L d then mS w h K L c s else L d) else mS w h K L c s
    | none => mS w h K L c s
theorem ms_yes {w h : Nat} {K L : Nat → Nat} {c s d : Nat} (hd : nbr w h c s = some d) (hk : K d = K c) : mS w h K L c (s + 1) = if mS w h K L c s < L d then mS w h K L c s else L d := by
  rw [mS, hd]
  show (if K d = K c then _ else _) = _
  rw [if_pos hk]
theorem ms_no {w h : Nat} {K L : Nat → Nat} {c s : Nat} (hn : ∀ d, nbr w h c s = some d → K d ≠ K c) : mS w h K L c (s + 1) = mS w h K L c s := by
  rw [mS]
  cases e : nbr w h c s with
  | none => rfl
  | some d =>
    show (if K d = K c then _ else _) = _
    rw [if_neg (hn d e)]
theorem ms_le {w h : Nat} {K L : Nat → Nat} {c : Nat} : ∀ s, mS w h K L c s ≤ L c
  | 0 => Nat.le_refl _
  | s + 1 => by
    have ih := ms_le (w := w) (h := h) (K := K) (L := L) (c := c) s
    rw [mS]
    split
    · split
      · split <;> omega
      · exact ih
    · exact ih
theorem ms_side {w h : Nat} {K L : Nat → Nat} {c d : Nat} : ∀ {s t : Nat}, t < s → nbr w h c t = some d → K d = K c → mS w h K L c s ≤ L d
  | 0, _, h, _, _ => absurd h (Nat.not_lt_zero _)
  | s + 1, t, hlt, hd, hk => by
    rcases Nat.lt_succ_iff_lt_or_eq.mp hlt with q | rfl
    · have ih := ms_side q hd hk (s := s) (L := L)
      rw [mS]
      split
      · split
        · split <;> omega
        · exact ih
      · exact ih
    · rw [ms_yes hd hk]
      split <;> omega
theorem ms_from {w h : Nat} {K L : Nat → Nat} {c : Nat} : ∀ s, mS w h K L c s = L c ∨ ∃ t d, t < s ∧ nbr w h c t = some d ∧ K d = K c ∧ mS w h K L c s = L d
  | 0 => Or.inl rfl
  | s + 1 => by
    have ih := ms_from (w := w) (h := h) (K := K) (L := L) (c := c) s
    have up : mS w h K L c (s + 1) = mS w h K L c s → mS w h K L c (s + 1) = L c ∨ ∃ t d, t < s + 1 ∧ nbr w h c t = some d ∧ K d = K c ∧ mS w h K L c (s + 1) = L d := by
      intro e
      rw [e]
      rcases ih with z | ⟨t, d, z1, z2⟩
      · exact Or.inl z
      · exact Or.inr ⟨t, d, by omega, z2⟩
    by_cases q : ∃ d, nbr w h c s = some d ∧ K d = K c
    · obtain ⟨d, q1, q2⟩ := q
      by_cases z : mS w h K L c s < L d
      · exact up (by rw [ms_yes q1 q2, if_pos z])
      · exact Or.inr ⟨s, d, Nat.lt_succ_self s, q1, q2, by rw [ms_yes q1 q2, if_neg z]⟩
    · exact up (ms_no (fun d a b => q ⟨d, a, b⟩))
theorem ms_min {w h : Nat} {K L : Nat → Nat} {c s d : Nat} (hd : nbr w h c s = some d) (hk : K d = K c) (h1 : mS w h K L c s < 1000) (h2 : L d < 1000) : (if nI (L d) < nI (mS w h K L c s) then nI (L d) else nI (mS w h K L c s)) = nI (mS w h K L c (s + 1)) := by
  rw [ms_yes hd hk]
  by_cases q : L d < mS w h K L c s
  · rw [if_pos ((nI_ltI (by omega) (by omega)).mpr q), if_neg (by omega)]
  · rw [if_neg (fun z => q ((nI_ltI (by omega) (by omega)).mp z))]
    split
    · rfl
    · exact congrArg nI (by omega)
/-- labels lie in the cell's own region, and never behind the cell -/
def LI (w h : Nat) (K L : Nat → Nat) : Prop := ∀ c, c < w * h → K c ≠ 0 → cmp w h K c (L c) = true ∧ L c ≤ c
def FP (w h : Nat) (K L : Nat → Nat) : Prop := ∀ c, c < w * h → K c ≠ 0 → mS w h K L c 4 = L c
theorem li_0 (w h : Nat) (K : Nat → Nat) : LI w h K (fun c => c) := fun c _ _ => ⟨cmp_self c, Nat.le_refl c⟩
theorem li_lt {w h : Nat} {K L : Nat → Nat} (hL : LI w h K L) {c : Nat} (hc : c < w * h) (h0 : K c ≠ 0) : L c < w * h := Nat.lt_of_le_of_lt (hL c hc h0).2 hc
theorem li_ms {w h : Nat} {K L : Nat → Nat} (hL : LI w h K L) {c : Nat} (hc : c < w * h) (h0 : K c ≠ 0) : cmp w h K c (mS w h K L c 4) = true ∧ mS w h K L c 4 ≤ c := by
  refine ⟨?_, Nat.le_trans (ms_le 4) (hL c hc h0).2⟩
  rcases ms_from (w := w) (h := h) (K := K) (L := L) (c := c) 4 with z | ⟨t, d, z1, z2, z3, z4⟩
  · rw [z]; exact (hL c hc h0).1
  · rw [z4]
    have hd := nbr_lt hc z2
    exact cmp_trans (cmp_step (cmp_self c) z1 z2 z3) (hL d hd (by rw [z3]; exact h0)).1
theorem li_up {w h : Nat} {K L : Nat → Nat} (hL : LI w h K L) {c : Nat} (hc : c < w * h) (h0 : K c ≠ 0) : LI w h K (upN L c (mS w h K L c 4)) := by
  intro d hd hd0
  unfold upN
  by_cases q : d = c
  · subst q
    rw [if_pos rfl]
    exact li_ms hL hc h0
  · rw [if_neg q]
    exact hL d hd hd0
def smN (L : Nat → Nat) : Nat → Nat
  | 0 => 0
  | n + 1 => smN L n + L n
theorem sm_out {L : Nat → Nat} {c v : Nat} : ∀ {n : Nat}, n ≤ c → smN (upN L c v) n = smN L n
  | 0, _ => rfl
  | n + 1, hn => by
    rw [smN, smN, sm_out (by omega)]
    unfold upN
    rw [if_neg (by omega)]
theorem sm_up {L : Nat → Nat} {c v : Nat} : ∀ {n : Nat}, c < n → smN (upN L c v) n + L c = smN L n + v
  | 0, hn => absurd hn (Nat.not_lt_zero _)
  | n + 1, hn => by
    rw [smN, smN]
    rcases Nat.lt_succ_iff_lt_or_eq.mp hn with q | rfl
    · have ih := sm_up (L := L) (v := v) q
      have e : upN L c v n = L n := by unfold upN; rw [if_neg (by omega)]
      rw [e]
      omega
    · rw [sm_out (Nat.le_refl _)]
      have e : upN L c v c = v := by unfold upN; rw [if_pos rfl]
      rw [e]
      omega
/-- within a pass: before the place (x, y), from the labels L0 on -/
def PassI (w h : Nat) (K L0 : Nat → Nat) (x y : Nat) (L : Nat → Nat) (dn : Bool) : Prop :=
  LI w h K L ∧ (dn = true → L = L0 ∧ ∀ a b, a < w → b < h → (a < x ∨ (a = x ∧ b < y)) → K (w * b + a) ≠ 0 → mS w h K L0 (w * b + a) 4 = L0 (w * b + a)) ∧ (dn = false → smN L (w * h) < smN L0 (w * h)) ∧ smN L (w * h) ≤ smN L0 (w * h)
theorem ps_0 {w h : Nat} {K L : Nat → Nat} (hL : LI w h K L) : PassI w h K L 0 0 L true := ⟨hL, fun _ => ⟨rfl, fun a b _ _ z => by omega⟩, fun z => absurd z (by decide), Nat.le_refl _⟩
theorem ps_row {w h : Nat} {K L0 L : Nat → Nat} {x : Nat} {dn : Bool} (I : PassI w h K L0 x h L dn) : PassI w h K L0 (x + 1) 0 L dn := by
  refine ⟨I.1, fun z => ⟨(I.2.1 z).1, fun a b ha hb q => (I.2.1 z).2 a b ha hb (by omega)⟩, I.2.2⟩
theorem ps_bare {w h : Nat} {K L0 L : Nat → Nat} {x y : Nat} {dn : Bool} (I : PassI w h K L0 x y L dn) (h0 : K (w * y + x) = 0) : PassI w h K L0 x (y + 1) L dn := by
  refine ⟨I.1, fun z => ⟨(I.2.1 z).1, fun a b ha hb q hk => ?_⟩, I.2.2⟩
  by_cases e : a = x ∧ b = y
  · rw [e.1, e.2] at hk
    exact absurd h0 hk
  · exact (I.2.1 z).2 a b ha hb (by omega) hk
theorem ps_step {w h : Nat} {K L0 L : Nat → Nat} {x y : Nat} {dn : Bool} (I : PassI w h K L0 x y L dn) (hc : w * y + x < w * h) (h0 : K (w * y + x) ≠ 0) : PassI w h K L0 x (y + 1) (upN L (w * y + x) (mS w h K L (w * y + x) 4)) (dn && decide (mS w h K L (w * y + x) 4 = L (w * y + x))) := by
  have hle := ms_le (w := w) (h := h) (K := K) (L := L) (c := w * y + x) 4
  have hsm := sm_up (L := L) (v := mS w h K L (w * y + x) 4) hc
  have hall := I.2.2.2
  refine ⟨li_up I.1 hc h0, fun z => ?_, fun z => ?_, by omega⟩
  · rw [Bool.and_eq_true, decide_eq_true_iff] at z
    obtain ⟨z1, z2⟩ := z
    obtain ⟨i1, i2⟩ := I.2.1 z1
    subst i1
    have e : upN L (w * y + x) (mS w h K L (w * y + x) 4) = L := by
      funext d
      unfold upN
      by_cases q : d = w * y + x
      · rw [if_pos q, z2, q]
      · rw [if_neg q]
    rw [e]
    refine ⟨rfl, fun a b ha hb q hk => ?_⟩
    by_cases e2 : a = x ∧ b = y
    · rw [e2.1, e2.2]; exact z2
    · exact i2 a b ha hb (by omega) hk
  · cases hd : dn with
    | false =>
      have := I.2.2.1 hd
      omega
    | true =>
      rw [hd, Bool.true_and, decide_eq_false_iff_not] at z
      omega
theorem ps_end {w h : Nat} {K L0 L : Nat → Nat} {dn : Bool} (I : PassI w h K L0 w 0 L dn) (z : dn = true) : FP w h K L := by
  obtain ⟨i1, i2⟩ := I.2.1 z
  subst i1
  intro c hc h0
  have hw : 0 < w := Nat.pos_of_ne_zero (fun q => by rw [q, Nat.zero_mul] at hc; omega)
  have h1 := Nat.mod_lt c hw
  have h2 := div_lt_h hw hc
  have h3 := Nat.div_add_mod c w
  have := i2 (c % w) (c / w) h1 h2 (Or.inl h1) (by rw [h3]; exact h0)
  rw [h3] at this
  exact this
/-- the end: each label is the first cell of its region -/
def RLb (w h : Nat) (K L : Nat → Nat) : Prop := ∀ c, c < w * h → K c ≠ 0 → isF w h K (L c) = true ∧ cmp w h K (L c) c = true ∧ L c ≤ c
theorem fp_const {w h : Nat} {K L : Nat → Nat} (hF : FP w h K L) {a : Nat} (ha : a < w * h) (h0 : K a ≠ 0) {b : Nat} (hab : cmp w h K a b = true) : L a ≤ L b := by
  have key : b < w * h ∧ K b = K a ∧ L a ≤ L b := by
    refine cmp_iff.mp hab (fun b => b < w * h ∧ K b = K a ∧ L a ≤ L b) ⟨ha, rfl, Nat.le_refl _⟩ ?_
    rintro u v s ⟨u1, u2, u3⟩ hs e hv
    have hvlt := nbr_lt u1 e
    obtain ⟨s2, hs2, e2⟩ := nbr_symm u1 hs e
    refine ⟨hvlt, hv, ?_⟩
    have f1 := hF u u1 (by rw [u2]; exact h0)
    have f2 := ms_side (L := L) hs e (hv.trans u2.symm)
    omega
  exact key.2.2
theorem rl_of {w h : Nat} {K L : Nat → Nat} (hL : LI w h K L) (hF : FP w h K L) : RLb w h K L := by
  intro c hc h0
  obtain ⟨l1, l2⟩ := hL c hc h0
  have hl := li_lt hL hc h0
  have k1 : K (L c) = K c := cmp_col l1
  refine ⟨isF_iff.mpr ⟨by rw [k1]; exact h0, fun d hd => ?_⟩, cmp_symm hc l1, l2⟩
  cases e : cmp w h K (L c) d with
  | false => rfl
  | true =>
    exfalso
    have hcd : cmp w h K c d = true := cmp_trans l1 e
    have h1 := fp_const hF hc h0 hcd
    have hdl := cmp_lt hc hcd
    have h2 := (hL d hdl (by rw [cmp_col hcd]; exact h0)).2
    omega
