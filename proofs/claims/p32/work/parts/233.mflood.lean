/-! the reference's flood: marks, a line of cells, numbers of regions -/
theorem ct_put {p : Nat → Bool} {x : Nat} (hp : p x = false) : ∀ n, ct (fun c => p c || decide (c = x)) n = ct p n + (if x < n then 1 else 0)
  | 0 => by rw [if_neg (Nat.not_lt_zero x)]; rfl
  | n + 1 => by
    rw [ct_succ, ct_succ, ct_put hp n]
    show _ + _ + (if (p n || decide (n = x)) = true then 1 else 0) = _
    rcases Nat.lt_trichotomy x n with q | q | q
    · rw [if_pos q, if_pos (show x < n + 1 by omega), decide_eq_false (show ¬ n = x by omega), Bool.or_false]; omega
    · subst q
      rw [hp, if_neg (Nat.lt_irrefl x), if_pos (Nat.lt_succ_self x), decide_eq_true rfl]; rfl
    · rw [if_neg (show ¬ x < n by omega), if_neg (show ¬ x < n + 1 by omega), decide_eq_false (show ¬ n = x by omega), Bool.or_false]; rfl
theorem ct_none : ∀ n, ct (fun _ => false) n = 0
  | 0 => rfl
  | n + 1 => by rw [ct_succ, ct_none n]; rfl
def mr (S : Nat → Bool) (M : Nat) (R : Nat → Nat) : Nat → Nat := fun c => if S c = true then M else R c
def uA (A : Nat → Nat) (L t : Nat) : Nat → Nat := fun j => if j = L then t else A j
def sA (S : Nat → Bool) (t : Nat) : Nat → Bool := fun c => S c || decide (c = t)
def SpI (w h : Nat) (K : Nat → Nat) (c0 : Nat) (S : Nat → Bool) (A : Nat → Nat) (L k s : Nat) : Prop :=
  L = ct S (w * h) ∧ S c0 = true ∧ (∀ j, j < L → A j < w * h ∧ S (A j) = true) ∧ (∀ c, S c = true → c < w * h ∧ cmp w h K c0 c = true ∧ ∃ j, j < L ∧ A j = c) ∧ (∀ j, j < k → ∀ t, t < 4 → ∀ v, nbr w h (A j) t = some v → K v = K c0 → S v = true) ∧ (∀ t, t < s → ∀ v, nbr w h (A k) t = some v → K v = K c0 → S v = true)
section SP
variable {w h : Nat} {K : Nat → Nat} {c0 : Nat} {S : Nat → Bool} {A : Nat → Nat} {L k s : Nat}
theorem sp_0 (hc : c0 < w * h) : SpI w h K c0 (fun c => decide (c = c0)) (fun _ => c0) 1 0 0 := by
  refine ⟨?_, decide_eq_true rfl, fun j hj => ⟨hc, decide_eq_true rfl⟩, fun c q => ?_, fun j hj => absurd hj (Nat.not_lt_zero j), fun j hj => absurd hj (Nat.not_lt_zero j)⟩
  · have q := ct_put (p := fun _ => false) (x := c0) rfl (w * h)
    rw [if_pos hc, ct_none] at q
    exact q.symm
  · have e : c = c0 := of_decide_eq_true q
    subst e
    exact ⟨hc, cmp_self c, 0, by omega, rfl⟩
theorem sp_skip (I : SpI w h K c0 S A L k s) (hv : ∀ v, nbr w h (A k) s = some v → K v = K c0 → S v = true) : SpI w h K c0 S A L k (s + 1) := by
  obtain ⟨i1, i2, i3, i4, i5, i6⟩ := I
  refine ⟨i1, i2, i3, i4, i5, fun t ht v e q => ?_⟩
  rcases Nat.lt_succ_iff_lt_or_eq.mp ht with z | z
  · exact i6 t z v e q
  · subst z; exact hv v e q
theorem sp_marked (I : SpI w h K c0 S A L k s) (hk : k < L) (hs : s < 4) {v : Nat} (e : nbr w h (A k) s = some v) {R : Nat → Nat} {M : Nat} (hz : ∀ c, cmp w h K c0 c = true → R c = 0) (hm : mr S M R v ≠ 0) (q : K v = K c0) : S v = true := by
  cases hS : S v with
  | true => rfl
  | false =>
    refine absurd ?_ hm
    unfold mr
    rw [hS, if_neg (by decide)]
    exact hz v (cmp_step (I.2.2.2.1 (A k) (I.2.2.1 k hk).2).2.1 hs e q)
theorem mr_0 {S : Nat → Bool} {R : Nat → Nat} {M v : Nat} (hM : 0 < M) (hm : mr S M R v = 0) : S v = false := by
  cases hS : S v with
  | false => rfl
  | true =>
    unfold mr at hm
    rw [hS, if_pos rfl] at hm
    omega
theorem sp_room (I : SpI w h K c0 S A L k s) {v : Nat} (hv : v < w * h) (hm : S v = false) : L + 1 ≤ w * h := by
  have q := ct_put hm (w * h)
  rw [if_pos hv, ← I.1] at q
  rw [← q]
  exact ct_le _ _
theorem sp_le (I : SpI w h K c0 S A L k s) : L ≤ w * h := by rw [I.1]; exact ct_le _ _
theorem sp_add (I : SpI w h K c0 S A L k s) (hk : k < L) (hs : s < 4) {v : Nat} (e : nbr w h (A k) s = some v) (q : K v = K c0) (hm : S v = false) : SpI w h K c0 (sA S v) (uA A L v) (L + 1) k (s + 1) := by
  obtain ⟨i1, i2, i3, i4, i5, i6⟩ := I
  have hv : v < w * h := nbr_lt (i3 k hk).1 e
  have hA : ∀ j, j < L → uA A L v j = A j := fun j hj => if_neg (Nat.ne_of_lt hj)
  have hL : uA A L v L = v := if_pos rfl
  have hS : ∀ c, S c = true → sA S v c = true := fun c z => by unfold sA; rw [z]; rfl
  have hSv : sA S v v = true := by unfold sA; rw [decide_eq_true rfl, Bool.or_true]
  refine ⟨?_, hS _ i2, fun j hj => ?_, fun c z => ?_, fun j hj t ht u eu qu => ?_, fun t ht u eu qu => ?_⟩
  · have z := ct_put hm (w * h)
    rw [if_pos hv, ← i1] at z
    exact z.symm
  · rcases Nat.lt_succ_iff_lt_or_eq.mp hj with z | z
    · rw [hA j z]; exact ⟨(i3 j z).1, hS _ (i3 j z).2⟩
    · subst z; rw [hL]; exact ⟨hv, hSv⟩
  · unfold sA at z
    rcases Bool.or_eq_true_iff.mp z with z | z
    · obtain ⟨a, b, j, hj, ej⟩ := i4 c z
      exact ⟨a, b, j, by omega, by rw [hA j hj]; exact ej⟩
    · have ec : c = v := of_decide_eq_true z
      subst ec
      exact ⟨hv, cmp_step (i4 (A k) (i3 k hk).2).2.1 hs e q, L, by omega, hL⟩
  · rw [hA j (by omega)] at eu
    exact hS _ (i5 j hj t ht u eu qu)
  · rw [hA k hk] at eu
    rcases Nat.lt_succ_iff_lt_or_eq.mp ht with z | z
    · exact hS _ (i6 t z u eu qu)
    · subst z
      rw [e] at eu
      cases eu
      exact hSv
theorem sp_next (I : SpI w h K c0 S A L k 4) : SpI w h K c0 S A L (k + 1) 0 := by
  obtain ⟨i1, i2, i3, i4, i5, i6⟩ := I
  refine ⟨i1, i2, i3, i4, fun j hj => ?_, fun t ht => absurd ht (Nat.not_lt_zero t)⟩
  rcases Nat.lt_succ_iff_lt_or_eq.mp hj with z | z
  · exact i5 j z
  · subst z; exact i6
theorem sp_end (I : SpI w h K c0 S A L L 0) : S = cmp w h K c0 := by
  obtain ⟨i1, i2, i3, i4, i5, i6⟩ := I
  funext c
  cases hc : cmp w h K c0 c with
  | true =>
    refine (cmp_iff.mp hc) (fun u => S u = true) i2 (fun u v s hu hs e hv => ?_)
    obtain ⟨_, _, j, hj, ej⟩ := i4 u hu
    exact i5 j hj s hs v (by rw [ej]; exact e) hv
  | false =>
    cases hS : S c with
    | false => rfl
    | true => rw [(i4 c hS).2.1] at hc; cases hc
theorem sp_size (I : SpI w h K c0 S A L L 0) : L = rsz w h K c0 := by
  unfold rsz
  rw [← sp_end I]
  exact I.1
end SP
theorem upd_mr {S : Nat → Bool} {M v n : Nat} {R : Nat → Nat} {G : Nat → Int32} (hv : v < n) : upd (zfill (kI (mr S M R)) G n) v (nI M) = zfill (kI (mr (sA S v) M R)) G n := by
  funext c
  unfold upd zfill kI mr sA
  by_cases e : c = v
  · subst e
    simp [hv]
  · simp [e]
theorem upd_mr0 {M v n : Nat} {R : Nat → Nat} {G : Nat → Int32} (hv : v < n) : upd (zfill (kI R) G n) v (nI M) = zfill (kI (mr (fun c => decide (c = v)) M R)) G n := by
  funext c
  unfold upd zfill kI mr
  by_cases e : c = v
  · subst e
    simp [hv]
  · simp [e]
theorem upd_line {A : Nat → Nat} {G : Nat → Int32} {L v : Nat} : upd (zfill (kI A) G L) L (nI v) = zfill (kI (uA A L v)) G (L + 1) := by
  funext j
  unfold upd zfill kI uA
  by_cases e : j = L
  · subst e
    simp
  · by_cases q : j < L
    · rw [if_neg e, if_pos q, if_pos (show j < L + 1 by omega), if_neg e]
    · rw [if_neg e, if_neg q, if_neg (show ¬ j < L + 1 by omega)]
theorem upd_line0 {G : Nat → Int32} {v : Nat} : upd G 0 (nI v) = zfill (kI (fun _ => v)) G 1 := by
  funext j
  unfold upd zfill kI
  by_cases e : j = 0
  · subst e; rfl
  · rw [if_neg e, if_neg (show ¬ j < 1 by omega)]
def HgI (w h : Nat) (K R : Nat → Nat) (Z : Nat → Int32) (i : Nat) : Prop :=
  (∀ f, f < i → isF w h K f = true → Z (ct (isF w h K) (f + 1)) = nI (rsz w h K f) ∧ ∀ c, cmp w h K f c = true → R c = ct (isF w h K) (f + 1)) ∧ (∀ c, c < w * h → R c ≠ 0 → ∃ f, f < i ∧ isF w h K f = true ∧ cmp w h K f c = true)
def HgP (w h : Nat) (K R : Nat → Nat) (Z : Nat → Int32) : Prop := ∀ c, c < w * h → K c ≠ 0 → ∃ f, f ≤ c ∧ isF w h K f = true ∧ cmp w h K f c = true ∧ R c = ct (isF w h K) (f + 1) ∧ Z (R c) = nI (rsz w h K c)
section HG
variable {w h : Nat} {K R : Nat → Nat} {Z : Nat → Int32} {i : Nat}
theorem isF_1 {f : Nat} (h1 : isF w h K f = true) : ct (isF w h K) (f + 1) = ct (isF w h K) f + 1 := by rw [ct_succ, h1]; rfl
theorem isF_0 {f : Nat} (h1 : isF w h K f = false) : ct (isF w h K) (f + 1) = ct (isF w h K) f := by rw [ct_succ, h1]; rfl
theorem ct_mono (p : Nat → Bool) {a b : Nat} (hab : a ≤ b) : ct p a ≤ ct p b := by
  obtain ⟨d, rfl⟩ : ∃ d, b = a + d := ⟨b - a, by omega⟩
  rw [ct_split]; omega
theorem hg_0 : HgI w h K (fun _ => 0) Z 0 := ⟨fun f hf => absurd hf (Nat.not_lt_zero f), fun _ _ q => absurd rfl q⟩
theorem hg_skip (I : HgI w h K R Z i) (hF : isF w h K i = false) : HgI w h K R Z (i + 1) := by
  refine ⟨fun f hf q => ?_, fun c hc q => ?_⟩
  · rcases Nat.lt_succ_iff_lt_or_eq.mp hf with z | z
    · exact I.1 f z q
    · subst z; rw [hF] at q; cases q
  · obtain ⟨f, h1, h2⟩ := I.2 c hc q
    exact ⟨f, by omega, h2⟩
theorem hg_no0 (q : K i = 0) : isF w h K i = false := by
  cases e : isF w h K i with
  | false => rfl
  | true => exact absurd q (isF_iff.mp e).1
theorem hg_no1 (I : HgI w h K R Z i) (hi : i < w * h) (q : R i ≠ 0) : isF w h K i = false := by
  obtain ⟨f, h1, h2, h3⟩ := I.2 i hi q
  cases e : isF w h K i with
  | false => rfl
  | true =>
    have := (isF_iff.mp e).2 f h1
    rw [cmp_symm (Nat.lt_trans h1 hi) h3] at this
    cases this
theorem hg_new (I : HgI w h K R Z i) (hi : i < w * h) (hK : K i ≠ 0) (q : R i = 0) : isF w h K i = true := by
  refine isF_iff.mpr ⟨hK, fun d hd => ?_⟩
  cases e : cmp w h K i d with
  | false => rfl
  | true =>
    exfalso
    have hd2 := cmp_lt hi e
    have hKd : K d ≠ 0 := by rw [cmp_col e]; exact hK
    obtain ⟨f, f1, f2, f3⟩ := has_first (w := w) (h := h) (K := K) (d + 1) d (by omega) hd2 hKd
    have r := (I.1 f (by omega) f2).2 i (cmp_trans f3 (cmp_symm hi e))
    rw [q, isF_1 f2] at r
    omega
theorem hg_z (I : HgI w h K R Z i) (hi : i < w * h) (q : R i = 0) : ∀ c, cmp w h K i c = true → R c = 0 := by
  intro c hc
  have hc2 := cmp_lt hi hc
  rcases Nat.eq_zero_or_pos (R c) with z | z
  · exact z
  · exfalso
    obtain ⟨f, f1, f2, f3⟩ := I.2 c hc2 (by omega)
    have r := (I.1 f f1 f2).2 i (cmp_trans f3 (cmp_symm hi hc))
    rw [q, isF_1 f2] at r
    omega
theorem hg_step (I : HgI w h K R Z i) (hi : i < w * h) (hF : isF w h K i = true) : HgI w h K (mr (cmp w h K i) (ct (isF w h K) i + 1) R) (upd Z (ct (isF w h K) i + 1) (nI (rsz w h K i))) (i + 1) := by
  refine ⟨fun f hf q => ?_, fun c hc q => ?_⟩
  · rcases Nat.lt_succ_iff_lt_or_eq.mp hf with z | z
    · obtain ⟨a, b⟩ := I.1 f z q
      refine ⟨?_, fun c hc => ?_⟩
      · have := ct_mono (isF w h K) (show f + 1 ≤ i by omega)
        unfold upd
        rw [if_neg (by omega)]
        exact a
      · unfold mr
        rw [if_neg (fun e => by
          have := first_one q hF (Nat.lt_trans z hi) hi hc e
          omega)]
        exact b c hc
    · subst z
      rw [isF_1 hF]
      refine ⟨if_pos rfl, fun c hc => if_pos hc⟩
  · cases e : cmp w h K i c with
    | true => exact ⟨i, by omega, hF, e⟩
    | false =>
      unfold mr at q
      rw [e, if_neg (by decide)] at q
      obtain ⟨f, f1, f2⟩ := I.2 c hc q
      exact ⟨f, by omega, f2⟩
theorem hg_end (I : HgI w h K R Z (w * h)) : HgP w h K R Z := by
  intro c hc hK
  obtain ⟨f, f1, f2, f3⟩ := has_first (w := w) (h := h) (K := K) (c + 1) c (by omega) hc hK
  have hf : f < w * h := Nat.lt_of_le_of_lt f1 hc
  obtain ⟨a, b⟩ := I.1 f hf f2
  refine ⟨f, f1, f2, f3, b c f3, ?_⟩
  rw [b c f3, a, rsz_same hf f3]
theorem hp_le (P : HgP w h K R Z) {c : Nat} (hc : c < w * h) (hK : K c ≠ 0) : 0 < R c ∧ R c ≤ w * h := by
  obtain ⟨f, f1, f2, f3, f4, _⟩ := P c hc hK
  have := ct_le (isF w h K) (f + 1)
  rw [f4, isF_1 f2] at *
  omega
/-- regions of a colour: a cell is a first one if its number was not seen -/
theorem hp_seen (P : HgP w h K R Z) {c seen col : Nat} (hc : c < w * h) (hK : K c = col) (h0 : col ≠ 0) (h1 : seen ≤ ct (isF w h K) c) (h2 : ∀ d, d < c → K d = col → R d ≤ seen) : (R c ≤ seen ↔ isF w h K c = false) := by
  obtain ⟨f, f1, f2, f3, f4, _⟩ := P c hc (by rw [hK]; exact h0)
  constructor
  · intro q
    cases e : isF w h K c with
    | false => rfl
    | true =>
      have ef : f = c := first_one f2 e (Nat.lt_of_le_of_lt f1 hc) hc f3 (cmp_self c)
      subst ef
      rw [f4, isF_1 f2] at q
      omega
  · intro q
    have hfc : f < c := by
      rcases Nat.lt_or_eq_of_le f1 with z | z
      · exact z
      · subst z; rw [f2] at q; cases q
    have hKf : K f = col := by rw [← cmp_col f3]; exact hK
    have r := h2 f hfc hKf
    obtain ⟨f', g1, g2, g3, g4, _⟩ := P f (Nat.lt_trans hfc hc) (by rw [hKf]; exact h0)
    have ef : f' = f := first_one g2 f2 (by omega) (by omega) g3 (cmp_self f)
    subst ef
    rw [f4, ← g4]
    exact r
end HG
noncomputable def sz0 (w h : Nat) (K : Nat → Nat) (c : Nat) : Nat := if K c = 0 then 0 else rsz w h K c
noncomputable def rsm (w h : Nat) (K : Nat → Nat) (col i : Nat) : Nat := ct (fun c => isF w h K c && decide (K c = col)) i
noncomputable def rmx (w h : Nat) (K : Nat → Nat) (col : Nat) : Nat → Nat
  | 0 => 0
  | i + 1 => if K i = col then (if rmx w h K col i < rsz w h K i then rsz w h K i else rmx w h K col i) else rmx w h K col i
theorem rsz_le (w h : Nat) (K : Nat → Nat) (c : Nat) : rsz w h K c ≤ w * h := ct_le _ _
theorem rmx_le (w h : Nat) (K : Nat → Nat) (col : Nat) : ∀ i, rmx w h K col i ≤ w * h
  | 0 => Nat.zero_le _
  | i + 1 => by
    have h1 := rsz_le w h K i
    have h2 := rmx_le w h K col i
    rw [rmx]
    split
    · split
      · exact h1
      · exact h2
    · exact h2
def bo1 (w h : Nat) (K : Nat → Nat) (c s : Nat) : Bool := match nbr w h c s with
  | none => false
  | some d => decide (K c ≠ 0 ∧ K d ≠ 0 ∧ K c ≠ K d)
theorem bo1_none {w h : Nat} {K : Nat → Nat} {c s : Nat} (e : nbr w h c s = none) : bo1 w h K c s = false := by unfold bo1; rw [e]
theorem bo1_some {w h : Nat} {K : Nat → Nat} {c s d : Nat} (e : nbr w h c s = some d) : bo1 w h K c s = decide (K c ≠ 0 ∧ K d ≠ 0 ∧ K c ≠ K d) := by unfold bo1; rw [e]
def boS (w h : Nat) (K : Nat → Nat) (c : Nat) : Nat → Nat
  | 0 => 0
  | j + 1 => boS w h K c j + bN (bo1 w h K c (2 * j + 1))
def boN (w h : Nat) (K : Nat → Nat) : Nat → Nat
  | 0 => 0
  | c + 1 => boN w h K c + boS w h K c 2
theorem boN_le (w h : Nat) (K : Nat → Nat) : ∀ c, boN w h K c ≤ 2 * c
  | 0 => Nat.le_refl 0
  | c + 1 => by
    have := boN_le w h K c
    have q : boS w h K c 2 = 0 + bN (bo1 w h K c 1) + bN (bo1 w h K c 3) := rfl
    have b1 : bN (bo1 w h K c 1) ≤ 1 := by cases bo1 w h K c 1 <;> decide
    have b3 : bN (bo1 w h K c 3) ≤ 1 := by cases bo1 w h K c 3 <;> decide
    rw [boN, q]
    omega
def stN (w h nd : Nat) (T : Nat → Bool) (K : Nat → Nat) : Nat → Bool
  | 0 => true
  | i + 1 => stN w h nd T K i && decide (nxt w h nd T K i = K i)
theorem stN_no {w h nd : Nat} {T : Nat → Bool} {K : Nat → Nat} {c : Nat} (q : nxt w h nd T K c ≠ K c) : ∀ n, c < n → stN w h nd T K n = false
  | 0, hc => absurd hc (Nat.not_lt_zero c)
  | n + 1, hc => by
    rw [stN]
    rcases Nat.lt_succ_iff_lt_or_eq.mp hc with z | z
    · rw [stN_no q n z]; rfl
    · subst z; rw [decide_eq_false q, Bool.and_false]
def allN (K : Nat → Nat) (n : Nat) : Nat := if ccN K (K 0) n = n then K 0 else 0
