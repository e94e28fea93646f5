theorem mr_z {S : Nat → Bool} {M v : Nat} {R : Nat → Nat} (h0 : 0 < M) (hM : M < 1000) (e : nI (mr S M R v) = 0) : S v = false := by
  cases hS : S v with
  | false => rfl
  | true =>
    exfalso
    unfold mr at e
    rw [hS, if_pos rfl] at e
    have := (nI_eq (a := M) (b := 0) (by omega) (by omega)).mp e
    omega
theorem mr_nz {S : Nat → Bool} {M v : Nat} {R : Nat → Nat} (e : ¬ nI (mr S M R v) = 0) : mr S M R v ≠ 0 := fun q => e (by rw [q]; rfl)
theorem hg_le {w h : Nat} {K R : Nat → Nat} {Z : Nat → Int32} {i c : Nat} (I : HgI w h K R Z i) (hc : c < w * h) (hi : i ≤ w * h) : R c ≤ w * h := by
  rcases Nat.eq_zero_or_pos (R c) with z | z
  · omega
  · obtain ⟨f, f1, f2, f3⟩ := I.2 c hc (by omega)
    have r := (I.1 f f1 f2).2 c f3
    have := ct_le (isF w h K) (f + 1)
    omega
theorem max_nI {a b : Nat} (ha : a < 2 ^ 31) (hb : b < 2 ^ 31) : (if nI a < nI b then nI b else nI a) = nI (if a < b then b else a) := by
  by_cases q : a < b
  · rw [if_pos q, if_pos ((nI_ltI ha hb).mpr q)]
  · rw [if_neg q, if_neg (fun z => q ((nI_ltI ha hb).mp z))]
theorem rmx_y {w h : Nat} {K : Nat → Nat} {col i : Nat} (e : K i = col) : rmx w h K col (i + 1) = if rmx w h K col i < rsz w h K i then rsz w h K i else rmx w h K col i := by rw [rmx, if_pos e]
theorem rmx_n {w h : Nat} {K : Nat → Nat} {col i : Nat} (e : ¬ K i = col) : rmx w h K col (i + 1) = rmx w h K col i := by rw [rmx, if_neg e]
theorem rsm_y {w h : Nat} {K : Nat → Nat} {col i : Nat} (e : K i = col) (f : isF w h K i = true) : rsm w h K col (i + 1) = rsm w h K col i + 1 := by
  unfold rsm
  rw [ct_succ, f, decide_eq_true e]; rfl
theorem rsm_n {w h : Nat} {K : Nat → Nat} {col i : Nat} (e : ¬ K i = col) : rsm w h K col (i + 1) = rsm w h K col i := by
  unfold rsm
  rw [ct_succ, decide_eq_false e, Bool.and_false]; rfl
theorem rsm_f {w h : Nat} {K : Nat → Nat} {col i : Nat} (f : isF w h K i = false) : rsm w h K col (i + 1) = rsm w h K col i := by
  unfold rsm
  rw [ct_succ, f]; rfl
theorem hp_rank {w h : Nat} {K R : Nat → Nat} {Z : Nat → Int32} (P : HgP w h K R Z) {c : Nat} (hc : c < w * h) (hK : K c ≠ 0) : R c ≤ ct (isF w h K) (c + 1) := by
  obtain ⟨f, f1, f2, f3, f4, _⟩ := P c hc hK
  rw [f4]
  exact ct_mono _ (by omega)
def ccF (K : Nat → Nat) (n j : Nat) : Nat := ccN K j n
theorem ccN_le (K : Nat → Nat) (j n : Nat) : ccN K j n ≤ n := ct_le _ _
theorem chg_le (w h nd : Nat) (T : Nat → Bool) (K : Nat → Nat) : chg w h nd T K ≤ w * h := ct_le _ _
theorem all_le {K : Nat → Nat} (hK : ∀ c, K c ≤ 4) (n : Nat) : allN K n ≤ 4 := by
  unfold allN
  split
  · exact hK 0
  · omega
def winF (w h nd : Nat) (T : Nat → Bool) (col : Nat) : Nat → (Nat → Nat) → Bool
  | 0, K => decide (allN K (w * h) = col)
  | f + 1, K => if allN K (w * h) = col then true else if chg w h nd T K = 0 then false else winF w h nd T col f (wav w h nd T K)
def put (K : Nat → Nat) (o : Option Nat) (col : Nat) : Nat → Nat := match o with
  | none => K
  | some d => fun c => if c = d then col else K c
theorem put_le {K : Nat → Nat} (hK : ∀ c, K c ≤ 4) {o : Option Nat} {col : Nat} (hc : col ≤ 4) : ∀ c, put K o col c ≤ 4 := by
  intro c
  cases o with
  | none => exact hK c
  | some d =>
    show (if c = d then col else K c) ≤ 4
    split
    · exact hc
    · exact hK c
theorem z_lts {P : Nat → Prop} {i : Nat} (h1 : ∀ d, d < i → P d) (h2 : P i) : ∀ d, d < i + 1 → P d := fun d hd => by
  rcases Nat.lt_succ_iff_lt_or_eq.mp hd with z | z
  · exact h1 d z
  · subst z; exact h2
