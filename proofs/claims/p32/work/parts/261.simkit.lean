/-! the law's own map: its arrays by the map's mathematics; what its small methods answer -/
def gM (w : Nat) (K : Nat → Nat) : Nat → Nat → Int32 := fun x y => nI (K (w * y + x))
def gZ (w : Nat) (T : Nat → Bool) : Nat → Nat → Int32 := fun x y => bz (T (w * y + x))
theorem arrV_ext {cA : ClassId} {n : Nat} {f g : Nat → Int32} (h : ∀ j, j < n → f j = g j) : vp_cell cA (n, .inl f) = vp_cell cA (n, .inl g) := by
  show arrV cA n (fun j => .int (f j)) = arrV cA n (fun j => .int (g j))
  unfold arrV
  congr 1
  apply Array.ext_getElem?
  intro i
  simp only [Array.getElem?_ofFn]
  split
  · rename_i hi
    rw [h i hi]
  · rfl
/-- a block's contents under another name, equal on its places -/
theorem sg_ren {D : va_G} {cl : List vw_C} {A : Nat → Prop} {segs : gW} {H : Heap} (hP : va_P D cl segs.flatten H) (hD : va_D A segs.flatten) (k : Nat) {n m : Nat} {r : Nat → Nat} {cA : ClassId} {M M2 : Nat → Nat → Int32} (hk : segs[k]? = some (gB n r cA m M)) (h : ∀ i j, i < n → j < m → M i j = M2 i j) : va_P D cl (segs.set k (gB n r cA m M2)).flatten H ∧ va_D A (segs.set k (gB n r cA m M2)).flatten := by
  constructor
  · refine sg_memP.mpr (fun q hq => ?_)
    obtain ⟨b, hb, hqb⟩ := List.mem_flatten.mp hq
    rcases List.mem_or_eq_of_mem_set hb with hb | rfl
    · exact sg_memP.mp hP q (List.mem_flatten.mpr ⟨b, hb, hqb⟩)
    · obtain ⟨i, hi, rfl⟩ := List.mem_map.mp hqb
      have hi2 := List.mem_range.mp hi
      have h1 : H[r i]? = some (vp_cell cA (m, .inl (M i))) := sg_memP.mp hP (r i, .inl (cA, m, .inl (M i))) (List.mem_flatten.mpr ⟨_, List.mem_of_getElem? hk, List.mem_map.mpr ⟨i, hi, rfl⟩⟩)
      show H[r i]? = some (vp_cell cA (m, .inl (M2 i)))
      rw [h1, arrV_ext (h i · hi2)]
  · refine zD ?_ hD
    rw [List.map_flatten, List.map_flatten, List.map_set]
    have e : (gB n r cA m M2).map Prod.fst = (gB n r cA m M).map Prod.fst := by
      unfold gB
      rw [List.map_map, List.map_map]
      rfl
    rw [e, zset_self _ _ _ (by rw [List.getElem?_map, hk]; rfl)]
section ZTD
variable {p : Program} {l : Launch} {e : Env} {R : Room} {s : State} {m : MethodId} {args : Array Value} {below : List Frame} {meth : Method} {c : Code} {H : Heap} {locs : List Loc} {cells slots : Nat} {Q : State → Prop}
theorem z_topd {pc : Nat} {ls : Array Slot} {rest : List Value} {x y : UInt64} (h : x = y) (k : W p l e R s m args below meth c H locs cells slots Q (F0 m pc ls (.double y :: rest))) : W p l e R s m args below meth c H locs cells slots Q (F0 m pc ls (.double x :: rest)) := by rw [h]; exact k
end ZTD
/-- at -/
def atI (w h : Nat) (K : Nat → Nat) (x y : Int32) : Int32 := if x < 0 ∨ y < 0 ∨ nI w ≤ x ∨ nI h ≤ y then 0 else nI (K (w * y.toNatClampNeg + x.toNatClampNeg))
theorem atI_out {w h : Nat} {K : Nat → Nat} {x y : Int32} (q : x < 0 ∨ y < 0 ∨ nI w ≤ x ∨ nI h ≤ y) : 0 = atI w h K x y := by rw [atI, if_pos q]
theorem atI_in {w h : Nat} {K : Nat → Nat} {a b : Nat} (gk : gok w h) (ha : a < w) (hb : b < h) : atI w h K (nI a) (nI b) = nI (K (w * b + a)) := by
  obtain ⟨_, g2, _, g4⟩ := gk
  have hn : ¬ (nI a < 0 ∨ nI b < 0 ∨ nI w ≤ nI a ∨ nI h ≤ nI b) := by
    rintro (q | q | q | q)
    · exact nI_pos (by omega) q
    · exact nI_pos (by omega) q
    · exact nI_ge ha (by omega) q
    · exact nI_ge hb (by omega) q
  rw [atI, if_neg hn, nI_clamp (by omega), nI_clamp (by omega)]
theorem atI_at {w h : Nat} {K : Nat → Nat} {x y : Int32} {a b : Nat} (gk : gok w h) (ha : a < w) (hb : b < h) (ea : x = nI a) (eb : y = nI b) : gM w K a b = atI w h K x y := by
  subst ea eb
  rw [atI_in gk ha hb]; rfl
theorem nI_0m1 : (nI 0 - 1 : Int32) < 0 := by decide
theorem nI_sm1 (n : Nat) : (nI (n + 1) - 1 : Int32) = nI n := nI_pred n
/-- one side of a cell -/
theorem sdN {w h : Nat} {K : Nat → Nat} {c s j : Nat} (v : Int32) (hK4 : ∀ c, K c ≤ 4) (hj : 1 ≤ j ∧ j ≤ 4) (hv : (∃ d, nbr w h c s = some d ∧ v = nI (K d)) ∨ (nbr w h c s = none ∧ v = 0)) : (if v = nI j then (1 : Int32) else 0) = nI (bN (nb1 w h (fun d => decide (K d = j)) c s)) := by
  rcases hv with ⟨d, h1, rfl⟩ | ⟨h1, rfl⟩
  · have e : nb1 w h (fun d => decide (K d = j)) c s = decide (K d = j) := nb1_some h1
    rw [e]
    have hd := hK4 d
    by_cases q : K d = j
    · rw [if_pos (by rw [q]), decide_eq_true q]; rfl
    · rw [if_neg (fun z => q ((nI_eq (by omega) (by omega)).mp z)), decide_eq_false q]; rfl
  · have e : nb1 w h (fun d => decide (K d = j)) c s = false := nb1_none h1
    rw [e, if_neg (fun z => by
      have := (nI_eq (a := 0) (b := j) (by omega) (by omega)).mp z
      omega)]
    rfl
section SDN
variable {w h : Nat} {K : Nat → Nat} {x y j : Nat}
theorem sd0 (gk : gok w h) (hK4 : ∀ c, K c ≤ 4) (hx : x < w) (hy : y < h) (hj : 1 ≤ j ∧ j ≤ 4) : (if atI w h K (nI x - 1) (nI y) = nI j then (1 : Int32) else 0) = nI (bN (nb1 w h (fun d => decide (K d = j)) (w * y + x) 0)) := by
  refine sdN _ hK4 hj ?_
  obtain ⟨e1, e2⟩ := wy_mod y hx
  rcases Nat.eq_zero_or_pos x with q | q
  · right
    refine ⟨?_, ?_⟩
    · rw [nbr, if_pos rfl, e1, if_neg (by omega)]
    · rw [q]; exact (atI_out (Or.inl nI_0m1)).symm
  · left
    refine ⟨w * y + x - 1, ?_, ?_⟩
    · rw [nbr, if_pos rfl, e1, if_pos q]
    · obtain ⟨z, rfl⟩ : ∃ z, x = z + 1 := ⟨x - 1, by omega⟩
      rw [nI_sm1, atI_in gk (by omega) hy]
      rfl
theorem sd1 (gk : gok w h) (hK4 : ∀ c, K c ≤ 4) (hx : x < w) (hy : y < h) (hj : 1 ≤ j ∧ j ≤ 4) : (if atI w h K (nI (x + 1)) (nI y) = nI j then (1 : Int32) else 0) = nI (bN (nb1 w h (fun d => decide (K d = j)) (w * y + x) 1)) := by
  refine sdN _ hK4 hj ?_
  obtain ⟨e1, e2⟩ := wy_mod y hx
  obtain ⟨_, g2, _, g4⟩ := id gk
  by_cases q : x < w - 1
  · left
    refine ⟨w * y + x + 1, ?_, ?_⟩
    · rw [nbr, if_neg (by decide), if_pos rfl, e1, if_pos q]
    · rw [atI_in gk (by omega) hy]; rfl
  · right
    refine ⟨?_, ?_⟩
    · rw [nbr, if_neg (by decide), if_pos rfl, e1, if_neg q]
    · exact (atI_out (Or.inr (Or.inr (Or.inl (nI_le (by omega) (by omega)))))).symm
theorem sd2 (gk : gok w h) (hK4 : ∀ c, K c ≤ 4) (hx : x < w) (hy : y < h) (hj : 1 ≤ j ∧ j ≤ 4) : (if atI w h K (nI x) (nI y - 1) = nI j then (1 : Int32) else 0) = nI (bN (nb1 w h (fun d => decide (K d = j)) (w * y + x) 2)) := by
  refine sdN _ hK4 hj ?_
  obtain ⟨e1, e2⟩ := wy_mod y hx
  rcases Nat.eq_zero_or_pos y with q | q
  · right
    refine ⟨?_, ?_⟩
    · rw [nbr, if_neg (by decide), if_neg (by decide), if_pos rfl, e2, if_neg (by omega)]
    · rw [q]; exact (atI_out (Or.inr (Or.inl nI_0m1))).symm
  · left
    refine ⟨w * y + x - w, ?_, ?_⟩
    · rw [nbr, if_neg (by decide), if_neg (by decide), if_pos rfl, e2, if_pos q]
    · obtain ⟨z, rfl⟩ : ∃ z, y = z + 1 := ⟨y - 1, by omega⟩
      rw [nI_sm1, atI_in gk hx (by omega), show w * (z + 1) + x - w = w * z + x by rw [Nat.mul_succ]; omega]
theorem sd3 (gk : gok w h) (hK4 : ∀ c, K c ≤ 4) (hx : x < w) (hy : y < h) (hj : 1 ≤ j ∧ j ≤ 4) : (if atI w h K (nI x) (nI (y + 1)) = nI j then (1 : Int32) else 0) = nI (bN (nb1 w h (fun d => decide (K d = j)) (w * y + x) 3)) := by
  refine sdN _ hK4 hj ?_
  obtain ⟨e1, e2⟩ := wy_mod y hx
  obtain ⟨_, g2, _, g4⟩ := id gk
  by_cases q : y < h - 1
  · left
    refine ⟨w * y + x + w, ?_, ?_⟩
    · rw [nbr, if_neg (by decide), if_neg (by decide), if_neg (by decide), e2, if_pos q]
    · rw [atI_in gk hx (by omega), show w * (y + 1) + x = w * y + x + w by rw [Nat.mul_succ]; omega]
  · right
    refine ⟨?_, ?_⟩
    · rw [nbr, if_neg (by decide), if_neg (by decide), if_neg (by decide), e2, if_neg q]
    · exact (atI_out (Or.inr (Or.inr (Or.inr (nI_le (by omega) (by omega)))))).symm
end SDN
/-- the sides of a cell: as many as it has neighbours of all colours and bare ones -/
theorem five_b {k : Nat} (h : k ≤ 4) : bN (decide (k = 0)) + bN (decide (k = 1)) + bN (decide (k = 2)) + bN (decide (k = 3)) + bN (decide (k = 4)) = 1 := by
  rcases (show k = 0 ∨ k = 1 ∨ k = 2 ∨ k = 3 ∨ k = 4 by omega) with rfl | rfl | rfl | rfl | rfl <;> rfl
theorem side_b {w h : Nat} {K : Nat → Nat} (hK4 : ∀ c, K c ≤ 4) (c s : Nat) : bN (nbr w h c s).isSome = bN (nb1 w h (fun d => decide (K d = 0)) c s) + bN (nb1 w h (fun d => decide (K d = 1)) c s) + bN (nb1 w h (fun d => decide (K d = 2)) c s) + bN (nb1 w h (fun d => decide (K d = 3)) c s) + bN (nb1 w h (fun d => decide (K d = 4)) c s) := by
  cases e : nbr w h c s with
  | none => rw [nb1_none e, nb1_none e, nb1_none e, nb1_none e, nb1_none e]; rfl
  | some d => rw [nb1_some e, nb1_some e, nb1_some e, nb1_some e, nb1_some e, five_b (hK4 d)]; rfl
def sidN (w h x y : Nat) : Nat := bN (decide (0 < x)) + bN (decide (x < w - 1)) + bN (decide (0 < y)) + bN (decide (y < h - 1))
theorem side_sum {w h : Nat} {K : Nat → Nat} (hK4 : ∀ c, K c ≤ 4) {x y : Nat} (hx : x < w) : sidN w h x y = cnbs w h K (w * y + x) 0 + cnbs w h K (w * y + x) 1 + cnbs w h K (w * y + x) 2 + cnbs w h K (w * y + x) 3 + cnbs w h K (w * y + x) 4 := by
  obtain ⟨e1, e2⟩ := wy_mod y hx
  have a0 : (nbr w h (w * y + x) 0).isSome = decide (0 < x) := by
    rw [nbr, if_pos rfl, e1]
    by_cases q : 0 < x
    · rw [if_pos q, decide_eq_true q]; rfl
    · rw [if_neg q, decide_eq_false q]; rfl
  have a1 : (nbr w h (w * y + x) 1).isSome = decide (x < w - 1) := by
    rw [nbr, if_neg (by decide), if_pos rfl, e1]
    by_cases q : x < w - 1
    · rw [if_pos q, decide_eq_true q]; rfl
    · rw [if_neg q, decide_eq_false q]; rfl
  have a2 : (nbr w h (w * y + x) 2).isSome = decide (0 < y) := by
    rw [nbr, if_neg (by decide), if_neg (by decide), if_pos rfl, e2]
    by_cases q : 0 < y
    · rw [if_pos q, decide_eq_true q]; rfl
    · rw [if_neg q, decide_eq_false q]; rfl
  have a3 : (nbr w h (w * y + x) 3).isSome = decide (y < h - 1) := by
    rw [nbr, if_neg (by decide), if_neg (by decide), if_neg (by decide), e2]
    by_cases q : y < h - 1
    · rw [if_pos q, decide_eq_true q]; rfl
    · rw [if_neg q, decide_eq_false q]; rfl
  have b0 := side_b (w := w) (h := h) hK4 (w * y + x) 0
  have b1 := side_b (w := w) (h := h) hK4 (w * y + x) 1
  have b2 := side_b (w := w) (h := h) hK4 (w * y + x) 2
  have b3 := side_b (w := w) (h := h) hK4 (w * y + x) 3
  rw [a0] at b0
  rw [a1] at b1
  rw [a2] at b2
  rw [a3] at b3
  unfold sidN cnbs nbs
  omega
/-- next: is a colour ahead of all others -/
def isB (n : Nat → Nat) (nd k : Nat) : Nat → Bool
  | 0 => decide (nd ≤ n k)
  | o + 1 => isB n nd k o && (decide (o + 1 = k) || decide (n (o + 1) < n k))
theorem isB_iff {n : Nat → Nat} {nd k : Nat} : ∀ {o : Nat}, isB n nd k o = true ↔ nd ≤ n k ∧ ∀ i, 1 ≤ i → i ≤ o → i ≠ k → n i < n k
  | 0 => by
    rw [isB, decide_eq_true_iff]
    exact ⟨fun h => ⟨h, fun i a b => by omega⟩, fun h => h.1⟩
  | o + 1 => by
    rw [isB, Bool.and_eq_true, @isB_iff n nd k o, Bool.or_eq_true, decide_eq_true_iff, decide_eq_true_iff]
    constructor
    · rintro ⟨⟨a, b⟩, c⟩
      refine ⟨a, fun i i1 i2 i3 => ?_⟩
      rcases Nat.lt_or_ge o i with q | q
      · have e : i = o + 1 := by omega
        subst e
        rcases c with c | c
        · exact absurd c i3
        · exact c
      · exact b i i1 q i3
    · rintro ⟨a, b⟩
      refine ⟨⟨a, fun i i1 i2 i3 => b i i1 (by omega) i3⟩, ?_⟩
      by_cases e : o + 1 = k
      · exact Or.inl e
      · exact Or.inr (b (o + 1) (by omega) (Nat.le_refl _) e)
theorem isB_f {n : Nat → Nat} {nd k o : Nat} (h : bz (isB n nd k o) = 0) : 0 = bz (isB n nd k (o + 1)) := by rw [isB, bz_0 h]; rfl
theorem isB_e {n : Nat → Nat} {nd k o : Nat} (h : ¬ bz (isB n nd k o) = 0) (e : o + 1 = k) : 1 = bz (isB n nd k (o + 1)) := by rw [isB, bz_1 h, decide_eq_true e]; rfl
theorem isB_l {n : Nat → Nat} {nd k o : Nat} (h : ¬ bz (isB n nd k o) = 0) (e : n (o + 1) < n k) : 1 = bz (isB n nd k (o + 1)) := by rw [isB, bz_1 h, decide_eq_true e, Bool.or_true]; rfl
theorem isB_g {n : Nat → Nat} {nd k o : Nat} (e : o + 1 ≠ k) (q : n k ≤ n (o + 1)) : 0 = bz (isB n nd k (o + 1)) := by rw [isB, decide_eq_false e, decide_eq_false (Nat.not_lt.mpr q), Bool.or_false, Bool.and_false]; rfl
theorem nx_win {w h nd : Nat} {T : Nat → Bool} {K : Nat → Nat} {c k : Nat} (h1 : 1 ≤ nd) (hT : T c = false) (hk : 1 ≤ k ∧ k ≤ 4) (hb : isB (cnbs w h K c) nd k 4 = true) : nI k = nI (nxt w h nd T K c) := by
  have e : gain w h nd K c = k := (win_iff _ h1 hk).mpr (isB_iff.mp hb)
  rw [nxt, if_neg (by rw [hT]; exact Bool.false_ne_true), e, if_neg (by omega)]
theorem nx_no {w h nd : Nat} {T : Nat → Bool} {K : Nat → Nat} {c : Nat} (h1 : 1 ≤ nd) (hb : ∀ k, 1 ≤ k → k ≤ 4 → isB (cnbs w h K c) nd k 4 = false) : nI (K c) = nI (nxt w h nd T K c) := by
  have e : gain w h nd K c = 0 := by
    refine Nat.eq_zero_of_not_pos (fun q => ?_)
    have hle := gain_le (w := w) (h := h) (K := K) h1 c
    have hf := hb (gain w h nd K c) q hle
    have ht := isB_iff.mpr ((win_iff _ h1 ⟨q, hle⟩).mp (rfl : win (cnbs w h K c) nd = gain w h nd K c))
    rw [hf] at ht
    exact Bool.false_ne_true ht
  unfold nxt
  rw [e]
  split <;> rfl
