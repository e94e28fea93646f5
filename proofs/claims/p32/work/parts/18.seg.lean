/-! worlds in segments: a list of small worlds laid end to end; a cell is reached by its segment's place and its own place there, so that blocks of a variable number of cells may stand anywhere -/
abbrev gW : Type := List va_W
theorem sg_at : ∀ (segs : gW) (k : Nat) (b : va_W) (i : Nat) (q : Nat × va_E), segs[k]? = some b → b[i]? = some q → ∃ q0 : Nat, segs.flatten[q0]? = some q ∧ ∀ x : Nat × va_E, segs.flatten.set q0 x = (segs.set k (b.set i x)).flatten
  | [], k, b, i, q, h, _ => by simp at h
  | s :: segs, 0, b, i, q, h, hi => by
      have e : s = b := by simpa using h
      subst e
      have hl : i < s.length := (List.getElem?_eq_some_iff.mp hi).1
      refine ⟨i, ?_, fun x => ?_⟩
      · rw [List.flatten_cons, List.getElem?_append_left hl]; exact hi
      · rw [List.flatten_cons, List.set_append_left _ _ hl]; rfl
  | s :: segs, k + 1, b, i, q, h, hi => by
      obtain ⟨q0, h1, h2⟩ := sg_at segs k b i q (by simpa using h) hi
      refine ⟨s.length + q0, ?_, fun x => ?_⟩
      · rw [List.flatten_cons, List.getElem?_append_right (Nat.le_add_right _ _), Nat.add_sub_cancel_left]; exact h1
      · rw [List.flatten_cons, List.set_append_right _ _ (Nat.le_add_right _ _), Nat.add_sub_cancel_left, h2 x]; rfl
theorem sg_memP {D : va_G} {cl : List vw_C} {ws : va_W} {H : Heap} : va_P D cl ws H ↔ ∀ q ∈ ws, va_at D cl q H := by
  constructor
  · intro h q hq
    obtain ⟨k, hk⟩ := List.getElem?_of_mem hq
    exact h k q hk
  · exact fun h k q hk => h q (List.mem_of_getElem? hk)
theorem sg_nd : ∀ {l : List Nat}, (∀ (i j a : Nat), l[i]? = some a → l[j]? = some a → i = j) ↔ l.Nodup
  | [] => by simp
  | x :: l => by
    have ih := @sg_nd l
    rw [List.nodup_cons, ← ih]
    constructor
    · intro h
      refine ⟨fun hx => ?_, fun i j a hi hj => ?_⟩
      · obtain ⟨k, hk⟩ := List.getElem?_of_mem hx
        have := h 0 (k + 1) x rfl (by simpa using hk)
        omega
      · have := h (i + 1) (j + 1) a (by simpa using hi) (by simpa using hj)
        omega
    · rintro ⟨h1, h2⟩ i j a hi hj
      cases i with
      | zero =>
        cases j with
        | zero => rfl
        | succ j =>
          have e : x = a := by simpa using hi
          subst e
          exact absurd (List.mem_of_getElem? (by simpa using hj)) h1
      | succ i =>
        cases j with
        | zero =>
          have e : x = a := by simpa using hj
          subst e
          exact absurd (List.mem_of_getElem? (by simpa using hi)) h1
        | succ j => rw [h2 i j a (by simpa using hi) (by simpa using hj)]
theorem sg_memD {A : Nat → Prop} {ws : va_W} : va_D A ws ↔ (ws.map Prod.fst).Nodup ∧ ∀ q ∈ ws, A q.1 := by
  rw [← sg_nd]
  constructor
  · rintro ⟨h1, h2⟩
    refine ⟨fun i j a hi hj => ?_, fun q hq => ?_⟩
    · rw [List.getElem?_map] at hi hj
      obtain ⟨p, hp, e1⟩ := Option.map_eq_some_iff.mp hi
      obtain ⟨q, hq, e2⟩ := Option.map_eq_some_iff.mp hj
      exact h1 i j p q hp hq (e1.trans e2.symm)
    · obtain ⟨k, hk⟩ := List.getElem?_of_mem hq
      exact h2 k q hk
  · rintro ⟨h1, h2⟩
    refine ⟨fun i j p q hp hq e => h1 i j p.1 ?_ ?_, fun k q hk => h2 q (List.mem_of_getElem? hk)⟩
    · rw [List.getElem?_map, hp]; rfl
    · rw [List.getElem?_map, hq, e]; rfl
theorem sg_memA {ws : va_W} {sz q : Nat} : va_A ws sz q ↔ (∃ e, (q, e) ∈ ws) ∨ sz ≤ q := by
  constructor
  · rintro (⟨k, e, h⟩ | h)
    · exact Or.inl ⟨e, List.mem_of_getElem? h⟩
    · exact Or.inr h
  · rintro (⟨e, h⟩ | h)
    · obtain ⟨k, hk⟩ := List.getElem?_of_mem h
      exact Or.inl ⟨k, e, hk⟩
    · exact Or.inr h
theorem sg_permP {D : va_G} {cl : List vw_C} {a b : va_W} {H : Heap} (h : a.Perm b) (hP : va_P D cl a H) : va_P D cl b H := sg_memP.mpr (fun q hq => sg_memP.mp hP q (h.mem_iff.mpr hq))
theorem sg_permD {A : Nat → Prop} {a b : va_W} (h : a.Perm b) (hD : va_D A a) : va_D A b := by
  have h1 := sg_memD.mp hD
  exact sg_memD.mpr ⟨(h.map Prod.fst).nodup_iff.mp h1.1, fun q hq => h1.2 q (h.mem_iff.mpr hq)⟩
theorem sg_perm {a b : gW} (h : a.Perm b) : a.flatten.Perm b.flatten := by
  induction h with
  | nil => exact List.Perm.refl _
  | cons x _ ih => rw [List.flatten_cons, List.flatten_cons]; exact ih.append_left x
  | swap x y l =>
    rw [List.flatten_cons, List.flatten_cons, List.flatten_cons, List.flatten_cons, ← List.append_assoc, ← List.append_assoc]
    exact (List.perm_append_comm).append_right _
  | trans _ _ i1 i2 => exact i1.trans i2
theorem sg_range {α : Type} : ∀ (l : List α), (List.range l.length).filterMap (fun i => l[i]?) = l
  | [] => rfl
  | x :: l => by
    rw [List.length_cons, List.range_succ_eq_map, List.filterMap_cons]
    show x :: List.filterMap (fun i => (x :: l)[i]?) (List.map Nat.succ (List.range l.length)) = x :: l
    rw [List.filterMap_map]
    congr 1
    exact sg_range l
theorem sg_fm {α : Type} {f : Nat → Option α} : ∀ {is : List Nat} {C : List α}, is.map f = C.map some → is.filterMap f = C
  | [], [], _ => rfl
  | [], c :: C, h => by simp at h
  | i :: is, [], h => by simp at h
  | i :: is, c :: C, h => by
    have h1 := List.cons.inj h
    rw [List.filterMap_cons, h1.1, sg_fm h1.2]
/-- the segments at the places is, then those at the places js: all of them -/
theorem sg_pick {segs C : gW} (is js : List Nat) (n : Nat) (hn : segs.length = n) (hC : is.map (fun i => segs[i]?) = C.map some) (hp : (is ++ js).isPerm (List.range n) = true) : segs.Perm (C ++ js.filterMap (fun i => segs[i]?)) := by
  subst hn
  have h := (List.isPerm_iff.mp hp).filterMap (fun i => segs[i]?)
  rw [sg_range, List.filterMap_append, sg_fm hC] at h
  exact h.symm
theorem sg_take {segs C : gW} {D : va_G} {cl : List vw_C} {A : Nat → Prop} {H : Heap} (hP : va_P D cl segs.flatten H) (hD : va_D A segs.flatten) (is js : List Nat) (n : Nat) (hn : segs.length = n) (hC : is.map (fun i => segs[i]?) = C.map some) (hp : (is ++ js).isPerm (List.range n) = true) : va_P D cl C.flatten H ∧ va_D A C.flatten := by
  have h := sg_perm (sg_pick is js n hn hC hp)
  rw [List.flatten_append] at h
  have h1 := sg_memP.mp (sg_permP h hP)
  have h2 := sg_memD.mp (sg_permD h hD)
  refine ⟨sg_memP.mpr (fun q hq => h1 q (List.mem_append_left _ hq)), sg_memD.mpr ⟨?_, fun q hq => h2.2 q (List.mem_append_left _ hq)⟩⟩
  have h3 := h2.1
  rw [List.map_append] at h3
  exact (List.nodup_append.mp h3).1
theorem sg_free {C : gW} {A0 : Nat → Prop} {H0 H : Heap} {locs : List Loc} (hDC : va_D A0 C.flatten) (hS : va_S A0 H0 H locs) (hA : ∀ q, H0.size ≤ q → A0 q) : ∀ q, va_A C.flatten H.size q → A0 q := by
  intro q h
  rcases sg_memA.mp h with ⟨e, h⟩ | h
  · exact (sg_memD.mp hDC).2 (q, e) h
  · exact hA q (Nat.le_trans hS.1 h)
/-- behind a call: fin holds what the callee left at the places fs, and at the places gs the caller's other segments as they were -/
theorem sg_frame {A0 : Nat → Prop} {D : va_G} {cl : List vw_C} {segs C W1 fin : gW} {H H1 : Heap} (hP : va_P D cl segs.flatten H) (hD : va_D A0 segs.flatten) (is js : List Nat) (n : Nat) (hn : segs.length = n) (hC : is.map (fun i => segs[i]?) = C.map some) (hp : (is ++ js).isPerm (List.range n) = true)
    (hk : ∀ q : Nat, q < H.size → ¬ va_A C.flatten H.size q → H1[q]? = H[q]?) (hF : ∀ q, va_A C.flatten H.size q → A0 q) (hP1 : va_P D cl W1.flatten H1) (hD1 : va_D (va_A C.flatten H.size) W1.flatten)
    (fs gs : List Nat) (n1 : Nat) (hn1 : fin.length = n1) (hf : fs.map (fun i => fin[i]?) = W1.map some) (hg : gs.filterMap (fun i => fin[i]?) = js.filterMap (fun i => segs[i]?)) (hq : (fs ++ gs).isPerm (List.range n1) = true) : va_P D cl fin.flatten H1 ∧ va_D A0 fin.flatten := by
  have h := sg_perm (sg_pick is js n hn hC hp)
  have h9 := sg_perm (sg_pick fs gs n1 hn1 hf hq)
  rw [List.flatten_append] at h
  rw [hg, List.flatten_append] at h9
  have hP2 := sg_memP.mp (sg_permP h hP)
  have hD2 := sg_memD.mp (sg_permD h hD)
  rw [List.map_append, List.nodup_append] at hD2
  obtain ⟨⟨-, nR, nX⟩, hA2⟩ := hD2
  have apart : ∀ q ∈ (js.filterMap (fun i => segs[i]?)).flatten, q.1 < H.size ∧ ¬ va_A C.flatten H.size q.1 := by
    intro q hq1
    have hl := (hP2 q (List.mem_append_right _ hq1)).lt
    refine ⟨hl, fun z => ?_⟩
    rcases sg_memA.mp z with ⟨e, he⟩ | z
    · exact nX q.1 (List.mem_map.mpr ⟨(q.1, e), he, rfl⟩) q.1 (List.mem_map_of_mem (f := Prod.fst) hq1) rfl
    · omega
  have hD1' := sg_memD.mp hD1
  constructor
  · refine sg_permP h9.symm (sg_memP.mpr (fun q hq1 => ?_))
    rcases List.mem_append.mp hq1 with z | z
    · exact sg_memP.mp hP1 q z
    · obtain ⟨g1, g2⟩ := apart q z
      exact (hP2 q (List.mem_append_right _ z)).kept (hk q.1 g1 g2)
  · refine sg_permD h9.symm (sg_memD.mpr ⟨?_, fun q hq1 => ?_⟩)
    · rw [List.map_append, List.nodup_append]
      refine ⟨hD1'.1, nR, fun a ha b hb e => ?_⟩
      obtain ⟨x, hx, rfl⟩ := List.mem_map.mp ha
      obtain ⟨y, hy, rfl⟩ := List.mem_map.mp hb
      exact (apart y hy).2 (by rw [← e]; exact hD1'.2 x hx)
    · rcases List.mem_append.mp hq1 with z | z
      · exact hF q.1 (hD1'.2 q z)
      · exact hA2 q (List.mem_append_right _ z)
/-- blocks: n arrays of m places each, at the addresses r, with the contents M -/
def gB (n : Nat) (r : Nat → Nat) (cA : ClassId) (m : Nat) (M : Nat → Nat → Int32) : va_W := (List.range n).map (fun i => (r i, .inl (cA, m, .inl (M i))))
theorem gB_at {n : Nat} {r : Nat → Nat} {cA : ClassId} {m : Nat} {M : Nat → Nat → Int32} {i : Nat} (h : i < n) : (gB n r cA m M)[i]? = some (r i, .inl (cA, m, .inl (M i))) := by
  rw [gB, List.getElem?_map, List.getElem?_range h]; rfl
theorem gB_cong {n : Nat} {r : Nat → Nat} {cA : ClassId} {m : Nat} {M M2 : Nat → Nat → Int32} (h : ∀ i, i < n → M i = M2 i) : gB n r cA m M = gB n r cA m M2 := List.map_congr_left (fun i hi => by rw [h i (List.mem_range.mp hi)])
def gU (M : Nat → Nat → Int32) (i j : Nat) (v : Int32) : Nat → Nat → Int32 := fun a => if a = i then upd (M a) j v else M a
theorem gB_set {n : Nat} {r : Nat → Nat} {cA : ClassId} {m : Nat} {M : Nat → Nat → Int32} {i : Nat} (h : i < n) (j : Nat) (v : Int32) : (gB n r cA m M).set i (r i, .inl (cA, m, .inl (upd (M i) j v))) = gB n r cA m (gU M i j v) := by
  refine List.ext_getElem? (fun k => ?_)
  rw [List.getElem?_set]
  by_cases hk : i = k
  · subst hk
    rw [if_pos rfl, gB_at h, if_pos (by rw [gB, List.length_map, List.length_range]; exact h)]
    simp [gU]
  · rw [if_neg hk]
    unfold gB
    rw [List.getElem?_map, List.getElem?_map]
    by_cases hl : k < n
    · rw [List.getElem?_range hl]
      simp [gU, Ne.symm hk]
    · rw [List.getElem?_eq_none (by rw [List.length_range]; omega)]; rfl
/-- the outer array of a block -/
def gQ (n : Nat) (r : Nat → Nat) : Nat → Option Nat := fun i => if i < n then some (r i) else none
theorem gQ_at {n : Nat} {r : Nat → Nat} {i : Nat} (h : i < n) : va_rf (gQ n r i) = .ref (r i) := by rw [gQ, if_pos h]; rfl
