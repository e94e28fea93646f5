/-! neighbours counted from the other side -/
theorem ct_or {p q : Nat → Bool} : ∀ {n : Nat}, (∀ k, k < n → ¬ (p k = true ∧ q k = true)) → ct (fun k => p k || q k) n = ct p n + ct q n
  | 0, _ => rfl
  | n + 1, hd => by
    have h1 := hd n (Nat.lt_succ_self n)
    rw [ct_succ, ct_succ, ct_succ, ct_or (fun k hk => hd k (Nat.lt_succ_of_lt hk))]
    cases hp : p n with
    | false =>
      cases hq : q n with
      | false => rfl
      | true => show _ + 1 = _ + 0 + (_ + 1); omega
    | true =>
      cases hq : q n with
      | false => show _ + 1 = _ + 1 + (_ + 0); omega
      | true => exact absurd ⟨hp, hq⟩ h1
section TN
variable {w h nd : Nat} {T : Nat → Bool} {K : Nat → Nat} {S : Nat → Int32} {bd sb : Int32}
theorem nbr_val {c s d : Nat} (hw : 0 < w) (hs : s < 4) (e : nbr w h c s = some d) : (s = 0 ∧ d + 1 = c) ∨ (s = 1 ∧ d = c + 1) ∨ (s = 2 ∧ d + w = c) ∨ (s = 3 ∧ d = c + w) := by
  unfold nbr at e
  rcases (show s = 0 ∨ s = 1 ∨ s = 2 ∨ s = 3 by omega) with rfl | rfl | rfl | rfl
  · rw [if_pos rfl] at e
    split at e
    · rename_i q
      have := Nat.mod_le c w
      cases e
      exact Or.inl ⟨rfl, by omega⟩
    · cases e
  · rw [if_neg (by decide), if_pos rfl] at e
    split at e
    · cases e; exact Or.inr (Or.inl ⟨rfl, rfl⟩)
    · cases e
  · rw [if_neg (by decide), if_neg (by decide), if_pos rfl] at e
    split at e
    · rename_i q
      have hc : w ≤ c := by
        rcases Nat.lt_or_ge c w with z | z
        · rw [Nat.div_eq_of_lt z] at q; exact absurd q (Nat.lt_irrefl 0)
        · exact z
      cases e
      exact Or.inr (Or.inr (Or.inl ⟨rfl, by omega⟩))
    · cases e
  · rw [if_neg (by decide), if_neg (by decide), if_neg (by decide)] at e
    split at e
    · cases e; exact Or.inr (Or.inr (Or.inr ⟨rfl, rfl⟩))
    · cases e
theorem nbr_inj {c s t d : Nat} (hw : 2 ≤ w) (hs : s < 4) (ht : t < 4) (e1 : nbr w h c s = some d) (e2 : nbr w h c t = some d) : s = t := by
  have a := nbr_val (by omega) hs e1
  have b := nbr_val (by omega) ht e2
  omega
def nf (w h c : Nat) (Q : Nat → Bool) (s d : Nat) : Bool := decide (nbr w h c s = some d) && Q d
theorem nf_ct {c s : Nat} (hc : c < w * h) (Q : Nat → Bool) : ct (nf w h c Q s) (w * h) = bN (nb1 w h Q c s) := by
  cases e : nbr w h c s with
  | none =>
    rw [nb1_none e, ct_cong (q := fun _ => false) (fun d _ => by unfold nf; rw [e]; exact Bool.and_eq_false_iff.mpr (Or.inl (decide_eq_false (fun z => by cases z)))), ct_none]; rfl
  | some v =>
    have hv := nbr_lt hc e
    rw [nb1_some e]
    cases hQ : Q v with
    | false =>
      rw [ct_cong (q := fun _ => false) (fun d _ => by
        unfold nf
        rw [e]
        by_cases z : v = d
        · subst z; rw [hQ, Bool.and_false]
        · rw [decide_eq_false (fun y => z (Option.some.inj y))]; rfl), ct_none]; rfl
    | true =>
      have q := ct_put (p := fun _ => false) (x := v) rfl (w * h)
      rw [if_pos hv, ct_none] at q
      rw [ct_cong (q := fun d => false || decide (d = v)) (fun d _ => by
        unfold nf
        rw [e, Bool.false_or]
        by_cases z : v = d
        · subst z; rw [hQ, decide_eq_true rfl, decide_eq_true rfl]; rfl
        · rw [decide_eq_false (fun y => z (Option.some.inj y)), decide_eq_false (fun y => z y.symm)]; rfl), q]; rfl
theorem nbs_ct (g : gok w h) {c : Nat} (hc : c < w * h) (Q : Nat → Bool) : ct (fun d => nany w h (fun e => decide (e = c)) d && Q d) (w * h) = nbs w h Q c := by
  have dis : ∀ s t, s < 4 → t < 4 → s ≠ t → ∀ d, ¬ (nf w h c Q s d = true ∧ nf w h c Q t d = true) := by
    intro s t hs ht hst d q
    unfold nf at q
    have a := of_decide_eq_true (Bool.and_eq_true_iff.mp q.1).1
    have b := of_decide_eq_true (Bool.and_eq_true_iff.mp q.2).1
    exact hst (nbr_inj g.1 hs ht a b)
  rw [ct_cong (q := fun d => ((nf w h c Q 0 d || nf w h c Q 1 d) || nf w h c Q 2 d) || nf w h c Q 3 d) (fun d hd => ?_)]
  · rw [ct_or (p := fun d => (nf w h c Q 0 d || nf w h c Q 1 d) || nf w h c Q 2 d) (q := nf w h c Q 3) ?_, ct_or (p := fun d => nf w h c Q 0 d || nf w h c Q 1 d) (q := nf w h c Q 2) ?_, ct_or (p := nf w h c Q 0) (q := nf w h c Q 1) ?_, nf_ct hc, nf_ct hc, nf_ct hc, nf_ct hc]
    · rfl
    · exact fun d _ => dis 0 1 (by omega) (by omega) (by omega) d
    · rintro d _ ⟨a, b⟩
      rcases Bool.or_eq_true_iff.mp a with a | a
      · exact dis 0 2 (by omega) (by omega) (by omega) d ⟨a, b⟩
      · exact dis 1 2 (by omega) (by omega) (by omega) d ⟨a, b⟩
    · rintro d _ ⟨a, b⟩
      rcases Bool.or_eq_true_iff.mp a with a | a
      · rcases Bool.or_eq_true_iff.mp a with a | a
        · exact dis 0 3 (by omega) (by omega) (by omega) d ⟨a, b⟩
        · exact dis 1 3 (by omega) (by omega) (by omega) d ⟨a, b⟩
      · exact dis 2 3 (by omega) (by omega) (by omega) d ⟨a, b⟩
  · have key : nany w h (fun e => decide (e = c)) d = true ↔ ∃ s, s < 4 ∧ nbr w h c s = some d := by
      rw [nany_iff]
      constructor
      · rintro ⟨s, v, hs, e, q⟩
        have ev : v = c := of_decide_eq_true q
        subst ev
        exact nbr_symm hd hs e
      · rintro ⟨s, hs, e⟩
        obtain ⟨t, ht, e2⟩ := nbr_symm hc hs e
        exact ⟨t, c, ht, e2, decide_eq_true rfl⟩
    unfold nf
    rw [← Bool.and_or_distrib_right, ← Bool.and_or_distrib_right, ← Bool.and_or_distrib_right]
    congr 1
    rw [Bool.eq_iff_iff, key, Bool.or_eq_true_iff, Bool.or_eq_true_iff, Bool.or_eq_true_iff, decide_eq_true_iff, decide_eq_true_iff, decide_eq_true_iff, decide_eq_true_iff]
    constructor
    · rintro ⟨s, hs, e⟩
      rcases (show s = 0 ∨ s = 1 ∨ s = 2 ∨ s = 3 by omega) with rfl | rfl | rfl | rfl
      · exact Or.inl (Or.inl (Or.inl e))
      · exact Or.inl (Or.inl (Or.inr e))
      · exact Or.inl (Or.inr e)
      · exact Or.inr e
    · rintro (((e | e) | e) | e)
      · exact ⟨0, by omega, e⟩
      · exact ⟨1, by omega, e⟩
      · exact ⟨2, by omega, e⟩
      · exact ⟨3, by omega, e⟩
theorem t_nbs (g : gok w h) (hS : RS w h K S) {c : Nat} (hc : c < w * h) {z : Int32} (hz : mk w h z (fun d => decide (d = c))) {j : Nat} (hj : j < 5) : pBC (pNext z &&& pCW S (nI j)) = nI (cnbs w h K c j) := by
  have hm : mk w h (pNext z &&& pCW S (nI j)) (fun d => nany w h (fun e => decide (e = c)) d && decide (K d = j)) := by
    intro p hp
    rw [b_and, rs_cw hS hj p hp]
    cases ho : pon w h p with
    | false => exact Bool.and_false _
    | true =>
      have e := next_bit g hz (pix_lt ho)
      rw [ppos_pix ho] at e
      rw [e]; rfl
  rw [mk_count g hm, nbs_ct g hc]; rfl
end TN
