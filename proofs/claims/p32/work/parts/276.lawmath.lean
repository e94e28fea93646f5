theorem sh_ex {w h : Nat} (g : gok w h) : ∃ T, shOk (w * h) T := by
  obtain ⟨g1, g2, g3, g4⟩ := g
  rcases (show w = 2 ∨ w = 3 ∨ w = 4 ∨ w = 5 by omega) with rfl | rfl | rfl | rfl <;> rcases (show h = 2 ∨ h = 3 ∨ h = 4 ∨ h = 5 by omega) with rfl | rfl | rfl | rfl
  · exact ⟨_, sh_4⟩
  · exact ⟨_, sh_6⟩
  · exact ⟨_, sh_8⟩
  · exact ⟨_, sh_10⟩
  · exact ⟨_, sh_6⟩
  · exact ⟨_, sh_9⟩
  · exact ⟨_, sh_12⟩
  · exact ⟨_, sh_15⟩
  · exact ⟨_, sh_8⟩
  · exact ⟨_, sh_12⟩
  · exact ⟨_, sh_16⟩
  · exact ⟨_, sh_20⟩
  · exact ⟨_, sh_10⟩
  · exact ⟨_, sh_15⟩
  · exact ⟨_, sh_20⟩
  · exact ⟨_, sh_25⟩
theorem sh_inv {n : Nat} {T : List (Nat × UInt64)} (ok : shOk n T) {F : Nat → Nat} (h5 : sN F 5 = n) : ∀ c, c ≤ 5 → (sN F c, shS F n c) ∈ T
  | 0, _ => ok.1
  | c + 1, hc => by
    have ih := sh_inv ok h5 c (by omega)
    have h1 := sN_mono F hc
    have h1 : sN F c + F c ≤ sN F 5 := h1
    exact (ok.2.1 _ ih (F c) (by show F c < n + 1 - sN F c; omega)).2
theorem sh_nan {w h : Nat} (g : gok w h) {F : Nat → Nat} (h5 : sN F 5 = w * h) {c : Nat} (hc : c < 5) : vf_n64 (FP.dadd (shS F (w * h) c) (shV (F c) (w * h))) := by
  obtain ⟨T, ok⟩ := sh_ex g
  have h1 := sN_mono F hc
  have h1 : sN F c + F c ≤ sN F 5 := h1
  exact (ok.2.1 _ (sh_inv ok h5 c (by omega)) (F c) (by show F c < w * h + 1 - sN F c; omega)).1
theorem sh_end {w h : Nat} (g : gok w h) {F : Nat → Nat} (h5 : sN F 5 = w * h) : ∀ v, v = shS F (w * h) 5 → ¬ Op.cmpValue (FP.dcmp v 4607182409792818153) .g < 0 ∧ ¬ 0 < Op.cmpValue (FP.dcmp v 4607182423303617035) .l := by
  intro v hv
  obtain ⟨T, ok⟩ := sh_ex g
  have hm := sh_inv ok h5 5 (Nat.le_refl _)
  rw [← hv] at hm
  exact ok.2.2 (sN F 5, v) hm h5
