/-! the reference's open methods: what is in its ranges -/
theorem on_ok {a b w h : Nat} (ha : a < w) (hb : b < h) (hw : w < 1000) (hh : h < 1000) : pOn (nI a) (nI b) (nI w) (nI h) :=
  ⟨nI_pos (by omega), fun q => absurd ((nI_leI (by omega) (by omega)).mp q) (by omega), nI_pos (by omega), fun q => absurd ((nI_leI (by omega) (by omega)).mp q) (by omega)⟩
theorem pin_ok {a lo hi : Nat} (h1 : lo ≤ a) (h2 : a ≤ hi) (hb : hi < 1000) : pIn (nI a) (nI lo) (nI hi) :=
  ⟨fun q => absurd ((nI_ltI (by omega) (by omega)).mp q) (by omega), fun q => absurd ((nI_ltI (by omega) (by omega)).mp q) (by omega)⟩
theorem side_ok {a : Nat} (h1 : 2 ≤ a) (h2 : a ≤ 5) : pIn (nI a) 2 5 := pin_ok (lo := 2) (hi := 5) h1 h2 (by omega)
theorem col_ok {a : Nat} (h1 : a ≠ 0) (h2 : a < 5) : pCol (nI a) := pin_ok (lo := 1) (hi := 4) (by omega) (by omega) (by omega)
theorem any_ok {a : Nat} (h2 : a < 5) : pAny (nI a) := (in_any _).mp (pin_ok (lo := 0) (hi := 4) (Nat.zero_le a) (by omega) (by omega))
def lchg (w h nd : Nat) (T : Nat → Bool) (K : Nat → Nat) : Nat → Nat
  | 0 => 0
  | i + 1 => chg w h nd T (wavN w h nd T K i)
def sW (w h nd : Nat) (T : Nat → Bool) (col : Nat) (K : Nat → Nat) (o1 o2 : Option Nat) : Bool := winF w h nd T col 8 (put (put K o1 col) o2 col)
def bcF (w h nd : Nat) (T : Nat → Bool) (K : Nat → Nat) (col n c : Nat) : Nat := ccN (wavN w h nd T (fun d => if d = c then col else K d) n) col (w * h)
def bcI (f : Nat → Nat) : Nat → Nat
  | 0 => 0
  | i + 1 => if i = 0 ∨ f (bcI f i) < f i then i else bcI f i
def oI (i x : Nat) : Int32 := if i = 0 then -1 else nI x
theorem oI_s (i x : Nat) : oI (i + 1) x = nI x := if_neg (Nat.succ_ne_zero i)
theorem bc_y {f : Nat → Nat} {i : Nat} (hf : ∀ c, f c < 1000) (q : oI i (f (bcI f i)) < nI (f i)) : bcI f (i + 1) = i := by
  rw [bcI, if_pos]
  by_cases e : i = 0
  · exact Or.inl e
  · right
    unfold oI at q
    rw [if_neg e] at q
    have a := hf i
    have b := hf (bcI f i)
    exact (nI_ltI (by omega) (by omega)).mp q
theorem bc_n {f : Nat → Nat} {i : Nat} (hf : ∀ c, f c < 1000) (q : ¬ oI i (f (bcI f i)) < nI (f i)) : i ≠ 0 ∧ bcI f (i + 1) = bcI f i := by
  have a := hf i
  have b := hf (bcI f i)
  by_cases e : i = 0
  · exfalso
    apply q
    unfold oI
    rw [if_pos e]
    have h1 := nI_pos (n := f i) (by omega)
    exact Int32.lt_of_lt_of_le (by decide) (Int32.not_lt.mp h1)
  · refine ⟨e, ?_⟩
    rw [bcI, if_neg]
    rintro (z | z)
    · exact e z
    · apply q
      unfold oI
      rw [if_neg e]
      exact (nI_ltI (by omega) (by omega)).mpr z
theorem bcF_le (w h nd : Nat) (T : Nat → Bool) (K : Nat → Nat) (col n c : Nat) : bcF w h nd T K col n c ≤ w * h := ccN_le _ _ _
