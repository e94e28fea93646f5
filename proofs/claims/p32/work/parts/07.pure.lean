/-! the class's methods as pure functions over Int32 -/
def pCell (x y : Int32) : Int32 := (1 : Int32) <<< ((x + 6 * y) &&& 31)
def pNext (z : Int32) : Int32 := (((z <<< ((1 : Int32) &&& 31)) ||| ushr z 1) ||| (z <<< ((6 : Int32) &&& 31))) ||| ushr z 6
def bc1 (x : Int32) : Int32 := x - (ushr x 1 &&& 1431655765)
def bc2 (x : Int32) : Int32 := (x &&& 858993459) + (ushr x 2 &&& 858993459)
def bc3 (x : Int32) : Int32 := (x + ushr x 4) &&& 252645135
def bc4 (x : Int32) : Int32 := x + ushr x 8
def bc5 (x : Int32) : Int32 := x + ushr x 16
def pBC (x : Int32) : Int32 := bc5 (bc4 (bc3 (bc2 (bc1 x)))) &&& 63
def oB (z : Int32) : Int32 := (z <<< ((1 : Int32) &&& 31)) ||| ushr z 1
def bB (z : Int32) : Int32 := (z <<< ((1 : Int32) &&& 31)) &&& ushr z 1
def oA (z : Int32) : Int32 := (z <<< ((6 : Int32) &&& 31)) ||| ushr z 6
def bA (z : Int32) : Int32 := (z <<< ((6 : Int32) &&& 31)) &&& ushr z 6
def wN (z : Int32) : Nat → Int32
  | 1 => oB z ||| oA z
  | 2 => (bB z ||| bA z) ||| (oB z &&& oA z)
  | 3 => (bB z &&& oA z) ||| (oB z &&& bA z)
  | 4 => bB z &&& bA z
  | _ => 0
def pFirst (A : Nat → Int32) (c : Int32) : Int32 := if A 1 &&& c = 0 then (if A 2 &&& c = 0 then (if A 3 &&& c = 0 then (if A 4 &&& c = 0 then 0 else 4) else 3) else 2) else 1
theorem pFirst_at {A : Nat → Int32} {c : Int32} {k : Nat} (h1 : 1 ≤ k) (hk : k < 5) (hz : ∀ j, 1 ≤ j → j < k → A j &&& c = 0) (hn : ¬ A k &&& c = 0) : nI k = pFirst A c := by
  rcases (show k = 1 ∨ k = 2 ∨ k = 3 ∨ k = 4 by omega) with rfl | rfl | rfl | rfl
  · simp only [pFirst, if_neg hn]; rfl
  · simp only [pFirst, if_neg hn, hz 1 (by omega) (by omega)]; rfl
  · simp only [pFirst, if_neg hn, hz 1 (by omega) (by omega), hz 2 (by omega) (by omega)]; rfl
  · simp only [pFirst, if_neg hn, hz 1 (by omega) (by omega), hz 2 (by omega) (by omega), hz 3 (by omega) (by omega)]; rfl
theorem pFirst_no {A : Nat → Int32} {c : Int32} (hz : ∀ j, 1 ≤ j → j < 5 → A j &&& c = 0) : 0 = pFirst A c := by
  simp only [pFirst, hz 1 (by omega) (by omega), hz 2 (by omega) (by omega), hz 3 (by omega) (by omega), hz 4 (by omega) (by omega), if_true]
def pCW (S : Nat → Int32) (col : Int32) : Int32 := if col = 0 then S 0 else if col = 1 then S 1 else if col = 2 then S 2 else if col = 3 then S 3 else if col = 4 then S 4 else 0
theorem pCW_at (S : Nat → Int32) {j : Nat} (h : j < 5) : S j = pCW S (nI j) := by
  rcases (show j = 0 ∨ j = 1 ∨ j = 2 ∨ j = 3 ∨ j = 4 by omega) with rfl | rfl | rfl | rfl | rfl <;> rfl
theorem z_five {col : Int32} (h1 : ¬ col < 0) (h2 : ¬ 5 ≤ col) : ∃ j : Nat, j < 5 ∧ col = nI j := by
  rcases pk_ix col (n := 5) (by decide) with h | h | h
  · exact absurd h h1
  · exact absurd h h2
  · exact h
theorem z_lt5 {j : Nat} (h : j < 5) : ¬ nI j < 0 ∧ ¬ (5 : Int32) ≤ nI j := ⟨nI_pos (by omega), nI_ge (b := 5) (a := j) h (by decide)⟩
theorem pCW_out (S : Nat → Int32) {col : Int32} (h : col < 0 ∨ 5 ≤ col) : 0 = pCW S col := by
  have hh : ∀ j : Nat, j < 5 → ¬ col = nI j := by
    intro j hj e
    subst e
    obtain ⟨a, b⟩ := z_lt5 hj
    rcases h with h | h
    · exact a h
    · exact b h
  have e0 : ¬ col = 0 := hh 0 (by omega)
  have e1 : ¬ col = 1 := hh 1 (by omega)
  have e2 : ¬ col = 2 := hh 2 (by omega)
  have e3 : ¬ col = 3 := hh 3 (by omega)
  have e4 : ¬ col = 4 := hh 4 (by omega)
  unfold pCW
  rw [if_neg e0, if_neg e1, if_neg e2, if_neg e3, if_neg e4]
def pDyeF (S : Nat → Int32) (z col : Int32) : Nat → Int32 := fun j => if nI j = col then S j ||| z else S j &&& (z ^^^ (-1))
def pDye (S : Nat → Int32) (z col : Int32) : Nat → Int32 := zfill (pDyeF S z col) S 5
def pRow (y : Nat) (b : Int32) : Nat → Int32
  | 0 => b
  | x + 1 => pRow y b x ||| pCell (nI x) (nI y)
def pBrd (w : Nat) : Nat → Int32
  | 0 => 0
  | y + 1 => pRow y (pBrd w y) w
def pClrF (b : Int32) : Nat → Int32 := fun j => if nI j = 0 then b else 0
def pTakeF (S G : Nat → Int32) (ch : Int32) : Nat → Int32 := fun j => (S j &&& (ch ^^^ (-1))) ||| (G j &&& ch)
def pTake (S G : Nat → Int32) (ch : Int32) : Nat → Int32 := zfill (pTakeF S G ch) S 5
def pSo (S : Nat → Int32) (q : Nat) : Nat → Int32
  | 0 => 0
  | i + 1 => pSo S q i ||| wN (S (i + 1)) q
def pSe (S : Nat → Int32) (q : Nat) : Nat → Int32
  | 0 => 0
  | i + 1 => pSe S q i ||| (pSo S q i &&& wN (S (i + 1)) q)
def pCrF (S : Nat → Int32) (q : Nat) : Nat → Int32 := fun j => wN (S j) q
def pAddF (S : Nat → Int32) (bd sb : Int32) (q : Nat) (G : Nat → Int32) : Nat → Int32 := fun j => G j ||| (((wN (S j) q &&& (pSe S q 4 ^^^ (-1))) &&& bd) &&& (sb ^^^ (-1)))
def pGs (S : Nat → Int32) (bd sb : Int32) (q0 : Nat) (G : Nat → Int32) : Nat → Nat → Int32
  | 0 => G
  | i + 1 => zfrom (pAddF S bd sb (q0 + i) (pGs S bd sb q0 G i)) (pGs S bd sb q0 G i) 4
def pCs (S : Nat → Int32) (q0 : Nat) (C : Nat → Int32) : Nat → Nat → Int32
  | 0 => C
  | i + 1 => zfrom (pCrF S (q0 + i)) (pCs S q0 C i) 4
def pCh (S G : Nat → Int32) : Nat → Int32
  | 0 => 0
  | i + 1 => pCh S G i ||| (G (i + 1) &&& (S (i + 1) ^^^ (-1)))
def pGf (S : Nat → Int32) (bd sb : Int32) (q0 : Nat) (G : Nat → Int32) : Nat → Int32 := pGs S bd sb q0 (zfill (fun _ => 0) G 5) (5 - q0)
def pChg (S : Nat → Int32) (bd sb : Int32) (q0 : Nat) (G : Nat → Int32) : Int32 := pCh S (pGf S bd sb q0 G) 4
def pFore (S G : Nat → Int32) (c : Int32) : Int32 := if pFirst G c = 0 then pFirst S c else pFirst G c
def pRF (cells : Int32) : Nat → Int32 → Int32
  | 0, r => r
  | k + 1, r => if r ||| (pNext r &&& cells) = r then r else pRF cells k (r ||| (pNext r &&& cells))
def pSoR (S : Nat → Int32) (c : Int32) : Int32 := if pFirst S c = 0 then 0 else pBC (pRF (pCW S (pFirst S c)) 25 c)
def pLow (left : Int32) : Int32 := pRF left 25 (left &&& (-left))
def pCut (left : Int32) : Int32 := left &&& (pLow left ^^^ (-1))
def pCR : Nat → Int32 → Nat → Nat
  | 0, _, n => n
  | k + 1, left, n => if left = 0 then n else pCR k (pCut left) (n + 1)
def pGR : Nat → Int32 → Int32 → Int32
  | 0, _, g => g
  | k + 1, left, g => if left = 0 then g else pGR k (pCut left) (if g < pBC (pLow left) then pBC (pLow left) else g)
def pPairs (z : Int32) : Int32 := pBC (z &&& (z <<< ((1 : Int32) &&& 31))) + pBC (z &&& (z <<< ((6 : Int32) &&& 31)))
def pBo (S : Nat → Int32) (b : Int32) : Nat → Int32
  | 0 => pPairs (b &&& (S 0 ^^^ (-1)))
  | i + 1 => pBo S b i - pPairs (S (i + 1))
/-- one wave over the sets; many -/
def pG0 (S : Nat → Int32) (bd sb : Int32) (q0 : Nat) : Nat → Int32 := pGf S bd sb q0 (fun _ => 0)
def pC0 (S : Nat → Int32) (bd sb : Int32) (q0 : Nat) : Int32 := pCh S (pG0 S bd sb q0) 4
def pIt (bd sb : Int32) (q0 : Nat) (S : Nat → Int32) : Nat → Nat → Int32
  | 0 => S
  | k + 1 => if pC0 (pIt bd sb q0 S k) bd sb q0 = 0 then pIt bd sb q0 S k else pTake (pIt bd sb q0 S k) (pG0 (pIt bd sb q0 S k) bd sb q0) (pC0 (pIt bd sb q0 S k) bd sb q0)
def pLast (bd sb : Int32) (q0 : Nat) (S : Nat → Int32) : Nat → Int32
  | 0 => 0
  | k + 1 => pC0 (pIt bd sb q0 S k) bd sb q0
theorem pGs_in (S : Nat → Int32) (bd sb : Int32) (q0 : Nat) {G G2 : Nat → Int32} (h : ∀ j, j < 5 → G j = G2 j) : ∀ i j, j < 5 → pGs S bd sb q0 G i j = pGs S bd sb q0 G2 i j
  | 0, j, hj => h j hj
  | i + 1, j, hj => by
    have ih := pGs_in S bd sb q0 h i j hj
    show zfrom _ _ 4 j = zfrom _ _ 4 j
    unfold zfrom pAddF
    rw [ih]
theorem pGf_in (S : Nat → Int32) (bd sb : Int32) (q0 : Nat) (G : Nat → Int32) {j : Nat} (hj : j < 5) : pGf S bd sb q0 G j = pG0 S bd sb q0 j :=
  pGs_in S bd sb q0 (fun j hj => by rw [zfill_in hj, zfill_in hj]) _ j hj
theorem pCh_in (S : Nat → Int32) {G G2 : Nat → Int32} : ∀ i, (∀ j, j < i + 1 → G j = G2 j) → pCh S G i = pCh S G2 i
  | 0, _ => rfl
  | i + 1, h => by
    show pCh S G i ||| _ = pCh S G2 i ||| _
    rw [pCh_in S i (fun j hj => h j (by omega)), h (i + 1) (by omega)]
theorem pChg_0 (S : Nat → Int32) (bd sb : Int32) (q0 : Nat) (G : Nat → Int32) : pChg S bd sb q0 G = pC0 S bd sb q0 := pCh_in S 4 (fun _ hj => pGf_in S bd sb q0 G hj)
theorem pTake_in (S : Nat → Int32) (ch : Int32) {G G2 : Nat → Int32} (h : ∀ j, j < 5 → G j = G2 j) : pTake S G ch = pTake S G2 ch := by
  funext j
  unfold pTake zfill pTakeF
  by_cases hj : j < 5
  · rw [if_pos hj, if_pos hj, h j hj]
  · rw [if_neg hj, if_neg hj]
theorem pIt_stay {bd sb : Int32} {q0 : Nat} {S : Nat → Int32} {k : Nat} (h : pC0 (pIt bd sb q0 S k) bd sb q0 = 0) : ∀ n, pIt bd sb q0 S (k + n) = pIt bd sb q0 S k
  | 0 => rfl
  | n + 1 => by
    have ih := pIt_stay h n
    show pIt bd sb q0 S (k + n + 1) = _
    rw [pIt, ih, if_pos h]
theorem pIt_end {bd sb : Int32} {q0 : Nat} {S : Nat → Int32} {k N : Nat} (h : pC0 (pIt bd sb q0 S k) bd sb q0 = 0) (hk : k < N) : pIt bd sb q0 S N = pIt bd sb q0 S k ∧ 0 = pLast bd sb q0 S N := by
  obtain ⟨n, rfl⟩ : ∃ n, N = k + n + 1 := ⟨N - k - 1, by omega⟩
  refine ⟨pIt_stay h (n + 1), ?_⟩
  show 0 = pC0 (pIt bd sb q0 S (k + n)) bd sb q0
  rw [pIt_stay h n, h]
