/-! the class's methods as pure functions, continued -/
theorem z_if0 {P : Prop} [Decidable P] (h : (if P then (1 : Int32) else 0) = 0) : ¬ P := fun q => by rw [if_pos q] at h; exact absurd h (by decide)
theorem z_if1 {P : Prop} [Decidable P] (h : ¬ (if P then (1 : Int32) else 0) = 0) : P := by
  by_cases q : P
  · exact q
  · rw [if_neg q] at h; exact absurd rfl h
theorem z_narif {P : Prop} [Decidable P] : narrow .boolean (.int (if P then 1 else 0)) = .int (if P then 1 else 0) := by
  by_cases q : P
  · rw [if_pos q]; decide +kernel
  · rw [if_neg q]; decide +kernel
abbrev pOn (x y wd hg : Int32) : Prop := ¬ x < 0 ∧ ¬ wd ≤ x ∧ ¬ y < 0 ∧ ¬ hg ≤ y
abbrev pSide (x : Int32) : Prop := ¬ x < 2 ∧ ¬ 5 < x
abbrev pCol (x : Int32) : Prop := ¬ x < 1 ∧ ¬ 4 < x
abbrev pAny (x : Int32) : Prop := x = 0 ∨ pCol x
def pm (d : Int64) (x : Int32) : Int64 := d * 31 + x.toInt64
def pLm (S : Nat → Int32) : Nat → Int32
  | 0 => 0
  | i + 1 => if pBC (pCW S (nI (i + 1))) ≤ pLm S i then pLm S i else pBC (pCW S (nI (i + 1)))
def pLb (S : Nat → Int32) : Nat → Nat
  | 0 => 0
  | i + 1 => if pBC (pCW S (nI (i + 1))) ≤ pLm S i then pLb S i else i + 1
def pWr (S : Nat → Int32) (bd : Int32) : Int32 := if pCW S (nI 1) = bd then 1 else if pCW S (nI 2) = bd then 2 else if pCW S (nI 3) = bd then 3 else if pCW S (nI 4) = bd then 4 else 0
theorem pWr_at {S : Nat → Int32} {bd : Int32} {k : Nat} (h1 : 1 ≤ k) (hk : k < 5) (hz : ∀ j, 1 ≤ j → j < k → ¬ pCW S (nI j) = bd) (hn : pCW S (nI k) = bd) : nI k = pWr S bd := by
  rcases (show k = 1 ∨ k = 2 ∨ k = 3 ∨ k = 4 by omega) with rfl | rfl | rfl | rfl
  · rw [pWr, if_pos hn]; rfl
  · rw [pWr, if_neg (hz 1 (by omega) (by omega)), if_pos hn]; rfl
  · rw [pWr, if_neg (hz 1 (by omega) (by omega)), if_neg (hz 2 (by omega) (by omega)), if_pos hn]; rfl
  · rw [pWr, if_neg (hz 1 (by omega) (by omega)), if_neg (hz 2 (by omega) (by omega)), if_neg (hz 3 (by omega) (by omega)), if_pos hn]; rfl
theorem pWr_no {S : Nat → Int32} {bd : Int32} (hz : ∀ j, 1 ≤ j → j < 5 → ¬ pCW S (nI j) = bd) : 0 = pWr S bd := by
  rw [pWr, if_neg (hz 1 (by omega) (by omega)), if_neg (hz 2 (by omega) (by omega)), if_neg (hz 3 (by omega) (by omega)), if_neg (hz 4 (by omega) (by omega))]
def pMc (d : Int64) (S : Nat → Int32) (sb : Int32) (G : Nat → Int32) (c : Int32) : Int64 := pm (pm (pm (pm d (pFirst S c)) (if sb &&& c = 0 then 0 else 1)) (pFore S G c)) (pSoR S c)
def pDm (wd hg nd wv bd sb : Int32) (q0 : Nat) (S : Nat → Int32) : Int64 := pm (pm (pm (pm (pm (pm (pm (pm (pm 1871 wd) hg) nd) wv) (pBC sb)) (pBo S bd 4)) (nI (pLb S 4))) (if pC0 S bd sb q0 = 0 then 1 else 0)) (pWr S bd)
def pDc (d : Int64) (S : Nat → Int32) : Nat → Int64
  | 0 => d
  | k + 1 => pm (pm (pm (pDc d S k) (pBC (pCW S (nI (k + 1))))) (nI (pCR 25 (pCW S (nI (k + 1))) 0))) (pGR 25 (pCW S (nI (k + 1))) 0)
def pDz (d : Int64) (w : Nat) (S : Nat → Int32) (sb : Int32) (G : Nat → Int32) : Nat → Int64
  | 0 => d
  | c + 1 => pMc (pDz d w S sb G c) S sb G (pCell (nI (c % w)) (nI (c / w)))
def pDi (wn hn : Nat) (nd wv bd sb : Int32) (q0 : Nat) (S : Nat → Int32) : Int64 := pDz (pDc (pDm (nI wn) (nI hn) nd wv bd sb q0 S) S 4) wn S sb (pG0 S bd sb q0) (wn * hn)
theorem wy_mod {w x : Nat} (y : Nat) (h : x < w) : (w * y + x) % w = x ∧ (w * y + x) / w = y := by
  have hw : 0 < w := by omega
  rw [Nat.mul_add_mod, Nat.mod_eq_of_lt h, Nat.mul_add_div hw, Nat.div_eq_of_lt h]
  exact ⟨rfl, rfl⟩
theorem pFirst_in {A B : Nat → Int32} (h : ∀ j, j < 5 → A j = B j) (c : Int32) : pFirst A c = pFirst B c := by
  unfold pFirst
  rw [h 1 (by omega), h 2 (by omega), h 3 (by omega), h 4 (by omega)]
theorem pMc_in (d : Int64) (S : Nat → Int32) (bd sb : Int32) (q0 : Nat) (G : Nat → Int32) (c : Int32) : pMc d S sb (pGf S bd sb q0 G) c = pMc d S sb (pG0 S bd sb q0) c := by
  have e : pFore S (pGf S bd sb q0 G) c = pFore S (pG0 S bd sb q0) c := by
    unfold pFore
    rw [pFirst_in (fun j hj => pGf_in S bd sb q0 G hj) c]
  unfold pMc
  rw [e]
theorem pDz_step {d : Int64} {w : Nat} {S : Nat → Int32} {bd sb : Int32} {q0 : Nat} {G : Nat → Int32} {x : Nat} (y : Nat) (h : x < w) : pMc (pDz d w S sb (pG0 S bd sb q0) (w * y + x)) S sb (pGf S bd sb q0 G) (pCell (nI x) (nI y)) = pDz d w S sb (pG0 S bd sb q0) (w * y + (x + 1)) := by
  show _ = pMc (pDz d w S sb (pG0 S bd sb q0) (w * y + x)) S sb (pG0 S bd sb q0) (pCell (nI ((w * y + x) % w)) (nI ((w * y + x) / w)))
  rw [(wy_mod y h).1, (wy_mod y h).2, pMc_in]
/-- only the five sets count -/
theorem pSo_inS {S S2 : Nat → Int32} (h : ∀ j, j < 5 → S j = S2 j) (q : Nat) : ∀ i, i ≤ 4 → pSo S q i = pSo S2 q i
  | 0, _ => rfl
  | i + 1, hi => by rw [pSo, pSo, pSo_inS h q i (by omega), h (i + 1) (by omega)]
theorem pSe_inS {S S2 : Nat → Int32} (h : ∀ j, j < 5 → S j = S2 j) (q : Nat) : ∀ i, i ≤ 4 → pSe S q i = pSe S2 q i
  | 0, _ => rfl
  | i + 1, hi => by rw [pSe, pSe, pSe_inS h q i (by omega), pSo_inS h q i (by omega), h (i + 1) (by omega)]
theorem pGs_inS {S S2 : Nat → Int32} (h : ∀ j, j < 5 → S j = S2 j) (bd sb : Int32) (q0 : Nat) (G : Nat → Int32) : ∀ i j, j < 5 → pGs S bd sb q0 G i j = pGs S2 bd sb q0 G i j
  | 0, j, hj => rfl
  | i + 1, j, hj => by
    have ih := pGs_inS h bd sb q0 G i j hj
    show zfrom _ _ 4 j = zfrom _ _ 4 j
    unfold zfrom pAddF
    rw [ih, h j hj, pSe_inS h _ 4 (Nat.le_refl 4)]
theorem pG0_inS {S S2 : Nat → Int32} (h : ∀ j, j < 5 → S j = S2 j) (bd sb : Int32) (q0 : Nat) {j : Nat} (hj : j < 5) : pG0 S bd sb q0 j = pG0 S2 bd sb q0 j := pGs_inS h bd sb q0 _ _ j hj
theorem pC0_inS {S S2 : Nat → Int32} (h : ∀ j, j < 5 → S j = S2 j) (bd sb : Int32) (q0 : Nat) : pC0 S bd sb q0 = pC0 S2 bd sb q0 := by
  have : ∀ i, i ≤ 4 → pCh S (pG0 S bd sb q0) i = pCh S2 (pG0 S2 bd sb q0) i := by
    intro i
    induction i with
    | zero => intro _; rfl
    | succ i ih =>
      intro hi
      rw [pCh, pCh, ih (by omega), h (i + 1) (by omega), pG0_inS h bd sb q0 (show i + 1 < 5 by omega)]
  exact this 4 (Nat.le_refl 4)
theorem pIt_inS {S S2 : Nat → Int32} (h : ∀ j, j < 5 → S j = S2 j) (bd sb : Int32) (q0 : Nat) : ∀ n j, j < 5 → pIt bd sb q0 S n j = pIt bd sb q0 S2 n j
  | 0, j, hj => h j hj
  | n + 1, j, hj => by
    have ih := pIt_inS h bd sb q0 n
    rw [pIt, pIt, pC0_inS ih bd sb q0]
    split
    · exact ih j hj
    · unfold pTake
      rw [zfill_in hj, zfill_in hj]
      unfold pTakeF
      rw [ih j hj, pG0_inS ih bd sb q0 hj]
theorem pCW_inS {S S2 : Nat → Int32} (h : ∀ j, j < 5 → S j = S2 j) (col : Int32) : pCW S col = pCW S2 col := by
  unfold pCW
  rw [h 0 (by omega), h 1 (by omega), h 2 (by omega), h 3 (by omega), h 4 (by omega)]
theorem pDye_inS {S S2 : Nat → Int32} (h : ∀ j, j < 5 → S j = S2 j) (z col : Int32) : ∀ j, j < 5 → pDye S z col j = pDye S2 z col j := fun j hj => by
  unfold pDye
  rw [zfill_in hj, zfill_in hj]
  unfold pDyeF
  rw [h j hj]
theorem copy_in (S S2 : Nat → Int32) : ∀ j, j < 5 → zfill S S2 5 j = S j := fun j hj => zfill_in hj
def pAft (S : Nat → Int32) (bd sb : Int32) (q0 : Nat) (z col : Int32) (n : Nat) : Int32 := pBC (pCW (pIt bd sb q0 (pDye S z col) n) col)
abbrev pWin (S : Nat → Int32) (bd sb : Int32) (q0 : Nat) (z col : Int32) : Prop := pCW (pIt bd sb q0 (pDye S z col) 8) col = bd
theorem pTr_CW (S S2 : Nat → Int32) (bd sb : Int32) (q0 : Nat) (z col : Int32) (n : Nat) : pCW (pIt bd sb q0 (pDye (zfill S S2 5) z col) n) col = pCW (pIt bd sb q0 (pDye S z col) n) col := pCW_inS (pIt_inS (pDye_inS (copy_in S S2) z col) bd sb q0 n) col
def pSd (p : Nat) : Int32 := (1 : Int32) <<< (nI p &&& 31)
def pBb (F : Nat → Int32) : Nat → Int32
  | 0 => -1
  | c + 1 => if F c ≤ pBb F c then pBb F c else F c
def pBi (F : Nat → Int32) : Nat → Nat
  | 0 => 0
  | c + 1 => if F c ≤ pBb F c then pBi F c else c
def pBF (S : Nat → Int32) (bd sb : Int32) (q0 w : Nat) (col : Int32) (n : Nat) : Nat → Int32 := fun c => pAft S bd sb q0 (pCell (nI (c % w)) (nI (c / w))) col n
