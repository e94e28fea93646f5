def bt (x : Int32) (i : Nat) : Bool := x.toBitVec.getLsbD i
theorem b_ext {x y : Int32} (h : ∀ i, i < 32 → bt x i = bt y i) : x = y := Int32.toBitVec_inj.mp (BitVec.eq_of_getLsbD_eq (fun i hi => h i hi))
theorem b_or (x y : Int32) (i : Nat) : bt (x ||| y) i = (bt x i || bt y i) := by unfold bt; rw [Int32.toBitVec_or, BitVec.getLsbD_or]
theorem b_and (x y : Int32) (i : Nat) : bt (x &&& y) i = (bt x i && bt y i) := by unfold bt; rw [Int32.toBitVec_and, BitVec.getLsbD_and]
theorem b_xor (x y : Int32) (i : Nat) : bt (x ^^^ y) i = (bt x i ^^ bt y i) := by unfold bt; rw [Int32.toBitVec_xor, BitVec.getLsbD_xor]
theorem b_big {x : Int32} {i : Nat} (h : 32 ≤ i) : bt x i = false := BitVec.getLsbD_of_ge _ _ h
theorem b_255 (i : Nat) : bt 255 i = decide (i < 8) := by
  rcases Nat.lt_or_ge i 32 with h | h
  · exact (by decide +kernel : ∀ i, i < 32 → bt 255 i = decide (i < 8)) i h
  · rw [b_big h, decide_eq_false (by omega)]
theorem b_65535 (i : Nat) : bt 65535 i = decide (i < 16) := by
  rcases Nat.lt_or_ge i 32 with h | h
  · exact (by decide +kernel : ∀ i, i < 32 → bt 65535 i = decide (i < 16)) i h
  · rw [b_big h, decide_eq_false (by omega)]
theorem b_m1 : ∀ i, i < 32 → bt (-1) i = true := by decide +kernel
theorem b_0 (i : Nat) : bt 0 i = false := BitVec.getLsbD_zero
theorem s_l : ∀ n, n < 32 → ((nI n &&& 31).toBitVec.smod 32).toNat = n := by decide +kernel
theorem s_u : ∀ n, n < 32 → (((nI n).toUInt32 &&& Int32.toUInt32 31).toBitVec % 32).toNat = n := by decide +kernel
theorem b_shl (n : Nat) (hn : n < 32) (x : Int32) {i : Nat} (hi : i < 32) : bt (x <<< (nI n &&& 31)) i = (decide (n ≤ i) && bt x (i - n)) := by
  unfold bt
  rw [Int32.toBitVec_shiftLeft]
  show (x.toBitVec <<< ((nI n &&& 31).toBitVec.smod 32).toNat).getLsbD i = _
  rw [s_l n hn, BitVec.getLsbD_shiftLeft]
  rcases Nat.lt_or_ge i n with h | h
  · simp [h, Nat.not_le.mpr h]
  · simp [hi, h, Nat.not_lt.mpr h]
theorem b_ushr (n : Nat) (hn : n < 32) (x : Int32) (i : Nat) : bt ((x.toUInt32 >>> ((nI n).toUInt32 &&& Int32.toUInt32 31)).toInt32) i = bt x (n + i) := by
  show (x.toUInt32 >>> ((nI n).toUInt32 &&& Int32.toUInt32 31)).toBitVec.getLsbD i = x.toUInt32.toBitVec.getLsbD (n + i)
  rw [UInt32.toBitVec_shiftRight]
  show (x.toUInt32.toBitVec >>> (((nI n).toUInt32 &&& Int32.toUInt32 31).toBitVec % 32).toNat).getLsbD i = _
  rw [s_u n hn, BitVec.getLsbD_ushiftRight]
theorem b_1 (i : Nat) : bt 1 i = decide (i = 0) := by
  rcases Nat.lt_or_ge i 32 with h | h
  · exact (by decide +kernel : ∀ i, i < 32 → bt 1 i = decide (i = 0)) i h
  · rw [b_big h, decide_eq_false (by omega)]
theorem b_shl1 (x : Int32) {i : Nat} (hi : i < 32) : bt (x <<< ((1 : Int32) &&& 31)) i = (decide (1 ≤ i) && bt x (i - 1)) := b_shl 1 (by omega) x hi
theorem b_shl6 (x : Int32) {i : Nat} (hi : i < 32) : bt (x <<< ((6 : Int32) &&& 31)) i = (decide (6 ≤ i) && bt x (i - 6)) := b_shl 6 (by omega) x hi
theorem b_us1 (x : Int32) (i : Nat) : bt (ushr x 1) i = bt x (1 + i) := b_ushr 1 (by omega) x i
theorem b_us6 (x : Int32) (i : Nat) : bt (ushr x 6) i = bt x (6 + i) := b_ushr 6 (by omega) x i
theorem b_not (x : Int32) {i : Nat} (hi : i < 32) : bt (x ^^^ (-1)) i = !bt x i := by rw [b_xor, b_m1 i hi]; cases bt x i <;> rfl
theorem b_nI {n : Nat} (h : n < 2 ^ 32) (i : Nat) : bt (nI n) i = n.testBit i := by
  show (nI n).toBitVec.toNat.testBit i = _
  rw [pk_tn h]
theorem b_cell {x y : Nat} (h : x + 6 * y < 32) {i : Nat} (hi : i < 32) : bt (pCell (nI x) (nI y)) i = decide (i = x + 6 * y) := by
  have e : nI x + 6 * nI y = nI (x + 6 * y) := by
    have e1 : (6 : Int32) * nI y = nI (6 * y) := pk_mul 6 y
    rw [e1, nI_add]
  unfold pCell
  rw [e, b_shl (x + 6 * y) h 1 hi, b_1]
  by_cases h1 : i = x + 6 * y
  · subst h1; simp
  · rw [decide_eq_false h1]
    by_cases h2 : x + 6 * y ≤ i
    · rw [decide_eq_false (show ¬ i - (x + 6 * y) = 0 by omega)]; simp
    · rw [decide_eq_false h2]; rfl
/-! counts -/
def ct (p : Nat → Bool) : Nat → Nat
  | 0 => 0
  | n + 1 => ct p n + (if p n then 1 else 0)
theorem ct_succ (p : Nat → Bool) (n : Nat) : ct p (n + 1) = ct p n + (if p n then 1 else 0) := rfl
theorem ct_le (p : Nat → Bool) : ∀ n, ct p n ≤ n
  | 0 => Nat.le_refl _
  | n + 1 => by have h := ct_le p n; rw [ct_succ]; split <;> omega
theorem ct_cong {p q : Nat → Bool} : ∀ {n : Nat}, (∀ k, k < n → p k = q k) → ct p n = ct q n
  | 0, _ => rfl
  | n + 1, h => by rw [ct_succ, ct_succ, ct_cong (fun k hk => h k (by omega)), h n (by omega)]
theorem ct_out {p : Nat → Bool} {m : Nat} : ∀ n, (∀ k, m ≤ k → k < m + n → p k = false) → ct p (m + n) = ct p m
  | 0, _ => rfl
  | n + 1, h => by
    show ct p (m + n) + (if p (m + n) then 1 else 0) = _
    rw [ct_out n (fun k h1 h2 => h k h1 (by omega)), h (m + n) (by omega) (by omega)]
    simp
theorem ct_split (p : Nat → Bool) (m : Nat) : ∀ n, ct p (m + n) = ct p m + ct (fun k => p (m + k)) n
  | 0 => rfl
  | n + 1 => by
    show ct p (m + n) + (if p (m + n) then 1 else 0) = _
    rw [ct_split p m n, ct_succ]
    omega
theorem ct_sub {p q : Nat → Bool} : ∀ {n : Nat}, (∀ k, k < n → p k = true → q k = true) → ct p n ≤ ct q n
  | 0, _ => Nat.le_refl _
  | n + 1, h => by
    have h1 := ct_sub (p := p) (q := q) (n := n) (fun k hk => h k (by omega))
    have h2 := h n (by omega)
    rw [ct_succ, ct_succ]
    by_cases hp : p n = true
    · rw [if_pos hp, if_pos (h2 hp)]; omega
    · rw [if_neg hp]; split <;> omega
theorem ct_lt {p q : Nat → Bool} : ∀ {n : Nat}, (∀ k, k < n → p k = true → q k = true) → (∃ k, k < n ∧ p k = false ∧ q k = true) → ct p n + 1 ≤ ct q n
  | 0, _, h => by obtain ⟨k, hk, _⟩ := h; omega
  | n + 1, h, ⟨k, hk, h1, h2⟩ => by
    rw [ct_succ, ct_succ]
    by_cases e : k = n
    · subst e
      have h3 := ct_sub (p := p) (q := q) (n := k) (fun j hj => h j (by omega))
      rw [h1, h2]; simp; omega
    · have h3 := ct_lt (p := p) (q := q) (n := n) (fun j hj => h j (by omega)) ⟨k, by omega, h1, h2⟩
      by_cases hp : p n = true
      · rw [if_pos hp, if_pos (h n (by omega) hp)]; omega
      · rw [if_neg hp]; split <;> omega
theorem ct_zero {p : Nat → Bool} : ∀ {n : Nat}, ct p n = 0 → ∀ k, k < n → p k = false
  | 0, _, k, hk => by omega
  | n + 1, h, k, hk => by
    rw [ct_succ] at h
    by_cases e : k = n
    · subst e
      cases hp : p k
      · rfl
      · rw [hp] at h; simp at h
    · exact ct_zero (n := n) (by omega) k (by omega)
/-! Integer.bitCount counts the bits -/
theorem and8 {a c : Nat} (b d : Nat) (ha : a < 256) (hc : c < 256) : (256 * b + a) &&& (256 * d + c) = 256 * (b &&& d) + (a &&& c) := by
  apply Nat.eq_of_testBit_eq
  intro i
  have hac : a &&& c < 2 ^ 8 := Nat.and_lt_two_pow a hc
  rw [Nat.testBit_and, show 256 = 2 ^ 8 from rfl, Nat.testBit_two_pow_mul_add b (show a < 2 ^ 8 from ha), Nat.testBit_two_pow_mul_add d (show c < 2 ^ 8 from hc), Nat.testBit_two_pow_mul_add (b &&& d) hac]
  split
  · rw [Nat.testBit_and]
  · rw [Nat.testBit_and]
theorem and32 {a0 a1 a2 a3 : Nat} (c : Nat) (h0 : a0 < 256) (h1 : a1 < 256) (h2 : a2 < 256) (hc : c < 256) : (256 * (256 * (256 * a3 + a2) + a1) + a0) &&& (256 * (256 * (256 * c + c) + c) + c) = 256 * (256 * (256 * (a3 &&& c) + (a2 &&& c)) + (a1 &&& c)) + (a0 &&& c) := by
  rw [and8 _ _ h0 hc, and8 _ _ h1 hc, and8 _ _ h2 hc]
abbrev m4 (a3 a2 a1 a0 : Nat) : Nat := 256 * (256 * (256 * a3 + a2) + a1) + a0
def s1 (b : Nat) : Nat := b - (b / 2 &&& 85)
def s2 (b : Nat) : Nat := (s1 b &&& 51) + (s1 b / 4 &&& 51)
def s3 (b : Nat) : Nat := s2 b % 16 + s2 b / 16
theorem s1_a : ∀ a, a < 128 → ∀ r, r < 2 → (a + 128 * r) &&& 85 = a &&& 85 := by decide +kernel
theorem s1_b : ∀ b, b < 256 → (b / 2 &&& 85) ≤ b := by decide +kernel
theorem s2_a : ∀ a, a < 64 → ∀ r, r < 4 → (a + 64 * r) &&& 51 = a &&& 51 := by decide +kernel
theorem s2_b : ∀ b, b < 256 → s2 b % 16 ≤ 4 ∧ s2 b / 16 ≤ 4 := by decide +kernel
theorem s3_a : ∀ x, x < 5 → ∀ y, y < 5 → ∀ r, r < 5 → (16 * y + x + (y + 16 * r)) &&& 15 = x + y := by decide +kernel
theorem s3_b : ∀ b, b < 256 → s3 b = ct (fun k => b.testBit k) 8 := by decide +kernel
theorem nI_and (a b : Nat) : nI a &&& nI b = nI (a &&& b) := by
  apply Int32.toBitVec_inj.1
  show BitVec.ofNat 32 a &&& BitVec.ofNat 32 b = BitVec.ofNat 32 (a &&& b)
  apply BitVec.eq_of_getLsbD_eq
  intro i hi
  simp [hi]
theorem bc_1 {B0 B1 B2 B3 : Nat} (h0 : B0 < 256) (h1 : B1 < 256) (h2 : B2 < 256) (h3 : B3 < 256) : bc1 (nI (m4 B3 B2 B1 B0)) = nI (m4 (s1 B3) (s1 B2) (s1 B1) (s1 B0)) := by
  unfold bc1 ushr
  rw [pk_ushrN (n := m4 B3 B2 B1 B0) (by (try unfold m4); omega) 1 1 (by decide +kernel)]
  have e1 : m4 B3 B2 B1 B0 / 2 ^ 1 = m4 (B3 / 2) (B2 / 2 + 128 * (B3 % 2)) (B1 / 2 + 128 * (B2 % 2)) (B0 / 2 + 128 * (B1 % 2)) := by (try unfold m4); omega
  have e2 : (1431655765 : Int32) = nI (m4 85 85 85 85) := by decide +kernel
  rw [e1, e2, nI_and, and32 85 (by (try unfold m4); omega) (by (try unfold m4); omega) (by (try unfold m4); omega) (by (try unfold m4); omega), s1_a _ (by (try unfold m4); omega) _ (by (try unfold m4); omega), s1_a _ (by (try unfold m4); omega) _ (by (try unfold m4); omega), s1_a _ (by (try unfold m4); omega) _ (by (try unfold m4); omega)]
  have q0 := s1_b B0 h0
  have q1 := s1_b B1 h1
  have q2 := s1_b B2 h2
  have q3 := s1_b B3 h3
  rw [pk_sub (by (try unfold m4); omega)]
  congr 1
  unfold s1 m4
  omega
theorem s1_lt {b : Nat} (h : b < 256) : s1 b < 256 := by unfold s1; omega
theorem bc_2 {B0 B1 B2 B3 : Nat} (h0 : B0 < 256) (h1 : B1 < 256) (h2 : B2 < 256) (h3 : B3 < 256) : bc2 (nI (m4 (s1 B3) (s1 B2) (s1 B1) (s1 B0))) = nI (m4 (s2 B3) (s2 B2) (s2 B1) (s2 B0)) := by
  have l0 := s1_lt h0
  have l1 := s1_lt h1
  have l2 := s1_lt h2
  have l3 := s1_lt h3
  unfold bc2 ushr
  rw [pk_ushrN (n := m4 (s1 B3) (s1 B2) (s1 B1) (s1 B0)) (by (try unfold m4); omega) 2 2 (by decide +kernel)]
  have e1 : m4 (s1 B3) (s1 B2) (s1 B1) (s1 B0) / 2 ^ 2 = m4 (s1 B3 / 4) (s1 B2 / 4 + 64 * (s1 B3 % 4)) (s1 B1 / 4 + 64 * (s1 B2 % 4)) (s1 B0 / 4 + 64 * (s1 B1 % 4)) := by (try unfold m4); omega
  have e2 : (858993459 : Int32) = nI (m4 51 51 51 51) := by decide +kernel
  rw [e1, e2, nI_and, nI_and, and32 51 (by (try unfold m4); omega) (by (try unfold m4); omega) (by (try unfold m4); omega) (by (try unfold m4); omega), and32 51 (by (try unfold m4); omega) (by (try unfold m4); omega) (by (try unfold m4); omega) (by (try unfold m4); omega), s2_a _ (by (try unfold m4); omega) _ (by (try unfold m4); omega), s2_a _ (by (try unfold m4); omega) _ (by (try unfold m4); omega), s2_a _ (by (try unfold m4); omega) _ (by (try unfold m4); omega), nI_add]
  congr 1
  unfold s2 m4
  omega
theorem bc_3 {B0 B1 B2 B3 : Nat} (h0 : B0 < 256) (h1 : B1 < 256) (h2 : B2 < 256) (h3 : B3 < 256) : bc3 (nI (m4 (s2 B3) (s2 B2) (s2 B1) (s2 B0))) = nI (m4 (s3 B3) (s3 B2) (s3 B1) (s3 B0)) := by
  have l0 := s2_b B0 h0
  have l1 := s2_b B1 h1
  have l2 := s2_b B2 h2
  have l3 := s2_b B3 h3
  unfold bc3 ushr
  rw [pk_ushrN (n := m4 (s2 B3) (s2 B2) (s2 B1) (s2 B0)) (by (try unfold m4); omega) 4 4 (by decide +kernel), nI_add]
  have e1 : m4 (s2 B3) (s2 B2) (s2 B1) (s2 B0) + m4 (s2 B3) (s2 B2) (s2 B1) (s2 B0) / 2 ^ 4 = m4 (16 * (s2 B3 / 16) + s2 B3 % 16 + (s2 B3 / 16 + 16 * 0)) (16 * (s2 B2 / 16) + s2 B2 % 16 + (s2 B2 / 16 + 16 * (s2 B3 % 16))) (16 * (s2 B1 / 16) + s2 B1 % 16 + (s2 B1 / 16 + 16 * (s2 B2 % 16))) (16 * (s2 B0 / 16) + s2 B0 % 16 + (s2 B0 / 16 + 16 * (s2 B1 % 16))) := by (try unfold m4); omega
  have e2 : (252645135 : Int32) = nI (m4 15 15 15 15) := by decide +kernel
  rw [e1, e2, nI_and, and32 15 (by (try unfold m4); omega) (by (try unfold m4); omega) (by (try unfold m4); omega) (by (try unfold m4); omega), s3_a _ (by (try unfold m4); omega) _ (by (try unfold m4); omega) _ (by (try unfold m4); omega), s3_a _ (by (try unfold m4); omega) _ (by (try unfold m4); omega) _ (by (try unfold m4); omega), s3_a _ (by (try unfold m4); omega) _ (by (try unfold m4); omega) _ (by (try unfold m4); omega), s3_a _ (by (try unfold m4); omega) _ (by (try unfold m4); omega) _ (by (try unfold m4); omega)]
  rfl
theorem ct8_le (p : Nat → Bool) : ct p 8 ≤ 8 := ct_le p 8
theorem z_tb {B0 B1 B2 B3 : Nat} (h0 : B0 < 256) (h1 : B1 < 256) (h2 : B2 < 256) (h3 : B3 < 256) (k : Nat) : (m4 B3 B2 B1 B0).testBit k = if k < 8 then B0.testBit k else if k < 16 then B1.testBit (k - 8) else if k < 24 then B2.testBit (k - 16) else B3.testBit (k - 24) := by
  show (256 * (256 * (256 * B3 + B2) + B1) + B0).testBit k = _
  rw [show 256 = 2 ^ 8 from rfl, Nat.testBit_two_pow_mul_add _ (show B0 < 2 ^ 8 from h0), Nat.testBit_two_pow_mul_add _ (show B1 < 2 ^ 8 from h1), Nat.testBit_two_pow_mul_add _ (show B2 < 2 ^ 8 from h2)]
  by_cases a : k < 8
  · rw [if_pos a, if_pos a]
  · rw [if_neg a, if_neg a]
    by_cases b : k < 16
    · rw [if_pos b, if_pos (show k - 8 < 8 by omega)]
    · rw [if_neg b, if_neg (show ¬ k - 8 < 8 by omega)]
      by_cases c : k < 24
      · rw [if_pos c, if_pos (show k - 8 - 8 < 8 by omega), show k - 8 - 8 = k - 16 by omega]
      · rw [if_neg c, if_neg (show ¬ k - 8 - 8 < 8 by omega), show k - 8 - 8 - 8 = k - 24 by omega]
theorem pBC_ct (x : Int32) : pBC x = nI (ct (bt x) 32) := by
  obtain ⟨n, hn, rfl⟩ : ∃ n : Nat, n < 2 ^ 32 ∧ x = nI n := by
    refine ⟨x.toBitVec.toNat, x.toBitVec.isLt, ?_⟩
    apply Int32.toBitVec_inj.mp
    show x.toBitVec = BitVec.ofNat 32 x.toBitVec.toNat
    rw [BitVec.ofNat_toNat, BitVec.setWidth_eq]
  obtain ⟨B0, B1, B2, B3, h0, h1, h2, h3, rfl⟩ : ∃ B0 B1 B2 B3 : Nat, B0 < 256 ∧ B1 < 256 ∧ B2 < 256 ∧ B3 < 256 ∧ n = m4 B3 B2 B1 B0 :=
    ⟨n % 256, n / 256 % 256, n / 65536 % 256, n / 16777216, by omega, by omega, by omega, by omega, by unfold m4; omega⟩
  have eb : ∀ k, bt (nI (m4 B3 B2 B1 B0)) k = if k < 8 then B0.testBit k else if k < 16 then B1.testBit (k - 8) else if k < 24 then B2.testBit (k - 16) else B3.testBit (k - 24) := fun k => by
    rw [b_nI hn, z_tb h0 h1 h2 h3]
  have c32 : ct (bt (nI (m4 B3 B2 B1 B0))) 32 = s3 B0 + s3 B1 + s3 B2 + s3 B3 := by
    rw [s3_b B0 h0, s3_b B1 h1, s3_b B2 h2, s3_b B3 h3]
    rw [show 32 = 24 + 8 from rfl, ct_split _ 24 8, show 24 = 16 + 8 from rfl, ct_split _ 16 8, show 16 = 8 + 8 from rfl, ct_split _ 8 8]
    congr 1
    · congr 1
      · congr 1
        · exact ct_cong (fun k hk => by rw [eb, if_pos hk])
        · exact ct_cong (fun k hk => by show bt _ (8 + k) = _; rw [eb, if_neg (by (try unfold m4); omega), if_pos (by (try unfold m4); omega), show 8 + k - 8 = k by omega])
      · exact ct_cong (fun k hk => by show bt _ (16 + k) = _; rw [eb, if_neg (by (try unfold m4); omega), if_neg (by (try unfold m4); omega), if_pos (by (try unfold m4); omega), show 16 + k - 16 = k by omega])
    · exact ct_cong (fun k hk => by show bt _ (24 + k) = _; rw [eb, if_neg (by (try unfold m4); omega), if_neg (by (try unfold m4); omega), if_neg (by (try unfold m4); omega), show 24 + k - 24 = k by omega])
  have l0 : s3 B0 ≤ 8 := by rw [s3_b B0 h0]; exact ct_le _ _
  have l1 : s3 B1 ≤ 8 := by rw [s3_b B1 h1]; exact ct_le _ _
  have l2 : s3 B2 ≤ 8 := by rw [s3_b B2 h2]; exact ct_le _ _
  have l3 : s3 B3 ≤ 8 := by rw [s3_b B3 h3]; exact ct_le _ _
  rw [c32]
  unfold pBC
  rw [bc_1 h0 h1 h2 h3, bc_2 h0 h1 h2 h3, bc_3 h0 h1 h2 h3]
  unfold bc4 bc5 ushr
  rw [pk_ushrN (n := m4 (s3 B3) (s3 B2) (s3 B1) (s3 B0)) (by (try unfold m4); omega) 8 8 (by decide +kernel), nI_add]
  have e1 : m4 (s3 B3) (s3 B2) (s3 B1) (s3 B0) + m4 (s3 B3) (s3 B2) (s3 B1) (s3 B0) / 2 ^ 8 = m4 (s3 B3) (s3 B2 + s3 B3) (s3 B1 + s3 B2) (s3 B0 + s3 B1) := by (try unfold m4); omega
  rw [e1, pk_ushrN (n := m4 (s3 B3) (s3 B2 + s3 B3) (s3 B1 + s3 B2) (s3 B0 + s3 B1)) (by (try unfold m4); omega) 16 16 (by decide +kernel), nI_add]
  have e2 : (63 : Int32) = nI (2 ^ 6 - 1) := by decide +kernel
  have e3 : m4 (s3 B3) (s3 B2 + s3 B3) (s3 B1 + s3 B2) (s3 B0 + s3 B1) / 2 ^ 16 = (s3 B2 + s3 B3) + 256 * s3 B3 := by unfold m4; omega
  have e4 : m4 (s3 B3) (s3 B2 + s3 B3) (s3 B1 + s3 B2) (s3 B0 + s3 B1) + ((s3 B2 + s3 B3) + 256 * s3 B3) = 2 ^ 6 * (4 * (256 * (256 * s3 B3 + (s3 B2 + s3 B3)) + (s3 B1 + s3 B2) + s3 B3)) + (s3 B0 + s3 B1 + s3 B2 + s3 B3) := by unfold m4; omega
  rw [e2, nI_and, Nat.and_two_pow_sub_one_eq_mod, e3, e4, Nat.mul_add_mod, Nat.mod_eq_of_lt (by omega)]
