/-! more of the prover's own kit: named tops, compares over Nat forms, arraycopy from 0, the worlds' array classes -/
section ZT
variable {p : Program} {l : Launch} {e : Env} {R : Room} {s : State} {m : MethodId} {args : Array Value} {below : List Frame} {meth : Method} {c : Code} {H : Heap} {locs : List Loc} {cells slots : Nat} {Q : State → Prop}
variable {cc : ByteArray} {pc : Nat} {ls : Array Slot} {rest : List Value} {D : va_G} {cl : List vw_C} {A : Nat → Prop} {a : Nat} {tys : List (ClassId × FieldType)} {ws : va_W} {H0 : Heap}
theorem z_topi {x y : Int32} (h : x = y) (k : W p l e R s m args below meth c H locs cells slots Q (F0 m pc ls (.int y :: rest))) : W p l e R s m args below meth c H locs cells slots Q (F0 m pc ls (.int x :: rest)) := by rw [h]; exact k
theorem z_topl {x y : Int64} (h : x = y) (k : W p l e R s m args below meth c H locs cells slots Q (F0 m pc ls (.long y :: rest))) : W p l e R s m args below meth c H locs cells slots Q (F0 m pc ls (.long x :: rest)) := by rw [h]; exact k
theorem z_cpy (f g : Nat → Int32) (n : Nat) : va_cpy f g 0 0 n = zfill f g n := by
  funext k
  simp [va_cpy, zfill]
theorem z_copy (hexec : p.tables.exec = Jvm.exec) (hb : c.code = cc) (hml : c.maxLocals = ls.size) {own : String} {index : Nat} (hown : s.vm.findClass own = some m.cls) (hlink : (Cond.methodLink own index arraycopyName).before args s = true) (hnat : (Cond.native arraycopyName).before args s = true) (hstat : (Cond.static arraycopyName).before args s = true) (hini : (Cond.initialized "java/lang/System").before args s = true)
    (hK : va_K D cl tys s) (hP : va_P D cl ws H) (hD : va_D A ws) (hS : va_S A H0 H locs) (q0 q1 t0 t1 : Nat) {a0 : Nat} {c0 c1 : ClassId} {n0 n1 : Nat} {f g : Nat → Int32} (ha0 : ws[q0]? = some (a0, .inl (c0, n0, .inl f))) (ha1 : ws[q1]? = some (a, .inl (c1, n1, .inl g))) (ht0 : tys[t0]? = some (c0, .int)) (ht1 : tys[t1]? = some (c1, .int))
    (N : Nat) {n : Int32} (hn : n = nI N) (hle : N ≤ n0 ∧ N ≤ n1 ∧ N < 2 ^ 31) (hframes : 1 ≤ R.frames) (hlocals : (rest.map fun v => v.category).sum + (nativeFrameWords "java/lang/System" "arraycopy" 5 + 11) ≤ R.locals) (hdg : decode cc pc = .ok (.invokestatic index, 3))
    (kk : ∀ (H1 : Heap) (locs1 : List Loc), va_P D cl (ws.set q1 (a, .inl (c1, n1, .inl (zfill f g N)))) H1 → va_D A (ws.set q1 (a, .inl (c1, n1, .inl (zfill f g N)))) → va_S A H0 H1 locs1 → W p l e R s m args below meth c H1 locs1 cells slots Q (F0 m (pc + 3) ls rest)) : W p l e R s m args below meth c H locs cells slots Q (F0 m pc ls (.int n :: .int 0 :: .ref a :: .int 0 :: .ref a0 :: rest)) := by
  subst hn
  have hN : (nI N).toNatClampNeg = N := nI_clamp hle.2.2
  have h0 : (0 : Int32).toNatClampNeg = 0 := rfl
  refine va_copyi hexec hb hml hown hlink hnat hstat hini hK hP hD hS q0 q1 t0 t1 ha0 ha1 ht0 ht1 rfl (by decide) (by decide) (nI_pos hle.2.2) (by rw [hN, h0]; omega) (by rw [hN, h0]; omega) (fun i _ => rfl) hframes hlocals hdg (fun H1 locs1 hP hD hS => ?_)
  rw [hN, h0, z_cpy] at hP hD
  exact kk H1 locs1 hP hD hS
end ZT
theorem zc_le_t {a b : Nat} (ha : a < 2 ^ 31) (hb : b < 2 ^ 31) (h : nI a ≤ nI b) : a ≤ b := (nI_leI ha hb).mp h
theorem zc_le_f {a b : Nat} (ha : a < 2 ^ 31) (hb : b < 2 ^ 31) (h : ¬ nI a ≤ nI b) : b < a := Nat.lt_of_not_le fun q => h ((nI_leI ha hb).mpr q)
theorem zc_lt_t {a b : Nat} (ha : a < 2 ^ 31) (hb : b < 2 ^ 31) (h : nI a < nI b) : a < b := (nI_ltI ha hb).mp h
theorem zc_lt_f {a b : Nat} (ha : a < 2 ^ 31) (hb : b < 2 ^ 31) (h : ¬ nI a < nI b) : b ≤ a := Nat.le_of_not_lt fun q => h ((nI_ltI ha hb).mpr q)
theorem zc_eq_t {a b : Nat} (ha : a < 2 ^ 31) (hb : b < 2 ^ 31) (h : nI a = nI b) : a = b := (nI_eq ha hb).mp h
theorem zc_eq_f {a b : Nat} (ha : a < 2 ^ 31) (hb : b < 2 ^ 31) (h : ¬ nI a = nI b) : a ≠ b := fun q => h ((nI_eq ha hb).mpr q)
abbrev wT (cI cZ cJ cD : ClassId) : zT := [(cI, .int), (cZ, .boolean), (cJ, .array .int), (cD, .array .boolean)]
def zfrom (f g : Nat → Int32) (i : Nat) : Nat → Int32 := fun j => if 1 ≤ j ∧ j < i + 1 then f j else g j
theorem zfrom_0 (f g : Nat → Int32) : zfrom f g 0 = g := by
  funext j
  have : ¬ (1 ≤ j ∧ j < 0 + 1) := by omega
  simp only [zfrom, if_neg this]
theorem zfrom_succ (f g : Nat → Int32) (i : Nat) : upd (zfrom f g i) (i + 1) (f (i + 1)) = zfrom f g (i + 1) := by
  funext j
  unfold upd zfrom
  by_cases h : j = i + 1
  · subst h
    rw [if_pos rfl, if_pos ⟨by omega, by omega⟩]
  · rw [if_neg h]
    by_cases h2 : 1 ≤ j ∧ j < i + 1
    · rw [if_pos h2, if_pos ⟨h2.1, by omega⟩]
    · rw [if_neg h2, if_neg (by omega)]
theorem zfrom_at {f g : Nat → Int32} {i j : Nat} (h : i < j) : zfrom f g i j = g j := by
  have : ¬ (1 ≤ j ∧ j < i + 1) := by omega
  simp only [zfrom, if_neg this]
theorem zfrom_in {f g : Nat → Int32} {i j : Nat} (h1 : 1 ≤ j) (h2 : j ≤ i) : zfrom f g i j = f j := by
  have : (1 ≤ j ∧ j < i + 1) := by omega
  simp only [zfrom, if_pos this]
