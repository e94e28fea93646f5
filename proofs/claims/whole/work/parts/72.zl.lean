/-! THE LAW: calls that were wanting, an argument out of the script, what holds at every call -/
section ZLW
variable {p : Program} {l : Launch} {e : Env} {R : Room} {s : State} {m : MethodId} {args : Array Value} {below : List Frame} {meth : Method} {c : Code} {H : Heap} {locs : List Loc} {cells slots : Nat} {Q : State → Prop}
variable {cc : ByteArray} {pc : Nat} {ls : Array Slot} {rest : List Value} {D : va_G} {A : Nat → Prop} {ws : va_W} {H0 : Heap}
variable {Ts wsy : List Cond} {bytes : ByteArray} {nL maxL index n : Nat} {own C : String} {y : MethodName} {ret : Option FieldType} {rm : Room} {b : Nat} {As st0 : List Value} {T : zT} {W0 : va_W} {S : Type} {W1 : S → va_W}
theorem z_callVd {post : UInt64 → S → Prop} (F : CallFix p m c cc nL s args Ts own) (hM : zDb l D T y wsy rm W0 (.ref b :: As) W1 post) (cw : CallW R s args own C index y bytes maxL ret wsy rm 0 0 n) (hK : va_K D vwCl T s) (hN : zN s) (hP : va_P D vwCl ws H) (hD : va_D A ws) (hS : va_S A H0 H locs) (hA : ∀ q, H0.size ≤ q → A q)
    (isC : List Nat) (hC : isC.map (fun i => ws[i]?) = W0.map some) (hnd : va_nd isC = true) (hf : ∀ u, (W1 u).map Prod.fst = W0.map Prod.fst) (q0 : Nat) {ci : Nat} {q : vw_C} {fs : List Value} (hc : vwCl[ci]? = some q) (hq : q.1 = C) (he : ws[q0]? = some (b, .inr (ci, fs)))
    (hn : As.length = n) (hl : ls.size = nL) (hst : st0 = As.reverse ++ .ref b :: rest) (hW : (rest.map fun v => v.category).sum ≤ 8) (hdg : decode cc pc = .ok (.invokevirtual index, 3)) (hcs : cells + 0 ≤ R.cells ∧ slots + 0 ≤ R.slots)
    (kk : ∀ (r : UInt64) (u : S) (H1 : Heap) (locs1 : List Loc), post r u → va_P D vwCl (zput ws isC (W1 u)) H1 → va_D A (zput ws isC (W1 u)) → va_S A H0 H1 locs1 → W p l e R s m args below meth c H1 locs1 cells slots Q (F0 m (pc + 3) ls (.double r :: rest))) : W p l e R s m args below meth c H locs cells slots Q (F0 m pc ls st0) := by
  have hFc := va_free (wc := W0) hD hS hA isC hC
  have hr := va_recv hK hP hc he
  rw [hq] at hr
  exact va_calld (va_runV F (hM H.size) cw ⟨zPc_blind, hr, z_pre hK hN (z_subP hP isC hC) (hD.sub isC hnd hC)⟩ rfl hn hl hst (lv_room hW) hdg hcs) hS (fun q _ h => hFc q h) hFc (fun r u t H1 locs1 ht _ hp hB _ hk1 hS1 => by
    obtain ⟨h1, h2⟩ := z_jn hP hD isC hC hk1 (by rw [← ht]; exact hB) (hf u)
    exact kk r u H1 locs1 hp h1 h2 hS1)
theorem z_callVc {mc ms : Nat} {post : Int64 → S → Prop} (F : CallFix p m c cc nL s args Ts own) (hM : zLc l D T y wsy rm W0 (.ref b :: As) W1 post mc ms) (cw : CallW R s args own C index y bytes maxL ret wsy rm mc ms n) (hK : va_K D vwCl T s) (hN : zN s) (hP : va_P D vwCl ws H) (hD : va_D A ws) (hS : va_S A H0 H locs) (hA : ∀ q, H0.size ≤ q → A q)
    (isC : List Nat) (hC : isC.map (fun i => ws[i]?) = W0.map some) (hnd : va_nd isC = true) (hf : ∀ u, (W1 u).map Prod.fst = W0.map Prod.fst) (q0 : Nat) {ci : Nat} {q : vw_C} {fs : List Value} (hc : vwCl[ci]? = some q) (hq : q.1 = C) (he : ws[q0]? = some (b, .inr (ci, fs)))
    (hn : As.length = n) (hl : ls.size = nL) (hst : st0 = As.reverse ++ .ref b :: rest) (hW : (rest.map fun v => v.category).sum ≤ 8) (hdg : decode cc pc = .ok (.invokevirtual index, 3)) (hcs : cells + mc ≤ R.cells ∧ slots + ms ≤ R.slots)
    (kk : ∀ (r : Int64) (u : S) (H1 : Heap) (locs1 : List Loc), post r u → va_P D vwCl (zput ws isC (W1 u)) H1 → va_D A (zput ws isC (W1 u)) → va_S A H0 H1 locs1 → W p l e R s m args below meth c H1 locs1 (cells + mc) (slots + ms) Q (F0 m (pc + 3) ls (.long r :: rest))) : W p l e R s m args below meth c H locs cells slots Q (F0 m pc ls st0) := by
  have hFc := va_free (wc := W0) hD hS hA isC hC
  have hr := va_recv hK hP hc he
  rw [hq] at hr
  exact va_calll (va_runV F (hM H.size) cw ⟨zPc_blind, hr, z_pre hK hN (z_subP hP isC hC) (hD.sub isC hnd hC)⟩ rfl hn hl hst (lv_room hW) hdg hcs) hS (fun q _ h => hFc q h) hFc (fun r u t H1 locs1 ht _ hp hB _ hk1 hS1 => by
    obtain ⟨h1, h2⟩ := z_jn hP hD isC hC hk1 (by rw [← ht]; exact hB) (hf u)
    exact kk r u H1 locs1 hp h1 h2 hS1)
/-- script[i + k] -/
theorem z_arg {L i : Nat} {xs : Nat → Int32} {kz : Int} (k : Nat) (hx : p.tables.exec = Jvm.exec) (hb : c.code = cc) (hX : va_X b L xs s H0) (hbl : b < H0.size) (hbA : ¬ A b) (hS : va_S A H0 H locs) (g0 : ls[0]? = some (.val (.ref b))) (g5 : ls[5]? = some (.val (.int (nI i)))) (hz : Int32.ofInt kz = nI k) (hi : i + k < L) (hL : L < 2 ^ 31)
    (d0 : decode cc pc = .ok (.aload_n 0, 1)) (d1 : decode cc (pc + 1) = .ok (.iload 5, 2)) (d3 : decode cc (pc + 3) = .ok (.iconst kz, 1)) (d4 : decode cc (pc + 4) = .ok (.iadd, 1)) (d5 : decode cc (pc + 5) = .ok (.iaload, 1))
    (kk : W p l e R s m args below meth c H locs cells slots Q (F0 m (pc + 6) ls (.int (xs (i + k)) :: rest))) : W p l e R s m args below meth c H locs cells slots Q (F0 m pc ls rest) := by
  refine lv_aload_n hx hb d0 rfl g0 ?_
  refine lv_iload hx hb d1 g5 ?_
  refine lv_iconst (v := nI k) hx hb d3 hz ?_
  refine lv_iadd hx hb d4 ?_
  refine z_topi (nI_add i k) ?_
  refine va_sld hx hb hX hbl hbA hS (vp_in_nI hi hL) d5 ?_
  rw [nI_clamp (Nat.lt_trans hi hL)]
  exact kk
theorem z_lald (hx : p.tables.exec = Jvm.exec) (hb : c.code = cc) {tys : List (ClassId × FieldType)} {cl : List vw_C} {a : Nat} (hK : va_K D cl tys s) (hP : va_P D cl ws H) (q0 t0 : Nat) {cA : ClassId} {f : Nat → Int64} (ha : ws[q0]? = some (a, .inl (cA, 1, .inr (.inl f)))) (ht : tys[t0]? = some (cA, .long)) (hdg : decode cc pc = .ok (.laload, 1))
    (kk : W p l e R s m args below meth c H locs cells slots Q (F0 m (pc + 1) ls (.long (f 0) :: rest))) : W p l e R s m args below meth c H locs cells slots Q (F0 m pc ls (.int 0 :: .ref a :: rest)) := by
  have h0 : (0 : Int32).toNatClampNeg = 0 := rfl
  refine va_lald hx hb hK hP q0 t0 ha ht (by show ¬ ((0 : Int32) < 0 ∨ 1 ≤ (0 : Int32).toNatClampNeg); decide +kernel) hdg ?_
  rw [h0]
  exact kk
theorem z_dald (hx : p.tables.exec = Jvm.exec) (hb : c.code = cc) {tys : List (ClassId × FieldType)} {cl : List vw_C} {a : Nat} (hK : va_K D cl tys s) (hP : va_P D cl ws H) (q0 t0 : Nat) {cA : ClassId} {f : Nat → UInt64} (ha : ws[q0]? = some (a, .inl (cA, 1, .inr (.inr (.inr (.inl f)))))) (ht : tys[t0]? = some (cA, .double)) (hdg : decode cc pc = .ok (.daload, 1))
    (kk : W p l e R s m args below meth c H locs cells slots Q (F0 m (pc + 1) ls (.double (f 0) :: rest))) : W p l e R s m args below meth c H locs cells slots Q (F0 m pc ls (.int 0 :: .ref a :: rest)) := by
  have h0 : (0 : Int32).toNatClampNeg = 0 := rfl
  refine va_dald hx hb hK hP q0 t0 ha ht (by show ¬ ((0 : Int32) < 0 ∨ 1 ≤ (0 : Int32).toNatClampNeg); decide +kernel) hdg ?_
  rw [h0]
  exact kk
end ZLW
theorem lw_cmp0 {x y : Int64} (h : x = y) : lg_cmp x y = 0 := by
  subst h
  have h1 : ¬ x > x := fun q => absurd q (Int64.lt_irrefl)
  show (if x > x then (1 : Int32) else if x = x then 0 else -1) = 0
  rw [if_neg h1, if_pos rfl]
def lwI (wn hn q0 : Nat) (bd sb : Int32) (S0 : Nat → Int32) (K0 : Nat → Nat) (T0 : Nat → Bool) : Prop := gok wn hn ∧ (1 ≤ q0 ∧ q0 ≤ 4) ∧ (∀ c, K0 c ≤ 4) ∧ RB wn hn bd ∧ RT wn hn T0 sb ∧ RS wn hn K0 S0
def lwC (p : Program) (l : Launch) (s : State) (m : MethodId) (c : Code) (b L : Nat) (xs : Nat → Int32) (dC : Nat → ClassId) (dI : Nat → Nat → Nat) (cI cZ cJ cD : ClassId) (ad : Nat → Nat) : Prop :=
  CallFix p m c cL_law 9 s #[Value.ref b] wsL_law RL ∧ va_K (dC, dI) vwCl (wT cI cZ cJ cD) s ∧ zE (fun q : Nat => s.heap.size ≤ q) ad s s.heap ∧ va_X b L xs s s.heap ∧ b < s.heap.size ∧ l.stackTraces = false ∧ L ≤ 2048
theorem lw_on {x y : Int32} {w h : Nat} (g : gok w h) (q : pOn x y (nI w) (nI h)) : ∃ a b : Nat, a < w ∧ b < h ∧ x = nI a ∧ y = nI b := on_of (by have := g.2.1; omega) (by have := g.2.2.2; omega) q
theorem lw_mk {w h a b : Nat} {x y : Int32} (g : gok w h) (ha : a < w) (hb : b < h) (ex : x = nI a) (ey : y = nI b) : mk w h (pCell x y) (fun d => decide (d = w * b + a)) := by
  rw [ex, ey]
  exact cell_mk g ha hb
theorem lw_RS0 {w h : Nat} {K : Nat → Nat} {S : Nat → Int32} (hS : RS w h K S) {j : Nat} (hj : j < 5) : RS w h K (pDye S 0 (nI j)) := by
  have hd := t_dye hS (mk_none (w := w) (h := h)) hj
  have e : (fun d => if (fun _ => false) d = true then j else K d) = K := by
    funext d
    exact if_neg Bool.false_ne_true
  rw [← e]
  exact hd
theorem lw_rng {x M : Int32} {N : Nat} (hM : M = nI N) (hN : N < 1000) (h : ¬ x < 1 ∧ x ≤ M) : ∃ n : Nat, (1 ≤ n ∧ n ≤ N) ∧ x = nI n := by
  obtain ⟨n, h1, h2, h3⟩ := z_rng hM hN h.1 h.2
  exact ⟨n, ⟨h1, h2⟩, h3⟩
theorem lw_no {x M : Int32} (h : ¬ (¬ x < 1 ∧ x ≤ M)) : ¬ pIn x 1 M := fun q => h ⟨q.1, Int32.not_lt.mp q.2⟩
theorem lw_in {x M : Int32} (h : ¬ x < 1 ∧ x ≤ M) : pIn x 1 M := ⟨h.1, Int32.not_lt.mpr h.2⟩
theorem lw_col {x : Int32} (h : pCol x) : ∃ j : Nat, j < 5 ∧ j ≠ 0 ∧ x = nI j := by
  obtain ⟨n, h1, h2, h3⟩ := z_col h
  exact ⟨n, by omega, by omega, h3⟩

