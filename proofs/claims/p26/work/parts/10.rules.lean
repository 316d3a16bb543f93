/-! runs of the abstract machine as a judgement: it ends, and its end is as Q says; a rule an instruction -/
theorem xm_ex_succ {L : Nat} {xs : Nat → Int32} : ∀ (n k pc : Nat) (ls st : List Value) (hp : xm_H) (r : xm_R), xm_ex L xs n k pc ls st hp = some r → xm_ex L xs (n + 1) k pc ls st hp = some r := by
  intro n
  induction n with
  | zero => intro k pc ls st hp r h; cases h
  | succ n ih =>
    intro k pc ls st hp r h
    rw [xm_ex] at h ⊢
    cases hq : xm_ins k pc with
    | none => rw [hq] at h; cases h
    | some q =>
      rw [hq] at h
      dsimp only at h ⊢
      cases hs : xm_step L xs (xm_rb k) pc q ls st hp with
      | none => rw [hs] at h; cases h
      | some o =>
        rw [hs] at h
        obtain ⟨pc', ls', st', hp'⟩ | r' | ⟨j, as, nx, ls', rest, hp1⟩ := o
        · exact ih _ _ _ _ _ _ h
        · exact h
        · dsimp only at h ⊢
          cases hc : xm_ex L xs n j 0 (xm_pad j as) [] hp1 with
          | none => rw [hc] at h; cases h
          | some w =>
            rw [hc] at h
            rw [ih _ _ _ _ _ _ hc]
            obtain ⟨u, hp'⟩ := w
            cases u with
            | none => exact ih _ _ _ _ _ _ h
            | some u => exact ih _ _ _ _ _ _ h
theorem xm_ex_le {L : Nat} {xs : Nat → Int32} {n n' k pc : Nat} {ls st : List Value} {hp : xm_H} {r : xm_R} (hn : n ≤ n') (h : xm_ex L xs n k pc ls st hp = some r) : xm_ex L xs n' k pc ls st hp = some r := by
  obtain ⟨d, rfl⟩ := Nat.le.dest hn
  induction d with
  | zero => exact h
  | succ d ih => exact xm_ex_succ _ _ _ _ _ _ _ (ih (Nat.le_add_right _ _))
def xw (L : Nat) (xs : Nat → Int32) (k pc : Nat) (ls st : List Value) (hp : xm_H) (Q : Option Value → xm_H → Prop) : Prop := ∃ n r hp', xm_ex L xs n k pc ls st hp = some (r, hp') ∧ Q r hp'
def xc (L : Nat) (xs : Nat → Int32) (j : Nat) (as : List Value) (hp : xm_H) (Q : Option Value → xm_H → Prop) : Prop := xw L xs j 0 (xm_pad j as) [] hp Q
/-- behind a call -/
def xk (L : Nat) (xs : Nat → Int32) (k nx : Nat) (ls rest : List Value) (Q : Option Value → xm_H → Prop) : Option Value → xm_H → Prop := fun u hp => xw L xs k nx ls (u.toList ++ rest) hp Q
section XR
variable {L : Nat} {xs : Nat → Int32} {k pc nx x y : Nat} {v : Int} {ls st : List Value} {hp : xm_H} {Q : Option Value → xm_H → Prop}
theorem xw.step {q : xm_Q} {pc' : Nat} {ls' st' : List Value} {hp' : xm_H} (hi : xm_ins k pc = some q) (hs : xm_step L xs (xm_rb k) pc q ls st hp = some (.inl (pc', ls', st', hp'))) (hk : xw L xs k pc' ls' st' hp' Q) : xw L xs k pc ls st hp Q := by
  obtain ⟨n, r, h1, h2, h3⟩ := hk
  refine ⟨n + 1, r, h1, ?_, h3⟩
  unfold xm_ex
  rw [hi]
  dsimp only
  rw [hs]
  exact h2
theorem xw.ret {q : xm_Q} {r : Option Value} {hp' : xm_H} (hi : xm_ins k pc = some q) (hs : xm_step L xs (xm_rb k) pc q ls st hp = some (.inr (.inl (r, hp')))) (hk : Q r hp') : xw L xs k pc ls st hp Q := by
  refine ⟨1, r, hp', ?_, hk⟩
  unfold xm_ex
  rw [hi]
  dsimp only
  rw [hs]
theorem xw.call {q : xm_Q} {j : Nat} {as ls' rest : List Value} {hp' : xm_H} (hi : xm_ins k pc = some q) (hs : xm_step L xs (xm_rb k) pc q ls st hp = some (.inr (.inr (j, as, nx, ls', rest, hp')))) (hk : xc L xs j as hp' (xk L xs k nx ls' rest Q)) : xw L xs k pc ls st hp Q := by
  obtain ⟨n, u, h1, h2, n', r, h3, h4, h5⟩ := hk
  refine ⟨max n n' + 1, r, h3, ?_, h5⟩
  unfold xm_ex
  rw [hi]
  dsimp only
  rw [hs]
  dsimp only
  rw [xm_ex_le (Nat.le_max_left n n') h2]
  have h6 := xm_ex_le (Nat.le_max_right n n') h4
  cases u with
  | none => exact h6
  | some u => exact h6
theorem xw.mono {Q' : Option Value → xm_H → Prop} (h : xw L xs k pc ls st hp Q) (hq : ∀ r hp', Q r hp' → Q' r hp') : xw L xs k pc ls st hp Q' := by
  obtain ⟨n, r, h1, h2, h3⟩ := h
  exact ⟨n, r, h1, h2, hq _ _ h3⟩
theorem xr_k {u : Value} {rest : List Value} (h : xw L xs k nx ls (u :: rest) hp Q) : xk L xs k nx ls rest Q (some u) hp := h
theorem xr_kv {rest : List Value} (h : xw L xs k nx ls rest hp Q) : xk L xs k nx ls rest Q none hp := h
-- constants
theorem xr_iconst {n : Int} {z : Int32} (hi : xm_ins k pc = some (.iconst n, nx, x, y, v)) (hz : xm_i v = z) (hk : xw L xs k nx ls (.int z :: st) hp Q) : xw L xs k pc ls st hp Q := xw.step hi (by rw [← hz]; rfl) hk
theorem xr_bipush {n : Int} {z : Int32} (hi : xm_ins k pc = some (.bipush n, nx, x, y, v)) (hz : xm_i v = z) (hk : xw L xs k nx ls (.int z :: st) hp Q) : xw L xs k pc ls st hp Q := xw.step hi (by rw [← hz]; rfl) hk
theorem xr_sipush {n : Int} {z : Int32} (hi : xm_ins k pc = some (.sipush n, nx, x, y, v)) (hz : xm_i v = z) (hk : xw L xs k nx ls (.int z :: st) hp Q) : xw L xs k pc ls st hp Q := xw.step hi (by rw [← hz]; rfl) hk
theorem xr_ldc {n : Nat} {z : Int32} (hi : xm_ins k pc = some (.ldc n, nx, x, y, v)) (hz : xm_i v = z) (hk : xw L xs k nx ls (.int z :: st) hp Q) : xw L xs k pc ls st hp Q := xw.step hi (by rw [← hz]; rfl) hk
theorem xr_ldc_w {n : Nat} {z : Int32} (hi : xm_ins k pc = some (.ldc_w n, nx, x, y, v)) (hz : xm_i v = z) (hk : xw L xs k nx ls (.int z :: st) hp Q) : xw L xs k pc ls st hp Q := xw.step hi (by rw [← hz]; rfl) hk
-- locals
theorem xr_iload_n {n : Fin 4} {u : Int32} (hi : xm_ins k pc = some (.iload_n n, nx, x, y, v)) (hl : ls[x]? = some (.int u)) (hk : xw L xs k nx ls (.int u :: st) hp Q) : xw L xs k pc ls st hp Q := xw.step hi (by simp only [xm_step, hl]) hk
theorem xr_iload {n : Nat} {u : Int32} (hi : xm_ins k pc = some (.iload n, nx, x, y, v)) (hl : ls[x]? = some (.int u)) (hk : xw L xs k nx ls (.int u :: st) hp Q) : xw L xs k pc ls st hp Q := xw.step hi (by simp only [xm_step, hl]) hk
theorem xr_aload_n {n : Fin 4} {u : Nat} (hi : xm_ins k pc = some (.aload_n n, nx, x, y, v)) (hl : ls[x]? = some (.ref u)) (hk : xw L xs k nx ls (.ref u :: st) hp Q) : xw L xs k pc ls st hp Q := xw.step hi (by simp only [xm_step, hl]) hk
theorem xr_aloads {n : Fin 4} {u : UInt32} (hi : xm_ins k pc = some (.aload_n n, nx, x, y, v)) (hl : ls[x]? = some (.float u)) (hk : xw L xs k nx ls (.float u :: st) hp Q) : xw L xs k pc ls st hp Q := xw.step hi (by simp only [xm_step, hl]) hk
theorem xr_istore_n {n : Fin 4} {u : Int32} {ls' : List Value} (hi : xm_ins k pc = some (.istore_n n, nx, x, y, v)) (hx : x < ls.length) (hl : ls.set x (.int u) = ls') (hk : xw L xs k nx ls' st hp Q) : xw L xs k pc ls (.int u :: st) hp Q := xw.step hi (by simp only [xm_step, if_pos hx, hl]) hk
theorem xr_istore {n : Nat} {u : Int32} {ls' : List Value} (hi : xm_ins k pc = some (.istore n, nx, x, y, v)) (hx : x < ls.length) (hl : ls.set x (.int u) = ls') (hk : xw L xs k nx ls' st hp Q) : xw L xs k pc ls (.int u :: st) hp Q := xw.step hi (by simp only [xm_step, if_pos hx, hl]) hk
theorem xr_astore_n {n : Fin 4} {u : Nat} {ls' : List Value} (hi : xm_ins k pc = some (.astore_n n, nx, x, y, v)) (hx : x < ls.length) (hl : ls.set x (.ref u) = ls') (hk : xw L xs k nx ls' st hp Q) : xw L xs k pc ls (.ref u :: st) hp Q := xw.step hi (by simp only [xm_step, if_pos hx, hl]) hk
theorem xr_iinc {n : Nat} {c : Int} {u z : Int32} {ls' : List Value} (hi : xm_ins k pc = some (.iinc n c, nx, x, y, v)) (hl0 : ls[x]? = some (.int u)) (hz : u + xm_i v = z) (hl : ls.set x (.int z) = ls') (hk : xw L xs k nx ls' st hp Q) : xw L xs k pc ls st hp Q := xw.step hi (by simp only [xm_step, hl0, hz, hl]) hk
-- the stack
theorem xr_goto {c : Int} (hi : xm_ins k pc = some (.goto c, nx, x, y, v)) (hk : xw L xs k x ls st hp Q) : xw L xs k pc ls st hp Q := xw.step hi rfl hk
theorem xr_pop {a : Value} (hi : xm_ins k pc = some (.pop, nx, x, y, v)) (hk : xw L xs k nx ls st hp Q) (hn : xm_nl a = true := by rfl) : xw L xs k pc ls (a :: st) hp Q := xw.step hi (by simp only [xm_step, if_pos hn]) hk
theorem xr_dup {a : Value} (hi : xm_ins k pc = some (.dup, nx, x, y, v)) (hk : xw L xs k nx ls (a :: a :: st) hp Q) (hn : xm_nl a = true := by rfl) : xw L xs k pc ls (a :: st) hp Q := xw.step hi (by simp only [xm_step, if_pos hn]) hk
theorem xr_dup2 {a b : Value} (hi : xm_ins k pc = some (.dup2, nx, x, y, v)) (hk : xw L xs k nx ls (a :: b :: a :: b :: st) hp Q) (hn : xm_nl a = true ∧ xm_nl b = true := by exact ⟨rfl, rfl⟩) : xw L xs k pc ls (a :: b :: st) hp Q := xw.step hi (by simp only [xm_step, if_pos hn]) hk
-- arithmetic
theorem xr_iadd {a b z : Int32} (hi : xm_ins k pc = some (.iadd, nx, x, y, v)) (hz : a + b = z) (hk : xw L xs k nx ls (.int z :: st) hp Q) : xw L xs k pc ls (.int b :: .int a :: st) hp Q := xw.step hi (by rw [← hz]; rfl) hk
theorem xr_isub {a b z : Int32} (hi : xm_ins k pc = some (.isub, nx, x, y, v)) (hz : a - b = z) (hk : xw L xs k nx ls (.int z :: st) hp Q) : xw L xs k pc ls (.int b :: .int a :: st) hp Q := xw.step hi (by rw [← hz]; rfl) hk
theorem xr_imul {a b z : Int32} (hi : xm_ins k pc = some (.imul, nx, x, y, v)) (hz : a * b = z) (hk : xw L xs k nx ls (.int z :: st) hp Q) : xw L xs k pc ls (.int b :: .int a :: st) hp Q := xw.step hi (by rw [← hz]; rfl) hk
theorem xr_iand {a b z : Int32} (hi : xm_ins k pc = some (.iand, nx, x, y, v)) (hz : a &&& b = z) (hk : xw L xs k nx ls (.int z :: st) hp Q) : xw L xs k pc ls (.int b :: .int a :: st) hp Q := xw.step hi (by rw [← hz]; rfl) hk
theorem xr_ior {a b z : Int32} (hi : xm_ins k pc = some (.ior, nx, x, y, v)) (hz : a ||| b = z) (hk : xw L xs k nx ls (.int z :: st) hp Q) : xw L xs k pc ls (.int b :: .int a :: st) hp Q := xw.step hi (by rw [← hz]; rfl) hk
theorem xr_ixor {a b z : Int32} (hi : xm_ins k pc = some (.ixor, nx, x, y, v)) (hz : a ^^^ b = z) (hk : xw L xs k nx ls (.int z :: st) hp Q) : xw L xs k pc ls (.int b :: .int a :: st) hp Q := xw.step hi (by rw [← hz]; rfl) hk
theorem xr_ishl {a b z : Int32} (hi : xm_ins k pc = some (.ishl, nx, x, y, v)) (hz : a <<< (b &&& 31) = z) (hk : xw L xs k nx ls (.int z :: st) hp Q) : xw L xs k pc ls (.int b :: .int a :: st) hp Q := xw.step hi (by rw [← hz]; rfl) hk
theorem xr_ishr {a b z : Int32} (hi : xm_ins k pc = some (.ishr, nx, x, y, v)) (hz : a >>> (b &&& 31) = z) (hk : xw L xs k nx ls (.int z :: st) hp Q) : xw L xs k pc ls (.int b :: .int a :: st) hp Q := xw.step hi (by rw [← hz]; rfl) hk
theorem xr_iushr {a b z : Int32} (hi : xm_ins k pc = some (.iushr, nx, x, y, v)) (hz : (a.toUInt32 >>> (b.toUInt32 &&& Int32.toUInt32 31)).toInt32 = z) (hk : xw L xs k nx ls (.int z :: st) hp Q) : xw L xs k pc ls (.int b :: .int a :: st) hp Q := xw.step hi (by rw [← hz]; rfl) hk
theorem xr_idiv {a b z : Int32} (hi : xm_ins k pc = some (.idiv, nx, x, y, v)) (hb : ¬ b = 0) (hz : a / b = z) (hk : xw L xs k nx ls (.int z :: st) hp Q) : xw L xs k pc ls (.int b :: .int a :: st) hp Q := xw.step hi (by simp only [xm_step, xm_bin, if_neg hb, hz]) hk
theorem xr_irem {a b z : Int32} (hi : xm_ins k pc = some (.irem, nx, x, y, v)) (hb : ¬ b = 0) (hz : a - a / b * b = z) (hk : xw L xs k nx ls (.int z :: st) hp Q) : xw L xs k pc ls (.int b :: .int a :: st) hp Q := xw.step hi (by simp only [xm_step, xm_bin, if_neg hb, hz]) hk
-- longs
theorem xr_ldc2w {n : Nat} {z : Int64} (hi : xm_ins k pc = some (.ldc2_w n, nx, x, y, v)) (hz : xm_l v = z) (hk : xw L xs k nx ls (.long z :: st) hp Q) : xw L xs k pc ls st hp Q := xw.step hi (by rw [← hz]; rfl) hk
theorem xr_lload_n {n : Fin 4} {u : Int64} (hi : xm_ins k pc = some (.lload_n n, nx, x, y, v)) (hl : ls[x]? = some (.long u)) (hk : xw L xs k nx ls (.long u :: st) hp Q) : xw L xs k pc ls st hp Q := xw.step hi (by simp only [xm_step, hl]) hk
theorem xr_lload {n : Nat} {u : Int64} (hi : xm_ins k pc = some (.lload n, nx, x, y, v)) (hl : ls[x]? = some (.long u)) (hk : xw L xs k nx ls (.long u :: st) hp Q) : xw L xs k pc ls st hp Q := xw.step hi (by simp only [xm_step, hl]) hk
theorem xr_lstore_n {n : Fin 4} {u : Int64} {ls' : List Value} (hi : xm_ins k pc = some (.lstore_n n, nx, x, y, v)) (hx : x + 1 < ls.length) (hl : (ls.set x (.long u)).set (x + 1) .null = ls') (hk : xw L xs k nx ls' st hp Q) : xw L xs k pc ls (.long u :: st) hp Q := xw.step hi (by simp only [xm_step, if_pos hx, hl]) hk
theorem xr_lstore {n : Nat} {u : Int64} {ls' : List Value} (hi : xm_ins k pc = some (.lstore n, nx, x, y, v)) (hx : x + 1 < ls.length) (hl : (ls.set x (.long u)).set (x + 1) .null = ls') (hk : xw L xs k nx ls' st hp Q) : xw L xs k pc ls (.long u :: st) hp Q := xw.step hi (by simp only [xm_step, if_pos hx, hl]) hk
theorem xr_i2l {a : Int32} {z : Int64} (hi : xm_ins k pc = some (.i2l, nx, x, y, v)) (hz : a.toInt64 = z) (hk : xw L xs k nx ls (.long z :: st) hp Q) : xw L xs k pc ls (.int a :: st) hp Q := xw.step hi (by rw [← hz]; rfl) hk
theorem xr_ladd {a b z : Int64} (hi : xm_ins k pc = some (.ladd, nx, x, y, v)) (hz : a + b = z) (hk : xw L xs k nx ls (.long z :: st) hp Q) : xw L xs k pc ls (.long b :: .long a :: st) hp Q := xw.step hi (by rw [← hz]; rfl) hk
theorem xr_lmul {a b z : Int64} (hi : xm_ins k pc = some (.lmul, nx, x, y, v)) (hz : a * b = z) (hk : xw L xs k nx ls (.long z :: st) hp Q) : xw L xs k pc ls (.long b :: .long a :: st) hp Q := xw.step hi (by rw [← hz]; rfl) hk
theorem xr_lcmp {a b : Int64} {z : Int32} (hi : xm_ins k pc = some (.lcmp, nx, x, y, v)) (hz : lg_cmp a b = z) (hk : xw L xs k nx ls (.int z :: st) hp Q) : xw L xs k pc ls (.long b :: .long a :: st) hp Q := xw.step hi (by rw [← hz]; rfl) hk
theorem xr_lret {u : Int64} (hi : xm_ins k pc = some (.lreturn, nx, x, y, v)) (hk : Q (some (.long u)) hp) : xw L xs k pc ls [.long u] hp Q := xw.ret hi rfl hk
-- branches, over what the values are as integers
theorem xr_ifj {c : ClassFile.Cond} {z : Int} {a : Int32} (hi : xm_ins k pc = some (.ifCond c z, nx, x, y, v)) (kt : xm_cb c a 0 = true → xw L xs k x ls st hp Q) (kf : ¬ xm_cb c a 0 = true → xw L xs k nx ls st hp Q) : xw L xs k pc ls (.int a :: st) hp Q := by
  by_cases h : xm_cb c a 0 = true
  · exact xw.step hi rfl (by rw [if_pos h]; exact kt h)
  · exact xw.step hi rfl (by rw [if_neg h]; exact kf h)
theorem xr_icj {c : ClassFile.Cond} {z : Int} {a b : Int32} (hi : xm_ins k pc = some (.if_icmp c z, nx, x, y, v)) (kt : xm_cb c a b = true → xw L xs k x ls st hp Q) (kf : ¬ xm_cb c a b = true → xw L xs k nx ls st hp Q) : xw L xs k pc ls (.int b :: .int a :: st) hp Q := by
  by_cases h : xm_cb c a b = true
  · exact xw.step hi rfl (by rw [if_pos h]; exact kt h)
  · exact xw.step hi rfl (by rw [if_neg h]; exact kf h)
theorem xr_cb {c : ClassFile.Cond} {a b : Int32} {i j : Int} (ha : a.toInt = i) (hb : b.toInt = j) : xm_cb c a b = true ↔ (match c with
  | .eq => i = j
  | .ne => ¬ i = j
  | .lt => i < j
  | .ge => j ≤ i
  | .gt => j < i
  | .le => i ≤ j) := by
  subst ha
  subst hb
  cases c <;> simp only [xm_cb, decide_eq_true_eq]
  · exact ⟨fun h => by rw [h], fun h => Int32.toInt_inj.mp h⟩
  · exact ⟨fun h q => h (Int32.toInt_inj.mp q), fun h q => h (by rw [q])⟩
  · exact Int32.lt_iff_toInt_lt
  · exact Int32.le_iff_toInt_le
  · exact Int32.lt_iff_toInt_lt
  · exact Int32.le_iff_toInt_le
theorem xr_if_eq {z : Int} {a : Int32} {i : Int} (hi : xm_ins k pc = some (.ifCond .eq z, nx, x, y, v)) (ha : a.toInt = i) (kt : i = 0 → xw L xs k x ls st hp Q) (kf : ¬ i = 0 → xw L xs k nx ls st hp Q) : xw L xs k pc ls (.int a :: st) hp Q :=
  xr_ifj hi (fun h => kt ((xr_cb (c := .eq) ha Int32.toInt_zero).mp h)) (fun h => kf (by have h := fun q => h ((xr_cb (c := .eq) ha Int32.toInt_zero).mpr q); exact h))
theorem xr_ic_eq {z : Int} {a b : Int32} {i j : Int} (hi : xm_ins k pc = some (.if_icmp .eq z, nx, x, y, v)) (ha : a.toInt = i) (hb : b.toInt = j) (kt : i = j → xw L xs k x ls st hp Q) (kf : ¬ i = j → xw L xs k nx ls st hp Q) : xw L xs k pc ls (.int b :: .int a :: st) hp Q :=
  xr_icj hi (fun h => kt ((xr_cb (c := .eq) ha hb).mp h)) (fun h => kf (by have h := fun q => h ((xr_cb (c := .eq) ha hb).mpr q); exact h))
theorem xr_if_ne {z : Int} {a : Int32} {i : Int} (hi : xm_ins k pc = some (.ifCond .ne z, nx, x, y, v)) (ha : a.toInt = i) (kt : ¬ i = 0 → xw L xs k x ls st hp Q) (kf : i = 0 → xw L xs k nx ls st hp Q) : xw L xs k pc ls (.int a :: st) hp Q :=
  xr_ifj hi (fun h => kt ((xr_cb (c := .ne) ha Int32.toInt_zero).mp h)) (fun h => kf (by have h := fun q => h ((xr_cb (c := .ne) ha Int32.toInt_zero).mpr q); exact Classical.not_not.mp h))
theorem xr_ic_ne {z : Int} {a b : Int32} {i j : Int} (hi : xm_ins k pc = some (.if_icmp .ne z, nx, x, y, v)) (ha : a.toInt = i) (hb : b.toInt = j) (kt : ¬ i = j → xw L xs k x ls st hp Q) (kf : i = j → xw L xs k nx ls st hp Q) : xw L xs k pc ls (.int b :: .int a :: st) hp Q :=
  xr_icj hi (fun h => kt ((xr_cb (c := .ne) ha hb).mp h)) (fun h => kf (by have h := fun q => h ((xr_cb (c := .ne) ha hb).mpr q); exact Classical.not_not.mp h))
theorem xr_if_lt {z : Int} {a : Int32} {i : Int} (hi : xm_ins k pc = some (.ifCond .lt z, nx, x, y, v)) (ha : a.toInt = i) (kt : i < 0 → xw L xs k x ls st hp Q) (kf : 0 ≤ i → xw L xs k nx ls st hp Q) : xw L xs k pc ls (.int a :: st) hp Q :=
  xr_ifj hi (fun h => kt ((xr_cb (c := .lt) ha Int32.toInt_zero).mp h)) (fun h => kf (by have h := fun q => h ((xr_cb (c := .lt) ha Int32.toInt_zero).mpr q); exact Int.not_lt.mp h))
theorem xr_ic_lt {z : Int} {a b : Int32} {i j : Int} (hi : xm_ins k pc = some (.if_icmp .lt z, nx, x, y, v)) (ha : a.toInt = i) (hb : b.toInt = j) (kt : i < j → xw L xs k x ls st hp Q) (kf : j ≤ i → xw L xs k nx ls st hp Q) : xw L xs k pc ls (.int b :: .int a :: st) hp Q :=
  xr_icj hi (fun h => kt ((xr_cb (c := .lt) ha hb).mp h)) (fun h => kf (by have h := fun q => h ((xr_cb (c := .lt) ha hb).mpr q); exact Int.not_lt.mp h))
theorem xr_if_ge {z : Int} {a : Int32} {i : Int} (hi : xm_ins k pc = some (.ifCond .ge z, nx, x, y, v)) (ha : a.toInt = i) (kt : 0 ≤ i → xw L xs k x ls st hp Q) (kf : i < 0 → xw L xs k nx ls st hp Q) : xw L xs k pc ls (.int a :: st) hp Q :=
  xr_ifj hi (fun h => kt ((xr_cb (c := .ge) ha Int32.toInt_zero).mp h)) (fun h => kf (by have h := fun q => h ((xr_cb (c := .ge) ha Int32.toInt_zero).mpr q); exact Int.not_le.mp h))
theorem xr_ic_ge {z : Int} {a b : Int32} {i j : Int} (hi : xm_ins k pc = some (.if_icmp .ge z, nx, x, y, v)) (ha : a.toInt = i) (hb : b.toInt = j) (kt : j ≤ i → xw L xs k x ls st hp Q) (kf : i < j → xw L xs k nx ls st hp Q) : xw L xs k pc ls (.int b :: .int a :: st) hp Q :=
  xr_icj hi (fun h => kt ((xr_cb (c := .ge) ha hb).mp h)) (fun h => kf (by have h := fun q => h ((xr_cb (c := .ge) ha hb).mpr q); exact Int.not_le.mp h))
theorem xr_if_gt {z : Int} {a : Int32} {i : Int} (hi : xm_ins k pc = some (.ifCond .gt z, nx, x, y, v)) (ha : a.toInt = i) (kt : 0 < i → xw L xs k x ls st hp Q) (kf : i ≤ 0 → xw L xs k nx ls st hp Q) : xw L xs k pc ls (.int a :: st) hp Q :=
  xr_ifj hi (fun h => kt ((xr_cb (c := .gt) ha Int32.toInt_zero).mp h)) (fun h => kf (by have h := fun q => h ((xr_cb (c := .gt) ha Int32.toInt_zero).mpr q); exact Int.not_lt.mp h))
theorem xr_ic_gt {z : Int} {a b : Int32} {i j : Int} (hi : xm_ins k pc = some (.if_icmp .gt z, nx, x, y, v)) (ha : a.toInt = i) (hb : b.toInt = j) (kt : j < i → xw L xs k x ls st hp Q) (kf : i ≤ j → xw L xs k nx ls st hp Q) : xw L xs k pc ls (.int b :: .int a :: st) hp Q :=
  xr_icj hi (fun h => kt ((xr_cb (c := .gt) ha hb).mp h)) (fun h => kf (by have h := fun q => h ((xr_cb (c := .gt) ha hb).mpr q); exact Int.not_lt.mp h))
theorem xr_if_le {z : Int} {a : Int32} {i : Int} (hi : xm_ins k pc = some (.ifCond .le z, nx, x, y, v)) (ha : a.toInt = i) (kt : i ≤ 0 → xw L xs k x ls st hp Q) (kf : 0 < i → xw L xs k nx ls st hp Q) : xw L xs k pc ls (.int a :: st) hp Q :=
  xr_ifj hi (fun h => kt ((xr_cb (c := .le) ha Int32.toInt_zero).mp h)) (fun h => kf (by have h := fun q => h ((xr_cb (c := .le) ha Int32.toInt_zero).mpr q); exact Int.not_le.mp h))
theorem xr_ic_le {z : Int} {a b : Int32} {i j : Int} (hi : xm_ins k pc = some (.if_icmp .le z, nx, x, y, v)) (ha : a.toInt = i) (hb : b.toInt = j) (kt : i ≤ j → xw L xs k x ls st hp Q) (kf : j < i → xw L xs k nx ls st hp Q) : xw L xs k pc ls (.int b :: .int a :: st) hp Q :=
  xr_icj hi (fun h => kt ((xr_cb (c := .le) ha hb).mp h)) (fun h => kf (by have h := fun q => h ((xr_cb (c := .le) ha hb).mpr q); exact Int.not_le.mp h))
-- fields and arrays
theorem xr_getf {n a : Nat} {fs : List Value} {u : Value} (hi : xm_ins k pc = some (.getfield n, nx, x, y, v)) (ha : hp[a]? = some (.inr (.inr (x, fs)))) (hu : fs[y]? = some u) (hk : xw L xs k nx ls (u :: st) hp Q) : xw L xs k pc ls (.ref a :: st) hp Q := xw.step hi (by simp only [xm_step, ha, hu, if_pos]) hk
theorem xr_putf {n a : Nat} {fs : List Value} {u : Int32} {hp' : xm_H} (hi : xm_ins k pc = some (.putfield n, nx, x, y, 0)) (ha : hp[a]? = some (.inr (.inr (x, fs)))) (hy : y < fs.length) (hh : hp.set a (.inr (.inr (x, fs.set y (.int u)))) = hp') (hk : xw L xs k nx ls st hp' Q) : xw L xs k pc ls (.int u :: .ref a :: st) hp Q := xw.step hi (by rw [← hh]; simp only [xm_step, ha, hy, and_self, if_pos]) hk
theorem xr_putr {n a : Nat} {fs : List Value} {u : Nat} {hp' : xm_H} (hi : xm_ins k pc = some (.putfield n, nx, x, y, 1)) (ha : hp[a]? = some (.inr (.inr (x, fs)))) (hy : y < fs.length) (hh : hp.set a (.inr (.inr (x, fs.set y (.ref u)))) = hp') (hk : xw L xs k nx ls st hp' Q) : xw L xs k pc ls (.ref u :: .ref a :: st) hp Q := xw.step hi (by rw [← hh]; simp only [xm_step, ha, hy, and_self, if_pos]) hk
theorem xr_clamp {j : Int32} {i n : Nat} (hj : j.toInt = (i : Int)) (hn : i < n) : ¬ (j < 0 ∨ n ≤ j.toNatClampNeg) ∧ j.toNatClampNeg = i := by
  have h1 : j.toNatClampNeg = i := by
    show j.toInt.toNat = i
    rw [hj]
    exact Int.toNat_natCast i
  refine ⟨?_, h1⟩
  rintro (h | h)
  · rw [Int32.lt_iff_toInt_lt, hj, Int32.toInt_zero] at h
    omega
  · rw [h1] at h
    omega
theorem xr_iald {j : Int32} {i a n : Nat} {f : Nat → Int32} (hi : xm_ins k pc = some (.iaload, nx, x, y, v)) (ha : hp[a]? = some (.inl (n, f))) (hj : j.toInt = (i : Int)) (hn : i < n) (hk : xw L xs k nx ls (.int (f i) :: st) hp Q) : xw L xs k pc ls (.int j :: .ref a :: st) hp Q := xw.step hi (by simp only [xm_step, ha]; rw [if_neg (xr_clamp hj hn).1, (xr_clamp hj hn).2]) hk
theorem xr_iast {j u : Int32} {i a n : Nat} {f : Nat → Int32} {hp' : xm_H} (hi : xm_ins k pc = some (.iastore, nx, x, y, v)) (ha : hp[a]? = some (.inl (n, f))) (hj : j.toInt = (i : Int)) (hn : i < n) (hh : hp.set a (.inl (n, upd f i u)) = hp') (hk : xw L xs k nx ls st hp' Q) : xw L xs k pc ls (.int u :: .int j :: .ref a :: st) hp Q := xw.step hi (by rw [← hh]; simp only [xm_step, ha]; rw [if_neg (xr_clamp hj hn).1, (xr_clamp hj hn).2]) hk
theorem xr_aald {j : Int32} {i a n t : Nat} {f : Nat → Option Nat} (hi : xm_ins k pc = some (.aaload, nx, x, y, v)) (ha : hp[a]? = some (.inr (.inl (n, f)))) (hj : j.toInt = (i : Int)) (hn : i < n) (ht : f i = some t) (hk : xw L xs k nx ls (.ref t :: st) hp Q) : xw L xs k pc ls (.int j :: .ref a :: st) hp Q := xw.step hi (by simp only [xm_step, ha]; rw [if_neg (xr_clamp hj hn).1, (xr_clamp hj hn).2, ht]) hk
theorem xr_aast {j : Int32} {i a n t : Nat} {f : Nat → Option Nat} {fs : List Value} {hp' : xm_H} (hi : xm_ins k pc = some (.aastore, nx, x, y, v)) (ha : hp[a]? = some (.inr (.inl (n, f)))) (hj : j.toInt = (i : Int)) (hn : i < n) (ht : hp[t]? = some (.inr (.inr (1, fs)))) (hh : hp.set a (.inr (.inl (n, va_up f i (some t)))) = hp') (hk : xw L xs k nx ls st hp' Q) : xw L xs k pc ls (.ref t :: .int j :: .ref a :: st) hp Q := xw.step hi (by rw [← hh]; simp only [xm_step, ha, ht, if_pos]; rw [if_neg (xr_clamp hj hn).1, (xr_clamp hj hn).2]) hk
theorem xr_alen {a n : Nat} {f : Nat → Int32} (hi : xm_ins k pc = some (.arraylength, nx, x, y, v)) (ha : hp[a]? = some (.inl (n, f))) (hk : xw L xs k nx ls (.int (nI n) :: st) hp Q) : xw L xs k pc ls (.ref a :: st) hp Q := xw.step hi (by simp only [xm_step, ha]) hk
theorem xr_slen {b : UInt32} (hi : xm_ins k pc = some (.arraylength, nx, x, y, v)) (hk : xw L xs k nx ls (.int (nI L) :: st) hp Q) : xw L xs k pc ls (.float b :: st) hp Q := xw.step hi rfl hk
theorem xr_sald {j : Int32} {i : Nat} {b : UInt32} (hi : xm_ins k pc = some (.iaload, nx, x, y, v)) (hj : j.toInt = (i : Int)) (hn : i < L) (hk : xw L xs k nx ls (.int (xs i) :: st) hp Q) : xw L xs k pc ls (.int j :: .float b :: st) hp Q := xw.step hi (by simp only [xm_step]; rw [if_neg (xr_clamp hj hn).1, (xr_clamp hj hn).2]) hk
theorem xr_newa {t : ArrayType} {n : Int32} {N : Nat} (hi : xm_ins k pc = some (.newarray t, nx, x, y, v)) (hj : n.toInt = (N : Int)) (hn : N < 134217729) (hk : xw L xs k nx ls (.ref hp.length :: st) (hp ++ [.inl (N, fun _ => 0)]) Q) : xw L xs k pc ls (.int n :: st) hp Q := by
  have h1 := xr_clamp hj (Nat.lt_succ_self N)
  refine xw.step hi ?_ hk
  simp only [xm_step]
  rw [if_neg, h1.2]
  rintro (h | h)
  · exact h1.1 (Or.inl h)
  · rw [h1.2] at h; omega
theorem xr_anew {t : Nat} {n : Int32} {N : Nat} (hi : xm_ins k pc = some (.anewarray t, nx, x, y, v)) (hj : n.toInt = (N : Int)) (hn : N < 134217729) (hk : xw L xs k nx ls (.ref hp.length :: st) (hp ++ [.inr (.inl (N, fun _ => none))]) Q) : xw L xs k pc ls (.int n :: st) hp Q := by
  have h1 := xr_clamp hj (Nat.lt_succ_self N)
  refine xw.step hi ?_ hk
  simp only [xm_step]
  rw [if_neg, h1.2]
  rintro (h | h)
  · exact h1.1 (Or.inl h)
  · rw [h1.2] at h; omega
theorem xr_new {t : Nat} (hi : xm_ins k pc = some (.new t, nx, x, y, v)) (hk : xw L xs k nx ls (.ref hp.length :: st) (hp ++ [.inr (.inr (x, xm_new x))]) Q) : xw L xs k pc ls st hp Q := xw.step hi rfl hk
-- switches
theorem xr_tsw {d lo hi' : Int} {offs : Array Int} {u : Int32} {i : Int} {t : Nat} (hi : xm_ins k pc = some (.tableswitch d lo hi' offs, nx, x, y, v)) (hu : u.toInt = i) (ht : (if i < lo ∨ hi' < i then xm_tgt pc d else (offs[(i - lo).toNat]?).bind (xm_tgt pc)) = some t) (hk : xw L xs k t ls st hp Q) : xw L xs k pc ls (.int u :: st) hp Q := by
  refine xw.step hi ?_ hk
  subst hu
  simp only [xm_step]
  split at ht
  · next h => rw [if_pos h, ht]
  · next h =>
    rw [if_neg h]
    cases ho : offs[(u.toInt - lo).toNat]? with
    | none => rw [ho] at ht; cases ht
    | some o =>
      rw [ho] at ht
      have ht : xm_tgt pc o = some t := ht
      dsimp only
      rw [ht]
theorem xr_lsw {d : Int} {qs : Array (Int × Int)} {u : Int32} {i : Int} {t : Nat} (hi : xm_ins k pc = some (.lookupswitch d qs, nx, x, y, v)) (hu : u.toInt = i) (ht : xm_tgt pc (Op.lookupswitch.offset qs.toList d i) = some t) (hk : xw L xs k t ls st hp Q) : xw L xs k pc ls (.int u :: st) hp Q := by
  refine xw.step hi ?_ hk
  subst hu
  simp only [xm_step, ht]
-- ends
theorem xr_iret {u : Int32} (hi : xm_ins k pc = some (.ireturn, nx, x, y, v)) (hr : xm_rb k = true → u = 0 ∨ u = 1) (hk : Q (some (.int u)) hp) : xw L xs k pc ls [.int u] hp Q := by
  refine xw.ret hi ?_ hk
  simp only [xm_step]
  rw [if_neg]
  rintro ⟨h1, h2⟩
  exact h2 (hr h1)
theorem xr_aret {u : Nat} (hi : xm_ins k pc = some (.areturn, nx, x, y, v)) (hk : Q (some (.ref u)) hp) : xw L xs k pc ls [.ref u] hp Q := xw.ret hi rfl hk
theorem xr_ret (hi : xm_ins k pc = some (.return_, nx, x, y, v)) (hk : Q none hp) : xw L xs k pc ls [] hp Q := xw.ret hi rfl hk
-- calls
theorem xr_virt {n a ci : Nat} {as rest : List Value} {fs : List Value} (hi : xm_ins k pc = some (.invokevirtual n, nx, x, y, v)) (hs : (st.take y).reverse = .ref a :: as) (hr : st.drop y = rest) (ha : hp[a]? = some (.inr (.inr (ci, fs)))) (hc : (ci : Int) = v) (hy : y ≤ st.length) (h8 : rest.length ≤ 4) (hk : xc L xs x (.ref a :: as) hp (xk L xs k nx ls rest Q)) (hn : (st.take y).all xm_nl = true := by rfl) : xw L xs k pc ls st hp Q := by
  subst hr
  refine xw.call hi ?_ hk
  simp only [xm_step, hs, ha, hc, hy, h8, hn, and_self, if_pos]
theorem xr_stat {n : Nat} {as rest : List Value} (hi : xm_ins k pc = some (.invokestatic n, nx, x, y, v)) (hx : x < 1000) (hs : (st.take y).reverse = as) (hr : st.drop y = rest) (hy : y ≤ st.length) (h8 : rest.length ≤ 4) (hk : xc L xs x as hp (xk L xs k nx ls rest Q)) (hn : (st.take y).all xm_nl = true := by rfl) : xw L xs k pc ls st hp Q := by
  subst hr
  subst hs
  refine xw.call hi ?_ hk
  have h1 : ¬ x = 1001 := by omega
  have h2 : ¬ x = 1002 := by omega
  simp only [xm_step, if_neg h1, if_neg h2, hy, h8, hn, and_self, if_pos]
theorem xr_spec {n a : Nat} {as rest : List Value} (hi : xm_ins k pc = some (.invokespecial n, nx, x, y, v)) (hx : x < 1000) (hs : (st.take y).reverse = .ref a :: as) (hr : st.drop y = rest) (hy : y ≤ st.length) (h8 : rest.length ≤ 4) (hk : xc L xs x (.ref a :: as) hp (xk L xs k nx ls rest Q)) (hn : (st.take y).all xm_nl = true := by rfl) : xw L xs k pc ls st hp Q := by
  subst hr
  refine xw.call hi ?_ hk
  have h1 : ¬ x = 1000 := by omega
  simp only [xm_step, if_neg h1, hs, hy, h8, hn, and_self, if_pos]
theorem xr_oinit {n a : Nat} (hi : xm_ins k pc = some (.invokespecial n, nx, 1000, y, v)) (h8 : st.length ≤ 4) (hk : xw L xs k nx ls st hp Q) : xw L xs k pc ls (.ref a :: st) hp Q := by
  refine xw.step hi ?_ hk
  have h1 : ¬ 4 < st.length := by omega
  simp only [xm_step, if_pos, if_neg h1]
theorem xr_min {n : Nat} {a b z : Int32} (hi : xm_ins k pc = some (.invokestatic n, nx, 1002, y, v)) (h8 : st.length ≤ 4) (hz : (if b < a then b else a) = z) (hk : xw L xs k nx ls (.int z :: st) hp Q) : xw L xs k pc ls (.int b :: .int a :: st) hp Q := by
  refine xw.step hi ?_ hk
  have h1 : ¬ 4 < st.length := by omega
  have h2 : ¬ (1002 : Nat) = 1001 := by decide
  simp only [xm_step, if_pos, if_neg h1, if_neg h2, hz]
theorem xr_copy {m : Nat} {n dp sp : Int32} {s d n0 n1 N DP SP : Nat} {f g : Nat → Int32} {hp' : xm_H} (hi : xm_ins k pc = some (.invokestatic m, nx, 1001, y, v)) (hs : hp[s]? = some (.inl (n0, f))) (hd : hp[d]? = some (.inl (n1, g))) (h1 : sp.toInt = (SP : Int)) (h2 : dp.toInt = (DP : Int)) (h3 : n.toInt = (N : Int)) (h4 : SP + N ≤ n0) (h5 : DP + N ≤ n1) (h8 : st.length ≤ 4) (hh : hp.set d (.inl (n1, va_cpy f g SP DP N)) = hp') (hk : xw L xs k nx ls st hp' Q) : xw L xs k pc ls (.int n :: .int dp :: .ref d :: .int sp :: .ref s :: st) hp Q := by
  refine xw.step hi ?_ hk
  have e1 := xr_clamp h1 (Nat.lt_succ_self SP)
  have e2 := xr_clamp h2 (Nat.lt_succ_self DP)
  have e3 := xr_clamp h3 (Nat.lt_succ_self N)
  rw [← hh]
  simp only [xm_step, if_pos, hs, hd]
  rw [if_neg, e1.2, e2.2, e3.2]
  rw [e1.2, e2.2, e3.2]
  rintro (h | h | h | h | h | h)
  · exact e1.1 (Or.inl h)
  · exact e2.1 (Or.inl h)
  · exact e3.1 (Or.inl h)
  · omega
  · omega
  · omega
end XR
