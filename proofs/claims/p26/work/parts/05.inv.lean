section XINV
variable {L : Nat} {xs : Nat → Int32} {rb : Bool} {pc nx x y : Nat} {v : Int} {ls st : List Value} {hp : xm_H} {o : xm_O}
theorem xv_iconst {n : Int} (h : xm_step L xs rb pc (.iconst n, nx, x, y, v) ls st hp = some o) : o = .inl (nx, ls, .int (xm_i v) :: st, hp) := by
  exact (Option.some.inj h).symm
theorem xv_bipush {n : Int} (h : xm_step L xs rb pc (.bipush n, nx, x, y, v) ls st hp = some o) : o = .inl (nx, ls, .int (xm_i v) :: st, hp) := by
  exact (Option.some.inj h).symm
theorem xv_sipush {n : Int} (h : xm_step L xs rb pc (.sipush n, nx, x, y, v) ls st hp = some o) : o = .inl (nx, ls, .int (xm_i v) :: st, hp) := by
  exact (Option.some.inj h).symm
theorem xv_ldc {n : Nat} (h : xm_step L xs rb pc (.ldc n, nx, x, y, v) ls st hp = some o) : o = .inl (nx, ls, .int (xm_i v) :: st, hp) := by
  exact (Option.some.inj h).symm
theorem xv_ldc_w {n : Nat} (h : xm_step L xs rb pc (.ldc_w n, nx, x, y, v) ls st hp = some o) : o = .inl (nx, ls, .int (xm_i v) :: st, hp) := by
  exact (Option.some.inj h).symm
theorem xv_iload_n {n : Fin 4} (h : xm_step L xs rb pc (.iload_n n, nx, x, y, v) ls st hp = some o) : ∃ u, ls[x]? = some (.int u) ∧ o = .inl (nx, ls, .int u :: st, hp) := by
  simp only [xm_step, xm_to] at h
  split at h
  · next u hu => exact ⟨u, hu, (Option.some.inj h).symm⟩
  · cases h
theorem xv_iload {n : Nat} (h : xm_step L xs rb pc (.iload n, nx, x, y, v) ls st hp = some o) : ∃ u, ls[x]? = some (.int u) ∧ o = .inl (nx, ls, .int u :: st, hp) := by
  simp only [xm_step, xm_to] at h
  split at h
  · next u hu => exact ⟨u, hu, (Option.some.inj h).symm⟩
  · cases h
theorem xv_aload_n {n : Fin 4} (h : xm_step L xs rb pc (.aload_n n, nx, x, y, v) ls st hp = some o) : ∃ u, ls[x]? = some u ∧ ((∃ a, u = .ref a) ∨ (∃ a, u = .float a)) ∧ o = .inl (nx, ls, u :: st, hp) := by
  simp only [xm_step, xm_to] at h
  split at h
  · next u hu => exact ⟨_, hu, Or.inl ⟨_, rfl⟩, (Option.some.inj h).symm⟩
  · next u hu => exact ⟨_, hu, Or.inr ⟨_, rfl⟩, (Option.some.inj h).symm⟩
  · cases h
theorem xv_istore_n {n : Fin 4} (h : xm_step L xs rb pc (.istore_n n, nx, x, y, v) ls st hp = some o) : ∃ u r, st = .int u :: r ∧ x < ls.length ∧ o = .inl (nx, ls.set x (.int u), r, hp) := by
  simp only [xm_step, xm_to] at h
  split at h
  · split at h
    · next hx => exact ⟨_, _, rfl, hx, (Option.some.inj h).symm⟩
    · cases h
  · cases h
theorem xv_istore {n : Nat} (h : xm_step L xs rb pc (.istore n, nx, x, y, v) ls st hp = some o) : ∃ u r, st = .int u :: r ∧ x < ls.length ∧ o = .inl (nx, ls.set x (.int u), r, hp) := by
  simp only [xm_step, xm_to] at h
  split at h
  · split at h
    · next hx => exact ⟨_, _, rfl, hx, (Option.some.inj h).symm⟩
    · cases h
  · cases h
theorem xv_astore_n {n : Fin 4} (h : xm_step L xs rb pc (.astore_n n, nx, x, y, v) ls st hp = some o) : ∃ u r, st = .ref u :: r ∧ x < ls.length ∧ o = .inl (nx, ls.set x (.ref u), r, hp) := by
  simp only [xm_step, xm_to] at h
  split at h
  · split at h
    · next hx => exact ⟨_, _, rfl, hx, (Option.some.inj h).symm⟩
    · cases h
  · cases h
theorem xv_iinc {n : Nat} {z : Int} (h : xm_step L xs rb pc (.iinc n z, nx, x, y, v) ls st hp = some o) : ∃ u, ls[x]? = some (.int u) ∧ o = .inl (nx, ls.set x (.int (u + xm_i v)), st, hp) := by
  simp only [xm_step, xm_to] at h
  split at h
  · next u hu => exact ⟨u, hu, (Option.some.inj h).symm⟩
  · cases h
theorem xv_ifCond {c : ClassFile.Cond} {z : Int} (h : xm_step L xs rb pc (.ifCond c z, nx, x, y, v) ls st hp = some o) : ∃ a r, st = .int a :: r ∧ o = .inl (if xm_cb c a 0 then x else nx, ls, r, hp) := by
  simp only [xm_step, xm_to] at h
  split at h
  · exact ⟨_, _, rfl, (Option.some.inj h).symm⟩
  · cases h
theorem xv_icmp {c : ClassFile.Cond} {z : Int} (h : xm_step L xs rb pc (.if_icmp c z, nx, x, y, v) ls st hp = some o) : ∃ a b r, st = .int b :: .int a :: r ∧ o = .inl (if xm_cb c a b then x else nx, ls, r, hp) := by
  simp only [xm_step, xm_to] at h
  split at h
  · exact ⟨_, _, _, rfl, (Option.some.inj h).symm⟩
  · cases h
theorem xv_goto {z : Int} (h : xm_step L xs rb pc (.goto z, nx, x, y, v) ls st hp = some o) : o = .inl (x, ls, st, hp) := by
  exact (Option.some.inj h).symm
theorem xv_pop (h : xm_step L xs rb pc (.pop, nx, x, y, v) ls st hp = some o) : ∃ a r, st = a :: r ∧ xm_nl a = true ∧ o = .inl (nx, ls, r, hp) := by
  simp only [xm_step, xm_to] at h
  split at h
  · split at h
    · next hn => exact ⟨_, _, rfl, hn, (Option.some.inj h).symm⟩
    · cases h
  · cases h
theorem xv_dup (h : xm_step L xs rb pc (.dup, nx, x, y, v) ls st hp = some o) : ∃ a r, st = a :: r ∧ xm_nl a = true ∧ o = .inl (nx, ls, a :: a :: r, hp) := by
  simp only [xm_step, xm_to] at h
  split at h
  · split at h
    · next hn => exact ⟨_, _, rfl, hn, (Option.some.inj h).symm⟩
    · cases h
  · cases h
theorem xv_dup2 (h : xm_step L xs rb pc (.dup2, nx, x, y, v) ls st hp = some o) : ∃ a b r, st = a :: b :: r ∧ (xm_nl a = true ∧ xm_nl b = true) ∧ o = .inl (nx, ls, a :: b :: a :: b :: r, hp) := by
  simp only [xm_step, xm_to] at h
  split at h
  · split at h
    · next hn => exact ⟨_, _, _, rfl, hn, (Option.some.inj h).symm⟩
    · cases h
  · cases h
theorem xv_ldc2w {n : Nat} (h : xm_step L xs rb pc (.ldc2_w n, nx, x, y, v) ls st hp = some o) : o = .inl (nx, ls, .long (xm_l v) :: st, hp) := by
  exact (Option.some.inj h).symm
theorem xv_lload_n {n : Fin 4} (h : xm_step L xs rb pc (.lload_n n, nx, x, y, v) ls st hp = some o) : ∃ u, ls[x]? = some (.long u) ∧ o = .inl (nx, ls, .long u :: st, hp) := by
  simp only [xm_step, xm_to] at h
  split at h
  · next u hu => exact ⟨u, hu, (Option.some.inj h).symm⟩
  · cases h
theorem xv_lload {n : Nat} (h : xm_step L xs rb pc (.lload n, nx, x, y, v) ls st hp = some o) : ∃ u, ls[x]? = some (.long u) ∧ o = .inl (nx, ls, .long u :: st, hp) := by
  simp only [xm_step, xm_to] at h
  split at h
  · next u hu => exact ⟨u, hu, (Option.some.inj h).symm⟩
  · cases h
theorem xv_lstore_n {n : Fin 4} (h : xm_step L xs rb pc (.lstore_n n, nx, x, y, v) ls st hp = some o) : ∃ u r, st = .long u :: r ∧ x + 1 < ls.length ∧ o = .inl (nx, (ls.set x (.long u)).set (x + 1) .null, r, hp) := by
  simp only [xm_step, xm_to] at h
  split at h
  · split at h
    · next hx => exact ⟨_, _, rfl, hx, (Option.some.inj h).symm⟩
    · cases h
  · cases h
theorem xv_lstore {n : Nat} (h : xm_step L xs rb pc (.lstore n, nx, x, y, v) ls st hp = some o) : ∃ u r, st = .long u :: r ∧ x + 1 < ls.length ∧ o = .inl (nx, (ls.set x (.long u)).set (x + 1) .null, r, hp) := by
  simp only [xm_step, xm_to] at h
  split at h
  · split at h
    · next hx => exact ⟨_, _, rfl, hx, (Option.some.inj h).symm⟩
    · cases h
  · cases h
theorem xv_i2l (h : xm_step L xs rb pc (.i2l, nx, x, y, v) ls st hp = some o) : ∃ a r, st = .int a :: r ∧ o = .inl (nx, ls, .long a.toInt64 :: r, hp) := by
  simp only [xm_step, xm_to] at h
  split at h
  · exact ⟨_, _, rfl, (Option.some.inj h).symm⟩
  · cases h
theorem xv_ladd (h : xm_step L xs rb pc (.ladd, nx, x, y, v) ls st hp = some o) : ∃ a b r, st = .long b :: .long a :: r ∧ o = .inl (nx, ls, .long (a + b) :: r, hp) := by
  simp only [xm_step, xm_to] at h
  split at h
  · exact ⟨_, _, _, rfl, (Option.some.inj h).symm⟩
  · cases h
theorem xv_lmul (h : xm_step L xs rb pc (.lmul, nx, x, y, v) ls st hp = some o) : ∃ a b r, st = .long b :: .long a :: r ∧ o = .inl (nx, ls, .long (a * b) :: r, hp) := by
  simp only [xm_step, xm_to] at h
  split at h
  · exact ⟨_, _, _, rfl, (Option.some.inj h).symm⟩
  · cases h
theorem xv_lcmp (h : xm_step L xs rb pc (.lcmp, nx, x, y, v) ls st hp = some o) : ∃ a b r, st = .long b :: .long a :: r ∧ o = .inl (nx, ls, .int (lg_cmp a b) :: r, hp) := by
  simp only [xm_step, xm_to] at h
  split at h
  · exact ⟨_, _, _, rfl, (Option.some.inj h).symm⟩
  · cases h
theorem xv_lreturn (h : xm_step L xs rb pc (.lreturn, nx, x, y, v) ls st hp = some o) : ∃ u, st = [.long u] ∧ o = .inr (.inl (some (.long u), hp)) := by
  simp only [xm_step, xm_to] at h
  split at h
  · exact ⟨_, rfl, (Option.some.inj h).symm⟩
  · cases h
theorem xv_getfield {n : Nat} (h : xm_step L xs rb pc (.getfield n, nx, x, y, v) ls st hp = some o) : ∃ a r fs u, st = .ref a :: r ∧ hp[a]? = some (.inr (.inr (x, fs))) ∧ fs[y]? = some u ∧ o = .inl (nx, ls, u :: r, hp) := by
  simp only [xm_step, xm_to] at h
  split at h
  · split at h
    · next a ci fs ha =>
      split at h
      · next hc =>
        subst hc
        split at h
        · next u hu => exact ⟨_, _, _, _, rfl, ha, hu, (Option.some.inj h).symm⟩
        · cases h
      · cases h
    · cases h
  · cases h
theorem xv_putfield {n : Nat} (h : xm_step L xs rb pc (.putfield n, nx, x, y, v) ls st hp = some o) : ∃ u a r fs, st = u :: .ref a :: r ∧ hp[a]? = some (.inr (.inr (x, fs))) ∧ y < fs.length ∧ ((∃ z, u = .int z ∧ v = 0) ∨ (∃ z, u = .ref z ∧ v = 1)) ∧ o = .inl (nx, ls, r, hp.set a (.inr (.inr (x, fs.set y u)))) := by
  simp only [xm_step, xm_to] at h
  split at h
  · split at h
    · next a ci fs ha =>
      split at h
      · next hc =>
        obtain ⟨rfl, hy, hv⟩ := hc
        exact ⟨_, _, _, _, rfl, ha, hy, Or.inl ⟨_, rfl, hv⟩, (Option.some.inj h).symm⟩
      · cases h
    · cases h
  · split at h
    · next a ci fs ha =>
      split at h
      · next hc =>
        obtain ⟨rfl, hy, hv⟩ := hc
        exact ⟨_, _, _, _, rfl, ha, hy, Or.inr ⟨_, rfl, hv⟩, (Option.some.inj h).symm⟩
      · cases h
    · cases h
  · cases h
theorem xv_iaload (h : xm_step L xs rb pc (.iaload, nx, x, y, v) ls st hp = some o) : (∃ j a r n f, st = .int j :: .ref a :: r ∧ hp[a]? = some (.inl (n, f)) ∧ vp_in j n ∧ o = .inl (nx, ls, .int (f j.toNatClampNeg) :: r, hp)) ∨ (∃ j b r, st = .int j :: .float b :: r ∧ vp_in j L ∧ o = .inl (nx, ls, .int (xs j.toNatClampNeg) :: r, hp)) := by
  simp only [xm_step, xm_to] at h
  split at h
  · split at h
    · next n f ha =>
      split at h
      · cases h
      · next hj => exact Or.inl ⟨_, _, _, _, _, rfl, ha, hj, (Option.some.inj h).symm⟩
    · cases h
  · split at h
    · cases h
    · next hj => exact Or.inr ⟨_, _, _, rfl, hj, (Option.some.inj h).symm⟩
  · cases h
theorem xv_iastore (h : xm_step L xs rb pc (.iastore, nx, x, y, v) ls st hp = some o) : ∃ u j a r n f, st = .int u :: .int j :: .ref a :: r ∧ hp[a]? = some (.inl (n, f)) ∧ vp_in j n ∧ o = .inl (nx, ls, r, hp.set a (.inl (n, upd f j.toNatClampNeg u))) := by
  simp only [xm_step, xm_to] at h
  split at h
  · split at h
    · next n f ha =>
      split at h
      · cases h
      · next hj => exact ⟨_, _, _, _, _, _, rfl, ha, hj, (Option.some.inj h).symm⟩
    · cases h
  · cases h
theorem xv_aaload (h : xm_step L xs rb pc (.aaload, nx, x, y, v) ls st hp = some o) : ∃ j a r n f t, st = .int j :: .ref a :: r ∧ hp[a]? = some (.inr (.inl (n, f))) ∧ vp_in j n ∧ f j.toNatClampNeg = some t ∧ o = .inl (nx, ls, .ref t :: r, hp) := by
  simp only [xm_step, xm_to] at h
  split at h
  · split at h
    · next n f ha =>
      split at h
      · cases h
      · next hj =>
        split at h
        · next t ht => exact ⟨_, _, _, _, _, t, rfl, ha, hj, ht, (Option.some.inj h).symm⟩
        · cases h
    · cases h
  · cases h
theorem xv_aastore (h : xm_step L xs rb pc (.aastore, nx, x, y, v) ls st hp = some o) : ∃ t j a r n f fs, st = .ref t :: .int j :: .ref a :: r ∧ hp[a]? = some (.inr (.inl (n, f))) ∧ vp_in j n ∧ hp[t]? = some (.inr (.inr (1, fs))) ∧ o = .inl (nx, ls, r, hp.set a (.inr (.inl (n, va_up f j.toNatClampNeg (some t))))) := by
  simp only [xm_step, xm_to] at h
  split at h
  · split at h
    · next n f ha =>
      split at h
      · cases h
      · next hj =>
        split at h
        · next ci fs ht =>
          split at h
          · next hc =>
            subst hc
            exact ⟨_, _, _, _, _, _, _, rfl, ha, hj, ht, (Option.some.inj h).symm⟩
          · cases h
        · cases h
    · cases h
  · cases h
theorem xv_alen (h : xm_step L xs rb pc (.arraylength, nx, x, y, v) ls st hp = some o) : (∃ a r n f, st = .ref a :: r ∧ hp[a]? = some (.inl (n, f)) ∧ o = .inl (nx, ls, .int (nI n) :: r, hp)) ∨ (∃ b r, st = .float b :: r ∧ o = .inl (nx, ls, .int (nI L) :: r, hp)) := by
  simp only [xm_step, xm_to] at h
  split at h
  · split at h
    · next n f ha => exact Or.inl ⟨_, _, _, _, rfl, ha, (Option.some.inj h).symm⟩
    · cases h
  · exact Or.inr ⟨_, _, rfl, (Option.some.inj h).symm⟩
  · cases h
theorem xv_newarray {t : ArrayType} (h : xm_step L xs rb pc (.newarray t, nx, x, y, v) ls st hp = some o) : ∃ n r, st = .int n :: r ∧ ¬ n < 0 ∧ 4 * n.toNatClampNeg ≤ 536870912 ∧ o = .inl (nx, ls, .ref hp.length :: r, hp ++ [.inl (n.toNatClampNeg, fun _ => 0)]) := by
  simp only [xm_step, xm_to] at h
  split at h
  · split at h
    · cases h
    · next hj => exact ⟨_, _, rfl, fun q => hj (Or.inl q), Nat.not_lt.mp fun q => hj (Or.inr q), (Option.some.inj h).symm⟩
  · cases h
theorem xv_anewarray {t : Nat} (h : xm_step L xs rb pc (.anewarray t, nx, x, y, v) ls st hp = some o) : ∃ n r, st = .int n :: r ∧ ¬ n < 0 ∧ 4 * n.toNatClampNeg ≤ 536870912 ∧ o = .inl (nx, ls, .ref hp.length :: r, hp ++ [.inr (.inl (n.toNatClampNeg, fun _ => none))]) := by
  simp only [xm_step, xm_to] at h
  split at h
  · split at h
    · cases h
    · next hj => exact ⟨_, _, rfl, fun q => hj (Or.inl q), Nat.not_lt.mp fun q => hj (Or.inr q), (Option.some.inj h).symm⟩
  · cases h
theorem xv_new {t : Nat} (h : xm_step L xs rb pc (.new t, nx, x, y, v) ls st hp = some o) : o = .inl (nx, ls, .ref hp.length :: st, hp ++ [.inr (.inr (x, xm_new x))]) := by
  exact (Option.some.inj h).symm
theorem xm_tgt_spec {pc : Nat} {off : Int} {t : Nat} (h : xm_tgt pc off = some t) : (pc : Int) + off = (t : Int) := by
  unfold xm_tgt at h
  split at h
  · cases h
    omega
  · cases h
theorem xv_tsw {d lo hi : Int} {offs : Array Int} (h : xm_step L xs rb pc (.tableswitch d lo hi offs, nx, x, y, v) ls st hp = some o) : ∃ u r, ∃ t : Nat, st = .int u :: r ∧ (((u.toInt < lo ∨ hi < u.toInt) ∧ (pc : Int) + d = (t : Int)) ∨ (¬ u.toInt < lo ∧ ¬ hi < u.toInt ∧ ∃ f, offs[(u.toInt - lo).toNat]? = some f ∧ (pc : Int) + f = (t : Int))) ∧ o = .inl (t, ls, r, hp) := by
  simp only [xm_step, xm_to] at h
  split at h
  · split at h
    · next hj =>
      split at h
      · next t ht => exact ⟨_, _, t, rfl, Or.inl ⟨hj, xm_tgt_spec ht⟩, (Option.some.inj h).symm⟩
      · cases h
    · next hj =>
      split at h
      · next f hf =>
        split at h
        · next t ht => exact ⟨_, _, t, rfl, Or.inr ⟨fun q => hj (Or.inl q), fun q => hj (Or.inr q), f, hf, xm_tgt_spec ht⟩, (Option.some.inj h).symm⟩
        · cases h
      · cases h
  · cases h
theorem xv_lsw {d : Int} {ps : Array (Int × Int)} (h : xm_step L xs rb pc (.lookupswitch d ps, nx, x, y, v) ls st hp = some o) : ∃ u r, ∃ t : Nat, st = .int u :: r ∧ (pc : Int) + Op.lookupswitch.offset ps.toList d u.toInt = (t : Int) ∧ o = .inl (t, ls, r, hp) := by
  simp only [xm_step, xm_to] at h
  split at h
  · split at h
    · next t ht => exact ⟨_, _, t, rfl, xm_tgt_spec ht, (Option.some.inj h).symm⟩
    · cases h
  · cases h
theorem xv_ireturn (h : xm_step L xs rb pc (.ireturn, nx, x, y, v) ls st hp = some o) : ∃ u, st = [.int u] ∧ (rb = true → u = 0 ∨ u = 1) ∧ o = .inr (.inl (some (.int u), hp)) := by
  simp only [xm_step, xm_to] at h
  split at h
  · next u =>
    split at h
    · cases h
    · next hj => exact ⟨u, rfl, fun q => Classical.byContradiction fun z => hj ⟨q, z⟩, (Option.some.inj h).symm⟩
  · cases h
theorem xv_areturn (h : xm_step L xs rb pc (.areturn, nx, x, y, v) ls st hp = some o) : ∃ u, st = [.ref u] ∧ o = .inr (.inl (some (.ref u), hp)) := by
  simp only [xm_step, xm_to] at h
  split at h
  · exact ⟨_, rfl, (Option.some.inj h).symm⟩
  · cases h
theorem xv_return (h : xm_step L xs rb pc (.return_, nx, x, y, v) ls st hp = some o) : st = [] ∧ o = .inr (.inl (none, hp)) := by
  simp only [xm_step, xm_to] at h
  split at h
  · exact ⟨rfl, (Option.some.inj h).symm⟩
  · cases h
theorem xm_take {st as : List Value} {y : Nat} (h : (st.take y).reverse = as) : st = as.reverse ++ st.drop y := by
  rw [← h, List.reverse_reverse, List.take_append_drop]
theorem xv_virt {n : Nat} (h : xm_step L xs rb pc (.invokevirtual n, nx, x, y, v) ls st hp = some o) : ∃ a as ci fs, st = (Value.ref a :: as).reverse ++ st.drop y ∧ hp[a]? = some (.inr (.inr (ci, fs))) ∧ (ci : Int) = v ∧ as.length + 1 = y ∧ (st.drop y).length ≤ 4 ∧ (Value.ref a :: as).all xm_nl = true ∧ o = .inr (.inr (x, .ref a :: as, nx, ls, st.drop y, hp)) := by
  simp only [xm_step, xm_to] at h
  split at h
  · next a as has =>
    split at h
    · next ci fs ha =>
      split at h
      · next hc =>
        refine ⟨a, as, ci, fs, xm_take has, ha, hc.1, ?_, hc.2.2.1, by rw [← has, List.all_reverse]; exact hc.2.2.2, (Option.some.inj h).symm⟩
        have h1 := congrArg List.length has
        rw [List.length_reverse, List.length_take, Nat.min_eq_left hc.2.1, List.length_cons] at h1
        exact h1.symm
      · cases h
    · cases h
  · cases h
theorem xv_stat {n : Nat} (h : xm_step L xs rb pc (.invokestatic n, nx, x, y, v) ls st hp = some o) : (x = 1001 ∧ ∃ n dp d sp s r n0 n1 f g, st = .int n :: .int dp :: .ref d :: .int sp :: .ref s :: r ∧ hp[s]? = some (.inl (n0, f)) ∧ hp[d]? = some (.inl (n1, g)) ∧ ¬ sp < 0 ∧ ¬ dp < 0 ∧ ¬ n < 0 ∧ sp.toNatClampNeg + n.toNatClampNeg ≤ n0 ∧ dp.toNatClampNeg + n.toNatClampNeg ≤ n1 ∧ r.length ≤ 4 ∧ o = .inl (nx, ls, r, hp.set d (.inl (n1, va_cpy f g sp.toNatClampNeg dp.toNatClampNeg n.toNatClampNeg)))) ∨ (x = 1002 ∧ ∃ a b r, st = .int b :: .int a :: r ∧ r.length ≤ 4 ∧ o = .inl (nx, ls, .int (if b < a then b else a) :: r, hp)) ∨ (¬ x = 1001 ∧ ¬ x = 1002 ∧ ∃ as, st = as.reverse ++ st.drop y ∧ as.length = y ∧ (st.drop y).length ≤ 4 ∧ as.all xm_nl = true ∧ o = .inr (.inr (x, as, nx, ls, st.drop y, hp))) := by
  simp only [xm_step, xm_to] at h
  split at h
  · next hx =>
    split at h
    · split at h
      · next n0 f n1 g hs hd =>
        split at h
        · cases h
        · next hj =>
          simp only [not_or, Nat.not_lt] at hj
          exact Or.inl ⟨hx, _, _, _, _, _, _, _, _, _, _, rfl, hs, hd, hj.1, hj.2.1, hj.2.2.1, hj.2.2.2.1, hj.2.2.2.2.1, hj.2.2.2.2.2, (Option.some.inj h).symm⟩
      · cases h
    · cases h
  · next hx =>
    split at h
    · next hx2 =>
      split at h
      · split at h
        · cases h
        · next hr => exact Or.inr (Or.inl ⟨hx2, _, _, _, rfl, Nat.not_lt.mp hr, (Option.some.inj h).symm⟩)
      · cases h
    · next hx2 =>
      split at h
      · next hc =>
        refine Or.inr (Or.inr ⟨hx, hx2, (st.take y).reverse, xm_take rfl, ?_, hc.2.1, by rw [List.all_reverse]; exact hc.2.2, (Option.some.inj h).symm⟩)
        rw [List.length_reverse, List.length_take, Nat.min_eq_left hc.1]
      · cases h
theorem xv_spec {n : Nat} (h : xm_step L xs rb pc (.invokespecial n, nx, x, y, v) ls st hp = some o) : (x = 1000 ∧ ∃ a r, st = .ref a :: r ∧ r.length ≤ 4 ∧ o = .inl (nx, ls, r, hp)) ∨ (¬ x = 1000 ∧ ∃ a as, st = (Value.ref a :: as).reverse ++ st.drop y ∧ as.length + 1 = y ∧ (st.drop y).length ≤ 4 ∧ (Value.ref a :: as).all xm_nl = true ∧ o = .inr (.inr (x, .ref a :: as, nx, ls, st.drop y, hp))) := by
  simp only [xm_step, xm_to] at h
  split at h
  · next hx =>
    split at h
    · split at h
      · cases h
      · next hr => exact Or.inl ⟨hx, _, _, rfl, Nat.not_lt.mp hr, (Option.some.inj h).symm⟩
    · cases h
  · next hx =>
    split at h
    · next a as has =>
      split at h
      · next hc =>
        refine Or.inr ⟨hx, a, as, xm_take has, ?_, hc.2.1, by rw [← has, List.all_reverse]; exact hc.2.2, (Option.some.inj h).symm⟩
        have h1 := congrArg List.length has
        rw [List.length_reverse, List.length_take, Nat.min_eq_left hc.1, List.length_cons] at h1
        exact h1.symm
      · cases h
    · cases h
theorem xv_iadd (h : xm_step L xs rb pc (.iadd, nx, x, y, v) ls st hp = some o) : ∃ a b r z, st = .int b :: .int a :: r ∧ xm_bin .iadd a b = some z ∧ o = .inl (nx, ls, .int z :: r, hp) := by
  simp only [xm_step, xm_to] at h
  split at h
  · split at h
    · next z hz => exact ⟨_, _, _, z, rfl, hz, (Option.some.inj h).symm⟩
    · cases h
  · cases h
theorem xv_isub (h : xm_step L xs rb pc (.isub, nx, x, y, v) ls st hp = some o) : ∃ a b r z, st = .int b :: .int a :: r ∧ xm_bin .isub a b = some z ∧ o = .inl (nx, ls, .int z :: r, hp) := by
  simp only [xm_step, xm_to] at h
  split at h
  · split at h
    · next z hz => exact ⟨_, _, _, z, rfl, hz, (Option.some.inj h).symm⟩
    · cases h
  · cases h
theorem xv_imul (h : xm_step L xs rb pc (.imul, nx, x, y, v) ls st hp = some o) : ∃ a b r z, st = .int b :: .int a :: r ∧ xm_bin .imul a b = some z ∧ o = .inl (nx, ls, .int z :: r, hp) := by
  simp only [xm_step, xm_to] at h
  split at h
  · split at h
    · next z hz => exact ⟨_, _, _, z, rfl, hz, (Option.some.inj h).symm⟩
    · cases h
  · cases h
theorem xv_iand (h : xm_step L xs rb pc (.iand, nx, x, y, v) ls st hp = some o) : ∃ a b r z, st = .int b :: .int a :: r ∧ xm_bin .iand a b = some z ∧ o = .inl (nx, ls, .int z :: r, hp) := by
  simp only [xm_step, xm_to] at h
  split at h
  · split at h
    · next z hz => exact ⟨_, _, _, z, rfl, hz, (Option.some.inj h).symm⟩
    · cases h
  · cases h
theorem xv_ior (h : xm_step L xs rb pc (.ior, nx, x, y, v) ls st hp = some o) : ∃ a b r z, st = .int b :: .int a :: r ∧ xm_bin .ior a b = some z ∧ o = .inl (nx, ls, .int z :: r, hp) := by
  simp only [xm_step, xm_to] at h
  split at h
  · split at h
    · next z hz => exact ⟨_, _, _, z, rfl, hz, (Option.some.inj h).symm⟩
    · cases h
  · cases h
theorem xv_ixor (h : xm_step L xs rb pc (.ixor, nx, x, y, v) ls st hp = some o) : ∃ a b r z, st = .int b :: .int a :: r ∧ xm_bin .ixor a b = some z ∧ o = .inl (nx, ls, .int z :: r, hp) := by
  simp only [xm_step, xm_to] at h
  split at h
  · split at h
    · next z hz => exact ⟨_, _, _, z, rfl, hz, (Option.some.inj h).symm⟩
    · cases h
  · cases h
theorem xv_ishl (h : xm_step L xs rb pc (.ishl, nx, x, y, v) ls st hp = some o) : ∃ a b r z, st = .int b :: .int a :: r ∧ xm_bin .ishl a b = some z ∧ o = .inl (nx, ls, .int z :: r, hp) := by
  simp only [xm_step, xm_to] at h
  split at h
  · split at h
    · next z hz => exact ⟨_, _, _, z, rfl, hz, (Option.some.inj h).symm⟩
    · cases h
  · cases h
theorem xv_ishr (h : xm_step L xs rb pc (.ishr, nx, x, y, v) ls st hp = some o) : ∃ a b r z, st = .int b :: .int a :: r ∧ xm_bin .ishr a b = some z ∧ o = .inl (nx, ls, .int z :: r, hp) := by
  simp only [xm_step, xm_to] at h
  split at h
  · split at h
    · next z hz => exact ⟨_, _, _, z, rfl, hz, (Option.some.inj h).symm⟩
    · cases h
  · cases h
theorem xv_iushr (h : xm_step L xs rb pc (.iushr, nx, x, y, v) ls st hp = some o) : ∃ a b r z, st = .int b :: .int a :: r ∧ xm_bin .iushr a b = some z ∧ o = .inl (nx, ls, .int z :: r, hp) := by
  simp only [xm_step, xm_to] at h
  split at h
  · split at h
    · next z hz => exact ⟨_, _, _, z, rfl, hz, (Option.some.inj h).symm⟩
    · cases h
  · cases h
theorem xv_idiv (h : xm_step L xs rb pc (.idiv, nx, x, y, v) ls st hp = some o) : ∃ a b r z, st = .int b :: .int a :: r ∧ xm_bin .idiv a b = some z ∧ o = .inl (nx, ls, .int z :: r, hp) := by
  simp only [xm_step, xm_to] at h
  split at h
  · split at h
    · next z hz => exact ⟨_, _, _, z, rfl, hz, (Option.some.inj h).symm⟩
    · cases h
  · cases h
theorem xv_irem (h : xm_step L xs rb pc (.irem, nx, x, y, v) ls st hp = some o) : ∃ a b r z, st = .int b :: .int a :: r ∧ xm_bin .irem a b = some z ∧ o = .inl (nx, ls, .int z :: r, hp) := by
  simp only [xm_step, xm_to] at h
  split at h
  · split at h
    · next z hz => exact ⟨_, _, _, z, rfl, hz, (Option.some.inj h).symm⟩
    · cases h
  · cases h
end XINV
