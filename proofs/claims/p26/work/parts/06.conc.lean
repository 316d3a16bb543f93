/-! what the abstract machine's cells, values and locals are on the machine -/
def xm_es (e : xm_E) : Nat := match e with
  | .inl q => q.1
  | .inr (.inl q) => q.1
  | .inr (.inr q) => q.2.length
def xm_sz (hp : xm_H) : Nat := (hp.map xm_es).sum
theorem xm_sz_set {hp : xm_H} {a : Nat} {e e' : xm_E} (h : hp[a]? = some e) (he : xm_es e' = xm_es e) : xm_sz (hp.set a e') = xm_sz hp := by
  unfold xm_sz
  congr 1
  apply List.ext_getElem?
  intro i
  rw [List.getElem?_map, List.getElem?_map, List.getElem?_set]
  by_cases hi : a = i
  · subst hi
    have hl : a < hp.length := (List.getElem?_eq_some_iff.mp h).1
    rw [if_pos rfl, if_pos hl, h]
    simp [he]
  · rw [if_neg hi]
theorem xm_sz_push (hp : xm_H) (e : xm_E) : xm_sz (hp ++ [e]) = xm_sz hp + xm_es e := by
  simp [xm_sz]
def xm_va (B bs : Nat) (v : Value) : Value := match v with
  | .int u => .int u
  | .ref i => .ref (bs + i)
  | .float _ => .ref B
  | .long u => .long u
  | _ => .null
theorem xm_va_cat (B bs : Nat) {v : Value} (h : xm_nl v = true) : (xm_va B bs v).category = 1 := by
  cases v <;> first | rfl | cases h
theorem xm_va_c2 (B bs : Nat) (v : Value) : (xm_va B bs v).category ≤ 2 := by cases v <;> exact Nat.le_of_ble_eq_true rfl
def xm_ce (B bs : Nat) (cI cV : ClassId) (e : xm_E) : va_E := match e with
  | .inl (n, f) => .inl (cI, n, .inl f)
  | .inr (.inl (n, g)) => .inl (cV, n, .inr (.inr (.inr (.inr (fun j => (g j).map (fun t => bs + t))))))
  | .inr (.inr (ci, fs)) => .inr (ci, fs.map (xm_va B bs))
def xm_P (D : va_G) (B bs : Nat) (cI cV : ClassId) (H0 : Heap) (hp : xm_H) (H : Heap) : Prop :=
  H.size = bs + hp.length ∧ (∀ q : Nat, q < bs → H[q]? = H0[q]?) ∧ ∀ (i : Nat) (e : xm_E), hp[i]? = some e → va_at D vwCl (bs + i, xm_ce B bs cI cV e) H
theorem xm_P.set {D : va_G} {B bs : Nat} {cI cV : ClassId} {H0 H H' : Heap} {hp : xm_H} {a : Nat} {e' : xm_E} (h : xm_P D B bs cI cV H0 hp H) (ha : va_at D vwCl (bs + a, xm_ce B bs cI cV e') H') (hz : H'.size = H.size) (hq : ∀ q : Nat, q ≠ bs + a → H'[q]? = H[q]?) : xm_P D B bs cI cV H0 (hp.set a e') H' := by
  refine ⟨by rw [hz, h.1, List.length_set], fun q hl => ?_, fun i e hi => ?_⟩
  · rw [hq q (by omega)]
    exact h.2.1 q hl
  · rw [List.getElem?_set] at hi
    by_cases hia : a = i
    · subst hia
      rw [if_pos rfl] at hi
      split at hi
      · cases hi
        exact ha
      · cases hi
    · rw [if_neg hia] at hi
      exact (h.2.2 i e hi).kept (hq _ (by show bs + i ≠ bs + a; omega))
theorem xm_P.push {D : va_G} {B bs : Nat} {cI cV : ClassId} {H0 H H' : Heap} {hp : xm_H} {e' : xm_E} (h : xm_P D B bs cI cV H0 hp H) (ha : va_at D vwCl (bs + hp.length, xm_ce B bs cI cV e') H') (hz : H'.size = H.size + 1) (hq : ∀ q : Nat, q < H.size → H'[q]? = H[q]?) : xm_P D B bs cI cV H0 (hp ++ [e']) H' := by
  refine ⟨by rw [hz, h.1, List.length_append]; rfl, fun q hl => ?_, fun i e hi => ?_⟩
  · rw [hq q (by rw [h.1]; omega)]
    exact h.2.1 q hl
  · by_cases hl : i < hp.length
    · rw [List.getElem?_append_left hl] at hi
      exact (h.2.2 i e hi).kept (hq _ (by show bs + i < H.size; rw [h.1]; omega))
    · rw [List.getElem?_append_right (by omega)] at hi
      have hz : i - hp.length < 1 := (List.getElem?_eq_some_iff.mp hi).1
      have hi0 : i = hp.length := by omega
      subst hi0
      rw [Nat.sub_self] at hi
      cases hi
      exact ha
def xm_K (D : va_G) (B bs : Nat) (cI cV : ClassId) (L : Nat) (xs : Nat → Int32) (H0 : Heap) (U : State) : Prop :=
  va_K D vwCl [(cI, .int), (cV, .object RX1)] U ∧ va_X B L xs U H0 ∧ (B < bs ∧ bs = H0.size) ∧ va_Nw (.methodLinkNest RX2 17 ⟨RX0, "<init>", "()V"⟩ RX2) U ∧ va_Nw (.methodLinkNest RX1 89 ⟨RX2, "has", "(II)Z"⟩ RX2) U ∧ va_AO RX1 U
/-- the locals: what isn't null is there; longs are in the places lg alone -/
def xm_L (lg : List Nat) (B bs nL : Nat) (ls : List Value) (lsC : Array Slot) : Prop := ls.length = nL ∧ ∃ l : List (Nat × Value), lv_has lsC nL l ∧ (∀ q ∈ l, q.2.category = 2 → q.1 ∈ lg) ∧ ∀ (i : Nat) (v : Value), ls[i]? = some v → v ≠ .null → (i, xm_va B bs v) ∈ l
theorem xm_L.get {lg : List Nat} {B bs nL : Nat} {ls : List Value} {lsC : Array Slot} (h : xm_L lg B bs nL ls lsC) {i : Nat} {v : Value} (hi : ls[i]? = some v) (hv : v ≠ .null) : lsC[i]? = some (.val (xm_va B bs v)) := by
  obtain ⟨-, l, h1, -, h3⟩ := h
  exact h1.2.2 _ (h3 i v hi hv)
theorem xm_L.put {lg : List Nat} {B bs nL : Nat} {ls : List Value} {lsC' : Array Slot} {l : List (Nat × Value)} {i : Nat} {v : Value} (hv : xm_nl v = true) (hg : ∀ j, j + 1 = i → ¬ j ∈ lg) (hlen : ls.length = nL) (hl : ∀ (i : Nat) (v : Value), ls[i]? = some v → v ≠ .null → (i, xm_va B bs v) ∈ l) (hc : ∀ q ∈ l, q.2.category = 2 → q.1 ∈ lg) (h : lv_has lsC' nL ((i, xm_va B bs v) :: l.filter (fun q => !(q.1 == i) && !(q.1 + 1 == i && q.2.category == 2)))) : xm_L lg B bs nL (ls.set i v) lsC' := by
  refine ⟨by rw [List.length_set]; exact hlen, _, h, fun q hq h2 => ?_, fun j w hj hw => ?_⟩
  · rcases List.mem_cons.mp hq with rfl | hq
    · have := xm_va_cat B bs hv
      dsimp only at h2
      omega
    · exact hc q (List.mem_filter.mp hq).1 h2
  · rw [List.getElem?_set] at hj
    by_cases hij : i = j
    · subst hij
      rw [if_pos rfl] at hj
      split at hj
      · cases hj
        exact List.mem_cons_self
      · cases hj
    · rw [if_neg hij] at hj
      have hm := hl j w hj hw
      refine List.mem_cons_of_mem _ (List.mem_filter.mpr ⟨hm, ?_⟩)
      have h1 : (j == i) = false := by simp; omega
      have h2 : (j + 1 == i && (xm_va B bs w).category == 2) = false := by
        rw [Bool.and_eq_false_iff]
        by_cases c : (xm_va B bs w).category = 2
        · exact Or.inl (by simp only [beq_eq_false_iff_ne]; exact fun q => hg j q (hc _ hm c))
        · exact Or.inr (by simp only [beq_eq_false_iff_ne]; exact c)
      simp only [h1, h2, Bool.not_false, Bool.and_self]
theorem xm_L.putl {lg : List Nat} {B bs nL : Nat} {ls : List Value} {lsC' : Array Slot} {l : List (Nat × Value)} {i : Nat} {u : Int64} (hg : ∀ j, j + 1 = i → ¬ j ∈ lg) (hi : i ∈ lg) (hlen : ls.length = nL) (hl : ∀ (i : Nat) (v : Value), ls[i]? = some v → v ≠ .null → (i, xm_va B bs v) ∈ l) (hc : ∀ q ∈ l, q.2.category = 2 → q.1 ∈ lg) (h : lv_has lsC' nL ((i, .long u) :: l.filter (fun q => !(q.1 == i) && (!(q.1 == i + 1) && !(q.1 + 1 == i && q.2.category == 2))))) : xm_L lg B bs nL ((ls.set i (.long u)).set (i + 1) .null) lsC' := by
  refine ⟨by rw [List.length_set, List.length_set]; exact hlen, _, h, fun q hq h2 => ?_, fun j w hj hw => ?_⟩
  · rcases List.mem_cons.mp hq with rfl | hq
    · exact hi
    · exact hc q (List.mem_filter.mp hq).1 h2
  · rw [List.getElem?_set] at hj
    by_cases hij : i + 1 = j
    · subst hij
      rw [if_pos rfl] at hj
      split at hj
      · cases hj
        exact absurd rfl hw
      · cases hj
    · rw [if_neg hij, List.getElem?_set] at hj
      by_cases hij2 : i = j
      · subst hij2
        rw [if_pos rfl] at hj
        split at hj
        · cases hj
          exact List.mem_cons_self
        · cases hj
      · rw [if_neg hij2] at hj
        have hm := hl j w hj hw
        refine List.mem_cons_of_mem _ (List.mem_filter.mpr ⟨hm, ?_⟩)
        have h1 : (j == i) = false := by simp; omega
        have h3 : (j == i + 1) = false := by simp; omega
        have h2 : (j + 1 == i && (xm_va B bs w).category == 2) = false := by
          rw [Bool.and_eq_false_iff]
          by_cases c : (xm_va B bs w).category = 2
          · exact Or.inl (by simp only [beq_eq_false_iff_ne]; exact fun q => hg j q (hc _ hm c))
          · exact Or.inr (by simp only [beq_eq_false_iff_ne]; exact c)
        simp only [h1, h2, h3, Bool.not_false, Bool.and_self]
theorem xm_args {vs : List Value} (hc : ∀ v ∈ vs, v.category = 1) : ∀ (i j : Nat) (v : Value), vs[j]? = some v → (i + j, v) ∈ lv_args i vs := by
  induction vs with
  | nil => intro i j v h; simp at h
  | cons w vs ih =>
    intro i j v h
    have hw : ¬ w.category = 2 := by rw [hc w List.mem_cons_self]; decide
    cases j with
    | zero =>
      cases h
      exact List.mem_cons_self
    | succ j =>
      have h1 := ih (fun v hv => hc v (List.mem_cons_of_mem _ hv)) (i + 1) j v h
      unfold lv_args
      rw [if_neg hw]
      rw [show i + (j + 1) = i + 1 + j by omega]
      exact List.mem_cons_of_mem _ h1
theorem xm_args_cat {vs : List Value} (hc : ∀ v ∈ vs, v.category = 1) : ∀ (i : Nat), ∀ q ∈ lv_args i vs, q.2.category = 1 := by
  induction vs with
  | nil => intro i q h; cases h
  | cons w vs ih =>
    intro i q h
    unfold lv_args at h
    rcases List.mem_cons.mp h with rfl | h
    · exact hc _ List.mem_cons_self
    · exact ih (fun v hv => hc v (List.mem_cons_of_mem _ hv)) _ q h
theorem xm_sl_len {vs : List Value} (hc : ∀ v ∈ vs, v.category = 1) : (lg_sl vs).length = vs.length := by
  induction vs with
  | nil => rfl
  | cons w vs ih =>
    have hw : ¬ w.category = 2 := by rw [hc w List.mem_cons_self]; decide
    have h1 := ih (fun v hv => hc v (List.mem_cons_of_mem _ hv))
    simp only [lg_sl, List.flatMap_cons, if_neg hw, List.length_append, List.length_cons, List.length_nil] at h1 ⊢
    omega
theorem xm_entry (lg : List Nat) (B bs : Nat) {as : List Value} {nL : Nat} (h : as.length ≤ nL) (hn : as.all xm_nl = true) : xm_L lg B bs nL (as ++ List.replicate (nL - as.length) .null) ((lg_sl (as.map (xm_va B bs)) ++ List.replicate (nL - (lg_sl (as.map (xm_va B bs))).length) Slot.unset).toArray) := by
  have hc : ∀ v ∈ as.map (xm_va B bs), v.category = 1 := by
    intro v hv
    obtain ⟨u, hu, rfl⟩ := List.mem_map.mp hv
    exact xm_va_cat B bs (List.all_eq_true.mp hn u hu)
  have hlen := xm_sl_len hc
  rw [List.length_map] at hlen
  refine ⟨by simp; omega, lv_args 0 (as.map (xm_va B bs)), lv_entry _ (by omega), fun q hq h2 => absurd (xm_args_cat hc 0 q hq) (by omega), fun i v hi hv => ?_⟩
  by_cases hl : i < as.length
  · rw [List.getElem?_append_left hl] at hi
    have h1 := xm_args hc 0 i (xm_va B bs v) (by rw [List.getElem?_map, hi]; rfl)
    rwa [Nat.zero_add] at h1
  · rw [List.getElem?_append_right (by omega)] at hi
    have h2 := (List.mem_replicate.mp (List.mem_of_getElem? hi)).2
    exact absurd h2 hv
theorem xm_cats (B bs : Nat) (st : List Value) : ((st.map (xm_va B bs)).map fun v => v.category).sum ≤ 2 * st.length := by
  induction st with
  | nil => exact Nat.le_refl _
  | cons v st ih =>
    have h1 := xm_va_c2 B bs v
    simp only [List.map_cons, List.sum_cons, List.length_cons] at ih ⊢
    omega
/-- cells and their elements only grow -/
theorem xm_step_mono {L : Nat} {xs : Nat → Int32} {rb : Bool} {pc : Nat} {q : xm_Q} {ls st : List Value} {hp : xm_H} {o : xm_O} (h : xm_step L xs rb pc q ls st hp = some o) :
    match o with
    | .inl (_, _, _, hp') => hp.length ≤ hp'.length ∧ xm_sz hp ≤ xm_sz hp'
    | .inr (.inl (_, hp')) => hp' = hp
    | .inr (.inr (_, _, _, _, _, hp')) => hp' = hp := by
  obtain ⟨i, nx, x, y, v⟩ := q
  cases i
  case iconst n => cases xv_iconst h; exact ⟨Nat.le_refl _, Nat.le_refl _⟩
  case bipush n => cases xv_bipush h; exact ⟨Nat.le_refl _, Nat.le_refl _⟩
  case sipush n => cases xv_sipush h; exact ⟨Nat.le_refl _, Nat.le_refl _⟩
  case ldc n => cases xv_ldc h; exact ⟨Nat.le_refl _, Nat.le_refl _⟩
  case ldc_w n => cases xv_ldc_w h; exact ⟨Nat.le_refl _, Nat.le_refl _⟩
  case iload_n n => obtain ⟨_, _, rfl⟩ := xv_iload_n h; exact ⟨Nat.le_refl _, Nat.le_refl _⟩
  case iload n => obtain ⟨_, _, rfl⟩ := xv_iload h; exact ⟨Nat.le_refl _, Nat.le_refl _⟩
  case aload_n n => obtain ⟨_, _, _, rfl⟩ := xv_aload_n h; exact ⟨Nat.le_refl _, Nat.le_refl _⟩
  case istore_n n => obtain ⟨_, _, _, _, rfl⟩ := xv_istore_n h; exact ⟨Nat.le_refl _, Nat.le_refl _⟩
  case istore n => obtain ⟨_, _, _, _, rfl⟩ := xv_istore h; exact ⟨Nat.le_refl _, Nat.le_refl _⟩
  case astore_n n => obtain ⟨_, _, _, _, rfl⟩ := xv_astore_n h; exact ⟨Nat.le_refl _, Nat.le_refl _⟩
  case iinc n z => obtain ⟨_, _, rfl⟩ := xv_iinc h; exact ⟨Nat.le_refl _, Nat.le_refl _⟩
  case ifCond c z => obtain ⟨_, _, _, rfl⟩ := xv_ifCond h; exact ⟨Nat.le_refl _, Nat.le_refl _⟩
  case if_icmp c z => obtain ⟨_, _, _, _, rfl⟩ := xv_icmp h; exact ⟨Nat.le_refl _, Nat.le_refl _⟩
  case goto z => cases xv_goto h; exact ⟨Nat.le_refl _, Nat.le_refl _⟩
  case pop => obtain ⟨_, _, _, _, rfl⟩ := xv_pop h; exact ⟨Nat.le_refl _, Nat.le_refl _⟩
  case dup => obtain ⟨_, _, _, _, rfl⟩ := xv_dup h; exact ⟨Nat.le_refl _, Nat.le_refl _⟩
  case dup2 => obtain ⟨_, _, _, _, _, rfl⟩ := xv_dup2 h; exact ⟨Nat.le_refl _, Nat.le_refl _⟩
  case ldc2_w n => cases xv_ldc2w h; exact ⟨Nat.le_refl _, Nat.le_refl _⟩
  case lload_n n => obtain ⟨_, _, rfl⟩ := xv_lload_n h; exact ⟨Nat.le_refl _, Nat.le_refl _⟩
  case lload n => obtain ⟨_, _, rfl⟩ := xv_lload h; exact ⟨Nat.le_refl _, Nat.le_refl _⟩
  case lstore_n n => obtain ⟨_, _, _, _, rfl⟩ := xv_lstore_n h; exact ⟨Nat.le_refl _, Nat.le_refl _⟩
  case lstore n => obtain ⟨_, _, _, _, rfl⟩ := xv_lstore h; exact ⟨Nat.le_refl _, Nat.le_refl _⟩
  case i2l => obtain ⟨_, _, _, rfl⟩ := xv_i2l h; exact ⟨Nat.le_refl _, Nat.le_refl _⟩
  case ladd => obtain ⟨_, _, _, _, rfl⟩ := xv_ladd h; exact ⟨Nat.le_refl _, Nat.le_refl _⟩
  case lmul => obtain ⟨_, _, _, _, rfl⟩ := xv_lmul h; exact ⟨Nat.le_refl _, Nat.le_refl _⟩
  case lcmp => obtain ⟨_, _, _, _, rfl⟩ := xv_lcmp h; exact ⟨Nat.le_refl _, Nat.le_refl _⟩
  case lreturn => obtain ⟨_, _, rfl⟩ := xv_lreturn h; rfl
  case getfield n => obtain ⟨_, _, _, _, _, _, _, rfl⟩ := xv_getfield h; exact ⟨Nat.le_refl _, Nat.le_refl _⟩
  case putfield n =>
    obtain ⟨_, _, _, _, _, ha, _, _, rfl⟩ := xv_putfield h
    exact ⟨by rw [List.length_set]; exact Nat.le_refl _, by rw [xm_sz_set ha (by simp [xm_es])]; exact Nat.le_refl _⟩
  case iaload => rcases xv_iaload h with ⟨_, _, _, _, _, _, _, _, rfl⟩ | ⟨_, _, _, _, _, rfl⟩ <;> exact ⟨Nat.le_refl _, Nat.le_refl _⟩
  case iastore =>
    obtain ⟨_, _, _, _, _, _, _, ha, _, rfl⟩ := xv_iastore h
    exact ⟨by rw [List.length_set]; exact Nat.le_refl _, by rw [xm_sz_set ha (by simp [xm_es])]; exact Nat.le_refl _⟩
  case aaload => obtain ⟨_, _, _, _, _, _, _, _, _, _, rfl⟩ := xv_aaload h; exact ⟨Nat.le_refl _, Nat.le_refl _⟩
  case aastore =>
    obtain ⟨_, _, _, _, _, _, _, _, ha, _, _, rfl⟩ := xv_aastore h
    exact ⟨by rw [List.length_set]; exact Nat.le_refl _, by rw [xm_sz_set ha (by simp [xm_es])]; exact Nat.le_refl _⟩
  case arraylength => rcases xv_alen h with ⟨_, _, _, _, _, _, rfl⟩ | ⟨_, _, _, rfl⟩ <;> exact ⟨Nat.le_refl _, Nat.le_refl _⟩
  case newarray t => obtain ⟨_, _, _, _, _, rfl⟩ := xv_newarray h; exact ⟨by rw [List.length_append]; omega, by rw [xm_sz_push]; omega⟩
  case anewarray t => obtain ⟨_, _, _, _, _, rfl⟩ := xv_anewarray h; exact ⟨by rw [List.length_append]; omega, by rw [xm_sz_push]; omega⟩
  case new t => cases xv_new h; exact ⟨by rw [List.length_append]; omega, by rw [xm_sz_push]; omega⟩
  case tableswitch d lo hi offs => obtain ⟨_, _, _, _, _, rfl⟩ := xv_tsw h; exact ⟨Nat.le_refl _, Nat.le_refl _⟩
  case lookupswitch d ps => obtain ⟨_, _, _, _, _, rfl⟩ := xv_lsw h; exact ⟨Nat.le_refl _, Nat.le_refl _⟩
  case ireturn => obtain ⟨_, _, _, rfl⟩ := xv_ireturn h; rfl
  case areturn => obtain ⟨_, _, rfl⟩ := xv_areturn h; rfl
  case return_ => obtain ⟨_, rfl⟩ := xv_return h; rfl
  case invokevirtual n => obtain ⟨_, _, _, _, _, _, _, _, _, _, rfl⟩ := xv_virt h; rfl
  case invokestatic n =>
    rcases xv_stat h with ⟨_, _, _, _, _, _, _, _, _, _, _, _, _, hd, _, _, _, _, _, _, rfl⟩ | ⟨_, _, _, _, _, _, rfl⟩ | ⟨_, _, _, _, _, _, _, rfl⟩
    · exact ⟨by rw [List.length_set]; exact Nat.le_refl _, by rw [xm_sz_set hd (by simp [xm_es])]; exact Nat.le_refl _⟩
    · exact ⟨Nat.le_refl _, Nat.le_refl _⟩
    · rfl
  case invokespecial n =>
    rcases xv_spec h with ⟨_, _, _, _, _, rfl⟩ | ⟨_, _, _, _, _, _, _, rfl⟩
    · exact ⟨Nat.le_refl _, Nat.le_refl _⟩
    · rfl
  case iadd => obtain ⟨_, _, _, _, _, _, rfl⟩ := xv_iadd h; exact ⟨Nat.le_refl _, Nat.le_refl _⟩
  case isub => obtain ⟨_, _, _, _, _, _, rfl⟩ := xv_isub h; exact ⟨Nat.le_refl _, Nat.le_refl _⟩
  case imul => obtain ⟨_, _, _, _, _, _, rfl⟩ := xv_imul h; exact ⟨Nat.le_refl _, Nat.le_refl _⟩
  case iand => obtain ⟨_, _, _, _, _, _, rfl⟩ := xv_iand h; exact ⟨Nat.le_refl _, Nat.le_refl _⟩
  case ior => obtain ⟨_, _, _, _, _, _, rfl⟩ := xv_ior h; exact ⟨Nat.le_refl _, Nat.le_refl _⟩
  case ixor => obtain ⟨_, _, _, _, _, _, rfl⟩ := xv_ixor h; exact ⟨Nat.le_refl _, Nat.le_refl _⟩
  case ishl => obtain ⟨_, _, _, _, _, _, rfl⟩ := xv_ishl h; exact ⟨Nat.le_refl _, Nat.le_refl _⟩
  case ishr => obtain ⟨_, _, _, _, _, _, rfl⟩ := xv_ishr h; exact ⟨Nat.le_refl _, Nat.le_refl _⟩
  case iushr => obtain ⟨_, _, _, _, _, _, rfl⟩ := xv_iushr h; exact ⟨Nat.le_refl _, Nat.le_refl _⟩
  case idiv => obtain ⟨_, _, _, _, _, _, rfl⟩ := xv_idiv h; exact ⟨Nat.le_refl _, Nat.le_refl _⟩
  case irem => obtain ⟨_, _, _, _, _, _, rfl⟩ := xv_irem h; exact ⟨Nat.le_refl _, Nat.le_refl _⟩
  all_goals
    exfalso
    simp only [xm_step, xm_bin] at h
    split at h <;> cases h
theorem xm_ex_mono {L : Nat} {xs : Nat → Int32} : ∀ (n k pc : Nat) (ls st : List Value) (hp : xm_H) (r : xm_R), xm_ex L xs n k pc ls st hp = some r → hp.length ≤ r.2.length ∧ xm_sz hp ≤ xm_sz r.2 := by
  intro n
  induction n with
  | zero => intro k pc ls st hp r h; cases h
  | succ n ih =>
    intro k pc ls st hp r h
    unfold xm_ex at h
    split at h
    · cases h
    · next q hq =>
      split at h
      · cases h
      · next pc' ls' st' hp' hs =>
        have h1 := xm_step_mono hs
        have h2 := ih _ _ _ _ _ _ h
        exact ⟨Nat.le_trans h1.1 h2.1, Nat.le_trans h1.2 h2.2⟩
      · next r' hs =>
        have h1 := xm_step_mono hs
        cases h
        obtain ⟨a, b⟩ := r
        have h1 : b = hp := h1
        subst h1
        exact ⟨Nat.le_refl _, Nat.le_refl _⟩
      · next j as nx ls' rest hp1 hs =>
        have h1 := xm_step_mono hs
        have h1 : hp1 = hp := h1
        subst h1
        split at h
        · cases h
        · next hp' hc =>
          have h2 := ih _ _ _ _ _ _ hc
          have h3 := ih _ _ _ _ _ _ h
          exact ⟨Nat.le_trans h2.1 h3.1, Nat.le_trans h2.2 h3.2⟩
        · next u hp' hc =>
          have h2 := ih _ _ _ _ _ _ hc
          have h3 := ih _ _ _ _ _ _ h
          exact ⟨Nat.le_trans h2.1 h3.1, Nat.le_trans h2.2 h3.2⟩
