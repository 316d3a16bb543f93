/-! bits (rows 3 to 39 of the kit's BITS to paste), and sets of things: bits below 30 -/
def bt (x : Int32) (i : Nat) : Bool := x.toBitVec.getLsbD i
theorem b_ext {x y : Int32} (h : ∀ i, i < 32 → bt x i = bt y i) : x = y := Int32.toBitVec_inj.mp (BitVec.eq_of_getLsbD_eq (fun i hi => h i hi))
theorem b_or (x y : Int32) (i : Nat) : bt (x ||| y) i = (bt x i || bt y i) := by unfold bt; rw [Int32.toBitVec_or, BitVec.getLsbD_or]
theorem b_and (x y : Int32) (i : Nat) : bt (x &&& y) i = (bt x i && bt y i) := by unfold bt; rw [Int32.toBitVec_and, BitVec.getLsbD_and]
theorem b_xor (x y : Int32) (i : Nat) : bt (x ^^^ y) i = (bt x i ^^ bt y i) := by unfold bt; rw [Int32.toBitVec_xor, BitVec.getLsbD_xor]
theorem b_big {x : Int32} {i : Nat} (h : 32 ≤ i) : bt x i = false := BitVec.getLsbD_of_ge _ _ h
theorem b_m1 : ∀ i, i < 32 → bt (-1) i = true := by decide +kernel
theorem b_0 (i : Nat) : bt 0 i = false := BitVec.getLsbD_zero
theorem s_l : ∀ n, n < 32 → ((nI n &&& 31).toBitVec.smod 32).toNat = n := by decide +kernel
theorem s_u : ∀ n, n < 32 → (((nI n).toUInt32 &&& Int32.toUInt32 31).toBitVec % 32).toNat = n := by decide +kernel
theorem b_shl (n : Nat) (hn : n < 32) (x : Int32) {i : Nat} (hi : i < 32) : bt (x <<< (nI n &&& 31)) i = (decide (n ≤ i) && bt x (i - n)) := by
  unfold bt
  rw [Int32.toBitVec_shiftLeft]
  show (x.toBitVec <<< ((nI n &&& 31).toBitVec.smod 32).toNat).getLsbD i = _
  rw [s_l n hn, BitVec.getLsbD_shiftLeft]
  rcases Nat.lt_or_ge i n with h | h
  · simp [h, Nat.not_le.mpr h]
  · simp [hi, h, Nat.not_lt.mpr h]
theorem b_ushr (n : Nat) (hn : n < 32) (x : Int32) (i : Nat) : bt ((x.toUInt32 >>> ((nI n).toUInt32 &&& Int32.toUInt32 31)).toInt32) i = bt x (n + i) := by
  show (x.toUInt32 >>> ((nI n).toUInt32 &&& Int32.toUInt32 31)).toBitVec.getLsbD i = x.toUInt32.toBitVec.getLsbD (n + i)
  rw [UInt32.toBitVec_shiftRight]
  show (x.toUInt32.toBitVec >>> (((nI n).toUInt32 &&& Int32.toUInt32 31).toBitVec % 32).toNat).getLsbD i = _
  rw [s_u n hn, BitVec.getLsbD_ushiftRight]
theorem b_sshr (n : Nat) (hn : n < 32) (x : Int32) {i : Nat} (hi : i < 32) : bt (x >>> (nI n &&& 31)) i = if n + i < 32 then bt x (n + i) else bt x 31 := by
  unfold bt
  rw [Int32.toBitVec_shiftRight]
  show (x.toBitVec.sshiftRight ((nI n &&& 31).toBitVec.smod 32).toNat).getLsbD i = _
  rw [s_l n hn, BitVec.getLsbD_sshiftRight, BitVec.msb_eq_getLsbD_last]
  simp [hi]
noncomputable def cd (p : Prop) : Bool := @decide p (Classical.propDecidable p)
theorem cd_t {p : Prop} : cd p = true ↔ p := @decide_eq_true_iff p (Classical.propDecidable p)
theorem cd_f {p : Prop} : cd p = false ↔ ¬ p := @decide_eq_false_iff_not p (Classical.propDecidable p)
noncomputable def mkN (P : Nat → Prop) : Nat → Int32
  | 0 => nI 0
  | n + 1 => mkN P n ||| (if cd (P n) = true then nI 1 <<< (nI n &&& 31) else nI 0)
noncomputable def mk (P : Nat → Prop) : Int32 := mkN P 30
theorem b_one : ∀ n, n < 32 → ∀ i, i < 32 → bt (nI 1 <<< (nI n &&& 31)) i = decide (i = n) := by decide +kernel
theorem bt_mkN (P : Nat → Prop) : ∀ n, n ≤ 32 → ∀ i, i < 32 → (bt (mkN P n) i = true ↔ i < n ∧ P i) := by
  intro n
  induction n with
  | zero =>
    intro _ i hi
    have h0 : bt (nI 0) i = false := b_0 i
    simp [mkN, h0]
  | succ n ih =>
    intro hn i hi
    simp only [mkN]
    rw [b_or, Bool.or_eq_true, ih (by omega) i hi]
    by_cases hp : P n
    · rw [if_pos (cd_t.mpr hp), b_one n (by omega) i hi, decide_eq_true_eq]
      constructor
      · rintro (h | h)
        · exact ⟨by omega, h.2⟩
        · subst h
          exact ⟨by omega, hp⟩
      · rintro ⟨h1, h2⟩
        by_cases h : i = n
        · exact Or.inr h
        · exact Or.inl ⟨by omega, h2⟩
    · rw [if_neg (fun q => hp (cd_t.mp q))]
      have h0 : bt (nI 0) i = false := b_0 i
      rw [h0]
      constructor
      · rintro (h | h)
        · exact ⟨by omega, h.2⟩
        · cases h
      · rintro ⟨h1, h2⟩
        refine Or.inl ⟨?_, h2⟩
        have : i ≠ n := fun q => hp (q ▸ h2)
        omega
theorem bt_mk {P : Nat → Prop} {i : Nat} (hi : i < 32) : bt (mk P) i = true ↔ i < 30 ∧ P i := bt_mkN P 30 (by omega) i hi
theorem mk_ext {x : Int32} {P : Nat → Prop} (h : ∀ i, i < 32 → (bt x i = true ↔ i < 30 ∧ P i)) : x = mk P := by
  refine b_ext (fun i hi => ?_)
  rw [Bool.eq_iff_iff, bt_mk hi]
  exact h i hi
theorem mk_congr {P R : Nat → Prop} (h : ∀ t, t < 30 → (P t ↔ R t)) : mk P = mk R :=
  mk_ext (fun i hi => by rw [bt_mk hi]; exact ⟨fun q => ⟨q.1, (h i q.1).mp q.2⟩, fun q => ⟨q.1, (h i q.1).mpr q.2⟩⟩)
theorem mk_inj {P R : Nat → Prop} (h : mk P = mk R) {t : Nat} (ht : t < 30) : P t ↔ R t := by
  have h1 := (bt_mk (P := P) (show t < 32 by omega))
  have h2 := (bt_mk (P := R) (show t < 32 by omega))
  rw [h] at h1
  exact ⟨fun q => (h2.mp (h1.mpr ⟨ht, q⟩)).2, fun q => (h1.mp (h2.mpr ⟨ht, q⟩)).2⟩
theorem mk_or (P R : Nat → Prop) : mk P ||| mk R = mk (fun t => P t ∨ R t) := by
  refine mk_ext (fun i hi => ?_)
  rw [b_or, Bool.or_eq_true, bt_mk hi, bt_mk hi]
  constructor
  · rintro (h | h)
    · exact ⟨h.1, Or.inl h.2⟩
    · exact ⟨h.1, Or.inr h.2⟩
  · rintro ⟨h, h1 | h1⟩
    · exact Or.inl ⟨h, h1⟩
    · exact Or.inr ⟨h, h1⟩
theorem mk_and (P R : Nat → Prop) : mk P &&& mk R = mk (fun t => P t ∧ R t) := by
  refine mk_ext (fun i hi => ?_)
  rw [b_and, Bool.and_eq_true, bt_mk hi, bt_mk hi]
  exact ⟨fun h => ⟨h.1.1, h.1.2, h.2.2⟩, fun h => ⟨⟨h.1, h.2.1⟩, h.1, h.2.2⟩⟩
theorem b_not (x : Int32) {i : Nat} (hi : i < 32) : bt (x ^^^ dI 0) i = !(bt x i) := by
  rw [b_xor, dI_0, b_m1 i hi, Bool.xor_true]
theorem mk_andn (P R : Nat → Prop) : mk P &&& (mk R ^^^ dI 0) = mk (fun t => P t ∧ ¬ R t) := by
  refine mk_ext (fun i hi => ?_)
  rw [b_and, Bool.and_eq_true, bt_mk hi, b_not _ hi, Bool.not_eq_true', ← Bool.not_eq_true, bt_mk hi]
  exact ⟨fun h => ⟨h.1.1, h.1.2, fun q => h.2 ⟨h.1.1, q⟩⟩, fun h => ⟨⟨h.1, h.2.1⟩, fun q => h.2.2 q.2⟩⟩
theorem mk_0 : nI 0 = mk (fun _ => False) := by
  refine mk_ext (fun i hi => ?_)
  have h0 : bt (nI 0) i = false := b_0 i
  simp [h0]
theorem mk_1 {n : Nat} (hn : n < 30) : nI 1 <<< (nI n &&& 31) = mk (fun t => t = n) := by
  refine mk_ext (fun i hi => ?_)
  rw [b_one n (by omega) i hi, decide_eq_true_eq]
  exact ⟨fun h => ⟨by omega, h⟩, fun h => h.2⟩
theorem mk_or1 (P : Nat → Prop) {n : Nat} (hn : n < 30) : mk P ||| (nI 1 <<< (nI n &&& 31)) = mk (fun t => P t ∨ t = n) := by
  rw [mk_1 hn, mk_or]
theorem mk_or0 (P : Nat → Prop) : mk P ||| nI 0 = mk P := by
  rw [mk_0, mk_or]
  exact mk_congr (fun t _ => by simp)
theorem mk_eq0 {P : Nat → Prop} : mk P = 0 ↔ ∀ t, t < 30 → ¬ P t := by
  have h0 : (0 : Int32) = mk (fun _ => False) := mk_0
  rw [h0]
  exact ⟨fun h t ht q => (mk_inj h ht).mp q, fun h => mk_congr (fun t ht => ⟨fun q => h t ht q, fun q => q.elim⟩)⟩
theorem bt_test {x : Int32} {n : Nat} (hn : n < 31) : (x >>> (nI n &&& 31)) &&& nI 1 = if bt x n = true then nI 1 else nI 0 := by
  have b1 : ∀ i, i < 32 → bt (nI 1) i = decide (i = 0) := by decide +kernel
  refine b_ext (fun i hi => ?_)
  rw [b_and, b1 i hi, b_sshr n (by omega) x hi]
  have h0 : bt (nI 0) i = false := b_0 i
  by_cases h : i = 0
  · subst h
    rw [if_pos (show n + 0 < 32 by omega)]
    cases hb : bt x n
    · rw [if_neg (by decide), h0]
      rfl
    · rw [if_pos rfl, b1 0 (by omega)]
      rfl
  · have hd : decide (i = 0) = false := by simp [h]
    rw [hd, Bool.and_false]
    split
    · rw [b1 i hi, hd]
    · rw [h0]
theorem mk_test (P : Nat → Prop) {n : Nat} (hn : n < 30) : ((mk P >>> (nI n &&& 31)) &&& nI 1 = nI 1 ∧ P n) ∨ ((mk P >>> (nI n &&& 31)) &&& nI 1 = nI 0 ∧ ¬ P n) := by
  rw [bt_test (by omega)]
  by_cases h : P n
  · exact Or.inl ⟨if_pos ((bt_mk (by omega)).mpr ⟨hn, h⟩), h⟩
  · exact Or.inr ⟨if_neg (fun q => h ((bt_mk (by omega)).mp q).2), h⟩
/-- how many there are below n -/
noncomputable def cnt (P : Nat → Prop) : Nat → Nat
  | 0 => 0
  | n + 1 => cnt P n + (if cd (P n) = true then 1 else 0)
theorem cnt_le (P : Nat → Prop) : ∀ n, cnt P n ≤ n := by
  intro n
  induction n with
  | zero => exact Nat.le_refl _
  | succ n ih =>
    simp only [cnt]
    split <;> omega
theorem cnt_congr {P R : Nat → Prop} : ∀ n, (∀ t, t < n → (P t ↔ R t)) → cnt P n = cnt R n := by
  intro n
  induction n with
  | zero => intro _; rfl
  | succ n ih =>
    intro h
    simp only [cnt]
    rw [ih (fun t ht => h t (by omega))]
    have e : cd (P n) = cd (R n) := by
      rw [Bool.eq_iff_iff, cd_t, cd_t]
      exact h n (by omega)
    rw [e]
theorem mk_start (P : Nat → Prop) : nI 0 = mk (fun t => t < 0 ∧ P t) := by
  rw [mk_0]
  exact mk_congr (fun t _ => ⟨fun h => h.elim, fun h => by omega⟩)
theorem mk_step1 {P : Nat → Prop} {i : Nat} (hi : i < 30) (h : P i) : mk (fun t => t < i ∧ P t) ||| (nI 1 <<< (nI i &&& 31)) = mk (fun t => t < i + 1 ∧ P t) := by
  rw [mk_or1 _ hi]
  refine mk_congr (fun t _ => ⟨?_, ?_⟩)
  · rintro (h1 | h1)
    · exact ⟨by omega, h1.2⟩
    · subst h1
      exact ⟨by omega, h⟩
  · rintro ⟨h1, h2⟩
    by_cases e : t = i
    · exact Or.inr e
    · exact Or.inl ⟨by omega, h2⟩
theorem mk_step0 {P : Nat → Prop} {i : Nat} (h : ¬ P i) : mk (fun t => t < i ∧ P t) ||| nI 0 = mk (fun t => t < i + 1 ∧ P t) := by
  rw [mk_or0]
  refine mk_congr (fun t _ => ⟨fun h1 => ⟨by omega, h1.2⟩, fun h1 => ⟨?_, h1.2⟩⟩)
  have : t ≠ i := fun q => h (q ▸ h1.2)
  omega
theorem mk_all {P : Nat → Prop} {n : Nat} (h : ∀ t, t < 30 → P t → t < n) : mk (fun t => t < n ∧ P t) = mk P :=
  mk_congr (fun t ht => ⟨fun q => q.2, fun q => ⟨h t ht q, q⟩⟩)
/-- the first below n -/
noncomputable def fstN (P : Nat → Prop) : Nat → Option Nat
  | 0 => none
  | n + 1 => match fstN P n with
    | some i => some i
    | none => if cd (P n) = true then some n else none
theorem fstN_none {P : Nat → Prop} : ∀ {n : Nat}, fstN P n = none ↔ ∀ i, i < n → ¬ P i := by
  intro n
  induction n with
  | zero => exact ⟨fun _ i hi => by omega, fun _ => rfl⟩
  | succ n ih =>
    simp only [fstN]
    cases h : fstN P n with
    | some j =>
      refine ⟨fun q => (by cases q), fun q => ?_⟩
      have := ih.mpr (fun i hi => q i (by omega))
      rw [h] at this
      cases this
    | none =>
      have h1 := ih.mp h
      dsimp only
      by_cases hp : P n
      · rw [if_pos (cd_t.mpr hp)]
        exact ⟨fun q => (by cases q), fun q => absurd hp (q n (by omega))⟩
      · rw [if_neg (fun q => hp (cd_t.mp q))]
        refine ⟨fun _ i hi => ?_, fun _ => rfl⟩
        by_cases e : i = n
        · subst e; exact hp
        · exact h1 i (by omega)
theorem fstN_some {P : Nat → Prop} : ∀ {n i : Nat}, fstN P n = some i ↔ i < n ∧ P i ∧ ∀ j, j < i → ¬ P j := by
  intro n
  induction n with
  | zero => exact fun {i} => ⟨fun h => (by cases h), fun h => by omega⟩
  | succ n ih =>
    intro i
    simp only [fstN]
    cases h : fstN P n with
    | some j =>
      have h1 := ih.mp h
      dsimp only
      constructor
      · intro q
        cases q
        exact ⟨by omega, h1.2⟩
      · rintro ⟨q1, q2, q3⟩
        by_cases e1 : j < i
        · exact absurd h1.2.1 (q3 j e1)
        · by_cases e2 : i < j
          · exact absurd q2 (h1.2.2 i e2)
          · rw [show j = i by omega]
    | none =>
      have h1 := fstN_none.mp h
      dsimp only
      by_cases hp : P n
      · rw [if_pos (cd_t.mpr hp)]
        constructor
        · intro q
          cases q
          exact ⟨by omega, hp, h1⟩
        · rintro ⟨q1, q2, q3⟩
          by_cases e : i = n
          · rw [e]
          · exact absurd q2 (h1 i (by omega))
      · rw [if_neg (fun q => hp (cd_t.mp q))]
        refine ⟨fun q => (by cases q), ?_⟩
        rintro ⟨q1, q2, q3⟩
        by_cases e : i = n
        · subst e; exact absurd q2 hp
        · exact absurd q2 (h1 i (by omega))
theorem fstN_congr {P R : Nat → Prop} {n : Nat} (h : ∀ i, i < n → (P i ↔ R i)) : fstN P n = fstN R n := by
  induction n with
  | zero => rfl
  | succ n ih =>
    simp only [fstN]
    rw [ih (fun i hi => h i (by omega))]
    have e : cd (P n) = cd (R n) := by
      rw [Bool.eq_iff_iff, cd_t, cd_t]
      exact h n (by omega)
    rw [e]
theorem cnt_s1 {P : Nat → Prop} {i : Nat} (h : P i) : nI (cnt P i) + nI 1 = nI (cnt P (i + 1)) := by
  rw [nI_add]
  simp only [cnt, if_pos (cd_t.mpr h)]
theorem cnt_s0 {P : Nat → Prop} {i : Nat} (h : ¬ P i) : nI (cnt P i) + nI 0 = nI (cnt P (i + 1)) := by
  rw [nI_add]
  simp only [cnt, if_neg (fun q => h (cd_t.mp q))]
theorem cnt_lt {P R : Nat → Prop} : ∀ n, (∀ t, t < n → P t → R t) → (∃ t, t < n ∧ R t ∧ ¬ P t) → cnt P n + 1 ≤ cnt R n := by
  have le : ∀ n, (∀ t, t < n → P t → R t) → cnt P n ≤ cnt R n := by
    intro n
    induction n with
    | zero => intro _; exact Nat.le_refl _
    | succ n ih =>
      intro h
      have h1 := ih (fun t ht => h t (by omega))
      simp only [cnt]
      by_cases hp : P n
      · rw [if_pos (cd_t.mpr hp), if_pos (cd_t.mpr (h n (by omega) hp))]
        omega
      · rw [if_neg (fun q => hp (cd_t.mp q))]
        omega
  intro n
  induction n with
  | zero => rintro _ ⟨t, ht, -⟩; omega
  | succ n ih =>
    rintro h ⟨t, ht, h1, h2⟩
    simp only [cnt]
    by_cases e : t = n
    · subst e
      rw [if_pos (cd_t.mpr h1), if_neg (fun q => h2 (cd_t.mp q))]
      have := le t (fun u hu => h u (by omega))
      omega
    · have h3 := ih (fun t ht => h t (by omega)) ⟨t, by omega, h1, h2⟩
      by_cases hp : P n
      · rw [if_pos (cd_t.mpr hp), if_pos (cd_t.mpr (h n (by omega) hp))]
        omega
      · rw [if_neg (fun q => hp (cd_t.mp q))]
        omega
