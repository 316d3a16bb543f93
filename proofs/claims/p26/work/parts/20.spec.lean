/-! the mathematical state: a row of numbers, laid out as the reference lays it out -/
def ri (t w : Nat) : Nat := 16 + 6 * t + w
def un (G : Nat → Nat) (k x : Nat) : Nat → Nat := fun i => if i = k then x else G i
theorem un_s (G : Nat → Nat) (k x : Nat) : un G k x k = x := if_pos rfl
theorem un_n {G : Nat → Nat} {k x i : Nat} (h : i ≠ k) : un G k x i = G i := if_neg h
def sLive (G : Nat → Nat) (t : Nat) : Prop := t < G 0 ∧ 0 < G (ri t 0)
def sHome (G : Nat → Nat) (t : Nat) : Nat := (G (ri t 0) - 1) / 5
def sAge (G : Nat → Nat) (t : Nat) : Nat := G (4 + sHome G t)
/-- things of an age up to a -/
def sYoung (G : Nat → Nat) (a t : Nat) : Prop := sLive G t ∧ sAge G t ≤ a + 1
def sPin (G : Nat → Nat) (t : Nat) : Prop := sLive G t ∧ G (ri t 1) = 1
def sHeld (G : Nat → Nat) (t : Nat) : Prop := ∃ k, k < 4 ∧ G (12 + k) = t + 1
def sRoots (G : Nat → Nat) (t : Nat) : Prop := sHeld G t ∨ sPin G t
def sTied (G : Nat → Nat) (P : Nat → Prop) (j : Nat) : Prop := ∃ t k, t < G 0 ∧ k < 3 ∧ P t ∧ G (ri t (2 + k)) = j + 1
/-- the place p is empty -/
def sEmp (G : Nat → Nat) (p : Nat) : Prop := ∀ t, t < G 0 → G (ri t 0) ≠ p + 1
/-- room of an age (b: the age and 1): a place, and the row then -/
noncomputable def sRoom (G : Nat → Nat) (b : Nat) : Option (Nat × (Nat → Nat)) :=
  match fstN (fun h => G (4 + h) = b ∧ ∃ q, q < 5 ∧ sEmp G (5 * h + q)) 8 with
  | some h => (match fstN (fun q => sEmp G (5 * h + q)) 5 with
    | some q => some (5 * h + q, G)
    | none => none)
  | none => (match fstN (fun h => G (4 + h) = 0) 8 with
    | some h => some (5 * h, un G (4 + h) b)
    | none => none)
noncomputable def sFree (G : Nat → Nat) : Nat → Nat := fun i => if cd (4 ≤ i ∧ i < 12 ∧ ∀ q, q < 5 → sEmp G (5 * (i - 4) + q)) = true then 0 else G i
/-- what always holds of a row -/
def sInv (G : Nat → Nat) : Prop :=
  G 0 ≤ 30 ∧ (∀ t w, t < 30 → w < 6 → G 0 ≤ t → G (ri t w) = 0) ∧ (∀ t, t < 30 → G (ri t 0) ≤ 40) ∧ (∀ h, h < 8 → G (4 + h) ≤ 3) ∧
  (∀ k, k < 4 → G (12 + k) ≤ 30 ∧ (0 < G (12 + k) → sLive G (G (12 + k) - 1))) ∧
  (∀ t k, t < 30 → k < 3 → G (ri t (2 + k)) ≤ 30 ∧ (0 < G (ri t (2 + k)) → sLive G t ∧ sLive G (G (ri t (2 + k)) - 1))) ∧
  (∀ t u, sLive G t → sLive G u → G (ri t 0) = G (ri u 0) → t = u) ∧
  (∀ t, sLive G t → 0 < sAge G t) ∧
  (∀ t, t < 30 → G (ri t 1) ≤ 1 ∧ (0 < G (ri t 1) → sLive G t))
theorem sInv.c {G : Nat → Nat} (h : sInv G) : G 0 ≤ 30 := h.1
theorem sInv.z {G : Nat → Nat} (h : sInv G) {t w : Nat} (ht : t < 30) (hw : w < 6) (hc : G 0 ≤ t) : G (ri t w) = 0 := h.2.1 t w ht hw hc
theorem sInv.l {G : Nat → Nat} (h : sInv G) {t : Nat} (ht : t < 30) : G (ri t 0) ≤ 40 := h.2.2.1 t ht
theorem sInv.a {G : Nat → Nat} (h : sInv G) {k : Nat} (hk : k < 8) : G (4 + k) ≤ 3 := h.2.2.2.1 k hk
theorem sInv.h {G : Nat → Nat} (h : sInv G) {k : Nat} (hk : k < 4) : G (12 + k) ≤ 30 ∧ (0 < G (12 + k) → sLive G (G (12 + k) - 1)) := h.2.2.2.2.1 k hk
theorem sInv.t {G : Nat → Nat} (h : sInv G) {t k : Nat} (ht : t < 30) (hk : k < 3) : G (ri t (2 + k)) ≤ 30 ∧ (0 < G (ri t (2 + k)) → sLive G t ∧ sLive G (G (ri t (2 + k)) - 1)) := h.2.2.2.2.2.1 t k ht hk
theorem sInv.d {G : Nat → Nat} (h : sInv G) {t u : Nat} (ht : sLive G t) (hu : sLive G u) (e : G (ri t 0) = G (ri u 0)) : t = u := h.2.2.2.2.2.2.1 t u ht hu e
theorem sInv.g {G : Nat → Nat} (h : sInv G) {t : Nat} (ht : sLive G t) : 0 < sAge G t := h.2.2.2.2.2.2.2.1 t ht
theorem sInv.p {G : Nat → Nat} (h : sInv G) {t : Nat} (ht : t < 30) : G (ri t 1) ≤ 1 ∧ (0 < G (ri t 1) → sLive G t) := h.2.2.2.2.2.2.2.2 t ht
theorem sInv.lt {G : Nat → Nat} (h : sInv G) {t : Nat} (ht : sLive G t) : t < 30 := Nat.lt_of_lt_of_le ht.1 h.1
theorem sInv.ho {G : Nat → Nat} (h : sInv G) {t : Nat} (ht : t < 30) : sHome G t < 8 := by
  have := h.l ht
  unfold sHome
  omega
theorem sInv.ag {G : Nat → Nat} (h : sInv G) {t : Nat} (ht : t < 30) : sAge G t ≤ 3 := h.a (h.ho ht)
theorem sInv.yl {G : Nat → Nat} (h : sInv G) {a t : Nat} (ht : sYoung G a t) : t < G 0 := ht.1.1
/-- an argument that is a number below n, or isn't -/
theorem x_of {x : Int32} {n : Nat} (h0 : 0 ≤ x.toInt) (h1 : x.toInt < (n : Int)) (hn : n ≤ 2147483647) : ∃ k, k < n ∧ x = nI k := by
  refine ⟨x.toInt.toNat, by omega, ?_⟩
  apply Int32.toInt_inj.mp
  rw [tI_n (by omega)]
  omega
def cpN (G : Nat → Nat) (a b n : Nat) : Nat → Nat := fun j => if b ≤ j ∧ j < b + n then G (a + (j - b)) else G j
theorem cpN_0 (G : Nat → Nat) (a b : Nat) : cpN G a b 0 = G := by
  funext j
  unfold cpN
  rw [if_neg (by omega)]
theorem cpN_s {G : Nat → Nat} {a b i n : Nat} (hd : a + n ≤ b ∨ b + n ≤ a) (hi : i < n) : un (cpN G a b i) (b + i) (cpN G a b i (a + i)) = cpN G a b (i + 1) := by
  funext j
  unfold un cpN
  by_cases h : j = b + i
  · subst h
    rw [if_pos rfl, if_neg (by omega), if_pos (by omega)]
    congr 1
    omega
  · rw [if_neg h]
    by_cases h2 : b ≤ j ∧ j < b + i
    · rw [if_pos h2, if_pos (by omega)]
    · rw [if_neg h2, if_neg (by omega)]
theorem sRoom_in {G : Nat → Nat} {b h q : Nat} (h1 : fstN (fun h => G (4 + h) = b ∧ ∃ q, q < 5 ∧ sEmp G (5 * h + q)) 8 = some h) (h2 : fstN (fun q => sEmp G (5 * h + q)) 5 = some q) : sRoom G b = some (5 * h + q, G) := by
  unfold sRoom
  rw [h1]
  dsimp only
  rw [h2]
theorem sRoom_free {G : Nat → Nat} {b h : Nat} (h1 : fstN (fun h => G (4 + h) = b ∧ ∃ q, q < 5 ∧ sEmp G (5 * h + q)) 8 = none) (h2 : fstN (fun h => G (4 + h) = 0) 8 = some h) : sRoom G b = some (5 * h, un G (4 + h) b) := by
  unfold sRoom
  rw [h1]
  dsimp only
  rw [h2]
theorem sRoom_no {G : Nat → Nat} {b : Nat} (h1 : fstN (fun h => G (4 + h) = b ∧ ∃ q, q < 5 ∧ sEmp G (5 * h + q)) 8 = none) (h2 : fstN (fun h => G (4 + h) = 0) 8 = none) : sRoom G b = none := by
  unfold sRoom
  rw [h1]
  dsimp only
  rw [h2]
noncomputable def sFreeN (G : Nat → Nat) (n : Nat) : Nat → Nat := fun i => if cd (4 ≤ i ∧ i < 4 + n ∧ ∀ q, q < 5 → sEmp G (5 * (i - 4) + q)) = true then 0 else G i
theorem sFreeN_8 (G : Nat → Nat) : sFreeN G 8 = sFree G := rfl
theorem sFreeN_0 (G : Nat → Nat) : sFreeN G 0 = G := by
  funext i
  unfold sFreeN
  rw [if_neg (fun q => by have := cd_t.mp q; omega)]
theorem sFreeN_o {G : Nat → Nat} {n i : Nat} (h : i < 4 ∨ 4 + n ≤ i) : sFreeN G n i = G i := by
  unfold sFreeN
  rw [if_neg (fun q => by have := cd_t.mp q; omega)]
theorem sEmp_F {G : Nat → Nat} {n p : Nat} (hn : n ≤ 8) : sEmp (sFreeN G n) p ↔ sEmp G p := by
  unfold sEmp
  rw [sFreeN_o (by omega)]
  constructor
  · intro h t ht
    have := h t ht
    rwa [sFreeN_o (by unfold ri; omega)] at this
  · intro h t ht
    rw [sFreeN_o (by unfold ri; omega)]
    exact h t ht
theorem sFreeN_s1 {G : Nat → Nat} {n : Nat} (h : ∀ q, q < 5 → sEmp G (5 * n + q)) : un (sFreeN G n) (4 + n) 0 = sFreeN G (n + 1) := by
  funext i
  unfold un sFreeN
  by_cases e : i = 4 + n
  · subst e
    rw [if_pos rfl, if_pos (cd_t.mpr ⟨by omega, by omega, by rw [show 4 + n - 4 = n by omega]; exact h⟩)]
  · rw [if_neg e]
    by_cases c : 4 ≤ i ∧ i < 4 + n ∧ ∀ q, q < 5 → sEmp G (5 * (i - 4) + q)
    · rw [if_pos (cd_t.mpr c), if_pos (cd_t.mpr ⟨c.1, by omega, c.2.2⟩)]
    · rw [if_neg (fun q => c (cd_t.mp q)), if_neg (fun q => c (by have := cd_t.mp q; exact ⟨this.1, by omega, this.2.2⟩))]
theorem sFreeN_s0 {G : Nat → Nat} {n : Nat} (h : ¬ ∀ q, q < 5 → sEmp G (5 * n + q)) : un (sFreeN G n) (4 + n) (sFreeN G n (4 + n)) = sFreeN G (n + 1) := by
  funext i
  unfold un
  by_cases e : i = 4 + n
  · subst e
    rw [if_pos rfl, sFreeN_o (by omega)]
    unfold sFreeN
    rw [if_neg (fun q => h (by have := (cd_t.mp q).2.2; rwa [show 4 + n - 4 = n by omega] at this))]
  · rw [if_neg e]
    unfold sFreeN
    by_cases c : 4 ≤ i ∧ i < 4 + n ∧ ∀ q, q < 5 → sEmp G (5 * (i - 4) + q)
    · rw [if_pos (cd_t.mpr c), if_pos (cd_t.mpr ⟨c.1, by omega, c.2.2⟩)]
    · rw [if_neg (fun q => c (cd_t.mp q)), if_neg (fun q => c (by have := cd_t.mp q; exact ⟨this.1, by omega, this.2.2⟩))]
/-- the row (below 196) and what lies behind it -/
def jn (G Z : Nat → Nat) : Nat → Nat := fun i => if i < 196 then G i else Z i
theorem jn_lo {G Z : Nat → Nat} {i : Nat} (h : i < 196) : jn G Z i = G i := if_pos h
theorem jn_hi {G Z : Nat → Nat} {i : Nat} (h : 196 ≤ i) : jn G Z i = Z i := if_neg (by omega)
theorem jn_un {G Z : Nat → Nat} {k x : Nat} (h : k < 196) : un (jn G Z) k x = jn (un G k x) Z := by
  funext i
  unfold un jn
  by_cases e : i = k
  · subst e
    simp [h]
  · rw [if_neg e]
    by_cases c : i < 196
    · simp [c, e]
    · simp [c]
theorem un_id {G : Nat → Nat} {k x : Nat} (h : G k = x) : un G k x = G := by
  funext i
  unfold un
  split
  · next e => rw [e, h]
  · rfl
theorem sRoom_hi {G G' : Nat → Nat} {b p i : Nat} (h : sRoom G b = some (p, G')) (hi : 12 ≤ i ∨ i < 4) : G' i = G i := by
  unfold sRoom at h
  split at h
  · split at h
    · cases h; rfl
    · cases h
  · split at h
    · next k hk =>
      cases h
      have := (fstN_some.mp hk).1
      exact un_n (by omega)
    · cases h
theorem sRoom_lt {G G' : Nat → Nat} {b p : Nat} (h : sRoom G b = some (p, G')) : p < 40 := by
  unfold sRoom at h
  split at h
  · next k hk =>
    have h1 := (fstN_some.mp hk).1
    split at h
    · next q hq =>
      have h2 := (fstN_some.mp hq).1
      cases h
      omega
    · cases h
  · split at h
    · next k hk =>
      have h1 := (fstN_some.mp hk).1
      cases h
      omega
    · cases h
/-- what is reached, step by step -/
def rch (G : Nat → Nat) (I F : Nat → Prop) : Nat → (Nat → Prop) × (Nat → Prop)
  | 0 => (fun t => F t ∧ I t, fun t => F t ∧ I t)
  | n + 1 => (fun t => (rch G I F n).1 t ∨ ((sTied G (rch G I F n).2 t ∧ I t) ∧ ¬ (rch G I F n).1 t), fun t => (sTied G (rch G I F n).2 t ∧ I t) ∧ ¬ (rch G I F n).1 t)
def sReach (G : Nat → Nat) (I F : Nat → Prop) : Nat → Prop := (rch G I F 30).1
theorem rch_cnt {G : Nat → Nat} {I F : Nat → Prop} (hc : G 0 ≤ 30) : ∀ n, (∃ t, t < 30 ∧ (rch G I F n).2 t) → n + 1 ≤ cnt (rch G I F n).1 30 := by
  have c0 : ∀ m, cnt (fun _ => False) m = 0 := by
    intro m
    induction m with
    | zero => rfl
    | succ m ih =>
      simp only [cnt, ih]
      rw [if_neg (fun q => cd_t.mp q)]
  intro n
  induction n with
  | zero =>
    rintro ⟨t, ht, h⟩
    have := cnt_lt (P := fun _ => False) (R := (rch G I F 0).1) 30 (fun _ _ q => q.elim) ⟨t, ht, h, fun q => q⟩
    rw [c0] at this
    exact this
  | succ n ih =>
    rintro ⟨t, ht, h⟩
    obtain ⟨⟨⟨u, k, hu, hk, hm, hz⟩, hi⟩, hs⟩ := h
    have h1 := ih ⟨u, by omega, hm⟩
    have h2 := cnt_lt (P := (rch G I F n).1) (R := (rch G I F (n + 1)).1) 30 (fun _ _ q => Or.inl q) ⟨t, ht, Or.inr ⟨⟨⟨u, k, hu, hk, hm, hz⟩, hi⟩, hs⟩, hs⟩
    omega
theorem rch_30 {G : Nat → Nat} {I F : Nat → Prop} (hc : G 0 ≤ 30) {t : Nat} (ht : t < 30) : ¬ (rch G I F 30).2 t := by
  intro h
  have h1 := rch_cnt hc 30 ⟨t, ht, h⟩
  have h2 := cnt_le (rch G I F 30).1 30
  omega
theorem rch_end {G : Nat → Nat} {I F : Nat → Prop} (hc : G 0 ≤ 30) {n : Nat} (h : ∀ t, t < 30 → ¬ (rch G I F n).2 t) : ∀ d, (∀ t, t < 30 → ¬ (rch G I F (n + d)).2 t) ∧ ∀ t, t < 30 → ((rch G I F (n + d)).1 t ↔ (rch G I F n).1 t) := by
  intro d
  induction d with
  | zero => exact ⟨h, fun _ _ => Iff.rfl⟩
  | succ d ih =>
    have e : ∀ t, t < 30 → ¬ (rch G I F (n + d + 1)).2 t := by
      rintro t ht ⟨⟨⟨u, k, hu, hk, hm, -⟩, -⟩, -⟩
      exact ih.1 u (by omega) hm
    refine ⟨e, fun t ht => ?_⟩
    rw [← ih.2 t ht]
    exact ⟨fun q => q.elim (fun z => z) (fun z => absurd z (e t ht)), fun q => Or.inl q⟩
theorem sReach_at {G : Nat → Nat} {I F : Nat → Prop} (hc : G 0 ≤ 30) {n : Nat} (hn : n ≤ 30) (h : ∀ t, t < 30 → ¬ (rch G I F n).2 t) : mk (rch G I F n).1 = mk (sReach G I F) := by
  obtain ⟨d, hd⟩ := Nat.le.dest hn
  have h1 := (rch_end hc h d).2
  rw [hd] at h1
  exact mk_congr (fun t ht => (h1 t ht).symm)
def sAll (G : Nat → Nat) : Nat → Prop := sYoung G 2
def sNeed (G : Nat → Nat) : Nat → Prop := sReach G (sAll G) (sRoots G)
def sSurv (G : Nat → Nat) (a : Nat) : Nat → Prop := sReach G (sYoung G a) (fun t => sRoots G t ∨ sTied G (fun t => sAll G t ∧ ¬ sYoung G a t) t)
theorem sReach_I {G : Nat → Nat} {I F : Nat → Prop} {t : Nat} (h : sReach G I F t) : I t := by
  have key : ∀ n, (rch G I F n).1 t → I t := by
    intro n
    induction n with
    | zero => exact fun q => q.2
    | succ n ih => exact fun q => q.elim ih (fun z => z.1.2)
  exact key 30 h
/-- gone things -/
noncomputable def sWipe (G : Nat → Nat) (P : Nat → Prop) : Nat → Nat := fun i => if cd (∃ t w, t < G 0 ∧ P t ∧ w < 5 ∧ i = ri t w) = true then 0 else G i
noncomputable def sLose (G : Nat → Nat) (P : Nat → Prop) : Nat → Nat := sFree (sWipe G P)
noncomputable def sWipeN (G : Nat → Nat) (P : Nat → Prop) (n m : Nat) : Nat → Nat := fun i => if cd (∃ t w, (t < n ∧ w < 5 ∨ t = n ∧ w < m) ∧ P t ∧ i = ri t w) = true then 0 else G i
theorem sWipeN_lo {G : Nat → Nat} {P : Nat → Prop} {n m i : Nat} (h : i < 16) : sWipeN G P n m i = G i := by
  unfold sWipeN
  rw [if_neg]
  intro q
  obtain ⟨t, w, -, -, e⟩ := cd_t.mp q
  unfold ri at e
  omega
theorem sWipeN_s {G : Nat → Nat} {P : Nat → Prop} {n m : Nat} (hm : m < 5) (hp : P n) : un (sWipeN G P n m) (ri n m) 0 = sWipeN G P n (m + 1) := by
  funext i
  unfold un sWipeN
  by_cases e : i = ri n m
  · subst e
    rw [if_pos rfl, if_pos (cd_t.mpr ⟨n, m, Or.inr ⟨rfl, by omega⟩, hp, rfl⟩)]
  · rw [if_neg e]
    congr 2
    rw [Bool.eq_iff_iff, cd_t, cd_t]
    constructor
    · rintro ⟨t, w, h1, h2, h3⟩
      exact ⟨t, w, by omega, h2, h3⟩
    · rintro ⟨t, w, h1, h2, h3⟩
      refine ⟨t, w, ?_, h2, h3⟩
      rcases h1 with h1 | ⟨h1, h4⟩
      · exact Or.inl h1
      · refine Or.inr ⟨h1, ?_⟩
        have : w ≠ m := fun q => e (by rw [h3, h1, q])
        omega
theorem sWipeN_5 {G : Nat → Nat} {P : Nat → Prop} {n : Nat} : sWipeN G P n 5 = sWipeN G P (n + 1) 0 := by
  funext i
  unfold sWipeN
  congr 2
  rw [Bool.eq_iff_iff, cd_t, cd_t]
  constructor
  · rintro ⟨t, w, h1, h2, h3⟩
    exact ⟨t, w, by omega, h2, h3⟩
  · rintro ⟨t, w, h1, h2, h3⟩
    exact ⟨t, w, by omega, h2, h3⟩
theorem sWipeN_no {G : Nat → Nat} {P : Nat → Prop} {n : Nat} (hp : ¬ P n) : sWipeN G P n 0 = sWipeN G P (n + 1) 0 := by
  funext i
  unfold sWipeN
  congr 2
  rw [Bool.eq_iff_iff, cd_t, cd_t]
  constructor
  · rintro ⟨t, w, h1, h2, h3⟩
    exact ⟨t, w, by omega, h2, h3⟩
  · rintro ⟨t, w, h1, h2, h3⟩
    refine ⟨t, w, ?_, h2, h3⟩
    have : t ≠ n := fun q => hp (q ▸ h2)
    omega
theorem sWipeN_0 {G : Nat → Nat} {P : Nat → Prop} : sWipeN G P 0 0 = G := by
  funext i
  unfold sWipeN
  rw [if_neg]
  intro q
  obtain ⟨t, w, h1, -⟩ := cd_t.mp q
  omega
theorem sWipeN_e {G : Nat → Nat} {P : Nat → Prop} : sWipeN G P (G 0) 0 = sWipe G P := by
  funext i
  unfold sWipeN sWipe
  congr 2
  rw [Bool.eq_iff_iff, cd_t, cd_t]
  constructor
  · rintro ⟨t, w, h1, h2, h3⟩
    exact ⟨t, w, by omega, h2, by omega, h3⟩
  · rintro ⟨t, w, h1, h2, h3, h4⟩
    exact ⟨t, w, Or.inl ⟨h1, h3⟩, h2, h4⟩
/-- winters -/
noncomputable def sBump (G : Nat → Nat) (S : Nat → Prop) (n : Nat) : Nat → Nat := fun i => if cd (∃ t, t < n ∧ S t ∧ i = 4 + sHome G t) = true then G i + 1 else G i
theorem sBump_0 {G : Nat → Nat} {S : Nat → Prop} : sBump G S 0 = G := by
  funext i
  unfold sBump
  rw [if_neg]
  intro q
  obtain ⟨t, h, -⟩ := cd_t.mp q
  omega
theorem sBump_s {G : Nat → Nat} {S : Nat → Prop} {n : Nat} (h : S n) : un (sBump G S n) (4 + sHome G n) (G (4 + sHome G n) + 1) = sBump G S (n + 1) := by
  funext i
  unfold un sBump
  by_cases e : i = 4 + sHome G n
  · subst e
    rw [if_pos rfl, if_pos (cd_t.mpr ⟨n, by omega, h, rfl⟩)]
  · rw [if_neg e]
    congr 2
    rw [Bool.eq_iff_iff, cd_t, cd_t]
    constructor
    · rintro ⟨t, h1, h2, h3⟩
      exact ⟨t, by omega, h2, h3⟩
    · rintro ⟨t, h1, h2, h3⟩
      refine ⟨t, ?_, h2, h3⟩
      have : t ≠ n := fun q => e (by rw [h3, q])
      omega
theorem sBump_no {G : Nat → Nat} {S : Nat → Prop} {n : Nat} (h : ¬ S n) : sBump G S n = sBump G S (n + 1) := by
  funext i
  unfold sBump
  congr 2
  rw [Bool.eq_iff_iff, cd_t, cd_t]
  constructor
  · rintro ⟨t, h1, h2, h3⟩
    exact ⟨t, by omega, h2, h3⟩
  · rintro ⟨t, h1, h2, h3⟩
    refine ⟨t, ?_, h2, h3⟩
    have : t ≠ n := fun q => h (q ▸ h2)
    omega
theorem sBump_o {G : Nat → Nat} {S : Nat → Prop} {n i : Nat} (hh : ∀ t, S t → sHome G t < 8) (h : i < 4 ∨ 12 ≤ i) : sBump G S n i = G i := by
  unfold sBump
  rw [if_neg]
  intro q
  obtain ⟨t, -, h2, h3⟩ := cd_t.mp q
  have := hh t h2
  omega
/-- a thing has moved to the place p -/
def sStep (H : Nat → Nat) (t p : Nat) : Nat → Nat := un (un (un H (ri t 0) (p + 1)) (ri t 5) (H (ri t 5) + 1)) 3 (H 3 + 1)
noncomputable def sMv (G : Nat → Nat) (S M : Nat → Prop) : Nat → Option (Nat → Nat)
  | 0 => some (sBump G S (G 0))
  | n + 1 => match sMv G S M n with
    | none => none
    | some H => if cd (M n) = true then (match sRoom H (sAge G n + 1) with
      | none => none
      | some (p, H1) => some (sStep H1 n p)) else some H
def sStay (G : Nat → Nat) (a t : Nat) : Prop := sSurv G a t ∧ sPin G t
def sMove (G : Nat → Nat) (a t : Nat) : Prop := sSurv G a t ∧ ¬ sStay G a t
def sGone (G : Nat → Nat) (a t : Nat) : Prop := sYoung G a t ∧ ¬ sSurv G a t
noncomputable def sWin (G : Nat → Nat) (a : Nat) : Option (Nat → Nat) := match sMv G (sStay G a) (sMove G a) (G 0) with
  | none => none
  | some H => some (un (sLose H (sGone G a)) 1 (sLose H (sGone G a) 1 + 1))
theorem sFree_o {G : Nat → Nat} {i : Nat} (h : i < 4 ∨ 12 ≤ i) : sFree G i = G i := sFreeN_o (n := 8) (by omega)
theorem sWipe_o {G : Nat → Nat} {P : Nat → Prop} {i : Nat} (h : i < 16 ∨ 196 ≤ i) (hc : G 0 ≤ 30) : sWipe G P i = G i := by
  unfold sWipe
  rw [if_neg]
  intro q
  obtain ⟨t, w, h1, -, h2, e⟩ := cd_t.mp q
  unfold ri at e
  omega
theorem sLose_o {G : Nat → Nat} {P : Nat → Prop} {i : Nat} (h : i < 4 ∨ (12 ≤ i ∧ i < 16) ∨ 196 ≤ i) (hc : G 0 ≤ 30) : sLose G P i = G i := by
  unfold sLose
  rw [sFree_o (by omega), sWipe_o (by omega) hc]
/-- in the course of a winter -/
def sMid (G H : Nat → Nat) (n : Nat) : Prop := H 0 = G 0 ∧ (∀ t, t < 30 → H (ri t 0) ≤ 40) ∧ (∀ h, h < 8 → H (4 + h) ≤ 3) ∧ (∀ u, n ≤ u → u < 30 → H (ri u 0) = G (ri u 0)) ∧ ∀ i, 196 ≤ i → H i = G i
theorem sRoom_a {G G' : Nat → Nat} {b p : Nat} (h : sRoom G b = some (p, G')) (hb : b ≤ 3) (ha : ∀ h, h < 8 → G (4 + h) ≤ 3) : ∀ h, h < 8 → G' (4 + h) ≤ 3 := by
  unfold sRoom at h
  split at h
  · split at h
    · cases h; exact ha
    · cases h
  · split at h
    · next k hk =>
      cases h
      intro j hj
      unfold un
      split
      · exact hb
      · exact ha j hj
    · cases h
theorem sSurv_y {G : Nat → Nat} {a t : Nat} (h : sSurv G a t) : sYoung G a t := sReach_I h
theorem sMid_0 {G : Nat → Nat} {a : Nat} (hI : sInv G) (ha : a < 2) {n : Nat} : sMid G (sBump G (sStay G a) n) 0 := by
  have hh : ∀ t, sStay G a t → sHome G t < 8 := fun t h => hI.ho (hI.lt (sSurv_y h.1).1)
  refine ⟨sBump_o hh (by omega), fun t ht => ?_, fun h hh2 => ?_, fun u _ hu => ?_, fun i hi => sBump_o hh (by omega)⟩
  · rw [sBump_o hh (by unfold ri; omega)]
    exact hI.l ht
  · unfold sBump
    split
    · next q =>
      obtain ⟨t, h1, h2, h3⟩ := cd_t.mp q
      have h4 := (sSurv_y h2.1).2
      unfold sAge at h4
      rw [h3]
      omega
    · exact hI.a hh2
  · exact sBump_o hh (by unfold ri; omega)
theorem sMid_s {G H H1 : Nat → Nat} {n p : Nat} (hn : n < 30) (h : sMid G H n) (hr : sRoom H (sAge G n + 1) = some (p, H1)) (hb : sAge G n + 1 ≤ 3) : sMid G (sStep H1 n p) (n + 1) := by
  obtain ⟨h1, h2, h3, h4, h5⟩ := h
  have hp := sRoom_lt hr
  have hi : ∀ i, 12 ≤ i ∨ i < 4 → H1 i = H i := fun i hi => sRoom_hi hr hi
  have e : ∀ i, i ≠ ri n 0 → i ≠ ri n 5 → i ≠ 3 → sStep H1 n p i = H1 i := fun i e1 e2 e3 => by
    unfold sStep
    rw [un_n e3, un_n e2, un_n e1]
  refine ⟨?_, fun t ht => ?_, fun k hk => ?_, fun u hu hu2 => ?_, fun i hi2 => ?_⟩
  · rw [e 0 (by unfold ri; omega) (by unfold ri; omega) (by omega), hi 0 (by omega), h1]
  · by_cases c : t = n
    · subst c
      unfold sStep
      rw [un_n (by unfold ri; omega), un_n (by unfold ri; omega), un_s]
      omega
    · rw [e _ (by unfold ri; omega) (by unfold ri; omega) (by unfold ri; omega), hi _ (by unfold ri; omega)]
      exact h2 t ht
  · rw [e _ (by unfold ri; omega) (by unfold ri; omega) (by omega)]
    exact sRoom_a hr hb h3 k hk
  · rw [e _ (by unfold ri; omega) (by unfold ri; omega) (by unfold ri; omega), hi _ (by unfold ri; omega)]
    exact h4 u (by omega) hu2
  · rw [e _ (by unfold ri; omega) (by unfold ri; omega) (by omega), hi _ (by omega)]
    exact h5 i hi2
theorem sMid.no {G H : Nat → Nat} {n : Nat} (h : sMid G H n) : sMid G H (n + 1) := ⟨h.1, h.2.1, h.2.2.1, fun u hu hu2 => h.2.2.2.1 u (by omega) hu2, h.2.2.2.2⟩
theorem sMv_s1 {G H H1 : Nat → Nat} {S M : Nat → Prop} {n p : Nat} (h : sMv G S M n = some H) (hm : M n) (hr : sRoom H (sAge G n + 1) = some (p, H1)) : sMv G S M (n + 1) = some (sStep H1 n p) := by
  unfold sMv
  rw [h]
  dsimp only
  rw [if_pos (cd_t.mpr hm), hr]
theorem sMv_sn {G H : Nat → Nat} {S M : Nat → Prop} {n : Nat} (h : sMv G S M n = some H) (hm : M n) (hr : sRoom H (sAge G n + 1) = none) : sMv G S M (n + 1) = none := by
  unfold sMv
  rw [h]
  dsimp only
  rw [if_pos (cd_t.mpr hm), hr]
theorem sMv_s0 {G H : Nat → Nat} {S M : Nat → Prop} {n : Nat} (h : sMv G S M n = some H) (hm : ¬ M n) : sMv G S M (n + 1) = some H := by
  unfold sMv
  rw [h]
  dsimp only
  rw [if_neg (fun q => hm (cd_t.mp q))]
theorem sMv_none {G : Nat → Nat} {S M : Nat → Prop} {n : Nat} (h : sMv G S M n = none) : ∀ d, sMv G S M (n + d) = none := by
  intro d
  induction d with
  | zero => exact h
  | succ d ih =>
    show sMv G S M (n + d + 1) = none
    unfold sMv
    rw [ih]
theorem sWin_1 {G H : Nat → Nat} {a : Nat} (h : sMv G (sStay G a) (sMove G a) (G 0) = some H) : sWin G a = some (un (sLose H (sGone G a)) 1 (sLose H (sGone G a) 1 + 1)) := by
  unfold sWin
  rw [h]
theorem sWin_0 {G : Nat → Nat} {a n : Nat} (hn : n ≤ G 0) (h : sMv G (sStay G a) (sMove G a) n = none) : sWin G a = none := by
  obtain ⟨d, hd⟩ := Nat.le.dest hn
  have := sMv_none h d
  rw [hd] at this
  unfold sWin
  rw [this]
/-- a new thing -/
def sNew (G G1 : Nat → Nat) (p : Nat) : Nat → Nat := un (un G1 (ri (G 0) 0) (p + 1)) 0 (G 0 + 1)
def agC (G ag : Nat → Nat) (n : Nat) : Nat → Nat := fun i => if i < n then G (4 + i) else ag i
theorem agC_s {G ag : Nat → Nat} {n : Nat} : un (agC G ag n) n (G (4 + n)) = agC G ag (n + 1) := by
  funext i
  unfold un agC
  by_cases e : i = n
  · subst e
    rw [if_pos rfl, if_pos (by omega)]
  · rw [if_neg e]
    by_cases c : i < n
    · rw [if_pos c, if_pos (by omega)]
    · rw [if_neg c, if_neg (by omega)]
