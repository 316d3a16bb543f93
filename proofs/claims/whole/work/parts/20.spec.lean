/-! the mathematical state: a row of numbers, laid out as the reference lays it out -/
def ri (t w : Nat) : Nat := 16 + 6 * t + w
def un (G : Nat → Nat) (k x : Nat) : Nat → Nat := fun i => if i = k then x else G i
theorem un_s (G : Nat → Nat) (k x : Nat) : un G k x k = x := if_pos rfl
theorem un_n {G : Nat → Nat} {k x i : Nat} (h : i ≠ k) : un G k x i = G i := if_neg h
def sLive (G : Nat → Nat) (t : Nat) : Prop := t < G 0 ∧ 0 < G (ri t 0)
def sHome (G : Nat → Nat) (t : Nat) : Nat := (G (ri t 0) - 1) / 5
def sAge (G : Nat → Nat) (t : Nat) : Nat := G (4 + sHome G t)
/-- things of an age up to a -/
def sYoung (G : Nat → Nat) (a t : Nat) : Prop := sLive G t ∧ sAge G t ≤ a + 1
def sPin (G : Nat → Nat) (t : Nat) : Prop := sLive G t ∧ G (ri t 1) = 1
def sHeld (G : Nat → Nat) (t : Nat) : Prop := ∃ k, k < 4 ∧ G (12 + k) = t + 1
def sRoots (G : Nat → Nat) (t : Nat) : Prop := sHeld G t ∨ sPin G t
def sTied (G : Nat → Nat) (P : Nat → Prop) (j : Nat) : Prop := ∃ t k, t < G 0 ∧ k < 3 ∧ P t ∧ G (ri t (2 + k)) = j + 1
/-- the place p is empty -/
def sEmp (G : Nat → Nat) (p : Nat) : Prop := ∀ t, t < G 0 → G (ri t 0) ≠ p + 1
/-- room of an age (b: the age and 1): a place, and the row then -/
noncomputable def sRoom (G : Nat → Nat) (b : Nat) : Option (Nat × (Nat → Nat)) :=
  match fstN (fun h => G (4 + h) = b ∧ ∃ q, q < 5 ∧ sEmp G (5 * h + q)) 8 with
  | some h => (match fstN (fun q => sEmp G (5 * h + q)) 5 with
    | some q => some (5 * h + q, G)
    | none => none)
  | none => (match fstN (fun h => G (4 + h) = 0) 8 with
    | some h => some (5 * h, un G (4 + h) b)
    | none => none)
noncomputable def sFree (G : Nat → Nat) : Nat → Nat := fun i => if cd (4 ≤ i ∧ i < 12 ∧ ∀ q, q < 5 → sEmp G (5 * (i - 4) + q)) = true then 0 else G i
/-- what always holds of a row -/
def sInv (G : Nat → Nat) : Prop :=
  G 0 ≤ 30 ∧ (∀ t w, t < 30 → w < 6 → G 0 ≤ t → G (ri t w) = 0) ∧ (∀ t, t < 30 → G (ri t 0) ≤ 40) ∧ (∀ h, h < 8 → G (4 + h) ≤ 3) ∧
  (∀ k, k < 4 → G (12 + k) ≤ 30 ∧ (0 < G (12 + k) → sLive G (G (12 + k) - 1))) ∧
  (∀ t k, t < 30 → k < 3 → G (ri t (2 + k)) ≤ 30 ∧ (0 < G (ri t (2 + k)) → sLive G t ∧ sLive G (G (ri t (2 + k)) - 1))) ∧
  (∀ t u, sLive G t → sLive G u → G (ri t 0) = G (ri u 0) → t = u) ∧
  (∀ t, sLive G t → 0 < sAge G t) ∧
  (∀ t, t < 30 → G (ri t 1) ≤ 1 ∧ (0 < G (ri t 1) → sLive G t))
theorem sInv.c {G : Nat → Nat} (h : sInv G) : G 0 ≤ 30 := h.1
theorem sInv.z {G : Nat → Nat} (h : sInv G) {t w : Nat} (ht : t < 30) (hw : w < 6) (hc : G 0 ≤ t) : G (ri t w) = 0 := h.2.1 t w ht hw hc
theorem sInv.l {G : Nat → Nat} (h : sInv G) {t : Nat} (ht : t < 30) : G (ri t 0) ≤ 40 := h.2.2.1 t ht
theorem sInv.a {G : Nat → Nat} (h : sInv G) {k : Nat} (hk : k < 8) : G (4 + k) ≤ 3 := h.2.2.2.1 k hk
theorem sInv.h {G : Nat → Nat} (h : sInv G) {k : Nat} (hk : k < 4) : G (12 + k) ≤ 30 ∧ (0 < G (12 + k) → sLive G (G (12 + k) - 1)) := h.2.2.2.2.1 k hk
theorem sInv.t {G : Nat → Nat} (h : sInv G) {t k : Nat} (ht : t < 30) (hk : k < 3) : G (ri t (2 + k)) ≤ 30 ∧ (0 < G (ri t (2 + k)) → sLive G t ∧ sLive G (G (ri t (2 + k)) - 1)) := h.2.2.2.2.2.1 t k ht hk
theorem sInv.d {G : Nat → Nat} (h : sInv G) {t u : Nat} (ht : sLive G t) (hu : sLive G u) (e : G (ri t 0) = G (ri u 0)) : t = u := h.2.2.2.2.2.2.1 t u ht hu e
theorem sInv.g {G : Nat → Nat} (h : sInv G) {t : Nat} (ht : sLive G t) : 0 < sAge G t := h.2.2.2.2.2.2.2.1 t ht
theorem sInv.p {G : Nat → Nat} (h : sInv G) {t : Nat} (ht : t < 30) : G (ri t 1) ≤ 1 ∧ (0 < G (ri t 1) → sLive G t) := h.2.2.2.2.2.2.2.2 t ht
theorem sInv.lt {G : Nat → Nat} (h : sInv G) {t : Nat} (ht : sLive G t) : t < 30 := Nat.lt_of_lt_of_le ht.1 h.1
theorem sInv.ho {G : Nat → Nat} (h : sInv G) {t : Nat} (ht : t < 30) : sHome G t < 8 := by
  have := h.l ht
  unfold sHome
  omega
theorem sInv.ag {G : Nat → Nat} (h : sInv G) {t : Nat} (ht : t < 30) : sAge G t ≤ 3 := h.a (h.ho ht)
theorem sInv.yl {G : Nat → Nat} (h : sInv G) {a t : Nat} (ht : sYoung G a t) : t < G 0 := ht.1.1
/-- an argument that is a number below n, or isn't -/
theorem x_of {x : Int32} {n : Nat} (h0 : 0 ≤ x.toInt) (h1 : x.toInt < (n : Int)) (hn : n ≤ 2147483647) : ∃ k, k < n ∧ x = nI k := by
  refine ⟨x.toInt.toNat, by omega, ?_⟩
  apply Int32.toInt_inj.mp
  rw [tI_n (by omega)]
  omega
