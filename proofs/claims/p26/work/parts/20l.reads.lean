/-! what the reading calls answer -/
def sHset (G : Nat → Nat) (t k : Nat) : Prop := k < 4 ∧ G (12 + k) = t + 1
def sTfrom (G : Nat → Nat) (t u : Nat) : Prop := u < G 0 ∧ ∃ k, k < 3 ∧ G (ri u (2 + k)) = t + 1
noncomputable def qThing (G : Nat → Nat) (t w : Nat) : Int32 := match w with
  | 0 => if cd (sLive G t) = true then nI 1 else nI 0
  | 1 => if cd (sLive G t) = true then nI (10 * sHome G t + (G (ri t 0) - 1) % 5) else xE4
  | 2 => if cd (sLive G t) = true then dI (sAge G t) else xE4
  | 3 => nI (G (ri t 1))
  | 4 => if G (ri t (2 + 0)) = 0 then xE4 else dI (G (ri t (2 + 0)))
  | 5 => if G (ri t (2 + 1)) = 0 then xE4 else dI (G (ri t (2 + 1)))
  | 6 => if G (ri t (2 + 2)) = 0 then xE4 else dI (G (ri t (2 + 2)))
  | 7 => mk (sHset G t)
  | 8 => mk (sTfrom G t)
  | _ => nI (G (ri t 5))
def sInH (G : Nat → Nat) (h t : Nat) : Prop := sLive G t ∧ sHome G t = h
noncomputable def qAt (G : Nat → Nat) (p : Nat) : Int32 := match fstN (fun t => G (ri t 0) = p + 1) (G 0) with
  | some t => nI t
  | none => xE4
noncomputable def qHouse (G : Nat → Nat) (h w : Nat) : Int32 := match w with
  | 0 => if G (4 + h) = 0 then xE4 else dI (G (4 + h))
  | 1 => nI (cnt (sInH G h) 30)
  | 2 => mk (sInH G h)
  | w + 3 => qAt G (5 * h + w)
noncomputable def qHand (G : Nat → Nat) (h : Nat) : Int32 := if G (12 + h) = 0 then xE4 else dI (G (12 + h))
def sNoted (G : Nat → Nat) (t k : Nat) : Prop := sLive G t ∧ 0 < G (ri t (2 + k)) ∧ sAge G (G (ri t (2 + k)) - 1) < sAge G t
def sNf (G : Nat → Nat) (j : Nat) : Prop := sNoted G (j / 3) (j % 3)
noncomputable def qNote (G : Nat → Nat) (i : Nat) : Int32 := match fstN (fun j => sNf G j ∧ cnt (sNf G) j = i) 90 with
  | some j => nI (10 * (j / 3) + j % 3)
  | none => xE4
noncomputable def qSurv (G : Nat → Nat) (a w : Nat) : Int32 := match w with
  | 0 => mk (sSurv G a)
  | 1 => mk (sGone G a)
  | 2 => nI (cnt (fun t => sSurv G a t ∧ ¬ sPin G t) 30)
  | _ => if cd (sWin G a = none) = true then nI 0 else nI 1
def sKept (G : Nat → Nat) (t u : Nat) : Prop := (sNeed G u ∧ (sAll G u ∧ ¬ u = t)) ∧ ¬ sReach G (fun u => sAll G u ∧ ¬ u = t) (sRoots G) u
def fS (G : Nat → Nat) : Nat → Nat → Prop
  | 0 => sRoots G
  | n + 1 => fun t => fS G n t ∨ sTied G (fS G n) t
noncomputable def qFar (G : Nat → Nat) (t : Nat) : Int32 := match fstN (fun n => fS G n t) 30 with
  | some n => nI n
  | none => xE4
def sAged (G : Nat → Nat) (b t : Nat) : Prop := sLive G t ∧ sAge G t = b
noncomputable def qCount (G : Nat → Nat) (st ln w : Nat) : Int32 := match w with
  | 0 => nI (G 0)
  | 1 => nI (cnt (sAll G) 30)
  | 2 => nI (cnt (sPin G) 30)
  | 3 => nI (cnt (sAged G 1) 30)
  | 4 => nI (cnt (sAged G 2) 30)
  | 5 => nI (cnt (sAged G 3) 30)
  | 6 => nI (cnt (fun h => G (4 + h) = 0) 8)
  | 7 => nI (cnt (sNf G) 90)
  | 8 => nI (G 1)
  | 9 => nI (G 2)
  | 10 => nI (G 0) - nI (cnt (sAll G) 30)
  | 11 => nI (G 3)
  | 12 => nI st
  | _ => nI ln
theorem qThing_t {G : Nat → Nat} {t s : Nat} (hs : s < 3) : qThing G t (4 + s) = if G (ri t (2 + s)) = 0 then xE4 else dI (G (ri t (2 + s))) := by
  have : s = 0 ∨ s = 1 ∨ s = 2 := by omega
  rcases this with rfl | rfl | rfl <;> rfl
theorem qAt_some {G : Nat → Nat} {p t : Nat} (ht : t < G 0) (h1 : G (ri t 0) = p + 1) (h2 : ∀ u, u < t → G (ri u 0) ≠ p + 1) : qAt G p = nI t := by
  unfold qAt
  rw [fstN_some.mpr ⟨ht, h1, h2⟩]
theorem qAt_none {G : Nat → Nat} {p : Nat} (h : sEmp G p) : qAt G p = xE4 := by
  unfold qAt
  rw [fstN_none.mpr (fun t ht => h t ht)]
theorem cnt_up {P : Nat → Prop} {n : Nat} (h : P n) : cnt P (n + 1) = cnt P n + 1 := by
  show cnt P n + (if cd (P n) = true then 1 else 0) = _
  rw [if_pos (cd_t.mpr h)]
theorem cnt_st {P : Nat → Prop} {n : Nat} (h : ¬ P n) : cnt P (n + 1) = cnt P n := by
  show cnt P n + (if cd (P n) = true then 1 else 0) = _
  rw [if_neg (fun q => h (cd_t.mp q))]
  rfl
theorem cnt_mono {P : Nat → Prop} {m : Nat} : ∀ d, cnt P m ≤ cnt P (m + d) := by
  intro d
  induction d with
  | zero => exact Nat.le_refl _
  | succ d ih =>
    refine Nat.le_trans ih ?_
    show cnt P (m + d) ≤ cnt P (m + d + 1)
    by_cases h : P (m + d)
    · rw [cnt_up h]; omega
    · rw [cnt_st h]; exact Nat.le_refl _
theorem qNote_some {G : Nat → Nat} {i j : Nat} (hj : j < 90) (h1 : sNf G j) (h2 : cnt (sNf G) j = i) : qNote G i = nI (10 * (j / 3) + j % 3) := by
  unfold qNote
  rw [fstN_some.mpr ⟨hj, ⟨h1, h2⟩, fun k hk q => ?_⟩]
  have h3 := cnt_mono (P := sNf G) (m := k + 1) (j - (k + 1))
  rw [show k + 1 + (j - (k + 1)) = j by omega, cnt_up q.1] at h3
  have := q.2
  omega
theorem qNote_none {G : Nat → Nat} {i : Nat} (h : cnt (sNf G) 90 ≤ i) : qNote G i = xE4 := by
  unfold qNote
  rw [fstN_none.mpr (fun k hk q => ?_)]
  have h3 := cnt_mono (P := sNf G) (m := k + 1) (90 - (k + 1))
  rw [show k + 1 + (90 - (k + 1)) = 90 by omega, cnt_up q.1] at h3
  have := q.2
  omega
theorem sNf_lo {G : Nat → Nat} {j : Nat} (h : 3 * G 0 ≤ j) : ¬ sNf G j := fun q => by
  have := q.1.1
  omega
theorem cnt_ext {P : Nat → Prop} {n : Nat} (h : ∀ j, n ≤ j → ¬ P j) : ∀ d, cnt P (n + d) = cnt P n := by
  intro d
  induction d with
  | zero => rfl
  | succ d ih =>
    show cnt P (n + d + 1) = _
    rw [cnt_st (h (n + d) (by omega)), ih]
theorem fS_up {G : Nat → Nat} {n : Nat} : ∀ d t, fS G n t → fS G (n + d) t := by
  intro d
  induction d with
  | zero => exact fun t h => h
  | succ d ih => exact fun t h => Or.inl (ih t h)
theorem fS_end {G : Nat → Nat} {n : Nat} (hc : G 0 ≤ 30) (h : ∀ t, t < 30 → sTied G (fS G n) t → fS G n t) : ∀ d t, t < 30 → fS G (n + d) t → fS G n t := by
  intro d
  induction d with
  | zero => exact fun t _ h => h
  | succ d ih =>
    rintro t ht (h1 | ⟨u, k, hu, hk, h1, h2⟩)
    · exact ih t ht h1
    · exact h t ht ⟨u, k, hu, hk, ih u (by omega) h1, h2⟩
theorem fS_cnt {G : Nat → Nat} (hc : G 0 ≤ 30) : ∀ n, (∀ m, m < n → ∃ t, t < 30 ∧ sTied G (fS G m) t ∧ ¬ fS G m t) → 0 < n → n + 1 ≤ cnt (fS G n) 30 := by
  have c0 : ∀ m, cnt (fun _ => False) m = 0 := by
    intro m
    induction m with
    | zero => rfl
    | succ m ih =>
      simp only [cnt, ih]
      rw [if_neg (fun q => cd_t.mp q)]
  intro n
  induction n with
  | zero => intro _ h; omega
  | succ n ih =>
    intro h _
    obtain ⟨t, ht, h1, h2⟩ := h n (by omega)
    have h3 := cnt_lt (P := fS G n) (R := fS G (n + 1)) 30 (fun _ _ q => Or.inl q) ⟨t, ht, Or.inr h1, h2⟩
    by_cases hn : n = 0
    · subst hn
      obtain ⟨u, k, hu, hk, h4, -⟩ := h1
      have h5 := cnt_lt (P := fun _ => False) (R := fS G 0) 30 (fun _ _ q => q.elim) ⟨u, by omega, h4, fun q => q⟩
      rw [c0] at h5
      omega
    · have h4 := ih (fun m hm => h m (by omega)) (by omega)
      omega
theorem qFar_some {G : Nat → Nat} {t n : Nat} (hn : n < 30) (h1 : fS G n t) (h2 : ∀ m, m < n → ¬ fS G m t) : qFar G t = nI n := by
  unfold qFar
  rw [fstN_some.mpr ⟨hn, h1, h2⟩]
theorem qFar_none {G : Nat → Nat} {t : Nat} (h : ∀ m, m < 30 → ¬ fS G m t) : qFar G t = xE4 := by
  unfold qFar
  rw [fstN_none.mpr h]
