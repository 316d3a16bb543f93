/-! how far things are, and who keeps what -/
theorem sRoots_A {G : Nat → Nat} (hI : sInv G) {t : Nat} (h : sRoots G t) : sAll G t := by
  rcases h with ⟨k, hk, h⟩ | h
  · have := (hI.h hk).2 (by omega)
    rw [h] at this
    exact (sAll_l hI).mpr this
  · exact (sAll_l hI).mpr h.1
theorem sTied_A {G : Nat → Nat} (hI : sInv G) {P : Nat → Prop} {t : Nat} (h : sTied G P t) : sAll G t := by
  obtain ⟨u, k, hu, hk, -, h⟩ := h
  have := ((hI.t (t := u) (by have := hI.c; omega) hk).2 (by omega)).2
  rw [h] at this
  exact (sAll_l hI).mpr this
theorem sTied_m {G : Nat → Nat} {P R : Nat → Prop} (h : ∀ t, P t → R t) {t : Nat} (ht : sTied G P t) : sTied G R t := by
  obtain ⟨u, k, hu, hk, h1, h2⟩ := ht
  exact ⟨u, k, hu, hk, h u h1, h2⟩
theorem fS_A {G : Nat → Nat} (hI : sInv G) : ∀ n t, fS G n t → sAll G t := by
  intro n
  induction n with
  | zero => exact fun t h => sRoots_A hI h
  | succ n ih => exact fun t h => h.elim (ih t) (fun q => sTied_A hI q)
theorem rch_fS {G : Nat → Nat} (hI : sInv G) : ∀ n, (∀ t, (rch G (sAll G) (sRoots G) n).1 t ↔ fS G n t) ∧ ∀ t, (rch G (sAll G) (sRoots G) n).2 t ↔ fS G n t ∧ ∀ m, m < n → ¬ fS G m t := by
  intro n
  induction n with
  | zero =>
    refine ⟨fun t => ⟨fun h => h.1, fun h => ⟨h, sRoots_A hI h⟩⟩, fun t => ⟨fun h => ⟨h.1, fun m hm => by omega⟩, fun h => ⟨h.1, sRoots_A hI h.1⟩⟩⟩
  | succ n ih =>
    obtain ⟨h1, h2⟩ := ih
    have key : ∀ t, (rch G (sAll G) (sRoots G) (n + 1)).2 t ↔ fS G (n + 1) t ∧ ¬ fS G n t := by
      intro t
      constructor
      · rintro ⟨⟨ht, -⟩, hn⟩
        exact ⟨Or.inr (sTied_m (fun u hu => ((h2 u).mp hu).1) ht), fun q => hn ((h1 t).mpr q)⟩
      · rintro ⟨ht | ht, hn⟩
        · exact absurd ht hn
        · refine ⟨⟨?_, sTied_A hI ht⟩, fun q => hn ((h1 t).mp q)⟩
          obtain ⟨u, k, hu, hk, hf, e⟩ := ht
          refine ⟨u, k, hu, hk, (h2 u).mpr ⟨hf, fun m hm q => hn ?_⟩, e⟩
          have h3 : fS G (m + 1) t := Or.inr ⟨u, k, hu, hk, q, e⟩
          have h4 := fS_up (n - (m + 1)) t h3
          rwa [show m + 1 + (n - (m + 1)) = n by omega] at h4
    refine ⟨fun t => ⟨?_, ?_⟩, fun t => (key t).trans ⟨fun h => ⟨h.1, fun m hm q => h.2 ?_⟩, fun h => ⟨h.1, h.2 n (by omega)⟩⟩⟩
    · rintro (h | h)
      · exact Or.inl ((h1 t).mp h)
      · exact ((key t).mp h).1
    · intro h
      by_cases c : fS G n t
      · exact Or.inl ((h1 t).mpr c)
      · exact Or.inr ((key t).mpr ⟨h, c⟩)
    · have h4 := fS_up (n - m) t q
      rwa [show m + (n - m) = n by omega] at h4
theorem fS_30 {G : Nat → Nat} (hI : sInv G) {t : Nat} (ht : t < 30) (h : fS G 30 t) : ∃ n, n < 30 ∧ fS G n t := by
  refine Classical.byContradiction fun q => ?_
  have hn : ¬ fS G 29 t := fun z => q ⟨29, by omega, z⟩
  have e : ∀ m, m < 30 → ∃ t, t < 30 ∧ sTied G (fS G m) t ∧ ¬ fS G m t := by
    intro m hm
    refine Classical.byContradiction fun z => hn ?_
    have hs : ∀ t, t < 30 → sTied G (fS G m) t → fS G m t := fun u hu h1 => Classical.byContradiction fun h2 => z ⟨u, hu, h1, h2⟩
    have h3 := fS_end hI.c hs (30 - m) t ht (by rwa [show m + (30 - m) = 30 by omega])
    have h4 := fS_up (29 - m) t h3
    rwa [show m + (29 - m) = 29 by omega] at h4
  have h5 := fS_cnt hI.c 30 e (by omega)
  have := cnt_le (fS G 30) 30
  omega
/-- the distance -/
noncomputable def sD (G : Nat → Nat) (t : Nat) : Nat := match fstN (fun n => fS G n t) 30 with
  | some n => n
  | none => 99
theorem sNeed_f {G : Nat → Nat} (hI : sInv G) {t : Nat} : sNeed G t ↔ fS G 30 t := (rch_fS hI 30).1 t
theorem sD_need {G : Nat → Nat} (hI : sInv G) {t : Nat} (h : sNeed G t) : sD G t < 30 ∧ fS G (sD G t) t ∧ (∀ m, m < sD G t → ¬ fS G m t) ∧ qFar G t = nI (sD G t) := by
  have hl := (sReach_I h).1
  obtain ⟨n, h1, h2⟩ := fS_30 hI (hI.lt hl) ((sNeed_f hI).mp h)
  cases hf : fstN (fun n => fS G n t) 30 with
  | none => exact absurd h2 (fstN_none.mp hf n h1)
  | some k =>
    have hk := fstN_some.mp hf
    have e : sD G t = k := by unfold sD; rw [hf]
    rw [e]
    exact ⟨hk.1, hk.2.1, hk.2.2, qFar_some hk.1 hk.2.1 hk.2.2⟩
theorem sD_not {G : Nat → Nat} (hI : sInv G) {t : Nat} (h : ¬ sNeed G t) : qFar G t = xE4 := by
  refine qFar_none (fun m hm q => h ((sNeed_f hI).mpr ?_))
  have := fS_up (30 - m) t q
  rwa [show m + (30 - m) = 30 by omega] at this
theorem sD_le {G : Nat → Nat} (hI : sInv G) {t n : Nat} (h : fS G n t) : sD G t ≤ n := by
  by_cases c : n < 30
  · have hn : sNeed G t := (sNeed_f hI).mpr (by have := fS_up (30 - n) t h; rwa [show n + (30 - n) = 30 by omega] at this)
    obtain ⟨-, -, h3, -⟩ := sD_need hI hn
    exact Nat.not_lt.mp fun q => h3 n q h
  · have hl := (sAll_l hI).mp (fS_A hI n t h)
    have h30 : fS G 30 t := by
      obtain ⟨d, rfl⟩ := Nat.le.dest (Nat.not_lt.mp c)
      have hs : ∀ u, u < 30 → sTied G (fS G 30) u → fS G 30 u := by
        intro u hu h1
        refine Classical.byContradiction fun h2 => ?_
        have e : ∀ m, m < 31 → ∃ t, t < 30 ∧ sTied G (fS G m) t ∧ ¬ fS G m t := by
          intro m hm
          refine Classical.byContradiction fun z => h2 ?_
          have hs : ∀ t, t < 30 → sTied G (fS G m) t → fS G m t := fun u hu h1 => Classical.byContradiction fun h2 => z ⟨u, hu, h1, h2⟩
          have h3 := fS_end hI.c hs (31 - m) u hu (by rw [show m + (31 - m) = 31 by omega]; exact Or.inr h1)
          have h4 := fS_up (30 - m) u h3
          rwa [show m + (30 - m) = 30 by omega] at h4
        have h5 := fS_cnt hI.c 31 e (by omega)
        have := cnt_le (fS G 31) 30
        omega
      exact fS_end hI.c hs d t (hI.lt hl) h
    have := (sD_need hI ((sNeed_f hI).mpr h30)).1
    omega
theorem sD_0 {G : Nat → Nat} (hI : sInv G) {t : Nat} (h : sNeed G t) : sRoots G t ↔ sD G t = 0 := by
  obtain ⟨h1, h2, h3, -⟩ := sD_need hI h
  constructor
  · exact fun q => Nat.le_zero.mp (sD_le hI (n := 0) q)
  · intro e
    rw [e] at h2
    exact h2
/-- what is tied to it -/
def sTo (G : Nat → Nat) (t k : Nat) : Prop := sTfrom G t k ∧ sNeed G k
theorem sD_tied {G : Nat → Nat} (hI : sInv G) {t k : Nat} (h : sTo G t k) : sNeed G t ∧ sD G t ≤ sD G k + 1 := by
  obtain ⟨⟨hk, s, hs, e⟩, hn⟩ := h
  obtain ⟨h1, h2, h3, -⟩ := sD_need hI hn
  have h4 : fS G (sD G k + 1) t := Or.inr ⟨k, s, hk, hs, h2, e⟩
  refine ⟨(sNeed_f hI).mpr ?_, sD_le hI h4⟩
  have := fS_up (30 - (sD G k + 1)) t h4
  rwa [show sD G k + 1 + (30 - (sD G k + 1)) = 30 by omega] at this
theorem sD_from {G : Nat → Nat} (hI : sInv G) {t : Nat} (h : sNeed G t) (h0 : 0 < sD G t) : ∃ k, k < G 0 ∧ sTo G t k ∧ sD G k + 1 = sD G t := by
  obtain ⟨h1, h2, h3, -⟩ := sD_need hI h
  obtain ⟨n, hn⟩ : ∃ n, sD G t = n + 1 := ⟨sD G t - 1, by omega⟩
  rw [hn] at h2
  rcases h2 with h2 | ⟨k, s, hk, hs, hf, e⟩
  · exact absurd h2 (h3 n (by omega))
  · have hnk : sNeed G k := (sNeed_f hI).mpr (by have := fS_up (30 - n) k hf; rwa [show n + (30 - n) = 30 by omega] at this)
    have hto : sTo G t k := ⟨⟨hk, s, hs, e⟩, hnk⟩
    refine ⟨k, hk, hto, ?_⟩
    have a := sD_le hI hf
    have b := (sD_tied hI hto).2
    omega
/-- the least distance of those below n that are tied to it, and 1 -/
noncomputable def sLst (G : Nat → Nat) (t : Nat) : Nat → Nat
  | 0 => 100
  | n + 1 => if cd (sTo G t n ∧ sD G n + 1 < sLst G t n) = true then sD G n + 1 else sLst G t n
theorem sLst_le {G : Nat → Nat} {t : Nat} : ∀ n, sLst G t n ≤ 100 ∧ ∀ k, k < n → sTo G t k → sLst G t n ≤ sD G k + 1 := by
  intro n
  induction n with
  | zero => exact ⟨Nat.le_refl _, fun k hk => by omega⟩
  | succ n ih =>
    unfold sLst
    split
    · next h =>
      have h := cd_t.mp h
      refine ⟨by omega, fun k hk ht => ?_⟩
      by_cases e : k = n
      · rw [e]; exact Nat.le_refl _
      · have := ih.2 k (by omega) ht
        omega
    · next h =>
      refine ⟨ih.1, fun k hk ht => ?_⟩
      by_cases e : k = n
      · subst e
        exact Nat.not_lt.mp fun q => h (cd_t.mpr ⟨ht, q⟩)
      · exact ih.2 k (by omega) ht
theorem sLst_in {G : Nat → Nat} {t : Nat} : ∀ n, sLst G t n = 100 ∨ ∃ k, k < n ∧ sTo G t k ∧ sLst G t n = sD G k + 1 := by
  intro n
  induction n with
  | zero => exact Or.inl rfl
  | succ n ih =>
    unfold sLst
    split
    · next h => exact Or.inr ⟨n, by omega, (cd_t.mp h).1, rfl⟩
    · rcases ih with h | ⟨k, h1, h2, h3⟩
      · exact Or.inl h
      · exact Or.inr ⟨k, by omega, h2, h3⟩
theorem sLst_D {G : Nat → Nat} (hI : sInv G) {t : Nat} (h : sNeed G t) (h0 : 0 < sD G t) : sLst G t (G 0) = sD G t := by
  obtain ⟨k, hk, hto, e⟩ := sD_from hI h h0
  have a := (sLst_le (t := t) (G 0)).2 k hk hto
  have b := (sD_need hI h).1
  rcases sLst_in (t := t) (G := G) (G 0) with h1 | ⟨j, hj, h2, h3⟩
  · omega
  · have := (sD_tied hI h2).2
    omega
/-- reached, but not by way of k -/
def sOff (G : Nat → Nat) (k : Nat) : Nat → Prop := sReach G (fun u => sAll G u ∧ ¬ u = k) (sRoots G)
theorem sOff_R {G : Nat → Nat} {I : Nat → Prop} (hI : sInv G) (k : Nat) (hIA : ∀ u, I u → sAll G u) : ∀ n v, (rch G I (sRoots G) n).1 v → sOff G k v ∨ sReach G I (sRoots G) k := by
  have up : ∀ n v, n ≤ 30 → (rch G I (sRoots G) n).1 v → sReach G I (sRoots G) v := by
    intro n v hn h
    have := rch_up (30 - n) v h
    rwa [show n + (30 - n) = 30 by omega] at this
  intro n
  induction n with
  | zero =>
    rintro v ⟨h1, h2⟩
    by_cases e : v = k
    · subst e
      exact Or.inr (sReach_F h1 h2)
    · exact Or.inl (sReach_F h1 ⟨hIA v h2, e⟩)
  | succ n ih =>
    rintro v (h | ⟨⟨⟨u, s, hu, hs, h1, h2⟩, hi⟩, hn⟩)
    · exact ih v h
    · have h3 : (rch G I (sRoots G) n).1 u := by
        cases n with
        | zero => exact h1
        | succ n => exact Or.inr h1
      rcases ih u h3 with h4 | h4
      · by_cases e : v = k
        · subst e
          refine Or.inr ?_
          have hr : sReach G I (sRoots G) u := by
            by_cases c : n ≤ 30
            · exact up n u c h3
            · have h5 := (rch_end (G := G) (I := I) (F := sRoots G) hI.c (n := 30) (fun t ht => rch_30 hI.c ht) (n - 30)).2 u (by have := hI.c; omega)
              rw [show 30 + (n - 30) = n by omega] at h5
              exact h5.mp h3
          exact sReach_T hI.c hu hs hr h2 hi
        · exact Or.inl (sReach_T hI.c hu hs h4 h2 ⟨hIA v hi, e⟩)
      · exact Or.inr h4
/-- what isn't needed keeps nothing -/
theorem sKept_0 {G : Nat → Nat} (hI : sInv G) {t u : Nat} (h : ¬ sNeed G t) : ¬ sKept G t u := by
  rintro ⟨⟨h1, -⟩, h2⟩
  rcases sOff_R hI t (fun u q => q) 30 u h1 with q | q
  · exact h2 q
  · exact h q
theorem sOff_D {G : Nat → Nat} (hI : sInv G) {z : Nat} : ∀ n v, fS G n v → v ≠ z → (∀ m, m < n → ¬ fS G m z) → sOff G z v := by
  intro n
  induction n with
  | zero => exact fun v h e _ => sReach_F h ⟨sRoots_A hI h, e⟩
  | succ n ih =>
    rintro v (h | ⟨u, s, hu, hs, h1, h2⟩) e hz
    · exact ih v h e (fun m hm => hz m (by omega))
    · have hne : u ≠ z := fun q => hz n (by omega) (q ▸ h1)
      exact sReach_T hI.c hu hs (ih u h1 hne (fun m hm => hz m (by omega))) h2 ⟨sTied_A hI (P := fun _ => True) ⟨u, s, hu, hs, trivial, h2⟩, e⟩
theorem sKept_ne {G : Nat → Nat} {t u : Nat} (h : sKept G t u) : u ≠ t := h.1.2.2
theorem sKept_far {G : Nat → Nat} (hI : sInv G) {t u : Nat} (h : sKept G t u) : 0 < sD G u := by
  refine Nat.pos_of_ne_zero fun q => h.2 ?_
  have h1 := (sD_0 hI h.1.1).mpr q
  exact sReach_F h1 ⟨sRoots_A hI h1, h.1.2.2⟩
theorem sKept_t {G : Nat → Nat} (hI : sInv G) {t k u : Nat} (h : sKept G t k) (h2 : sKept G k u) : sKept G t u := by
  refine ⟨⟨h2.1.1, h2.1.2.1, ?_⟩, fun q => ?_⟩
  · rintro rfl
    obtain ⟨-, a2, a3, -⟩ := sD_need hI h.1.1
    obtain ⟨-, b2, b3, -⟩ := sD_need hI h2.1.1
    by_cases c : sD G k ≤ sD G u
    · exact h.2 (sOff_D hI _ k a2 h.1.2.2 (fun m hm => b3 m (by omega)))
    · exact h2.2 (sOff_D hI _ u b2 h2.1.2.2 (fun m hm => a3 m (by omega)))
  · rcases sOff_R hI k (I := fun u => sAll G u ∧ ¬ u = t) (fun u z => z.1) 30 u q with z | z
    · exact h2.2 z
    · exact h.2 z
