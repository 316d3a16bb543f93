/-! numbers of things, told in several ways -/
theorem cnt_0 {P : Nat → Prop} : ∀ n, (∀ t, t < n → ¬ P t) → cnt P n = 0 := by
  intro n
  induction n with
  | zero => intro _; rfl
  | succ n ih =>
    intro h
    rw [cnt_st (h n (by omega))]
    exact ih (fun t ht => h t (by omega))
theorem cnt_pos {P : Nat → Prop} {t : Nat} : ∀ n, t < n → P t → 0 < cnt P n := by
  intro n
  induction n with
  | zero => intro h; omega
  | succ n ih =>
    intro h hp
    by_cases e : t = n
    · subst e
      rw [cnt_up hp]
      omega
    · have := ih (by omega) hp
      have h2 := cnt_mono (P := P) (m := n) 1
      omega
theorem cnt_one {P : Nat → Prop} (h : ∀ t u, P t → P u → t = u) : ∀ n, cnt P n ≤ 1 := by
  intro n
  induction n with
  | zero => exact Nat.zero_le _
  | succ n ih =>
    by_cases hp : P n
    · rw [cnt_up hp, cnt_0 n (fun t ht q => by have := h t n q hp; omega)]
      exact Nat.le_refl _
    · rw [cnt_st hp]
      exact ih
theorem cnt_at {P : Nat → Prop} {i : Nat} : ∀ n, i < cnt P n → ∃ j, j < n ∧ P j ∧ cnt P j = i := by
  intro n
  induction n with
  | zero => intro h; exact absurd h (Nat.not_lt_zero _)
  | succ n ih =>
    intro h
    by_cases hp : P n
    · rw [cnt_up hp] at h
      by_cases e : i = cnt P n
      · exact ⟨n, by omega, hp, e.symm⟩
      · obtain ⟨j, h1, h2, h3⟩ := ih (by omega)
        exact ⟨j, by omega, h2, h3⟩
    · rw [cnt_st hp] at h
      obtain ⟨j, h1, h2, h3⟩ := ih h
      exact ⟨j, by omega, h2, h3⟩
/-- five places in a house -/
theorem sInH_5 {G : Nat → Nat} (hI : sInv G) {h : Nat} : cnt (sInH G h) 30 ≤ 5 := by
  have key : ∀ m, cnt (fun t => sInH G h t ∧ (G (ri t 0) - 1) % 5 < m) 30 ≤ m := by
    intro m
    induction m with
    | zero => rw [cnt_0 30 (fun t _ q => by omega)]; exact Nat.le_refl _
    | succ m ih =>
      have h1 := cnt_one (P := fun t => sInH G h t ∧ (G (ri t 0) - 1) % 5 = m) (fun t u ⟨a1, a2⟩ ⟨b1, b2⟩ => hI.d a1.1 b1.1 (by
        have x1 := a1.2
        have x2 := b1.2
        have y1 := a1.1.2
        have y2 := b1.1.2
        unfold sHome at x1 x2
        omega)) 30
      have h2 := cnt_add (P := fun t => sInH G h t ∧ (G (ri t 0) - 1) % 5 < m) (R := fun t => sInH G h t ∧ (G (ri t 0) - 1) % 5 = m) (S := fun t => sInH G h t ∧ (G (ri t 0) - 1) % 5 < m + 1) 30 (fun t _ => ⟨fun q => by
        by_cases c : (G (ri t 0) - 1) % 5 = m
        · exact Or.inr ⟨q.1, c⟩
        · exact Or.inl ⟨q.1, by have := q.2; omega⟩, fun q => q.elim (fun z => ⟨z.1, by have := z.2; omega⟩) (fun z => ⟨z.1, by have := z.2; omega⟩)⟩) (fun t _ q => by have := q.1.2; have := q.2.2; omega)
      omega
  have e : cnt (sInH G h) 30 = cnt (fun t => sInH G h t ∧ (G (ri t 0) - 1) % 5 < 5) 30 := cnt_congr 30 (fun t _ => ⟨fun q => ⟨q, by omega⟩, fun q => q.1⟩)
  rw [e]
  exact key 5
/-- a house is free if nothing lives in it -/
theorem sIn_0 {G : Nat → Nat} (h : sGd G) {k : Nat} (hk : k < 8) : cnt (sInH G k) 30 = 0 ↔ G (4 + k) = 0 := by
  constructor
  · intro q
    refine Nat.eq_zero_of_not_pos fun h0 => ?_
    obtain ⟨t, h1, h2⟩ := h.2 k hk h0
    have := cnt_pos (P := sInH G k) 30 (h.1.1.lt h1) ⟨h1, h2⟩
    omega
  · intro q
    refine cnt_0 30 (fun t _ z => ?_)
    have h1 := h.1.1.g z.1
    unfold sAge at h1
    rw [z.2] at h1
    omega
/-- all that live are in the houses -/
theorem sIn_sum {G : Nat → Nat} (hI : sInv G) : sumN (fun h => cnt (sInH G h) 30) 8 = cnt (sLive G) 30 := by
  have key : ∀ m, sumN (fun h => cnt (sInH G h) 30) m = cnt (fun t => sLive G t ∧ sHome G t < m) 30 := by
    intro m
    induction m with
    | zero => exact (cnt_0 30 (fun t _ q => by omega)).symm
    | succ m ih =>
      show sumN (fun h => cnt (sInH G h) 30) m + cnt (sInH G m) 30 = _
      rw [ih]
      refine cnt_add 30 (fun t _ => ⟨fun q => ?_, fun q => ?_⟩) (fun t _ q => by have := q.1.2; have := q.2.2; omega)
      · by_cases c : sHome G t = m
        · exact Or.inr ⟨q.1, c⟩
        · exact Or.inl ⟨q.1, by have := q.2; omega⟩
      · rcases q with q | q
        · exact ⟨q.1, by have := q.2; omega⟩
        · exact ⟨q.1, by have := q.2; omega⟩
  rw [key 8]
  exact cnt_congr 30 (fun t _ => ⟨fun q => q.1, fun q => ⟨q, hI.ho (hI.lt q)⟩⟩)
theorem sAll_cnt {G : Nat → Nat} (hI : sInv G) : cnt (sAll G) 30 = cnt (sLive G) 30 := cnt_congr 30 (fun t _ => sAll_l hI)
theorem sAged_sum {G : Nat → Nat} (hI : sInv G) : cnt (sAged G 1) 30 + cnt (sAged G 2) 30 + cnt (sAged G 3) 30 = cnt (sLive G) 30 := by
  rw [sYoung_1 hI]
  refine cnt_add 30 (fun t ht => ⟨fun q => ?_, fun q => q.elim (fun z => z.1) (fun z => z.1)⟩) (fun t _ q => by have := q.1.2; have := q.2.2; omega)
  have := hI.ag ht
  by_cases c : sAge G t = 3
  · exact Or.inr ⟨q, c⟩
  · exact Or.inl ⟨q, by omega⟩
theorem sMov_G {G : Nat → Nat} (h : sK G) : sumN (fun t => G (ri t 5)) (G 0) = G 3 := by
  have hc := h.1.c
  have key : ∀ d, G 0 + d ≤ 30 → sumN (fun t => G (ri t 5)) (G 0 + d) = sumN (fun t => G (ri t 5)) (G 0) := by
    intro d
    induction d with
    | zero => exact fun _ => rfl
    | succ d ih =>
      intro hd
      show sumN (fun t => G (ri t 5)) (G 0 + d) + G (ri (G 0 + d) 5) = _
      rw [ih (by omega), h.1.z (t := G 0 + d) (by omega) (by omega) (by omega)]
      rfl
  have h1 := key (30 - G 0) (by omega)
  rw [show G 0 + (30 - G 0) = 30 by omega] at h1
  rw [← h1]
  exact h.2.symm
theorem sNf_G {G : Nat → Nat} (hI : sInv G) : cnt (sNf G) (3 * G 0) = cnt (sNf G) 90 := by
  have hc := hI.c
  have := cnt_ext (P := sNf G) (n := 3 * G 0) (fun j hj => sNf_lo hj) (90 - 3 * G 0)
  rw [show 3 * G 0 + (90 - 3 * G 0) = 90 by omega] at this
  exact this.symm
theorem qNote_last {G : Nat → Nat} (h : 0 < cnt (sNf G) 90) : ∃ v, v < 2147483648 ∧ qNote G (cnt (sNf G) 90 - 1) = nI v := by
  obtain ⟨j, h1, h2, h3⟩ := cnt_at (P := sNf G) (i := cnt (sNf G) 90 - 1) 90 (by omega)
  exact ⟨_, by omega, qNote_some h1 h2 h3⟩
/-- what is told of a thing that lives, of its place -/
theorem qAt_t {G : Nat → Nat} (hI : sInv G) {t : Nat} (hl : sLive G t) : qAt G (5 * sHome G t + (G (ri t 0) - 1) % 5) = nI t := by
  have h0 := hl.2
  refine qAt_some hl.1 (by unfold sHome; omega) (fun u hu q => ?_)
  have hu2 : sLive G u := ⟨by have := hl.1; omega, by rw [q]; omega⟩
  have := hI.d hu2 hl (by rw [q]; unfold sHome; omega)
  omega
theorem mk_pos {P : Nat → Prop} : 0 ≤ (mk P).toInt ∧ ((mk P).toInt = 0 ↔ ∀ t, t < 30 → ¬ P t) := by
  refine ⟨?_, ?_⟩
  · have h31 : bt (mk P) 31 = false := by
      rw [← Bool.not_eq_true, bt_mk (by omega)]
      omega
    have h1 : (mk P).toBitVec.msb = false := by
      rw [BitVec.msb_eq_getLsbD_last]
      exact h31
    show 0 ≤ (mk P).toBitVec.toInt
    rw [BitVec.toInt_eq_msb_cond, h1]
    simp
  · rw [← mk_eq0 (P := P), ← Int32.toInt_inj]
    rfl
