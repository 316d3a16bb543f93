/-! what a winter does to what survives, and to the numbers -/
theorem cnt_add {P R S : Nat → Prop} : ∀ n, (∀ t, t < n → (S t ↔ P t ∨ R t)) → (∀ t, t < n → ¬ (P t ∧ R t)) → cnt P n + cnt R n = cnt S n := by
  intro n
  induction n with
  | zero => intro _ _; rfl
  | succ n ih =>
    intro h1 h2
    have h3 := ih (fun t ht => h1 t (by omega)) (fun t ht => h2 t (by omega))
    have a := h1 n (by omega)
    have b := h2 n (by omega)
    by_cases hp : P n
    · rw [cnt_up hp, cnt_st (fun q => b ⟨hp, q⟩), cnt_up (a.mpr (Or.inl hp))]
      omega
    · by_cases hr : R n
      · rw [cnt_st hp, cnt_up hr, cnt_up (a.mpr (Or.inr hr))]
        omega
      · rw [cnt_st hp, cnt_st hr, cnt_st (fun q => (a.mp q).elim hp hr)]
        omega
theorem cnt_sb {P R : Nat → Prop} : ∀ n, (∀ t, t < n → P t → R t) → cnt P n ≤ cnt R n := by
  intro n
  induction n with
  | zero => intro _; exact Nat.le_refl _
  | succ n ih =>
    intro h
    have h1 := ih (fun t ht => h t (by omega))
    by_cases hp : P n
    · rw [cnt_up hp, cnt_up (h n (by omega) hp)]
      omega
    · rw [cnt_st hp]
      by_cases hr : R n
      · rw [cnt_up hr]; omega
      · rw [cnt_st hr]; exact h1
/-- whom a winter concerns -/
theorem sYoung_c {G : Nat → Nat} (hI : sInv G) {a : Nat} : cnt (sSurv G a) 30 + cnt (sGone G a) 30 = cnt (sYoung G a) 30 := by
  refine cnt_add 30 (fun t _ => ⟨fun h => ?_, fun h => h.elim sSurv_y (fun q => q.1)⟩) (fun t _ h => h.2.2 h.1)
  by_cases c : sSurv G a t
  · exact Or.inl c
  · exact Or.inr ⟨h, c⟩
theorem sYoung_0 {G : Nat → Nat} (hI : sInv G) : cnt (sYoung G 0) 30 = cnt (sAged G 1) 30 := by
  refine cnt_congr 30 (fun t _ => ⟨fun h => ⟨h.1, ?_⟩, fun h => ⟨h.1, ?_⟩⟩)
  · have := hI.g h.1
    have := h.2
    omega
  · have := h.2
    omega
theorem sYoung_1 {G : Nat → Nat} (hI : sInv G) : cnt (sAged G 1) 30 + cnt (sAged G 2) 30 = cnt (sYoung G 1) 30 := by
  refine cnt_add 30 (fun t _ => ⟨fun h => ?_, fun h => ?_⟩) (fun t _ h => by have := h.1.2; have := h.2.2; omega)
  · have := hI.g h.1
    have := h.2
    have : sAge G t = 1 ∨ sAge G t = 2 := by omega
    exact this.elim (fun q => Or.inl ⟨h.1, q⟩) (fun q => Or.inr ⟨h.1, q⟩)
  · rcases h with h | h
    · exact ⟨h.1, by have := h.2; omega⟩
    · exact ⟨h.1, by have := h.2; omega⟩
theorem sNeed_surv {G : Nat → Nat} (hI : sInv G) {a : Nat} : ∀ n t, (rch G (sAll G) (sRoots G) n).1 t → sYoung G a t → sSurv G a t := by
  intro n
  induction n with
  | zero => exact fun t h hy => sReach_F (Or.inl h.1) hy
  | succ n ih =>
    rintro t (h | ⟨⟨⟨u, s, hu, hs, h1, h2⟩, hi⟩, hn⟩) hy
    · exact ih t h hy
    · have h3 : (rch G (sAll G) (sRoots G) n).1 u := by
        cases n with
        | zero => exact h1
        | succ n => exact Or.inr h1
      have hua : sAll G u := by
        have key : ∀ n, (rch G (sAll G) (sRoots G) n).1 u → sAll G u := by
          intro n
          induction n with
          | zero => exact fun q => q.2
          | succ n ih => exact fun q => q.elim ih (fun z => z.1.2)
        exact key n h3
      by_cases c : sYoung G a u
      · exact sReach_T hI.c hu hs (ih u h3 c) h2 hy
      · exact sReach_F (Or.inr ⟨u, s, hu, hs, ⟨hua, c⟩, h2⟩) hy
theorem sGone_n {G : Nat → Nat} (hI : sInv G) {a t : Nat} (h : sGone G a t) : ¬ sNeed G t := fun q => h.2 (sNeed_surv hI 30 t q h.1)
/-- ages behind a winter -/
theorem sMv_age {G : Nat → Nat} {a : Nat} (hI : sInv G) (ha : a < 2) : ∀ n H, n ≤ G 0 → sMv G (sStay G a) (sMove G a) n = some H → (∀ t, sLive G t → ¬ sYoung G a t → sAge H t = sAge G t) ∧ (∀ t, sStay G a t → sAge H t = sAge G t + 1) ∧ ∀ t, t < n → sMove G a t → sAge H t = sAge G t + 1 := by
  intro n
  induction n with
  | zero =>
    intro H _ h
    cases h
    have ho : ∀ t, sStay G a t → sHome G t < 8 := fun t h => hI.ho (hI.lt (sSurv_y h.1).1)
    have eh : ∀ t, sHome (sBump G (sStay G a) (G 0)) t = sHome G t := fun t => by
      unfold sHome
      rw [sBump_o ho (by have := ri_ge t 0; omega)]
    refine ⟨fun t hl hy => ?_, fun t hs => ?_, fun t ht => by omega⟩
    · unfold sAge
      rw [eh]
      unfold sBump
      rw [if_neg]
      intro q
      obtain ⟨u, h1, h2, h3⟩ := cd_t.mp q
      have h4 := (sSurv_y h2.1).2
      refine hy ⟨hl, ?_⟩
      unfold sAge at h4 ⊢
      rw [show 4 + sHome G t = 4 + sHome G u from h3]
      exact h4
    · unfold sAge
      rw [eh]
      unfold sBump
      rw [if_pos (cd_t.mpr ⟨t, (sSurv_y hs.1).1.1, hs, rfl⟩)]
  | succ n ih =>
    intro H hn h
    unfold sMv at h
    split at h
    · cases h
    · next H0 h0 =>
      obtain ⟨h1, h2, h3, h4, h5⟩ := sMv_inv hI ha n H0 (by omega) h0
      obtain ⟨k1, k2, k3⟩ := ih H0 (by omega) h0
      split at h
      · next hm =>
        have hm := cd_t.mp hm
        have hy := sSurv_y hm.1
        split at h
        · cases h
        · next p H1 hr =>
          cases h
          obtain ⟨-, -, -, -, -, g6, g7⟩ := sInv_step h1 ((h2 n).mpr hy.1) (by omega) (by have := hy.2; omega) hr
          refine ⟨fun t hl hyt => ?_, fun t hs => ?_, fun t ht hmt => ?_⟩
          · rw [(g6 t (fun q => hyt (q ▸ hy)) ((h2 t).mpr hl)).2]
            exact k1 t hl hyt
          · rw [(g6 t (fun q => hm.2 (q ▸ hs)) ((h2 t).mpr (sSurv_y hs.1).1)).2]
            exact k2 t hs
          · by_cases e : t = n
            · subst e
              exact g7
            · rw [(g6 t e ((h2 t).mpr (sSurv_y hmt.1).1)).2]
              exact k3 t (by omega) hmt
      · next hm =>
        cases h
        refine ⟨k1, k2, fun t ht hmt => ?_⟩
        by_cases e : t = n
        · subst e
          exact absurd (cd_t.mpr hmt) hm
        · exact k3 t (by omega) hmt
theorem sWin_age {G G' : Nat → Nat} {a : Nat} (hI : sInv G) (ha : a < 2) (h : sWin G a = some G') : (∀ t, sLive G t → ¬ sYoung G a t → sLive G' t ∧ sAge G' t = sAge G t) ∧ ∀ t, sSurv G a t → sLive G' t ∧ sAge G' t = sAge G t + 1 := by
  obtain ⟨h1, h2, H, hH, rfl⟩ := sWin_inv hI ha h
  obtain ⟨k1, k2, k3⟩ := sMv_age hI ha (G 0) H (Nat.le_refl _) hH
  obtain ⟨m1, m2, m3, m4, m5⟩ := sMv_inv hI ha (G 0) H (Nat.le_refl _) hH
  obtain ⟨g1, g2, g3⟩ := sGone_ok (a := a) hI
  have eh : ∀ k, k < 4 → H (12 + k) = G (12 + k) := fun k hk => m4 _ (by omega) (fun t => by have := ri_ge t 0; omega) (fun t => by have := ri_ge t 5; omega)
  have et : ∀ t k, k < 3 → H (ri t (2 + k)) = G (ri t (2 + k)) := fun t k hk => m4 _ (by have := ri_ge t (2 + k); omega) (fun u => ri_ne (by omega) (by omega) (by omega)) (fun u => ri_ne (by omega) (by omega) (by omega))
  obtain ⟨l1, l2⟩ := sInv_lose (P := sGone G a) m1 (fun k hk q => by rw [eh k hk] at q ⊢; exact g1 k hk q) (fun t k ht hk q1 q2 => by rw [et t k hk] at q2 ⊢; exact g3 t k ht hk q1 q2)
  obtain ⟨c1, c2, c3, c4⟩ := sInv_cnt (k := 1) (x := sLose H (sGone G a) 1 + 1) l1 (by omega)
  have go : ∀ t, sLive G t → ¬ sGone G a t → sLive (un (sLose H (sGone G a)) 1 (sLose H (sGone G a) 1 + 1)) t ∧ sAge (un (sLose H (sGone G a)) 1 (sLose H (sGone G a) 1 + 1)) t = sAge H t := by
    intro t hl hg
    have hl' := (h2 t).mpr ⟨hl, hg⟩
    exact ⟨hl', by rw [c4 t (hI.lt hl), (l2 t ((c2 t).mp hl')).2]⟩
  refine ⟨fun t hl hy => ?_, fun t hs => ?_⟩
  · obtain ⟨a1, a2⟩ := go t hl (fun q => hy q.1)
    exact ⟨a1, a2.trans (k1 t hl hy)⟩
  · have hy := sSurv_y hs
    obtain ⟨a1, a2⟩ := go t hy.1 (fun q => q.2 hs)
    refine ⟨a1, a2.trans ?_⟩
    by_cases c : sStay G a t
    · exact k2 t c
    · exact k3 t hy.1.1 ⟨hs, c⟩
theorem sWin_old {G G' : Nat → Nat} {a : Nat} (hI : sInv G) (ha : a < 2) (h : sWin G a = some G') : cnt (sAged G 3) 30 ≤ cnt (sAged G' 3) 30 := by
  refine cnt_sb 30 (fun t _ ht => ?_)
  obtain ⟨a1, a2⟩ := (sWin_age hI ha h).1 t ht.1 (fun q => by have := q.2; have := ht.2; omega)
  exact ⟨a1, a2.trans ht.2⟩
theorem sWin_new {G G' : Nat → Nat} {a : Nat} (hI : sInv G) (ha : a < 2) (h : sWin G a = some G') : ∀ t, ¬ sAged G' 1 t := by
  rintro t ⟨h1, h2⟩
  obtain ⟨k1, k2, -⟩ := sWin_inv hI ha h
  have h3 := (k2 t).mp h1
  by_cases c : sYoung G a t
  · have hs : sSurv G a t := Classical.byContradiction fun q => h3.2 ⟨c, q⟩
    have := ((sWin_age hI ha h).2 t hs).2
    have := hI.g h3.1
    omega
  · have := ((sWin_age hI ha h).1 t h3.1 c).2
    have h4 : ¬ sAge G t ≤ a + 1 := fun q => c ⟨h3.1, q⟩
    omega
