/-! winters and full turns keep what always holds -/
theorem rch_in {G : Nat → Nat} {I F : Nat → Prop} : ∀ n t, (rch G I F n).1 t → ∃ m, m ≤ n ∧ (rch G I F m).2 t := by
  intro n
  induction n with
  | zero => exact fun t h => ⟨0, Nat.le_refl _, h⟩
  | succ n ih =>
    rintro t (h | h)
    · obtain ⟨m, h1, h2⟩ := ih t h
      exact ⟨m, by omega, h2⟩
    · exact ⟨n + 1, Nat.le_refl _, h⟩
theorem rch_up {G : Nat → Nat} {I F : Nat → Prop} {n : Nat} : ∀ d t, (rch G I F n).1 t → (rch G I F (n + d)).1 t := by
  intro d
  induction d with
  | zero => exact fun t h => h
  | succ d ih => exact fun t h => Or.inl (ih t h)
theorem sReach_F {G : Nat → Nat} {I F : Nat → Prop} {t : Nat} (h1 : F t) (h2 : I t) : sReach G I F t := by
  have := rch_up (G := G) (I := I) (F := F) (n := 0) 30 t ⟨h1, h2⟩
  rwa [Nat.zero_add] at this
theorem sReach_T {G : Nat → Nat} {I F : Nat → Prop} (hc : G 0 ≤ 30) {t u k : Nat} (hu : u < G 0) (hk : k < 3) (h : sReach G I F u) (ht : G (ri u (2 + k)) = t + 1) (hi : I t) : sReach G I F t := by
  obtain ⟨m, hm, h2⟩ := rch_in 30 u h
  by_cases q : m = 30
  · subst q
    exact absurd h2 (rch_30 hc (by omega))
  · have h3 : (rch G I F (m + 1)).1 t := by
      by_cases c : (rch G I F m).1 t
      · exact Or.inl c
      · exact Or.inr ⟨⟨⟨u, k, hu, hk, h2, ht⟩, hi⟩, c⟩
    have := rch_up (30 - (m + 1)) t h3
    rwa [show m + 1 + (30 - (m + 1)) = 30 by omega] at this
/-- houses grow older -/
theorem sInv_bump {G : Nat → Nat} {S : Nat → Prop} {n : Nat} (hI : sInv G) (hS : ∀ t, S t → sLive G t ∧ sAge G t ≤ 2) : sInv (sBump G S n) ∧ (∀ t, sLive (sBump G S n) t ↔ sLive G t) ∧ ∀ i, (i < 4 ∨ 12 ≤ i) → sBump G S n i = G i := by
  have hh : ∀ t, S t → sHome G t < 8 := fun t h => hI.ho (hI.lt (hS t h).1)
  have eo : ∀ i, (i < 4 ∨ 12 ≤ i) → sBump G S n i = G i := fun i hi => sBump_o hh hi
  have er : ∀ t w, sBump G S n (ri t w) = G (ri t w) := fun t w => eo _ (by have := ri_ge t w; omega)
  have e0 := eo 0 (by omega)
  have hl : ∀ t, sLive (sBump G S n) t ↔ sLive G t := fun t => by unfold sLive; rw [e0, er]
  have ho : ∀ t, sHome (sBump G S n) t = sHome G t := fun t => by unfold sHome; rw [er]
  refine ⟨⟨by rw [e0]; exact hI.c, fun t w a b c => by rw [er]; exact hI.z a b (by rw [← e0]; exact c), fun t h => by rw [er]; exact hI.l h, fun k hk => ?_, fun k hk => ?_, fun t k a b => ?_, fun t u a b c => ?_, fun t a => ?_, fun t a => ?_⟩, hl, eo⟩
  · unfold sBump
    split
    · next q =>
      obtain ⟨t, -, h2, h3⟩ := cd_t.mp q
      have h4 := (hS t h2).2
      unfold sAge at h4
      rw [h3]
      omega
    · exact hI.a hk
  · rw [eo _ (by omega)]
    exact ⟨(hI.h hk).1, fun q => (hl _).mpr ((hI.h hk).2 q)⟩
  · rw [er]
    exact ⟨(hI.t a b).1, fun q => ⟨(hl _).mpr ((hI.t a b).2 q).1, (hl _).mpr ((hI.t a b).2 q).2⟩⟩
  · rw [er, er] at c
    exact hI.d ((hl t).mp a) ((hl u).mp b) c
  · have hg := hI.g ((hl t).mp a)
    unfold sAge at hg ⊢
    rw [ho]
    unfold sBump
    split <;> omega
  · rw [er]
    exact ⟨(hI.p a).1, fun q => (hl _).mpr ((hI.p a).2 q)⟩
/-- a thing moves -/
theorem sInv_step {H H1 : Nat → Nat} {n p b : Nat} (hI : sInv H) (hl : sLive H n) (hb : 0 < b) (hb2 : b ≤ 3) (h : sRoom H b = some (p, H1)) : sInv (sStep H1 n p) ∧ (∀ t, sLive (sStep H1 n p) t ↔ sLive H t) ∧ (∀ i, 12 ≤ i → i ≠ ri n 0 → i ≠ ri n 5 → sStep H1 n p i = H i) ∧ (∀ i, i < 3 → sStep H1 n p i = H i) ∧ sStep H1 n p (ri n 0) = p + 1 ∧ (∀ t, t ≠ n → sLive H t → sHome (sStep H1 n p) t = sHome H t ∧ sAge (sStep H1 n p) t = sAge H t) ∧ sAge (sStep H1 n p) n = b := by
  obtain ⟨hp, he, ha, ho, hbb⟩ := sRoom_spec hI hb h
  have hn := hI.lt hl
  have r0 := ri_ge n 0
  have r5 := ri_ge n 5
  have en : sStep H1 n p (ri n 0) = p + 1 := by unfold sStep; rw [un_n (by omega), un_n (ri_ne (by omega) (by omega) (by omega)), un_s]
  have eo : ∀ i, i ≠ 3 → i ≠ ri n 0 → i ≠ ri n 5 → i ≠ 4 + p / 5 → sStep H1 n p i = H i := fun i h0 h1 h2 h3 => by unfold sStep; rw [un_n h0, un_n h2, un_n h1, ho i h3]
  have ea : sStep H1 n p (4 + p / 5) = b := by unfold sStep; rw [un_n (by omega), un_n (by omega), un_n (by omega), ha]
  have er : ∀ t w, (t ≠ n ∨ (w ≠ 0 ∧ w ≠ 5)) → w < 6 → sStep H1 n p (ri t w) = H (ri t w) := fun t w h1 h2 => by
    have := ri_ge t w
    exact eo _ (by omega) (fun q => by have := ri_inj h2 (by omega) q; omega) (fun q => by have := ri_inj h2 (by omega) q; omega) (by omega)
  have e0 : sStep H1 n p 0 = H 0 := eo 0 (by omega) (by omega) (by omega) (by omega)
  have hlv : ∀ t, sLive (sStep H1 n p) t ↔ sLive H t := by
    intro t
    unfold sLive
    rw [e0]
    by_cases q : t = n
    · subst q
      rw [en]
      exact ⟨fun _ => hl, fun _ => ⟨hl.1, by omega⟩⟩
    · rw [er t 0 (Or.inl q) (by omega)]
  have hag : ∀ t, t ≠ n → sLive H t → sHome (sStep H1 n p) t = sHome H t ∧ sAge (sStep H1 n p) t = sAge H t := by
    intro t q ht
    have e1 : sHome (sStep H1 n p) t = sHome H t := by unfold sHome; rw [er t 0 (Or.inl q) (by omega)]
    refine ⟨e1, ?_⟩
    have h8 := hI.ho (hI.lt ht)
    unfold sAge
    rw [e1]
    by_cases c : 4 + sHome H t = 4 + p / 5
    · rw [c, ea]
      have hg := hI.g ht
      unfold sAge at hg
      rw [c] at hg
      omega
    · exact eo _ (by omega) (by omega) (by omega) c
  have hgn : sAge (sStep H1 n p) n = b := by
    unfold sAge sHome
    rw [en, show (p + 1 - 1) / 5 = p / 5 by omega, ea]
  refine ⟨⟨by rw [e0]; exact hI.c, fun t w a b2 c => ?_, fun t a => ?_, fun k a => ?_, fun k a => ?_, fun t k a b2 => ?_, fun t u a b2 c => ?_, fun t a => ?_, fun t a => ?_⟩, hlv, fun i h1 h2 h3 => eo i (by omega) h2 h3 (by omega), fun i h1 => eo i (by omega) (by omega) (by omega) (by omega), en, hag, hgn⟩
  · rw [e0] at c
    have := hl.1
    rw [er t w (Or.inl (by omega)) b2]
    exact hI.z a b2 c
  · by_cases q : t = n
    · rw [q, en]
      omega
    · rw [er t 0 (Or.inl q) (by omega)]
      exact hI.l a
  · by_cases q : 4 + k = 4 + p / 5
    · rw [q, ea]
      exact hb2
    · rw [eo _ (by omega) (by omega) (by omega) q]
      exact hI.a a
  · rw [eo _ (by omega) (by omega) (by omega) (by omega)]
    exact ⟨(hI.h a).1, fun q => (hlv _).mpr ((hI.h a).2 q)⟩
  · rw [er t _ (Or.inr (by omega)) (by omega)]
    exact ⟨(hI.t a b2).1, fun q => ⟨(hlv _).mpr ((hI.t a b2).2 q).1, (hlv _).mpr ((hI.t a b2).2 q).2⟩⟩
  · have a' := (hlv t).mp a
    have b' := (hlv u).mp b2
    by_cases q1 : t = n
    · by_cases q2 : u = n
      · rw [q1, q2]
      · rw [q1, en, er u 0 (Or.inl q2) (by omega)] at c
        exact absurd c.symm (he u b'.1)
    · by_cases q2 : u = n
      · rw [q2, en, er t 0 (Or.inl q1) (by omega)] at c
        exact absurd c (he t a'.1)
      · rw [er t 0 (Or.inl q1) (by omega), er u 0 (Or.inl q2) (by omega)] at c
        exact hI.d a' b' c
  · by_cases q : t = n
    · rw [q, hgn]
      exact hb
    · rw [(hag t q ((hlv t).mp a)).2]
      exact hI.g ((hlv t).mp a)
  · rw [er t 1 (Or.inr (by omega)) (by omega)]
    exact ⟨(hI.p a).1, fun q => (hlv _).mpr ((hI.p a).2 q)⟩
/-- things are gone -/
theorem sWipe_e {G : Nat → Nat} {P : Nat → Prop} {t w : Nat} (ht : t < G 0) (hw : w < 5) (hp : P t) : sWipe G P (ri t w) = 0 := by
  unfold sWipe
  rw [if_pos (cd_t.mpr ⟨t, w, ht, hp, hw, rfl⟩)]
theorem sWipe_k {G : Nat → Nat} {P : Nat → Prop} {t w : Nat} (hw : w < 6) (hp : ¬ P t ∨ w = 5) : sWipe G P (ri t w) = G (ri t w) := by
  unfold sWipe
  rw [if_neg]
  intro q
  obtain ⟨u, v, -, h2, h3, e⟩ := cd_t.mp q
  have := ri_inj hw (by omega) e
  rcases hp with hp | hp
  · exact hp (this.1 ▸ h2)
  · omega
theorem sLose_r {G : Nat → Nat} {P : Nat → Prop} {i : Nat} (h : i < 4 ∨ 12 ≤ i) : sLose G P i = sWipe G P i := sFree_o h
theorem sLose_l {G : Nat → Nat} {P : Nat → Prop} (hc : G 0 ≤ 30) : ∀ t, sLive (sLose G P) t ↔ sLive G t ∧ ¬ P t := by
  intro t
  unfold sLive
  rw [sLose_o (by omega) hc, sLose_r (by have := ri_ge t 0; omega)]
  constructor
  · rintro ⟨h1, h2⟩
    have hp : ¬ P t := fun q => by rw [sWipe_e h1 (by omega) q] at h2; omega
    rw [sWipe_k (by omega) (Or.inl hp)] at h2
    exact ⟨⟨h1, h2⟩, hp⟩
  · rintro ⟨⟨h1, h2⟩, hp⟩
    rw [sWipe_k (by omega) (Or.inl hp)]
    exact ⟨h1, h2⟩
theorem sInv_lose {G : Nat → Nat} {P : Nat → Prop} (hI : sInv G) (hh : ∀ k, k < 4 → 0 < G (12 + k) → ¬ P (G (12 + k) - 1)) (ht : ∀ t k, t < 30 → k < 3 → ¬ P t → 0 < G (ri t (2 + k)) → ¬ P (G (ri t (2 + k)) - 1)) : sInv (sLose G P) ∧ (∀ t, sLive (sLose G P) t → sHome (sLose G P) t = sHome G t ∧ sAge (sLose G P) t = sAge G t) := by
  have hc := hI.c
  have hl := sLose_l (P := P) hc
  have e0 : sLose G P 0 = G 0 := sLose_o (by omega) hc
  have er : ∀ t w, sLose G P (ri t w) = sWipe G P (ri t w) := fun t w => sLose_r (by have := ri_ge t w; omega)
  have ele : ∀ i, sWipe G P i ≤ G i := fun i => by unfold sWipe; split <;> omega
  have ho : ∀ t, sLive (sLose G P) t → sHome (sLose G P) t = sHome G t := fun t h => by
    unfold sHome
    rw [er, sWipe_k (by omega) (Or.inl ((hl t).mp h).2)]
  have hg : ∀ t, sLive (sLose G P) t → sAge (sLose G P) t = sAge G t := fun t h => by
    have h1 := (hl t).mp h
    have h8 := hI.ho (hI.lt h1.1)
    unfold sAge
    rw [ho t h]
    unfold sLose sFree
    rw [if_neg]
    · exact sWipe_o (by omega) hc
    · intro q
      obtain ⟨-, -, q3⟩ := cd_t.mp q
      have hz := h1.1.2
      have := q3 ((G (ri t 0) - 1) % 5) (by omega) t (by rw [sWipe_o (by omega) hc]; exact h1.1.1)
      rw [sWipe_k (by omega) (Or.inl h1.2)] at this
      apply this
      unfold sHome
      omega
  refine ⟨⟨by rw [e0]; exact hc, fun t w a b c => ?_, fun t a => ?_, fun k a => ?_, fun k a => ?_, fun t k a b => ?_, fun t u a b c => ?_, fun t a => ?_, fun t a => ?_⟩, fun t h => ⟨ho t h, hg t h⟩⟩
  · rw [e0] at c
    have := ele (ri t w)
    rw [hI.z a b c] at this
    rw [er]
    omega
  · rw [er]
    exact Nat.le_trans (ele _) (hI.l a)
  · have h1 := ele (4 + k)
    have h2 := hI.a a
    unfold sLose sFree
    split <;> omega
  · rw [sLose_o (by omega) hc]
    exact ⟨(hI.h a).1, fun q => (hl _).mpr ⟨(hI.h a).2 q, hh k a q⟩⟩
  · rw [er]
    have h1 := hI.t a b
    refine ⟨Nat.le_trans (ele _) h1.1, fun q => ?_⟩
    have q2 : 0 < G (ri t (2 + k)) := Nat.lt_of_lt_of_le q (ele _)
    have hp : ¬ P t := fun z => by
      rw [sWipe_e (h1.2 q2).1.1 (by omega) z] at q
      omega
    rw [sWipe_k (by omega) (Or.inl hp)]
    exact ⟨(hl _).mpr ⟨(h1.2 q2).1, hp⟩, (hl _).mpr ⟨(h1.2 q2).2, ht t k a b hp q2⟩⟩
  · have a' := (hl t).mp a
    have b' := (hl u).mp b
    rw [er, er, sWipe_k (by omega) (Or.inl a'.2), sWipe_k (by omega) (Or.inl b'.2)] at c
    exact hI.d a'.1 b'.1 c
  · rw [hg t a]
    exact hI.g ((hl t).mp a).1
  · rw [er]
    have h1 := hI.p a
    refine ⟨Nat.le_trans (ele _) h1.1, fun q => ?_⟩
    have q2 : 0 < G (ri t 1) := Nat.lt_of_lt_of_le q (ele _)
    refine (hl _).mpr ⟨h1.2 q2, fun z => ?_⟩
    rw [sWipe_e (h1.2 q2).1 (by omega) z] at q
    omega
/-- counters -/
theorem sInv_cnt {G : Nat → Nat} {k x : Nat} (hI : sInv G) (hk : k = 1 ∨ k = 2 ∨ k = 3) : sInv (un G k x) ∧ (∀ t, sLive (un G k x) t ↔ sLive G t) ∧ (∀ t, sHome (un G k x) t = sHome G t) ∧ ∀ t, t < 30 → sAge (un G k x) t = sAge G t :=
  sInv_light hI (fun i hi a b c => un_n (by omega)) (fun t => un_n (by have := ri_ge t 0; omega)) (fun j hj => by rw [un_n (by omega)]; exact hI.h hj) (fun t j a b => by rw [un_n (by have := ri_ge t (2 + j); omega)]; exact hI.t a b) (fun t a => by rw [un_n (by have := ri_ge t 1; omega)]; exact hI.p a) (fun t w a b c => by rw [un_n (by have := ri_ge t w; omega)]; exact hI.z a b c)
theorem sAll_l {G : Nat → Nat} (hI : sInv G) {t : Nat} : sAll G t ↔ sLive G t := by
  constructor
  · exact fun h => h.1
  · intro h
    have := hI.ag (hI.lt h)
    exact ⟨h, by omega⟩
/-- the course of a winter -/
theorem sMv_inv {G : Nat → Nat} {a : Nat} (hI : sInv G) (ha : a < 2) : ∀ n H, n ≤ G 0 → sMv G (sStay G a) (sMove G a) n = some H → sInv H ∧ (∀ t, sLive H t ↔ sLive G t) ∧ (∀ i, i < 3 → H i = G i) ∧ (∀ i, 12 ≤ i → (∀ t, i ≠ ri t 0) → (∀ t, i ≠ ri t 5) → H i = G i) ∧ (∀ t, n ≤ t → H (ri t 0) = G (ri t 0)) := by
  intro n
  induction n with
  | zero =>
    intro H _ h
    cases h
    obtain ⟨h1, h2, h3⟩ := sInv_bump (n := G 0) hI (S := sStay G a) (fun t h => ⟨(sSurv_y h.1).1, by have := (sSurv_y h.1).2; omega⟩)
    exact ⟨h1, h2, fun i hi => h3 i (by omega), fun i hi _ _ => h3 i (by omega), fun t _ => h3 _ (by have := ri_ge t 0; omega)⟩
  | succ n ih =>
    intro H hn h
    unfold sMv at h
    split at h
    · cases h
    · next H0 h0 =>
      obtain ⟨h1, h2, h3, h4, h5⟩ := ih H0 (by omega) h0
      split at h
      · next hm =>
        have hm := cd_t.mp hm
        have hy := sSurv_y hm.1
        split at h
        · cases h
        · next p H1 hr =>
          cases h
          obtain ⟨g1, g2, g3, g4, g5, -, -⟩ := sInv_step h1 ((h2 n).mpr hy.1) (by omega) (by have := hy.2; omega) hr
          refine ⟨g1, fun t => (g2 t).trans (h2 t), fun i hi => (g4 i hi).trans (h3 i hi), fun i hi q1 q2 => (g3 i hi (q1 n) (q2 n)).trans (h4 i hi q1 q2), fun t ht => ?_⟩
          rw [g3 _ (by have := ri_ge t 0; omega) (fun q => by have := (ri_inj (by omega) (by omega) q).1; omega) (ri_ne (by omega) (by omega) (by omega))]
          exact h5 t (by omega)
      · cases h
        exact ⟨h1, h2, h3, h4, fun t ht => h5 t (by omega)⟩
theorem sGone_ok {G : Nat → Nat} {a : Nat} (hI : sInv G) : (∀ k, k < 4 → 0 < G (12 + k) → ¬ sGone G a (G (12 + k) - 1)) ∧ (∀ t, sPin G t → ¬ sGone G a t) ∧ ∀ t k, t < 30 → k < 3 → ¬ sGone G a t → 0 < G (ri t (2 + k)) → ¬ sGone G a (G (ri t (2 + k)) - 1) := by
  refine ⟨fun k hk h0 ⟨h1, h2⟩ => h2 (sReach_F (Or.inl (Or.inl ⟨k, hk, by omega⟩)) h1), fun t hp ⟨h1, h2⟩ => h2 (sReach_F (Or.inl (Or.inr hp)) h1), fun t k ht hk hg h0 ⟨h1, h2⟩ => ?_⟩
  have h3 := (hI.t ht hk).2 h0
  by_cases hy : sYoung G a t
  · have hs : sSurv G a t := Classical.byContradiction fun q => hg ⟨hy, q⟩
    exact h2 (sReach_T hI.c h3.1.1 hk hs (by omega) h1)
  · exact h2 (sReach_F (Or.inr ⟨t, k, h3.1.1, hk, ⟨(sAll_l hI).mpr h3.1, hy⟩, by omega⟩) h1)
theorem sWin_inv {G G' : Nat → Nat} {a : Nat} (hI : sInv G) (ha : a < 2) (h : sWin G a = some G') : sInv G' ∧ (∀ t, sLive G' t ↔ sLive G t ∧ ¬ sGone G a t) ∧ ∃ H, sMv G (sStay G a) (sMove G a) (G 0) = some H ∧ G' = un (sLose H (sGone G a)) 1 (sLose H (sGone G a) 1 + 1) := by
  unfold sWin at h
  split at h
  · cases h
  · next H hH =>
    cases h
    obtain ⟨h1, h2, h3, h4, h5⟩ := sMv_inv hI ha (G 0) H (Nat.le_refl _) hH
    obtain ⟨g1, g2, g3⟩ := sGone_ok (a := a) hI
    have eh : ∀ k, k < 4 → H (12 + k) = G (12 + k) := fun k hk => h4 _ (by omega) (fun t => by have := ri_ge t 0; omega) (fun t => by have := ri_ge t 5; omega)
    have et : ∀ t k, k < 3 → H (ri t (2 + k)) = G (ri t (2 + k)) := fun t k hk => h4 _ (by have := ri_ge t (2 + k); omega) (fun u => ri_ne (by omega) (by omega) (by omega)) (fun u => ri_ne (by omega) (by omega) (by omega))
    obtain ⟨l1, l2⟩ := sInv_lose (P := sGone G a) h1 (fun k hk q => by rw [eh k hk] at q ⊢; exact g1 k hk q) (fun t k ht hk q1 q2 => by rw [et t k hk] at q2 ⊢; exact g3 t k ht hk q1 q2)
    obtain ⟨m1, m2, -, -⟩ := sInv_cnt (k := 1) (x := sLose H (sGone G a) 1 + 1) l1 (by omega)
    exact ⟨m1, fun t => (m2 t).trans ((sLose_l h1.c t).trans (by rw [h2 t])), H, hH, rfl⟩
/-- full turns -/
def sForg (G : Nat → Nat) (t : Nat) : Prop := sAll G t ∧ ¬ sNeed G t
noncomputable def sFull (G : Nat → Nat) : Nat → Nat := un (sLose G (sForg G)) 2 (sLose G (sForg G) 2 + 1)
theorem sFull_inv {G : Nat → Nat} (hI : sInv G) : sInv (sFull G) ∧ ∀ t, sLive (sFull G) t ↔ sLive G t ∧ ¬ sForg G t := by
  obtain ⟨l1, l2⟩ := sInv_lose (P := sForg G) hI (fun k hk q ⟨h1, h2⟩ => h2 (sReach_F (Or.inl ⟨k, hk, by omega⟩) h1)) (fun t k ht hk q1 q2 ⟨h1, h2⟩ => by
    have h3 := (hI.t ht hk).2 q2
    have hs : sNeed G t := Classical.byContradiction fun q => q1 ⟨(sAll_l hI).mpr h3.1, q⟩
    exact h2 (sReach_T hI.c h3.1.1 hk hs (by omega) h1))
  obtain ⟨m1, m2, -, -⟩ := sInv_cnt (k := 2) (x := sLose G (sForg G) 2 + 1) l1 (by omega)
  exact ⟨m1, fun t => (m2 t).trans (sLose_l hI.c t)⟩
