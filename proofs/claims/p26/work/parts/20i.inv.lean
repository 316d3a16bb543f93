/-! what always holds stays -/
theorem sInv_light {G G' : Nat → Nat} (hI : sInv G) (h0 : ∀ i, i < 12 → i ≠ 1 → i ≠ 2 → i ≠ 3 → G' i = G i) (h1 : ∀ t, G' (ri t 0) = G (ri t 0)) (hh : ∀ k, k < 4 → G' (12 + k) ≤ 30 ∧ (0 < G' (12 + k) → sLive G (G' (12 + k) - 1))) (ht : ∀ t k, t < 30 → k < 3 → G' (ri t (2 + k)) ≤ 30 ∧ (0 < G' (ri t (2 + k)) → sLive G t ∧ sLive G (G' (ri t (2 + k)) - 1))) (hp : ∀ t, t < 30 → G' (ri t 1) ≤ 1 ∧ (0 < G' (ri t 1) → sLive G t)) (hz : ∀ t w, t < 30 → w < 6 → G 0 ≤ t → G' (ri t w) = 0) :
    sInv G' ∧ (∀ t, sLive G' t ↔ sLive G t) ∧ (∀ t, sHome G' t = sHome G t) ∧ ∀ t, t < 30 → sAge G' t = sAge G t := by
  have e0 : G' 0 = G 0 := h0 0 (by omega) (by omega) (by omega) (by omega)
  have hl : ∀ t, sLive G' t ↔ sLive G t := fun t => by unfold sLive; rw [e0, h1]
  have ho : ∀ t, sHome G' t = sHome G t := fun t => by unfold sHome; rw [h1]
  have hg : ∀ t, t < 30 → sAge G' t = sAge G t := fun t h => by
    have := hI.ho h
    unfold sAge
    rw [ho, h0 _ (by omega) (by omega) (by omega) (by omega)]
  refine ⟨⟨by rw [e0]; exact hI.c, fun t w a b c => hz t w a b (by rw [← e0]; exact c), fun t h => by rw [h1]; exact hI.l h, fun h hh => by rw [h0 _ (by omega) (by omega) (by omega) (by omega)]; exact hI.a hh, fun k hk => ⟨(hh k hk).1, fun q => (hl _).mpr ((hh k hk).2 q)⟩, fun t k a b => ⟨(ht t k a b).1, fun q => ⟨(hl _).mpr ((ht t k a b).2 q).1, (hl _).mpr ((ht t k a b).2 q).2⟩⟩, fun t u a b c => ?_, fun t a => ?_, fun t a => ⟨(hp t a).1, fun q => (hl _).mpr ((hp t a).2 q)⟩⟩, hl, ho, hg⟩
  · rw [h1, h1] at c
    exact hI.d ((hl t).mp a) ((hl u).mp b) c
  · have a' := (hl t).mp a
    rw [hg t (hI.lt a')]
    exact hI.g a'
theorem ri_inj {t u w v : Nat} (hw : w < 6) (hv : v < 6) (h : ri t w = ri u v) : t = u ∧ w = v := by
  unfold ri at h
  omega
theorem ri_ge (t w : Nat) : 16 ≤ ri t w := by unfold ri; omega
theorem ri_ne {t u w v : Nat} (hw : w < 6) (hv : v < 6) (h : w ≠ v) : ri t w ≠ ri u v := fun q => h (ri_inj hw hv q).2
/-- a hand -/
theorem sInv_hand {G : Nat → Nat} {h x : Nat} (hI : sInv G) (hh : h < 4) (hx : x ≤ 30) (hx2 : 0 < x → sLive G (x - 1)) : sInv (un G (12 + h) x) ∧ (∀ t, sLive (un G (12 + h) x) t ↔ sLive G t) ∧ (∀ t, sHome (un G (12 + h) x) t = sHome G t) ∧ ∀ t, t < 30 → sAge (un G (12 + h) x) t = sAge G t := by
  have e : ∀ t w, un G (12 + h) x (ri t w) = G (ri t w) := fun t w => un_n (by unfold ri; omega)
  refine sInv_light hI (fun i hi _ _ _ => un_n (by omega)) (fun t => e t 0) (fun k hk => ?_) (fun t k a b => by rw [e]; exact hI.t a b) (fun t a => by rw [e]; exact hI.p a) (fun t w a b c => by rw [e]; exact hI.z a b c)
  by_cases q : k = h
  · subst q
    rw [un_s]
    exact ⟨hx, hx2⟩
  · rw [un_n (by omega)]
    exact hI.h hk
/-- a string -/
theorem sInv_tie {G : Nat → Nat} {t s x : Nat} (hI : sInv G) (hl : sLive G t) (hs : s < 3) (hx : x ≤ 30) (hx2 : 0 < x → sLive G (x - 1)) : sInv (un G (ri t (2 + s)) x) ∧ (∀ u, sLive (un G (ri t (2 + s)) x) u ↔ sLive G u) ∧ (∀ u, sHome (un G (ri t (2 + s)) x) u = sHome G u) ∧ ∀ u, u < 30 → sAge (un G (ri t (2 + s)) x) u = sAge G u := by
  have ht := hI.lt hl
  have hr := ri_ge t (2 + s)
  refine sInv_light hI (fun i hi _ _ _ => un_n (by omega)) (fun u => un_n (ri_ne (by omega) (by omega) (by omega))) (fun k hk => ?_) (fun u k a b => ?_) (fun u a => ?_) (fun u w a b c => ?_)
  · rw [un_n (by omega)]
    exact hI.h hk
  · by_cases q : ri u (2 + k) = ri t (2 + s)
    · have q2 := ri_inj (by omega) (by omega) q
      rw [q, un_s, q2.1]
      exact ⟨hx, fun z => ⟨hl, hx2 z⟩⟩
    · rw [un_n q]
      exact hI.t a b
  · rw [un_n (ri_ne (by omega) (by omega) (by omega))]
    exact hI.p a
  · have := hl.1
    rw [un_n (fun q => by have := (ri_inj (by omega) (by omega) q).1; omega)]
    exact hI.z a b c
/-- a pin -/
theorem sInv_pin {G : Nat → Nat} {t x : Nat} (hI : sInv G) (hl : sLive G t) (hx : x ≤ 1) : sInv (un G (ri t 1) x) ∧ (∀ u, sLive (un G (ri t 1) x) u ↔ sLive G u) ∧ (∀ u, sHome (un G (ri t 1) x) u = sHome G u) ∧ ∀ u, u < 30 → sAge (un G (ri t 1) x) u = sAge G u := by
  have ht := hI.lt hl
  have hr := ri_ge t 1
  refine sInv_light hI (fun i hi _ _ _ => un_n (by omega)) (fun u => un_n (ri_ne (by omega) (by omega) (by omega))) (fun k hk => ?_) (fun u k a b => ?_) (fun u a => ?_) (fun u w a b c => ?_)
  · rw [un_n (by omega)]
    exact hI.h hk
  · rw [un_n (ri_ne (by omega) (by omega) (by omega))]
    exact hI.t a b
  · by_cases q : ri u 1 = ri t 1
    · have q2 := ri_inj (by omega) (by omega) q
      rw [q, un_s, q2.1]
      exact ⟨hx, fun z => hl⟩
    · rw [un_n q]
      exact hI.p a
  · have := hl.1
    rw [un_n (fun q => by have := (ri_inj (by omega) (by omega) q).1; omega)]
    exact hI.z a b c
theorem sRoom_spec {G G1 : Nat → Nat} {b p : Nat} (hI : sInv G) (hb : 0 < b) (h : sRoom G b = some (p, G1)) : p < 40 ∧ sEmp G p ∧ G1 (4 + p / 5) = b ∧ (∀ i, i ≠ 4 + p / 5 → G1 i = G i) ∧ (G (4 + p / 5) = b ∨ G (4 + p / 5) = 0) := by
  refine ⟨sRoom_lt h, ?_⟩
  unfold sRoom at h
  split at h
  · next k hk =>
    have h1 := fstN_some.mp hk
    split at h
    · next q hq =>
      have h2 := fstN_some.mp hq
      cases h
      have e : (5 * k + q) / 5 = k := by omega
      rw [e]
      exact ⟨h2.2.1, h1.2.1.1, fun _ _ => rfl, Or.inl h1.2.1.1⟩
    · cases h
  · split at h
    · next k hk =>
      have h1 := fstN_some.mp hk
      cases h
      have e : 5 * k / 5 = k := by omega
      rw [e]
      refine ⟨fun t ht q => ?_, un_s _ _ _, fun i hi => un_n hi, Or.inr h1.2.1⟩
      have hl : sLive G t := ⟨ht, by omega⟩
      have hg := hI.g hl
      have hho : sHome G t = k := by unfold sHome; omega
      unfold sAge at hg
      rw [hho, h1.2.1] at hg
      omega
    · cases h
theorem sInv_new {G G1 : Nat → Nat} {p : Nat} (hI : sInv G) (hc : G 0 < 30) (h : sRoom G 1 = some (p, G1)) : sInv (sNew G G1 p) ∧ (∀ t, sLive (sNew G G1 p) t ↔ sLive G t ∨ t = G 0) ∧ (∀ t, t ≠ G 0 → sHome (sNew G G1 p) t = sHome G t) ∧ sHome (sNew G G1 p) (G 0) = p / 5 ∧ (∀ t, sLive G t → sAge (sNew G G1 p) t = sAge G t) ∧ sAge (sNew G G1 p) (G 0) = 1 := by
  obtain ⟨hp, he, ha, ho, hb⟩ := sRoom_spec hI (by omega) h
  have e0 : sNew G G1 p 0 = G 0 + 1 := un_s _ _ _
  have en : sNew G G1 p (ri (G 0) 0) = p + 1 := by unfold sNew; rw [un_n (by unfold ri; omega), un_s]
  have eo : ∀ i, i ≠ 0 → i ≠ ri (G 0) 0 → i ≠ 4 + p / 5 → sNew G G1 p i = G i := fun i h1 h2 h3 => by unfold sNew; rw [un_n h1, un_n h2, ho i h3]
  have ea : sNew G G1 p (4 + p / 5) = 1 := by unfold sNew; rw [un_n (by omega), un_n (by have := ri_ge (G 0) 0; omega), ha]
  have er : ∀ t w, (t ≠ G 0 ∨ w ≠ 0) → w < 6 → sNew G G1 p (ri t w) = G (ri t w) := fun t w h1 h2 => eo _ (by have := ri_ge t w; omega) (fun q => by have := ri_inj h2 (by omega) q; omega) (by have := ri_ge t w; omega)
  have hnl : ¬ sLive G (G 0) := fun q => by have := q.1; omega
  have hl : ∀ t, sLive (sNew G G1 p) t ↔ sLive G t ∨ t = G 0 := by
    intro t
    by_cases q : t = G 0
    · subst q
      unfold sLive
      rw [e0, en]
      exact ⟨fun _ => Or.inr rfl, fun _ => ⟨by omega, by omega⟩⟩
    · unfold sLive
      rw [e0, er t 0 (Or.inl q) (by omega)]
      constructor
      · rintro ⟨h1, h2⟩
        exact Or.inl ⟨by omega, h2⟩
      · rintro (⟨h1, h2⟩ | h1)
        · exact ⟨by omega, h2⟩
        · exact absurd h1 q
  have hho : ∀ t, t ≠ G 0 → sHome (sNew G G1 p) t = sHome G t := fun t q => by unfold sHome; rw [er t 0 (Or.inl q) (by omega)]
  have hhn : sHome (sNew G G1 p) (G 0) = p / 5 := by unfold sHome; rw [en]; omega
  have hag : ∀ t, sLive G t → sAge (sNew G G1 p) t = sAge G t := by
    intro t ht
    have q : t ≠ G 0 := by have := ht.1; omega
    unfold sAge
    rw [hho t q]
    have h8 := hI.ho (hI.lt ht)
    by_cases c : 4 + sHome G t = 4 + p / 5
    · rw [c, ea]
      have hg := hI.g ht
      unfold sAge at hg
      rw [c] at hg
      omega
    · exact eo _ (by omega) (by have := ri_ge (G 0) 0; omega) c
  have hagn : sAge (sNew G G1 p) (G 0) = 1 := by unfold sAge; rw [hhn, ea]
  refine ⟨⟨by rw [e0]; omega, fun t w a b c => ?_, fun t a => ?_, fun k a => ?_, fun k a => ?_, fun t k a b => ?_, fun t u a b c => ?_, fun t a => ?_, fun t a => ?_⟩, hl, hho, hhn, hag, hagn⟩
  · rw [e0] at c
    rw [er t w (Or.inl (by omega)) b]
    exact hI.z a b (by omega)
  · by_cases q : t = G 0
    · rw [q, en]
      omega
    · rw [er t 0 (Or.inl q) (by omega)]
      exact hI.l a
  · by_cases q : 4 + k = 4 + p / 5
    · rw [q, ea]
      omega
    · rw [eo _ (by omega) (by have := ri_ge (G 0) 0; omega) q]
      exact hI.a a
  · rw [eo _ (by omega) (by have := ri_ge (G 0) 0; omega) (by omega)]
    exact ⟨(hI.h a).1, fun q => (hl _).mpr (Or.inl ((hI.h a).2 q))⟩
  · rw [er t _ (Or.inr (by omega)) (by omega)]
    exact ⟨(hI.t a b).1, fun q => ⟨(hl _).mpr (Or.inl ((hI.t a b).2 q).1), (hl _).mpr (Or.inl ((hI.t a b).2 q).2)⟩⟩
  · rcases (hl t).mp a with a | a
    · have q1 : t ≠ G 0 := by have := a.1; omega
      rcases (hl u).mp b with b | b
      · have q2 : u ≠ G 0 := by have := b.1; omega
        rw [er t 0 (Or.inl q1) (by omega), er u 0 (Or.inl q2) (by omega)] at c
        exact hI.d a b c
      · rw [b, en, er t 0 (Or.inl q1) (by omega)] at c
        exact absurd c (he t a.1)
    · rcases (hl u).mp b with b | b
      · have q2 : u ≠ G 0 := by have := b.1; omega
        rw [a, en, er u 0 (Or.inl q2) (by omega)] at c
        exact absurd c.symm (he u b.1)
      · rw [a, b]
  · rcases (hl t).mp a with a | a
    · rw [hag t a]
      exact hI.g a
    · rw [a, hagn]
      omega
  · rw [er t 1 (Or.inr (by omega)) (by omega)]
    exact ⟨(hI.p a).1, fun q => (hl _).mpr (Or.inl ((hI.p a).2 q))⟩
