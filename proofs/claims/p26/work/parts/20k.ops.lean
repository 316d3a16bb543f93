/-! what each change answers, and the row then -/
noncomputable def pThing (G : Nat → Nat) : Int32 × (Nat → Nat) := match sRoom G 1 with
  | none => (xE2, G)
  | some (p, G1) => if G 0 = 30 then (xE3, G) else (nI (G 0), sNew G G1 p)
noncomputable def pHold (G : Nat → Nat) (x y : Int32) : Int32 × (Nat → Nat) := if cd (∃ h t, h < 4 ∧ sLive G t ∧ x = nI h ∧ y = nI t) = true then (nI (cnt (fun k => 0 < un G (12 + x.toInt.toNat) (y.toInt.toNat + 1) (12 + k)) 4), un G (12 + x.toInt.toNat) (y.toInt.toNat + 1)) else (xE1, G)
noncomputable def pRelease (G : Nat → Nat) (x : Int32) : Int32 × (Nat → Nat) := if cd (∃ h, h < 4 ∧ x = nI h) = true then (if G (12 + x.toInt.toNat) = 0 then (xE2, G) else (nI (G (12 + x.toInt.toNat) - 1), un G (12 + x.toInt.toNat) 0)) else (xE1, G)
noncomputable def pTie (G : Nat → Nat) (x y z : Int32) : Int32 × (Nat → Nat) := if cd (∃ t s u, sLive G t ∧ s < 3 ∧ sLive G u ∧ x = nI t ∧ y = nI s ∧ z = nI u) = true then (if sAge G z.toInt.toNat < sAge G x.toInt.toNat then nI 1 else nI 0, un G (ri x.toInt.toNat (2 + y.toInt.toNat)) (z.toInt.toNat + 1)) else (xE1, G)
noncomputable def pLoosen (G : Nat → Nat) (x y : Int32) : Int32 × (Nat → Nat) := if cd (∃ t s, sLive G t ∧ s < 3 ∧ x = nI t ∧ y = nI s) = true then (if G (ri x.toInt.toNat (2 + y.toInt.toNat)) = 0 then (xE2, G) else (nI (G (ri x.toInt.toNat (2 + y.toInt.toNat)) - 1), un G (ri x.toInt.toNat (2 + y.toInt.toNat)) 0)) else (xE1, G)
noncomputable def pPin (G : Nat → Nat) (x : Int32) (b : Nat) : Int32 × (Nat → Nat) := if cd (∃ t, sLive G t ∧ x = nI t) = true then (if G (ri x.toInt.toNat 1) = b then (xE2, G) else (nI (cnt (sPin (un G (ri x.toInt.toNat 1) b)) 30), un G (ri x.toInt.toNat 1) b)) else (xE1, G)
noncomputable def pWinter (G : Nat → Nat) (x : Int32) : Int32 × (Nat → Nat) := if cd (∃ a, a < 2 ∧ x = nI a) = true then (match sWin G x.toInt.toNat with
  | none => (xE2, G)
  | some G' => (nI (cnt (sGone G x.toInt.toNat) 30), G')) else (xE1, G)
noncomputable def pFull (G : Nat → Nat) : Int32 × (Nat → Nat) := (nI (cnt (sForg G) 30), sFull G)
theorem tN {n : Nat} (h : n < 2147483648) : (nI n).toInt.toNat = n := by rw [tI_n h]; omega
theorem pThing_2 {G : Nat → Nat} (h : sRoom G 1 = none) : pThing G = (xE2, G) := by unfold pThing; rw [h]
theorem pThing_3 {G : Nat → Nat} (h : sRoom G 1 ≠ none) (hc : G 0 = 30) : pThing G = (xE3, G) := by
  unfold pThing
  cases hr : sRoom G 1 with
  | none => exact absurd hr h
  | some q => obtain ⟨p, G1⟩ := q; exact if_pos hc
theorem pThing_0 {G G1 : Nat → Nat} {p : Nat} (h : sRoom G 1 = some (p, G1)) (hc : G 0 < 30) : pThing G = (nI (G 0), sNew G G1 p) := by
  unfold pThing
  rw [h]
  exact if_neg (by omega)
theorem pHold_0 {G : Nat → Nat} {h t : Nat} (hI : sInv G) (hh : h < 4) (ht : sLive G t) : pHold G (nI h) (nI t) = (nI (cnt (fun k => 0 < un G (12 + h) (t + 1) (12 + k)) 4), un G (12 + h) (t + 1)) := by
  have := hI.lt ht
  unfold pHold
  rw [if_pos (cd_t.mpr ⟨h, t, hh, ht, rfl, rfl⟩), tN (by omega), tN (by omega)]
theorem pHold_1 {G : Nat → Nat} {x y : Int32} (h : ¬ ∃ h t, h < 4 ∧ sLive G t ∧ x = nI h ∧ y = nI t) : pHold G x y = (xE1, G) := if_neg (fun q => h (cd_t.mp q))
theorem pRelease_0 {G : Nat → Nat} {h : Nat} (hh : h < 4) (h0 : 0 < G (12 + h)) : pRelease G (nI h) = (nI (G (12 + h) - 1), un G (12 + h) 0) := by
  unfold pRelease
  rw [if_pos (cd_t.mpr ⟨h, hh, rfl⟩), tN (by omega), if_neg (by omega)]
theorem pRelease_2 {G : Nat → Nat} {h : Nat} (hh : h < 4) (h0 : G (12 + h) = 0) : pRelease G (nI h) = (xE2, G) := by
  unfold pRelease
  rw [if_pos (cd_t.mpr ⟨h, hh, rfl⟩), tN (by omega), if_pos h0]
theorem pRelease_1 {G : Nat → Nat} {x : Int32} (h : ∀ h, h < 4 → x ≠ nI h) : pRelease G x = (xE1, G) := if_neg (fun q => by obtain ⟨k, h1, h2⟩ := cd_t.mp q; exact h k h1 h2)
theorem pTie_0 {G : Nat → Nat} {t s u : Nat} (hI : sInv G) (ht : sLive G t) (hs : s < 3) (hu : sLive G u) : pTie G (nI t) (nI s) (nI u) = (if sAge G u < sAge G t then nI 1 else nI 0, un G (ri t (2 + s)) (u + 1)) := by
  have := hI.lt ht
  have := hI.lt hu
  unfold pTie
  rw [if_pos (cd_t.mpr ⟨t, s, u, ht, hs, hu, rfl, rfl, rfl⟩), tN (by omega), tN (by omega), tN (by omega)]
theorem pTie_1 {G : Nat → Nat} {x y z : Int32} (h : ¬ ∃ t s u, sLive G t ∧ s < 3 ∧ sLive G u ∧ x = nI t ∧ y = nI s ∧ z = nI u) : pTie G x y z = (xE1, G) := if_neg (fun q => h (cd_t.mp q))
theorem pLoosen_0 {G : Nat → Nat} {t s : Nat} (hI : sInv G) (ht : sLive G t) (hs : s < 3) (h0 : 0 < G (ri t (2 + s))) : pLoosen G (nI t) (nI s) = (nI (G (ri t (2 + s)) - 1), un G (ri t (2 + s)) 0) := by
  have := hI.lt ht
  unfold pLoosen
  rw [if_pos (cd_t.mpr ⟨t, s, ht, hs, rfl, rfl⟩), tN (by omega), tN (by omega), if_neg (by omega)]
theorem pLoosen_2 {G : Nat → Nat} {t s : Nat} (hI : sInv G) (ht : sLive G t) (hs : s < 3) (h0 : G (ri t (2 + s)) = 0) : pLoosen G (nI t) (nI s) = (xE2, G) := by
  have := hI.lt ht
  unfold pLoosen
  rw [if_pos (cd_t.mpr ⟨t, s, ht, hs, rfl, rfl⟩), tN (by omega), tN (by omega), if_pos h0]
theorem pLoosen_1 {G : Nat → Nat} {x y : Int32} (h : ¬ ∃ t s, sLive G t ∧ s < 3 ∧ x = nI t ∧ y = nI s) : pLoosen G x y = (xE1, G) := if_neg (fun q => h (cd_t.mp q))
theorem pPin_0 {G : Nat → Nat} {t b : Nat} (hI : sInv G) (ht : sLive G t) (h0 : G (ri t 1) ≠ b) : pPin G (nI t) b = (nI (cnt (sPin (un G (ri t 1) b)) 30), un G (ri t 1) b) := by
  have := hI.lt ht
  unfold pPin
  rw [if_pos (cd_t.mpr ⟨t, ht, rfl⟩), tN (by omega), if_neg h0]
theorem pPin_2 {G : Nat → Nat} {t b : Nat} (hI : sInv G) (ht : sLive G t) (h0 : G (ri t 1) = b) : pPin G (nI t) b = (xE2, G) := by
  have := hI.lt ht
  unfold pPin
  rw [if_pos (cd_t.mpr ⟨t, ht, rfl⟩), tN (by omega), if_pos h0]
theorem pPin_1 {G : Nat → Nat} {x : Int32} {b : Nat} (h : ∀ t, sLive G t → x ≠ nI t) : pPin G x b = (xE1, G) := if_neg (fun q => by obtain ⟨k, h1, h2⟩ := cd_t.mp q; exact h k h1 h2)
theorem pWinter_0 {G G' : Nat → Nat} {a : Nat} (ha : a < 2) (h : sWin G a = some G') : pWinter G (nI a) = (nI (cnt (sGone G a) 30), G') := by
  unfold pWinter
  rw [if_pos (cd_t.mpr ⟨a, ha, rfl⟩), tN (by omega), h]
theorem pWinter_2 {G : Nat → Nat} {a : Nat} (ha : a < 2) (h : sWin G a = none) : pWinter G (nI a) = (xE2, G) := by
  unfold pWinter
  rw [if_pos (cd_t.mpr ⟨a, ha, rfl⟩), tN (by omega), h]
theorem pWinter_1 {G : Nat → Nat} {x : Int32} (h : ∀ a, a < 2 → x ≠ nI a) : pWinter G x = (xE1, G) := if_neg (fun q => by obtain ⟨k, h1, h2⟩ := cd_t.mp q; exact h k h1 h2)
/-- the history, in what lies behind the row: a state comes -/
def hrec (st : Nat) (Z G : Nat → Nat) (st' : Nat) (Z' : Nat → Nat) : Prop := st' = min (st + 1) 4 ∧ (∀ i, i < 196 → Z' (196 * st' + i) = G i) ∧ ∀ s, s + 1 < st' → ∀ i, i < 196 → Z' (196 + 196 * s + i) = Z (196 + 196 * (s + (st + 1 - st')) + i)
theorem hrec_congr {st st' : Nat} {Z Z1 G Z' : Nat → Nat} (hst : st ≤ 4) (h : hrec st Z1 G st' Z') (hz : ∀ i, i < 980 → Z1 i = Z i) : hrec st Z G st' Z' := by
  obtain ⟨h1, h2, h3⟩ := h
  refine ⟨h1, h2, fun s hs i hi => ?_⟩
  rw [h3 s hs i hi, hz _ (by omega)]
/-- behind a change, or behind an error -/
def mPost (st : Nat) (Z G : Nat → Nat) (ans : Int32) (st' : Nat) (Z' : Nat → Nat) : Prop := (0 ≤ ans.toInt → hrec st Z G st' Z') ∧ (ans.toInt < 0 → st' = st ∧ ∀ i, i < 980 → Z' i = Z i)
theorem mPost_e {st : Nat} {Z G Z' : Nat → Nat} {ans : Int32} (h : ans.toInt < 0) (hz : ∀ i, i < 980 → Z' i = Z i) : mPost st Z G ans st Z' := ⟨fun q => by omega, fun _ => ⟨rfl, hz⟩⟩
theorem mPost_c {st st' : Nat} {Z G Z' : Nat → Nat} {n : Nat} (hn : n < 2147483648) (h : hrec st Z G st' Z') : mPost st Z G (nI n) st' Z' := ⟨fun _ => h, fun q => by rw [tI_n hn] at q; omega⟩
theorem cnt_sub {P R : Nat → Prop} : ∀ n, (∀ t, t < n → R t → P t) → cnt (fun t => P t ∧ ¬ R t) n + cnt R n = cnt P n := by
  intro n
  induction n with
  | zero => intro _; rfl
  | succ n ih =>
    intro h
    have h1 := ih (fun t ht => h t (by omega))
    simp only [cnt]
    by_cases hp : P n
    · by_cases hr : R n
      · rw [if_neg (fun q => (cd_t.mp q).2 hr), if_pos (cd_t.mpr hr), if_pos (cd_t.mpr hp)]
        omega
      · rw [if_pos (cd_t.mpr ⟨hp, hr⟩), if_neg (fun q => hr (cd_t.mp q)), if_pos (cd_t.mpr hp)]
        omega
    · have hr : ¬ R n := fun q => hp (h n (by omega) q)
      rw [if_neg (fun q => hp (cd_t.mp q).1), if_neg (fun q => hr (cd_t.mp q)), if_neg (fun q => hp (cd_t.mp q))]
      omega
