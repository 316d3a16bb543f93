/-! each change keeps what always holds -/
theorem pThing_inv {G : Nat → Nat} (hI : sInv G) : sInv (pThing G).2 := by
  unfold pThing
  split
  · exact hI
  · next p G1 h =>
    split
    · exact hI
    · exact (sInv_new hI (by have := hI.c; omega) h).1
theorem pHold_inv {G : Nat → Nat} {x y : Int32} (hI : sInv G) : sInv (pHold G x y).2 := by
  by_cases h : ∃ h t, h < 4 ∧ sLive G t ∧ x = nI h ∧ y = nI t
  · obtain ⟨a, t, ha, ht, rfl, rfl⟩ := h
    rw [pHold_0 hI ha ht]
    exact (sInv_hand (x := t + 1) hI ha (by have := hI.lt ht; omega) (fun _ => ht)).1
  · rw [pHold_1 h]
    exact hI
theorem pRelease_inv {G : Nat → Nat} {x : Int32} (hI : sInv G) : sInv (pRelease G x).2 := by
  by_cases h : ∃ h, h < 4 ∧ x = nI h
  · obtain ⟨a, ha, rfl⟩ := h
    by_cases h0 : G (12 + a) = 0
    · rw [pRelease_2 ha h0]
      exact hI
    · rw [pRelease_0 ha (by omega)]
      exact (sInv_hand hI ha (by omega) (fun q => by omega)).1
  · rw [pRelease_1 (fun a ha e => h ⟨a, ha, e⟩)]
    exact hI
theorem pTie_inv {G : Nat → Nat} {x y z : Int32} (hI : sInv G) : sInv (pTie G x y z).2 := by
  by_cases h : ∃ t s u, sLive G t ∧ s < 3 ∧ sLive G u ∧ x = nI t ∧ y = nI s ∧ z = nI u
  · obtain ⟨t, s, u, ht, hs, hu, rfl, rfl, rfl⟩ := h
    rw [pTie_0 hI ht hs hu]
    exact (sInv_tie (x := u + 1) hI ht hs (by have := hI.lt hu; omega) (fun _ => hu)).1
  · rw [pTie_1 h]
    exact hI
theorem pLoosen_inv {G : Nat → Nat} {x y : Int32} (hI : sInv G) : sInv (pLoosen G x y).2 := by
  by_cases h : ∃ t s, sLive G t ∧ s < 3 ∧ x = nI t ∧ y = nI s
  · obtain ⟨t, s, ht, hs, rfl, rfl⟩ := h
    by_cases h0 : G (ri t (2 + s)) = 0
    · rw [pLoosen_2 hI ht hs h0]
      exact hI
    · rw [pLoosen_0 hI ht hs (by omega)]
      exact (sInv_tie hI ht hs (by omega) (fun q => by omega)).1
  · rw [pLoosen_1 h]
    exact hI
theorem pPin_inv {G : Nat → Nat} {x : Int32} {b : Nat} (hb : b ≤ 1) (hI : sInv G) : sInv (pPin G x b).2 := by
  by_cases h : ∃ t, sLive G t ∧ x = nI t
  · obtain ⟨t, ht, rfl⟩ := h
    by_cases h0 : G (ri t 1) = b
    · rw [pPin_2 hI ht h0]
      exact hI
    · rw [pPin_0 hI ht h0]
      exact (sInv_pin hI ht hb).1
  · rw [pPin_1 (fun a ha e => h ⟨a, ha, e⟩)]
    exact hI
theorem pWinter_inv {G : Nat → Nat} {x : Int32} (hI : sInv G) : sInv (pWinter G x).2 := by
  by_cases h : ∃ a, a < 2 ∧ x = nI a
  · obtain ⟨a, ha, rfl⟩ := h
    cases hw : sWin G a with
    | none => rw [pWinter_2 ha hw]; exact hI
    | some G' => rw [pWinter_0 ha hw]; exact (sWin_inv hI ha hw).1
  · rw [pWinter_1 (fun a ha e => h ⟨a, ha, e⟩)]
    exact hI
theorem pFull_inv {G : Nat → Nat} (hI : sInv G) : sInv (pFull G).2 := (sFull_inv hI).1
/-! texts -/
def tC (tx : Nat → Nat) (ln p : Nat) : Nat := if p < ln then tx p else 0
def sDg (tx : Nat → Nat) (ln p : Nat) : Prop := 48 ≤ tC tx ln p ∧ tC tx ln p ≤ 57
noncomputable def sNum (tx : Nat → Nat) (ln p : Nat) : Option (Nat × Nat) := if cd (sDg tx ln p) = true then (if cd (sDg tx ln (p + 1)) = true then some (10 * (tC tx ln p - 48) + (tC tx ln (p + 1) - 48), p + 2) else some (tC tx ln p - 48, p + 1)) else none
noncomputable def sSig (tx : Nat → Nat) (ln c p : Nat) : Option Nat := if tC tx ln p = c then some (p + 1) else none
noncomputable def sArgs (tx : Nat → Nat) (ln : Nat) : Nat → Nat → Nat → (Nat → Nat) → Option ((Nat → Nat) × Nat)
  | 0, _, p, ns => some (ns, p)
  | m + 1, k, p, ns => match (if k = 0 then some p else sSig tx ln 44 p) with
    | none => none
    | some p1 => match sNum tx ln p1 with
      | none => none
      | some (v, p2) => sArgs tx ln m (k + 1) p2 (un ns k v)
def sWant (c : Nat) : Option Nat := if c = 110 ∨ c = 102 then some 0 else if c = 108 ∨ c = 112 ∨ c = 119 then some 1 else if c = 104 ∨ c = 117 then some 2 else if c = 115 then some 3 else none
noncomputable def sOrd (tx : Nat → Nat) (ln p : Nat) : Option (Nat × (Nat → Nat) × Nat) := match sWant (tC tx ln p) with
  | none => none
  | some w => match sArgs tx ln w 0 (p + 1) (fun _ => 0) with
    | none => none
    | some (ns, p1) => match sSig tx ln 59 p1 with
      | none => none
      | some p2 => some (tC tx ln p, ns, p2)
noncomputable def sDo (G : Nat → Nat) (le : Nat) (ns : Nat → Nat) : Int32 × (Nat → Nat) := if le = 110 then pThing G else if le = 104 then pHold G (nI (ns 0)) (nI (ns 1)) else if le = 108 then pRelease G (nI (ns 0)) else if le = 115 then pTie G (nI (ns 0)) (nI (ns 1)) (nI (ns 2)) else if le = 117 then pLoosen G (nI (ns 0)) (nI (ns 1)) else if le = 112 then pPin G (nI (ns 0)) 1 else if le = 119 then pWinter G (nI (ns 0)) else pFull G
theorem sDo_inv {G : Nat → Nat} {le : Nat} {ns : Nat → Nat} (hI : sInv G) : sInv (sDo G le ns).2 := by
  unfold sDo
  split
  · exact pThing_inv hI
  · split
    · exact pHold_inv hI
    · split
      · exact pRelease_inv hI
      · split
        · exact pTie_inv hI
        · split
          · exact pLoosen_inv hI
          · split
            · exact pPin_inv (by omega) hI
            · split
              · exact pWinter_inv hI
              · exact pFull_inv hI
theorem sDo_congr {G : Nat → Nat} {le w : Nat} {ns ns' : Nat → Nat} (hw : sWant le = some w) (h : ∀ i, i < w → ns i = ns' i) : sDo G le ns = sDo G le ns' := by
  unfold sWant at hw
  unfold sDo
  split
  · rfl
  · next h1 =>
    split
    · next e =>
      subst e
      rw [if_neg (by omega), if_neg (by omega), if_pos (by omega)] at hw
      cases hw
      rw [h 0 (by omega), h 1 (by omega)]
    · split
      · next e =>
        subst e
        rw [if_neg (by omega), if_pos (by omega)] at hw
        cases hw
        rw [h 0 (by omega)]
      · split
        · next e =>
          subst e
          rw [if_neg (by omega), if_neg (by omega), if_neg (by omega), if_pos rfl] at hw
          cases hw
          rw [h 0 (by omega), h 1 (by omega), h 2 (by omega)]
        · split
          · next e =>
            subst e
            rw [if_neg (by omega), if_neg (by omega), if_pos (by omega)] at hw
            cases hw
            rw [h 0 (by omega), h 1 (by omega)]
          · split
            · next e =>
              subst e
              rw [if_neg (by omega), if_pos (by omega)] at hw
              cases hw
              rw [h 0 (by omega)]
            · split
              · next e =>
                subst e
                rw [if_neg (by omega), if_pos (by omega)] at hw
                cases hw
                rw [h 0 (by omega)]
              · rfl
theorem sNum_le {tx : Nat → Nat} {ln p v p' : Nat} (h : sNum tx ln p = some (v, p')) : p < p' ∧ p' ≤ p + 2 ∧ v ≤ 99 := by
  unfold sNum at h
  split at h
  · next h1 =>
    have h1 := cd_t.mp h1
    unfold sDg at h1
    split at h
    · next h2 =>
      have h2 := cd_t.mp h2
      unfold sDg at h2
      cases h
      omega
    · cases h
      omega
  · cases h
theorem sSig_le {tx : Nat → Nat} {ln c p p' : Nat} (hc : 0 < c) (h : sSig tx ln c p = some p') : p' = p + 1 ∧ p < ln := by
  unfold sSig at h
  by_cases h1 : tC tx ln p = c
  · rw [if_pos h1] at h
    cases h
    refine ⟨rfl, ?_⟩
    unfold tC at h1
    by_cases h2 : p < ln
    · exact h2
    · rw [if_neg h2] at h1
      omega
  · rw [if_neg h1] at h
    cases h
theorem sArgs_le {tx : Nat → Nat} {ln : Nat} : ∀ m k p ns ns' p', sArgs tx ln m k p ns = some (ns', p') → p ≤ p' ∧ ∀ i, (∀ j, ns j ≤ 99) → ns' i ≤ 99 := by
  intro m
  induction m with
  | zero =>
    intro k p ns ns' p' h
    cases h
    exact ⟨Nat.le_refl _, fun i q => q i⟩
  | succ m ih =>
    intro k p ns ns' p' h
    unfold sArgs at h
    split at h
    · cases h
    · next p1 hp1 =>
      have h1 : p ≤ p1 := by
        split at hp1
        · cases hp1; exact Nat.le_refl _
        · have := sSig_le (by omega) hp1
          omega
      split at h
      · cases h
      · next v p2 hn =>
        have h2 := sNum_le hn
        have h3 := ih _ _ _ _ _ h
        refine ⟨by omega, fun i q => h3.2 i (fun j => ?_)⟩
        unfold un
        split
        · exact h2.2.2
        · exact q j
theorem sOrd_le {tx : Nat → Nat} {ln p le p' : Nat} {ns : Nat → Nat} (h : sOrd tx ln p = some (le, ns, p')) : p + 2 ≤ p' ∧ p' ≤ ln ∧ le = tC tx ln p ∧ ∃ w, sWant le = some w := by
  unfold sOrd at h
  split at h
  · cases h
  · next w hw =>
    split at h
    · cases h
    · next ns1 p1 ha =>
      have h1 := (sArgs_le _ _ _ _ _ _ ha).1
      split at h
      · cases h
      · next p2 hs =>
        have h2 := sSig_le (by omega) hs
        cases h
        exact ⟨by omega, by omega, rfl, w, hw⟩
/-- the orders of a text: the reason of the fault (0: none), its position, how many were done, the row -/
noncomputable def sGo (tx : Nat → Nat) (ln : Nat) : Nat → Nat → Nat → (Nat → Nat) → Nat × Nat × Nat × (Nat → Nat)
  | 0, p, c, G => (0, p, c, G)
  | f + 1, p, c, G => if p < ln then (match sOrd tx ln p with
    | none => (1, p, c, G)
    | some (le, ns, p') => if 0 ≤ (sDo G le ns).1.toInt then sGo tx ln f p' (c + 1) (sDo G le ns).2 else (if (sDo G le ns).1.toInt = -1000001 then 2 else 3, p, c, G)) else (0, p, c, G)
noncomputable def pPlay (tx : Nat → Nat) (ln : Nat) (G : Nat → Nat) : Int32 × (Nat → Nat) := if (sGo tx ln 61 0 0 G).1 = 0 then (nI (sGo tx ln 61 0 0 G).2.2.1, (sGo tx ln 61 0 0 G).2.2.2) else (xE2, G)
noncomputable def qFault (tx : Nat → Nat) (ln : Nat) (G : Nat → Nat) (w : Nat) : Int32 := if (sGo tx ln 61 0 0 G).1 = 0 then xE4 else if w = 0 then nI (sGo tx ln 61 0 0 G).2.1 else nI (sGo tx ln 61 0 0 G).1
theorem sGo_s {tx : Nat → Nat} {ln f p c le p' : Nat} {G ns : Nat → Nat} (hp : p < ln) (h : sOrd tx ln p = some (le, ns, p')) (ha : 0 ≤ (sDo G le ns).1.toInt) : sGo tx ln (f + 1) p c G = sGo tx ln f p' (c + 1) (sDo G le ns).2 := by
  simp only [sGo, if_pos hp, h, if_pos ha]
theorem sGo_1 {tx : Nat → Nat} {ln f p c : Nat} {G : Nat → Nat} (hp : p < ln) (h : sOrd tx ln p = none) : sGo tx ln (f + 1) p c G = (1, p, c, G) := by
  simp only [sGo, if_pos hp, h]
theorem sGo_2 {tx : Nat → Nat} {ln f p c le p' : Nat} {G ns : Nat → Nat} (hp : p < ln) (h : sOrd tx ln p = some (le, ns, p')) (ha : ¬ 0 ≤ (sDo G le ns).1.toInt) (h1 : (sDo G le ns).1.toInt = -1000001) : sGo tx ln (f + 1) p c G = (2, p, c, G) := by
  simp only [sGo, if_pos hp, h, if_neg ha, if_pos h1]
theorem sGo_3 {tx : Nat → Nat} {ln f p c le p' : Nat} {G ns : Nat → Nat} (hp : p < ln) (h : sOrd tx ln p = some (le, ns, p')) (ha : ¬ 0 ≤ (sDo G le ns).1.toInt) (h1 : ¬ (sDo G le ns).1.toInt = -1000001) : sGo tx ln (f + 1) p c G = (3, p, c, G) := by
  simp only [sGo, if_pos hp, h, if_neg ha, if_neg h1]
theorem sGo_e {tx : Nat → Nat} {ln f p c : Nat} {G : Nat → Nat} (hp : ¬ p < ln) : sGo tx ln f p c G = (0, p, c, G) := by
  cases f with
  | zero => rfl
  | succ f => simp only [sGo, if_neg hp]
theorem sGo_inv {tx : Nat → Nat} {ln : Nat} : ∀ f p c G, sInv G → p ≤ ln → sInv (sGo tx ln f p c G).2.2.2 ∧ (sGo tx ln f p c G).1 ≤ 3 ∧ (sGo tx ln f p c G).2.1 ≤ ln ∧ 2 * (sGo tx ln f p c G).2.2.1 + p ≤ ln + 2 * c := by
  intro f
  induction f with
  | zero => exact fun p c G hI hp => ⟨hI, Nat.zero_le _, hp, by show 2 * c + p ≤ _; omega⟩
  | succ f ih =>
    intro p c G hI hp
    by_cases h : p < ln
    · cases ho : sOrd tx ln p with
      | none => rw [sGo_1 h ho]; exact ⟨hI, by show 1 ≤ 3; omega, hp, by show 2 * c + p ≤ _; omega⟩
      | some q =>
        obtain ⟨le, ns, p'⟩ := q
        have hle := sOrd_le ho
        by_cases ha : 0 ≤ (sDo G le ns).1.toInt
        · rw [sGo_s h ho ha]
          have h1 := ih p' (c + 1) _ (sDo_inv (le := le) (ns := ns) hI) hle.2.1
          exact ⟨h1.1, h1.2.1, h1.2.2.1, by omega⟩
        · by_cases h1 : (sDo G le ns).1.toInt = -1000001
          · rw [sGo_2 h ho ha h1]; exact ⟨hI, by show 2 ≤ 3; omega, hp, by show 2 * c + p ≤ _; omega⟩
          · rw [sGo_3 h ho ha h1]; exact ⟨hI, Nat.le_refl 3, hp, by show 2 * c + p ≤ _; omega⟩
    · rw [sGo_e h]; exact ⟨hI, Nat.zero_le _, hp, by show 2 * c + p ≤ _; omega⟩
theorem pPlay_inv {tx : Nat → Nat} {ln : Nat} {G : Nat → Nat} (hI : sInv G) : sInv (pPlay tx ln G).2 := by
  unfold pPlay
  split
  · exact (sGo_inv 61 0 0 G hI (Nat.zero_le _)).1
  · exact hI
/-- a text: characters from 32 to 126 -/
def tOk (tx : Nat → Nat) (ln : Nat) : Prop := ln ≤ 60 ∧ ∀ i, i < ln → 32 ≤ tx i ∧ tx i ≤ 126
theorem tC_le {tx : Nat → Nat} {ln : Nat} (h : tOk tx ln) (p : Nat) : tC tx ln p ≤ 126 := by
  unfold tC
  split
  · next hp => exact (h.2 p hp).2
  · omega
theorem tOk_type {tx : Nat → Nat} {ln c : Nat} (h : tOk tx ln) (hl : ln < 60) (h1 : 32 ≤ c) (h2 : c ≤ 126) : tOk (un tx ln c) (ln + 1) := by
  refine ⟨by omega, fun i hi => ?_⟩
  unfold un
  split
  · exact ⟨h1, h2⟩
  · exact h.2 i (by omega)
