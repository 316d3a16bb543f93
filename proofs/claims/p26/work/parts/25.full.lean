/-! a house that has an age has things in it -/
def sFul (G : Nat → Nat) : Prop := ∀ h, h < 8 → 0 < G (4 + h) → ∃ t, sLive G t ∧ sHome G t = h
theorem sFul_light {G G' : Nat → Nat} (h : sFul G) (ha : ∀ k, k < 8 → G' (4 + k) = G (4 + k)) (hl : ∀ t, sLive G' t ↔ sLive G t) (ho : ∀ t, sHome G' t = sHome G t) : sFul G' := by
  intro k hk h0
  rw [ha k hk] at h0
  obtain ⟨t, h1, h2⟩ := h k hk h0
  exact ⟨t, (hl t).mpr h1, (ho t).trans h2⟩
theorem sFul_lose {G : Nat → Nat} {P : Nat → Prop} (hI : sInv G) : sFul (sLose G P) := by
  intro k hk h0
  have hc := hI.c
  unfold sLose sFree at h0
  split at h0
  · omega
  · next h1 =>
    refine Classical.byContradiction fun hn => h1 (cd_t.mpr ⟨by omega, by omega, fun q hq t ht e => hn ?_⟩)
    rw [show 4 + k - 4 = k by omega] at e
    have e2 : sLose G P (ri t 0) = 5 * k + q + 1 := by rw [sLose_r (by have := ri_ge t 0; omega)]; exact e
    have ht2 : t < sLose G P 0 := by
      rw [sLose_o (by omega) hc]
      rwa [sWipe_o (by omega) hc] at ht
    refine ⟨t, ⟨ht2, by rw [e2]; omega⟩, ?_⟩
    unfold sHome
    rw [e2]
    omega
def sGd (G : Nat → Nat) : Prop := sK G ∧ sFul G
theorem pThing_Gd {G : Nat → Nat} (h : sGd G) : sGd (pThing G).2 := by
  refine ⟨pThing_K h.1, ?_⟩
  cases hr : sRoom G 1 with
  | none => rw [pThing_2 hr]; exact h.2
  | some q =>
    obtain ⟨p, G1⟩ := q
    by_cases hc : G 0 = 30
    · rw [pThing_3 (by rw [hr]; exact fun q => by cases q) hc]; exact h.2
    · have hc2 := h.1.1.c
      rw [pThing_0 hr (by omega)]
      obtain ⟨h1, h2, h3, h4, h5, h6⟩ := sInv_new h.1.1 (by omega) hr
      obtain ⟨r1, r2, r3, r4, r5⟩ := sRoom_spec h.1.1 (by omega) hr
      intro k hk h0
      by_cases e : k = p / 5
      · exact ⟨G 0, (h2 _).mpr (Or.inr rfl), by rw [e]; exact h4⟩
      · have e1 : sNew G G1 p (4 + k) = G (4 + k) := by
          unfold sNew
          rw [un_n (by omega), un_n (by have := ri_ge (G 0) 0; omega)]
          exact r4 _ (by omega)
        have h0 : 0 < sNew G G1 p (4 + k) := h0
        rw [e1] at h0
        obtain ⟨t, t1, t2⟩ := h.2 k hk h0
        exact ⟨t, (h2 t).mpr (Or.inl t1), by have := t1.1; exact (h3 t (by omega)).trans t2⟩
theorem pHold_Gd {G : Nat → Nat} {x y : Int32} (h : sGd G) : sGd (pHold G x y).2 := by
  refine ⟨pHold_K h.1, ?_⟩
  by_cases c : ∃ h t, h < 4 ∧ sLive G t ∧ x = nI h ∧ y = nI t
  · obtain ⟨k, t, hk, ht, rfl, rfl⟩ := c
    have := h.1.1.lt ht
    rw [pHold_0 h.1.1 hk ht]
    obtain ⟨-, h2, h3, -⟩ := sInv_hand h.1.1 hk (x := t + 1) (by omega) (fun _ => ht)
    exact sFul_light h.2 (fun k _ => un_n (by omega)) h2 h3
  · rw [pHold_1 c]; exact h.2
theorem pRelease_Gd {G : Nat → Nat} {x : Int32} (h : sGd G) : sGd (pRelease G x).2 := by
  refine ⟨pRelease_K h.1, ?_⟩
  by_cases c : ∃ h, h < 4 ∧ x = nI h
  · obtain ⟨k, hk, rfl⟩ := c
    by_cases h0 : G (12 + k) = 0
    · rw [pRelease_2 hk h0]; exact h.2
    · rw [pRelease_0 hk (by omega)]
      obtain ⟨-, h2, h3, -⟩ := sInv_hand h.1.1 hk (x := 0) (by omega) (fun q => by omega)
      exact sFul_light h.2 (fun k _ => un_n (by omega)) h2 h3
  · rw [pRelease_1 (fun k hk q => c ⟨k, hk, q⟩)]; exact h.2
theorem sFul_ri {G : Nat → Nat} {t w x : Nat} (h : sFul G) (h0 : 0 < w) (hw : w < 6) : sFul (un G (ri t w) x) :=
  sFul_light h (fun k _ => un_n (by have := ri_ge t w; omega)) (fun u => by unfold sLive; rw [un_n (by have := ri_ge t w; omega), un_n (ri_ne (by omega) (by omega) (by omega))]) (fun u => by unfold sHome; rw [un_n (ri_ne (by omega) (by omega) (by omega))])
theorem pTie_Gd {G : Nat → Nat} {x y z : Int32} (h : sGd G) : sGd (pTie G x y z).2 := by
  refine ⟨pTie_K h.1, ?_⟩
  by_cases c : ∃ t s u, sLive G t ∧ s < 3 ∧ sLive G u ∧ x = nI t ∧ y = nI s ∧ z = nI u
  · obtain ⟨t, s, u, ht, hs, hu, rfl, rfl, rfl⟩ := c
    rw [pTie_0 h.1.1 ht hs hu]
    exact sFul_ri h.2 (by omega) (by omega)
  · rw [pTie_1 c]; exact h.2
theorem pLoosen_Gd {G : Nat → Nat} {x y : Int32} (h : sGd G) : sGd (pLoosen G x y).2 := by
  refine ⟨pLoosen_K h.1, ?_⟩
  by_cases c : ∃ t s, sLive G t ∧ s < 3 ∧ x = nI t ∧ y = nI s
  · obtain ⟨t, s, ht, hs, rfl, rfl⟩ := c
    by_cases h0 : G (ri t (2 + s)) = 0
    · rw [pLoosen_2 h.1.1 ht hs h0]; exact h.2
    · rw [pLoosen_0 h.1.1 ht hs (by omega)]
      exact sFul_ri h.2 (by omega) (by omega)
  · rw [pLoosen_1 c]; exact h.2
theorem pPin_Gd {G : Nat → Nat} {x : Int32} {b : Nat} (hb : b ≤ 1) (h : sGd G) : sGd (pPin G x b).2 := by
  refine ⟨pPin_K hb h.1, ?_⟩
  unfold pPin
  split
  · split
    · exact h.2
    · exact sFul_ri h.2 (by omega) (by omega)
  · exact h.2
theorem sFul_cnt {G : Nat → Nat} {k x : Nat} (h : sFul G) (hk : k = 1 ∨ k = 2 ∨ k = 3) : sFul (un G k x) :=
  sFul_light h (fun j _ => un_n (by omega)) (fun u => by unfold sLive; rw [un_n (by omega), un_n (by have := ri_ge u 0; omega)]) (fun u => by unfold sHome; rw [un_n (by have := ri_ge u 0; omega)])
theorem pFull_Gd {G : Nat → Nat} (h : sGd G) : sGd (pFull G).2 := ⟨pFull_K h.1, sFul_cnt (sFul_lose h.1.1) (by omega)⟩
theorem sWin_Gd {G G' : Nat → Nat} {a : Nat} (h : sGd G) (ha : a < 2) (hw : sWin G a = some G') : sGd G' := by
  refine ⟨(sWin_K h.1 ha hw).1, ?_⟩
  obtain ⟨h1, h2, H, hH, rfl⟩ := sWin_inv h.1.1 ha hw
  exact sFul_cnt (sFul_lose (sMv_inv h.1.1 ha (G 0) H (Nat.le_refl _) hH).1) (by omega)
theorem pWinter_Gd {G : Nat → Nat} {x : Int32} (h : sGd G) : sGd (pWinter G x).2 := by
  unfold pWinter
  split
  · next hc =>
    obtain ⟨a, ha, rfl⟩ := cd_t.mp hc
    rw [tN (by omega)]
    split
    · exact h
    · next G' hw => exact sWin_Gd h ha hw
  · exact h
theorem sDo_Gd {G : Nat → Nat} {le : Nat} {ns : Nat → Nat} (h : sGd G) : sGd (sDo G le ns).2 := by
  unfold sDo
  split
  · exact pThing_Gd h
  split
  · exact pHold_Gd h
  split
  · exact pRelease_Gd h
  split
  · exact pTie_Gd h
  split
  · exact pLoosen_Gd h
  split
  · exact pPin_Gd (by omega) h
  split
  · exact pWinter_Gd h
  · exact pFull_Gd h
theorem sGo_Gd {tx : Nat → Nat} {ln : Nat} : ∀ f p c G, sGd G → sGd (sGo tx ln f p c G).2.2.2 := by
  intro f
  induction f with
  | zero => intro p c G h; exact h
  | succ f ih =>
    intro p c G h
    by_cases hp : p < ln
    · cases ho : sOrd tx ln p with
      | none => rw [sGo_1 hp ho]; exact h
      | some q =>
        obtain ⟨le, ns, p'⟩ := q
        by_cases ha : 0 ≤ (sDo G le ns).1.toInt
        · rw [sGo_s hp ho ha]
          exact ih _ _ _ (sDo_Gd h)
        · by_cases h1 : (sDo G le ns).1.toInt = -1000001
          · rw [sGo_2 hp ho ha h1]; exact h
          · rw [sGo_3 hp ho ha h1]; exact h
    · rw [sGo_e hp]; exact h
theorem pPlay_Gd {tx : Nat → Nat} {ln : Nat} {G : Nat → Nat} (h : sGd G) : sGd (pPlay tx ln G).2 := by
  unfold pPlay
  split
  · exact sGo_Gd _ _ _ _ h
  · exact h
