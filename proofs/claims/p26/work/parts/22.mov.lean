/-! moves: their number is the sum of what the things have moved -/
def sumN (f : Nat → Nat) : Nat → Nat
  | 0 => 0
  | n + 1 => sumN f n + f n
theorem sumN_congr {f g : Nat → Nat} : ∀ n, (∀ t, t < n → f t = g t) → sumN f n = sumN g n := by
  intro n
  induction n with
  | zero => intro _; rfl
  | succ n ih =>
    intro h
    show sumN f n + f n = sumN g n + g n
    rw [ih (fun t ht => h t (by omega)), h n (by omega)]
theorem sumN_up {f g : Nat → Nat} {k : Nat} (hk : g k = f k + 1) : ∀ n, k < n → (∀ t, t < n → t ≠ k → g t = f t) → sumN g n = sumN f n + 1 := by
  intro n
  induction n with
  | zero => intro h; omega
  | succ n ih =>
    intro h1 h2
    show sumN g n + g n = sumN f n + f n + 1
    by_cases e : k = n
    · subst e
      rw [sumN_congr (f := g) (g := f) k (fun t ht => h2 t (by omega) (by omega)), hk]
      omega
    · rw [ih (by omega) (fun t ht => h2 t (by omega)), h2 n (by omega) (by omega)]
      omega
theorem sumN_ext {f : Nat → Nat} {n : Nat} (h : ∀ t, n ≤ t → f t = 0) : ∀ d, sumN f (n + d) = sumN f n := by
  intro d
  induction d with
  | zero => rfl
  | succ d ih =>
    show sumN f (n + d) + f (n + d) = _
    rw [ih, h (n + d) (by omega)]
    rfl
def sMov (G : Nat → Nat) : Prop := G 3 = sumN (fun t => G (ri t 5)) 30
theorem sMov_same {G G' : Nat → Nat} (h : sMov G) (h3 : G' 3 = G 3) (h5 : ∀ t, t < 30 → G' (ri t 5) = G (ri t 5)) : sMov G' := by
  unfold sMov at *
  rw [h3, h]
  exact sumN_congr 30 (fun t ht => (h5 t ht).symm)
theorem sMov_un {G : Nat → Nat} {k x : Nat} (h : sMov G) (h3 : k ≠ 3) (h5 : ∀ t, k ≠ ri t 5) : sMov (un G k x) :=
  sMov_same h (un_n (fun q => h3 q.symm)) (fun t _ => un_n (fun q => h5 t q.symm))
def sK (G : Nat → Nat) : Prop := sInv G ∧ sMov G
theorem sMov_room {G G1 : Nat → Nat} {b p : Nat} (h : sMov G) (hr : sRoom G b = some (p, G1)) : sMov G1 :=
  sMov_same h (sRoom_hi hr (by omega)) (fun t _ => sRoom_hi hr (by have := ri_ge t 5; omega))
theorem pThing_K {G : Nat → Nat} (h : sK G) : sK (pThing G).2 := by
  refine ⟨pThing_inv h.1, ?_⟩
  unfold pThing
  split
  · exact h.2
  · next p G1 hr =>
    split
    · exact h.2
    · have h1 := sMov_room h.2 hr
      unfold sNew
      exact sMov_un (sMov_un h1 (by have := ri_ge (G 0) 0; omega) (fun t => ri_ne (by omega) (by omega) (by omega))) (by omega) (fun t => by have := ri_ge t 5; omega)
theorem pHold_K {G : Nat → Nat} {x y : Int32} (h : sK G) : sK (pHold G x y).2 := by
  refine ⟨pHold_inv h.1, ?_⟩
  unfold pHold
  split
  · next hc =>
    obtain ⟨k, t, hk, ht, rfl, rfl⟩ := cd_t.mp hc
    have := h.1.lt ht
    dsimp only
    rw [tN (by omega), tN (by omega)]
    exact sMov_un h.2 (by omega) (fun u => by have := ri_ge u 5; omega)
  · exact h.2
theorem pRelease_K {G : Nat → Nat} {x : Int32} (h : sK G) : sK (pRelease G x).2 := by
  refine ⟨pRelease_inv h.1, ?_⟩
  unfold pRelease
  split
  · next hc =>
    obtain ⟨k, hk, rfl⟩ := cd_t.mp hc
    split
    · exact h.2
    · dsimp only
      rw [tN (by omega)]
      exact sMov_un h.2 (by omega) (fun u => by have := ri_ge u 5; omega)
  · exact h.2
theorem sMov_ri {G : Nat → Nat} {t w x : Nat} (h : sMov G) (hw : w < 5) : sMov (un G (ri t w) x) :=
  sMov_un h (by have := ri_ge t w; omega) (fun u => ri_ne (by omega) (by omega) (by omega))
theorem pTie_K {G : Nat → Nat} {x y z : Int32} (h : sK G) : sK (pTie G x y z).2 := by
  refine ⟨pTie_inv h.1, ?_⟩
  unfold pTie
  split
  · next hc =>
    obtain ⟨t, s, u, ht, hs, hu, rfl, rfl, rfl⟩ := cd_t.mp hc
    dsimp only
    rw [tN (n := s) (by omega)]
    exact sMov_ri h.2 (by omega)
  · exact h.2
theorem pLoosen_K {G : Nat → Nat} {x y : Int32} (h : sK G) : sK (pLoosen G x y).2 := by
  refine ⟨pLoosen_inv h.1, ?_⟩
  unfold pLoosen
  split
  · next hc =>
    obtain ⟨t, s, ht, hs, rfl, rfl⟩ := cd_t.mp hc
    split
    · exact h.2
    · dsimp only
      rw [tN (n := s) (by omega)]
      exact sMov_ri h.2 (by omega)
  · exact h.2
theorem pPin_K {G : Nat → Nat} {x : Int32} {b : Nat} (hb : b ≤ 1) (h : sK G) : sK (pPin G x b).2 := by
  refine ⟨pPin_inv hb h.1, ?_⟩
  unfold pPin
  split
  · split
    · exact h.2
    · exact sMov_ri h.2 (by omega)
  · exact h.2
theorem sMov_lose {G : Nat → Nat} {P : Nat → Prop} (h : sMov G) (hc : G 0 ≤ 30) : sMov (sLose G P) :=
  sMov_same h (sLose_o (by omega) hc) (fun t _ => by rw [sLose_r (by have := ri_ge t 5; omega)]; exact sWipe_k (by omega) (Or.inr rfl))
theorem pFull_K {G : Nat → Nat} (h : sK G) : sK (pFull G).2 := by
  refine ⟨pFull_inv h.1, ?_⟩
  exact sMov_un (sMov_lose h.2 h.1.c) (by omega) (fun u => by have := ri_ge u 5; omega)
theorem sMov_step {H H1 : Nat → Nat} {n p b : Nat} (h : sMov H) (hn : n < 30) (hr : sRoom H b = some (p, H1)) : sMov (sStep H1 n p) ∧ sStep H1 n p 3 = H 3 + 1 := by
  have h1 := sMov_room h hr
  have e3 : H1 3 = H 3 := sRoom_hi hr (by omega)
  have g3 : sStep H1 n p 3 = H1 3 + 1 := by
    unfold sStep
    rw [un_s]
  refine ⟨?_, by rw [g3, e3]⟩
  unfold sMov at h1 ⊢
  rw [g3, h1]
  refine (sumN_up (k := n) ?_ 30 hn (fun t ht hne => ?_)).symm
  · show sStep H1 n p (ri n 5) = H1 (ri n 5) + 1
    unfold sStep
    rw [un_n (by have := ri_ge n 5; omega), un_s]
  · show sStep H1 n p (ri t 5) = H1 (ri t 5)
    unfold sStep
    rw [un_n (by have := ri_ge t 5; omega), un_n (fun q => hne (ri_inj (by omega) (by omega) q).1), un_n (ri_ne (by omega) (by omega) (by omega))]
theorem sMv_mov {G : Nat → Nat} {a : Nat} (h : sK G) (ha : a < 2) : ∀ n H, n ≤ G 0 → sMv G (sStay G a) (sMove G a) n = some H → sMov H ∧ H 3 = G 3 + cnt (sMove G a) n := by
  intro n
  induction n with
  | zero =>
    intro H _ hh
    cases hh
    have ho : ∀ t, sStay G a t → sHome G t < 8 := fun t q => h.1.ho (h.1.lt (sSurv_y q.1).1)
    exact ⟨sMov_same h.2 (sBump_o ho (by omega)) (fun t _ => sBump_o ho (by have := ri_ge t 5; omega)), sBump_o ho (by omega)⟩
  | succ n ih =>
    intro H hn hh
    have hc := h.1.c
    unfold sMv at hh
    split at hh
    · cases hh
    · next H0 h0 =>
      obtain ⟨g1, g2⟩ := ih H0 (by omega) h0
      split at hh
      · next hm =>
        have hm := cd_t.mp hm
        split at hh
        · cases hh
        · next p H1 hr =>
          cases hh
          obtain ⟨k1, k2⟩ := sMov_step (n := n) g1 (by omega) hr
          exact ⟨k1, by rw [k2, g2, cnt_up hm]; omega⟩
      · next hm =>
        cases hh
        exact ⟨g1, by rw [g2, cnt_st (fun q => hm (cd_t.mpr q))]⟩
theorem sWin_K {G G' : Nat → Nat} {a : Nat} (h : sK G) (ha : a < 2) (hw : sWin G a = some G') : sK G' ∧ G' 3 = G 3 + cnt (fun t => sSurv G a t ∧ ¬ sPin G t) 30 := by
  obtain ⟨h1, h2, H, hH, rfl⟩ := sWin_inv h.1 ha hw
  obtain ⟨k1, k2⟩ := sMv_mov h ha (G 0) H (Nat.le_refl _) hH
  have hc : H 0 ≤ 30 := by
    rw [(sMv_inv h.1 ha (G 0) H (Nat.le_refl _) hH).2.2.1 0 (by omega)]
    exact h.1.c
  refine ⟨⟨h1, sMov_un (sMov_lose k1 hc) (by omega) (fun u => by have := ri_ge u 5; omega)⟩, ?_⟩
  rw [un_n (by omega), sLose_o (by omega) hc, k2]
  congr 1
  have hc0 := h.1.c
  have e1 : cnt (sMove G a) 30 = cnt (sMove G a) (G 0) := by
    have := cnt_ext (P := sMove G a) (n := G 0) (fun j hj q => by have := (sSurv_y q.1).1.1; omega) (30 - G 0)
    rwa [show G 0 + (30 - G 0) = 30 by omega] at this
  rw [← e1]
  refine cnt_congr 30 (fun t _ => ?_)
  unfold sMove sStay
  exact ⟨fun q => ⟨q.1, fun z => q.2 ⟨q.1, z⟩⟩, fun q => ⟨q.1, fun z => q.2 z.2⟩⟩
theorem pWinter_K {G : Nat → Nat} {x : Int32} (h : sK G) : sK (pWinter G x).2 := by
  unfold pWinter
  split
  · next hc =>
    obtain ⟨a, ha, rfl⟩ := cd_t.mp hc
    rw [tN (by omega)]
    split
    · exact h
    · next G' hw => exact (sWin_K h ha hw).1
  · exact h
theorem sDo_K {G : Nat → Nat} {le : Nat} {ns : Nat → Nat} (h : sK G) : sK (sDo G le ns).2 := by
  unfold sDo
  split
  · exact pThing_K h
  split
  · exact pHold_K h
  split
  · exact pRelease_K h
  split
  · exact pTie_K h
  split
  · exact pLoosen_K h
  split
  · exact pPin_K (by omega) h
  split
  · exact pWinter_K h
  · exact pFull_K h
theorem sGo_K {tx : Nat → Nat} {ln : Nat} : ∀ f p c G, sK G → sK (sGo tx ln f p c G).2.2.2 := by
  intro f
  induction f with
  | zero => intro p c G h; exact h
  | succ f ih =>
    intro p c G h
    by_cases hp : p < ln
    · cases ho : sOrd tx ln p with
      | none => rw [sGo_1 hp ho]; exact h
      | some q =>
        obtain ⟨le, ns, p'⟩ := q
        by_cases ha : 0 ≤ (sDo G le ns).1.toInt
        · rw [sGo_s hp ho ha]
          exact ih _ _ _ (sDo_K h)
        · by_cases h1 : (sDo G le ns).1.toInt = -1000001
          · rw [sGo_2 hp ho ha h1]; exact h
          · rw [sGo_3 hp ho ha h1]; exact h
    · rw [sGo_e hp]; exact h
theorem pPlay_K {tx : Nat → Nat} {ln : Nat} {G : Nat → Nat} (h : sK G) : sK (pPlay tx ln G).2 := by
  unfold pPlay
  split
  · exact sGo_K _ _ _ _ h
  · exact h
