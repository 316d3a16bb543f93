/-! the law's side: the calls that read, in the form that the law wants -/
theorem wS.h0 {H : xm_H} {tx : Nat → Nat} {ln st : Nat} {Z G : Nat → Nat} (h : wS H tx ln st Z G) : ∃ f, H[0]? = some (.inr (.inr (2, f))) := by
  obtain ⟨fs, pr, nu, po, sta, rea, R, rfl, -⟩ := h
  exact ⟨_, rfl⟩
theorem wS.len {H : xm_H} {tx : Nat → Nat} {ln st : Nat} {Z G : Nat → Nat} (h : wS H tx ln st Z G) : H.length = 47 ∧ st ≤ 4 := by
  obtain ⟨fs, pr, nu, po, sta, rea, R, h1, hf, h2, h3, h4, -⟩ := h
  exact ⟨h2, h4⟩
theorem mPost_ex (st : Nat) (Z G : Nat → Nat) (a : Int32) : ∃ st' Z', mPost st Z G a st' Z' := by
  by_cases ha : 0 ≤ a.toInt
  · refine ⟨min (st + 1) 4, fun i => if 196 * min (st + 1) 4 ≤ i ∧ i < 196 * min (st + 1) 4 + 196 then G (i - 196 * min (st + 1) 4) else Z (i + 196 * (st + 1 - min (st + 1) 4)), fun _ => ⟨rfl, fun i hi => ?_, fun s hs i hi => ?_⟩, fun q => by omega⟩
    · dsimp only
      rw [if_pos (by omega)]
      congr 1
      omega
    · dsimp only
      rw [if_neg (by omega)]
      congr 1
      omega
  · exact ⟨st, Z, fun q => absurd q ha, fun _ => ⟨rfl, fun _ _ => rfl⟩⟩
/-- only the row's own cells count -/
theorem vRt_ext {v : wVals} {G G' : Nat → Nat} (h : vRt v G) (hc : G 0 ≤ 30) (e : ∀ i, i < 196 → G' i = G i) : vRt v G' := by
  obtain ⟨A, Gs, Sp, Ti, Mv, Hd, pin, c, w, f, m⟩ := v
  have h : vR A Gs Sp Ti Mv Hd pin c w f m G := h
  show vR A Gs Sp Ti Mv Hd pin c w f m G'
  obtain ⟨h1, h2, h3, h4, h5, h6, ⟨h7, h8, h9, h10⟩, h11, h12⟩ := h
  have er : ∀ t w, t < 30 → w < 6 → G' (ri t w) = G (ri t w) := fun t w ht hw => e _ (by unfold ri; omega)
  refine ⟨fun k hk => by rw [e _ (by omega)]; exact h1 k hk, fun t ht => by rw [er t 0 ht (by omega)]; exact h2 t ht, fun t k ht hk => by rw [er t (2 + k) ht (by omega)]; exact h3 t k ht hk, fun k hk => by rw [e _ (by omega)]; exact h4 k hk, fun t ht => by rw [er t 5 ht (by omega)]; exact h5 t ht, ?_, ⟨by rw [e 0 (by omega)]; exact h7, by rw [e 1 (by omega)]; exact h8, by rw [e 2 (by omega)]; exact h9, by rw [e 3 (by omega)]; exact h10⟩, h11, fun p t hp ht => ?_⟩
  · rw [h6]
    exact mk_congr (fun t ht => by rw [er t 1 ht (by omega)])
  · rw [e 0 (by omega), er t 0 ht (by omega)]
    exact h12 p t hp ht
theorem wS_G {H : xm_H} {tx : Nat → Nat} {ln st : Nat} {Z G G' : Nat → Nat} (h : wS H tx ln st Z G) (hc : G 0 ≤ 30) (e : ∀ i, i < 196 → G' i = G i) : wS H tx ln st Z G' := by
  obtain ⟨fs, pr, nu, po, sta, rea, R, h1, hf, h2, h3, h4, h5, h6⟩ := h
  refine ⟨fs, pr, nu, po, sta, rea, R, h1, hf, h2, h3, h4, h5, fun d hd => ?_⟩
  obtain ⟨v, h7, h8⟩ := h6 d hd
  refine ⟨v, h7, ?_⟩
  unfold hG at h8 ⊢
  split
  · next c =>
    rw [if_pos c] at h8
    exact vRt_ext h8 hc e
  · next c =>
    rw [if_neg c] at h8
    exact h8
section RD
variable {L : Nat} {xs : Nat → Int32} {Q : Option Value → xm_H → Prop} {ln st : Nat} {tx Z G : Nat → Nat} {H : xm_H}
theorem wr_thing {t w : Nat} {z : Int32} (hS : wS H tx ln st Z G) (hI : sInv G) (ht : t < G 0) (hw : w < 10) (hq : qThing G t w = z) (hQ : Q (some (.int z)) H) : xc L xs 65 [.ref 0, .int (nI t), .int (nI w)] H Q := by
  have hc := hI.c
  refine ww_thingOf hS hI (fun t' w' h1 h2 e1 e2 => ?_) (fun q => absurd ⟨t, w, ht, hw, rfl, rfl⟩ q)
  have a := (nI_inj (by omega) (by omega)).mp e1
  have b := (nI_inj (by omega) (by omega)).mp e2
  subst a
  subst b
  rw [hq]
  exact hQ
theorem wr_house {t w : Nat} {z : Int32} (hS : wS H tx ln st Z G) (hI : sInv G) (ht : t < 8) (hw : w < 8) (hq : qHouse G t w = z) (hQ : Q (some (.int z)) H) : xc L xs 66 [.ref 0, .int (nI t), .int (nI w)] H Q := by
  refine ww_houseOf hS hI (fun t' w' h1 h2 e1 e2 => ?_) (fun q => absurd ⟨t, w, ht, hw, rfl, rfl⟩ q)
  have a := (nI_inj (by omega) (by omega)).mp e1
  have b := (nI_inj (by omega) (by omega)).mp e2
  subst a
  subst b
  rw [hq]
  exact hQ
theorem wr_hand {t : Nat} {z : Int32} (hS : wS H tx ln st Z G) (hI : sInv G) (ht : t < 4) (hq : qHand G t = z) (hQ : Q (some (.int z)) H) : xc L xs 67 [.ref 0, .int (nI t)] H Q := by
  refine ww_handOf hS hI (fun t' h1 e1 => ?_) (fun q => absurd rfl (q t ht))
  have a := (nI_inj (by omega) (by omega)).mp e1
  subst a
  rw [hq]
  exact hQ
theorem wr_need (hS : wS H tx ln st Z G) (hI : sInv G) (hQ : Q (some (.int (mk (sNeed G)))) H) : xc L xs 69 [.ref 0, .int (nI 0)] H Q :=
  ww_needed hS hI (fun _ => hQ) (fun q => absurd ((nI_inj (by omega) (by omega)).mp q) (by omega)) (fun q => absurd rfl q)
theorem wr_forg (hS : wS H tx ln st Z G) (hI : sInv G) (hQ : Q (some (.int (mk (sForg G)))) H) : xc L xs 69 [.ref 0, .int (nI 1)] H Q :=
  ww_needed hS hI (fun q => absurd ((nI_inj (by omega) (by omega)).mp q) (by omega)) (fun _ => hQ) (fun _ q => absurd rfl q)
theorem wr_count {w : Nat} {z : Int32} (hS : wS H tx ln st Z G) (hI : sInv G) (hl : ln ≤ 60) (hw : w < 14) (hq : qCount G st ln w = z) (hQ : Q (some (.int z)) H) : xc L xs 73 [.ref 0, .int (nI w)] H Q := by
  refine ww_count hS hI hl (fun t' h1 e1 => ?_) (fun q => absurd rfl (q w hw))
  have a := (nI_inj (by omega) (by omega)).mp e1
  subst a
  rw [hq]
  exact hQ
theorem wr_far {t : Nat} {z : Int32} (hS : wS H tx ln st Z G) (hI : sInv G) (ht : sLive G t) (hq : qFar G t = z) (hQ : Q (some (.int z)) H) : xc L xs 72 [.ref 0, .int (nI t)] H Q := by
  have hc := hI.lt ht
  refine ww_far hS hI (fun t' h1 e1 => ?_) (fun q => absurd rfl (q t ht))
  have := hI.lt h1
  have a := (nI_inj (by omega) (by omega)).mp e1
  subst a
  rw [hq]
  exact hQ
theorem wr_farn {t : Nat} (hS : wS H tx ln st Z G) (hI : sInv G) (h3 : t < 30) (ht : ¬ sLive G t) (hQ : Q (some (.int xE1)) H) : xc L xs 72 [.ref 0, .int (nI t)] H Q := by
  refine ww_far hS hI (fun t' h1 e1 => ?_) (fun _ => hQ)
  have := hI.lt h1
  have a := (nI_inj (by omega) (by omega)).mp e1
  subst a
  exact absurd h1 ht
theorem wr_kept {t : Nat} (hS : wS H tx ln st Z G) (hI : sInv G) (ht : sLive G t) (hQ : Q (some (.int (mk (sKept G t)))) H) : xc L xs 71 [.ref 0, .int (nI t)] H Q := by
  have hc := hI.lt ht
  refine ww_keptBy hS hI (fun t' h1 e1 => ?_) (fun q => absurd rfl (q t ht))
  have := hI.lt h1
  have a := (nI_inj (by omega) (by omega)).mp e1
  subst a
  exact hQ
theorem wr_keptn {t : Nat} (hS : wS H tx ln st Z G) (hI : sInv G) (h3 : t < 30) (ht : ¬ sLive G t) (hQ : Q (some (.int xE1)) H) : xc L xs 71 [.ref 0, .int (nI t)] H Q := by
  refine ww_keptBy hS hI (fun t' h1 e1 => ?_) (fun _ => hQ)
  have := hI.lt h1
  have a := (nI_inj (by omega) (by omega)).mp e1
  subst a
  exact absurd h1 ht
theorem wr_note {i : Nat} {z : Int32} (hS : wS H tx ln st Z G) (hI : sInv G) (hi : i < 2147483648) (hq : qNote G i = z) (hQ : Q (some (.int z)) H) : xc L xs 68 [.ref 0, .int (nI i)] H Q := by
  refine ww_noteAt hS hI (fun t' h1 e1 => ?_) (fun q => by rw [tI_n hi] at q; omega)
  have a := (nI_inj hi h1).mp e1
  subst a
  rw [hq]
  exact hQ
theorem wr_surv {a w : Nat} {z : Int32} (hS : wS H tx ln st Z G) (hI : sInv G) (ha : a < 2) (hw : w < 4) (hq : qSurv G a w = z) (hQ : ∀ H', wS H' tx ln st Z G → Q (some (.int z)) H') : xc L xs 70 [.ref 0, .int (nI a), .int (nI w)] H Q := by
  refine ww_survivors hS hI (fun t' w' H' h1 h2 e1 e2 h3 => ?_) (fun q => absurd ⟨a, w, ha, hw, rfl, rfl⟩ q)
  have a1 := (nI_inj (by omega) (by omega)).mp e1
  have b1 := (nI_inj (by omega) (by omega)).mp e2
  subst a1
  subst b1
  rw [hq]
  exact hQ H' h3
/-- back by one, behind a change -/
theorem wr_undo {st' : Nat} {Z' G' : Nat → Nat} {a : Int32} (hI : sInv G) (hst : st ≤ 4) (ha : 0 ≤ a.toInt) (hm : mPost st Z G a st' Z') (hS : wS H tx ln st' Z' G') (hQ : ∀ H' s', s' < 4 → wS H' tx ln s' Z' G → Q (some (.int (nI s'))) H') : xc L xs 74 [.ref 0] H Q := by
  obtain ⟨m1, m2, -⟩ := hm.1 ha
  refine ww_undo hS (fun q => by omega) (fun q H' h1 => hQ H' (st' - 1) (by omega) (wS_G h1 ?_ (fun i hi => ?_)))
  · rw [if_pos (by omega), show 196 + 196 * (st' - 1) + 0 = 196 * st' + 0 by omega, m2 0 (by omega)]
    exact hI.c
  · rw [if_pos hi, show 196 + 196 * (st' - 1) + i = 196 * st' + i by omega, m2 i hi]
end RD
