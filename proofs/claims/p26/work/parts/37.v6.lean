/-! the village's changes -/
section V6
variable {L : Nat} {xs : Nat → Int32} {Q : Option Value → xm_H → Prop} {A Gs Sp Ti Mv Hd G : Nat → Nat} {pin : Int32} {c w f m : Nat}
theorem wv_welcome (hR : vR A Gs Sp Ti Mv Hd pin c w f m G) (hI : sInv G) (hQ : vC Q (pThing G)) : xc L xs 14 [.ref 0] (vH A Gs Sp Ti Mv Hd pin c w f m) Q := by
  have hc := hI.c
  have hcc := hR.cc
  subst hcc
  refine xr_aload_n xi_14_0 rfl ?_
  refine xr_iconst (z := nI 0) xi_14_1 rfl ?_
  refine xr_virt xi_14_2 rfl rfl rfl rfl (Nat.le_of_ble_eq_true rfl) (Nat.le_of_ble_eq_true rfl) ?_
  refine wv_roomOf hR hc (fun h hh => hI.a hh) (by omega) (fun p G1 hr hp => ?_) (fun hr => ?_)
  · refine xr_k ?_
    refine xr_istore_n xi_14_5 (Nat.le_of_ble_eq_true rfl) rfl ?_
    refine xr_iload_n xi_14_6 rfl ?_
    refine xr_iconst (z := dI 0) xi_14_7 xm_m1 ?_
    refine xr_ic_ne xi_14_8 (by first | exact tI_n (by omega) | exact tI_d (by omega) | assumption | exact tI_e1 | exact tI_e2 | exact tI_e3 | exact tI_e4) (by first | exact tI_n (by omega) | exact tI_d (by omega) | assumption | exact tI_e1 | exact tI_e2 | exact tI_e3 | exact tI_e4) (fun c_ => ?_) (fun c_ => by exfalso; omega)
    refine xr_aload_n xi_14_14 rfl ?_
    refine xr_getf xi_14_15 rfl rfl ?_
    refine xr_bipush (z := nI 30) xi_14_18 rfl ?_
    refine xr_ic_lt xi_14_20 (by first | exact tI_n (by omega) | exact tI_d (by omega) | assumption | exact tI_e1 | exact tI_e2 | exact tI_e3 | exact tI_e4) (by first | exact tI_n (by omega) | exact tI_d (by omega) | assumption | exact tI_e1 | exact tI_e2 | exact tI_e3 | exact tI_e4) (fun c_20 => ?_) (fun c_20 => ?_)
    · obtain ⟨-, he, h3, h4, -⟩ := sRoom_spec hI (by omega) hr
      have hz : ∀ t, t < 30 → G 0 ≤ t → G (ri t 0) = 0 := fun t ht q => hI.z ht (by omega) q
      have e0 : un G 0 (G 0 + 1) (ri (G 0) 0) = G (ri (G 0) 0) := un_n (by unfold ri; omega)
      refine xr_aload_n xi_14_26 rfl ?_
      refine xr_getf xi_14_27 rfl rfl ?_
      refine xr_istore_n xi_14_30 (Nat.le_of_ble_eq_true rfl) rfl ?_
      refine xr_aload_n xi_14_31 rfl ?_
      refine xr_dup xi_14_32 ?_
      refine xr_getf xi_14_33 rfl rfl ?_
      refine xr_iconst (z := nI 1) xi_14_36 rfl ?_
      refine xr_iadd xi_14_37 (by first | exact nI_add _ _ | exact rfl) ?_
      refine xr_putf xi_14_38 rfl (Nat.le_of_ble_eq_true rfl) (show _ = vH A Gs Sp Ti Mv Hd pin (G 0 + 1) w f m from rfl) ?_
      refine xr_aload_n xi_14_41 rfl ?_
      refine xr_iload_n xi_14_42 rfl ?_
      refine xr_iload_n xi_14_43 rfl ?_
      refine xr_iconst (z := nI 0) xi_14_44 rfl ?_
      refine xr_virt xi_14_45 rfl rfl rfl rfl (Nat.le_of_ble_eq_true rfl) (Nat.le_of_ble_eq_true rfl) ?_
      refine wv_moveIn (vR.com hz hR) (by omega) hp (by rw [un_s]; omega) (fun u hu e => ?_) (by rw [e0]; exact hz _ (by omega) (Nat.le_refl _)) (fun A Gs Sp Ti Mv Hd pin c w f m hR => ?_)
      · rw [un_s] at hu
        rw [un_n (by unfold ri; omega)] at e
        by_cases e2 : u = G 0
        · rw [e2, hz _ (by omega) (Nat.le_refl _)] at e
          omega
        · exact he u (by omega) e
      refine xr_kv ?_
      refine xr_iload_n xi_14_48 rfl ?_
      refine xr_iret xi_14_49 (fun h => absurd h (by decide)) ?_
      rw [pThing_0 hr (by omega)] at hQ
      refine hQ _ _ _ _ _ _ _ _ _ _ _ (fun _ => hR.to (fun i hi => ?_))
      show sNew G G1 p i = _
      unfold sNew
      by_cases c0 : i = 0
      · subst c0
        rw [un_s, un_n (by unfold ri; omega), un_n (by omega), un_s]
      · rw [un_n c0]
        by_cases c1 : i = ri (G 0) 0
        · subst c1
          rw [un_s, un_s]
        · rw [un_n c1, un_n c1]
          by_cases c4 : i = 4 + p / 5
          · rw [c4, un_s, h3]
          · rw [un_n c4, un_n c0, h4 i c4]
    · refine xr_ldc (z := xE3) xi_14_23 rfl ?_
      refine xr_iret xi_14_25 (fun h => absurd h (by decide)) ?_
      rw [pThing_3 (by rw [hr]; exact fun q => by cases q) (by omega)] at hQ
      exact hQ _ _ _ _ _ _ _ _ _ _ _ (fun _ => hR)
  · refine xr_k ?_
    refine xr_istore_n xi_14_5 (Nat.le_of_ble_eq_true rfl) rfl ?_
    refine xr_iload_n xi_14_6 rfl ?_
    refine xr_iconst (z := dI 0) xi_14_7 xm_m1 ?_
    refine xr_ic_ne xi_14_8 (by first | exact tI_n (by omega) | exact tI_d (by omega) | assumption | exact tI_e1 | exact tI_e2 | exact tI_e3 | exact tI_e4) (by first | exact tI_n (by omega) | exact tI_d (by omega) | assumption | exact tI_e1 | exact tI_e2 | exact tI_e3 | exact tI_e4) (fun c_ => by exfalso; omega) (fun c_ => ?_)
    refine xr_ldc (z := xE2) xi_14_11 rfl ?_
    refine xr_iret xi_14_13 (fun h => absurd h (by decide)) ?_
    rw [pThing_2 hr] at hQ
    exact hQ _ _ _ _ _ _ _ _ _ _ _ (fun _ => hR)
theorem wv_grip {x y : Int32} (hR : vR A Gs Sp Ti Mv Hd pin c w f m G) (hI : sInv G) (hQ : vC Q (pHold G x y)) : xc L xs 15 [.ref 0, .int x, .int y] (vH A Gs Sp Ti Mv Hd pin c w f m) Q := by
  refine xr_iload_n xi_15_0 rfl ?_
  refine xr_stat xi_15_1 (by decide) rfl rfl (Nat.le_of_ble_eq_true rfl) (Nat.le_of_ble_eq_true rfl) ?_
  refine wv_isHand (fun h hh e => ?_) (fun hn => ?_)
  · subst e
    refine xr_k ?_
    refine xr_if_eq xi_15_4 (by first | exact tI_n (by omega) | exact tI_d (by omega) | assumption | exact tI_e1 | exact tI_e2 | exact tI_e3 | exact tI_e4) (fun c_ => by exfalso; omega) (fun c_ => ?_)
    refine xr_aload_n xi_15_7 rfl ?_
    refine xr_iload_n xi_15_8 rfl ?_
    refine xr_virt xi_15_9 rfl rfl rfl rfl (Nat.le_of_ble_eq_true rfl) (Nat.le_of_ble_eq_true rfl) ?_
    refine wv_lives hR hI (fun t hl e => ?_) (fun hn => ?_)
    · subst e
      have ht := hI.lt hl
      obtain ⟨i1, -, -, -⟩ := sInv_hand hI hh (x := t + 1) (by omega) (fun _ => hl)
      refine xr_k ?_
      refine xr_if_ne xi_15_12 (by first | exact tI_n (by omega) | exact tI_d (by omega) | assumption | exact tI_e1 | exact tI_e2 | exact tI_e3 | exact tI_e4) (fun c_ => ?_) (fun c_ => by exfalso; omega)
      refine xr_aload_n xi_15_18 rfl ?_
      refine xr_getf xi_15_19 rfl rfl ?_
      refine xr_iload_n xi_15_22 rfl ?_
      refine xr_iload_n xi_15_23 rfl ?_
      refine xr_iast xi_15_24 rfl (by first | exact tI_n (by first | omega | (simp only [ri]; omega)) | exact tI_dn (by omega) (by omega) | assumption) (by first | omega | (simp only [ri]; omega)) (vH_H (dI_1 _).symm) ?_
      refine xr_aload_n xi_15_25 rfl ?_
      refine xr_virt xi_15_26 rfl rfl rfl rfl (Nat.le_of_ble_eq_true rfl) (Nat.le_of_ble_eq_true rfl) ?_
      refine wv_fullHands (vR.hand hh hR) i1 ?_
      refine xr_k ?_
      refine xr_iret xi_15_29 (fun h => absurd h (by decide)) ?_
      rw [pHold_0 hI hh hl] at hQ
      exact hQ _ _ _ _ _ _ _ _ _ _ _ (fun _ => vR.hand hh hR)
    · refine xr_k ?_
      refine xr_if_ne xi_15_12 (by first | exact tI_n (by omega) | exact tI_d (by omega) | assumption | exact tI_e1 | exact tI_e2 | exact tI_e3 | exact tI_e4) (fun c_ => by exfalso; omega) (fun c_ => ?_)
      refine xr_ldc (z := xE1) xi_15_15 rfl ?_
      refine xr_iret xi_15_17 (fun h => absurd h (by decide)) ?_
      rw [pHold_1 (fun ⟨h, t, _, h2, _, h4⟩ => hn t h2 h4)] at hQ
      exact hQ _ _ _ _ _ _ _ _ _ _ _ (fun _ => hR)
  · refine xr_k ?_
    refine xr_if_eq xi_15_4 (by first | exact tI_n (by omega) | exact tI_d (by omega) | assumption | exact tI_e1 | exact tI_e2 | exact tI_e3 | exact tI_e4) (fun c_ => ?_) (fun c_ => by exfalso; omega)
    refine xr_ldc (z := xE1) xi_15_15 rfl ?_
    refine xr_iret xi_15_17 (fun h => absurd h (by decide)) ?_
    rw [pHold_1 (fun ⟨h, t, h1, _, h3, _⟩ => hn h h1 h3)] at hQ
    exact hQ _ _ _ _ _ _ _ _ _ _ _ (fun _ => hR)
theorem wv_letGo {x : Int32} (hR : vR A Gs Sp Ti Mv Hd pin c w f m G) (hI : sInv G) (hQ : vC Q (pRelease G x)) : xc L xs 16 [.ref 0, .int x] (vH A Gs Sp Ti Mv Hd pin c w f m) Q := by
  refine xr_iload_n xi_16_0 rfl ?_
  refine xr_stat xi_16_1 (by decide) rfl rfl (Nat.le_of_ble_eq_true rfl) (Nat.le_of_ble_eq_true rfl) ?_
  refine wv_isHand (fun h hh e => ?_) (fun hn => ?_)
  · subst e
    have hd := hR.h hh
    have h30 := (hI.h hh).1
    refine xr_k ?_
    refine xr_if_ne xi_16_4 (by first | exact tI_n (by omega) | exact tI_d (by omega) | assumption | exact tI_e1 | exact tI_e2 | exact tI_e3 | exact tI_e4) (fun c_ => ?_) (fun c_ => by exfalso; omega)
    refine xr_aload_n xi_16_10 rfl ?_
    refine xr_getf xi_16_11 rfl rfl ?_
    refine xr_iload_n xi_16_14 rfl ?_
    refine xr_ialz xi_16_15 rfl (by first | exact tI_n (by first | omega | (simp only [ri]; omega)) | exact tI_dn (by omega) (by omega) | assumption) (by first | omega | (simp only [ri]; omega)) (congrArg dI hd) ?_
    refine xr_istore_n xi_16_16 (Nat.le_of_ble_eq_true rfl) rfl ?_
    refine xr_iload_n xi_16_17 rfl ?_
    refine xr_iconst (z := dI 0) xi_16_18 xm_m1 ?_
    refine xr_ic_ne xi_16_19 (by first | exact tI_n (by omega) | exact tI_d (by omega) | assumption | exact tI_e1 | exact tI_e2 | exact tI_e3 | exact tI_e4) (by first | exact tI_n (by omega) | exact tI_d (by omega) | assumption | exact tI_e1 | exact tI_e2 | exact tI_e3 | exact tI_e4) (fun c_19 => ?_) (fun c_19 => ?_)
    · refine xr_aload_n xi_16_25 rfl ?_
      refine xr_getf xi_16_26 rfl rfl ?_
      refine xr_iload_n xi_16_29 rfl ?_
      refine xr_iconst (z := dI 0) xi_16_30 xm_m1 ?_
      refine xr_iast xi_16_31 rfl (by first | exact tI_n (by first | omega | (simp only [ri]; omega)) | exact tI_dn (by omega) (by omega) | assumption) (by first | omega | (simp only [ri]; omega)) (vH_H rfl) ?_
      refine xr_iload_n xi_16_32 rfl ?_
      refine xr_iret xi_16_33 (fun h => absurd h (by decide)) ?_
      rw [pRelease_0 hh (by omega)] at hQ
      rw [dI_pos (by omega)]
      exact hQ _ _ _ _ _ _ _ _ _ _ _ (fun _ => vR.hand hh hR)
    · refine xr_ldc (z := xE2) xi_16_22 rfl ?_
      refine xr_iret xi_16_24 (fun h => absurd h (by decide)) ?_
      rw [pRelease_2 hh (by omega)] at hQ
      exact hQ _ _ _ _ _ _ _ _ _ _ _ (fun _ => hR)
  · refine xr_k ?_
    refine xr_if_ne xi_16_4 (by first | exact tI_n (by omega) | exact tI_d (by omega) | assumption | exact tI_e1 | exact tI_e2 | exact tI_e3 | exact tI_e4) (fun c_ => by exfalso; omega) (fun c_ => ?_)
    refine xr_ldc (z := xE1) xi_16_7 rfl ?_
    refine xr_iret xi_16_9 (fun h => absurd h (by decide)) ?_
    rw [pRelease_1 hn] at hQ
    exact hQ _ _ _ _ _ _ _ _ _ _ _ (fun _ => hR)
theorem wv_fasten {x y z : Int32} (hR : vR A Gs Sp Ti Mv Hd pin c w f m G) (hI : sInv G) (hQ : vC Q (pTie G x y z)) : xc L xs 17 [.ref 0, .int x, .int y, .int z] (vH A Gs Sp Ti Mv Hd pin c w f m) Q := by
  refine xr_aload_n xi_17_0 rfl ?_
  refine xr_iload_n xi_17_1 rfl ?_
  refine xr_virt xi_17_2 rfl rfl rfl rfl (Nat.le_of_ble_eq_true rfl) (Nat.le_of_ble_eq_true rfl) ?_
  refine wv_lives hR hI (fun t hl e => ?_) (fun hn => ?_)
  · subst e
    refine xr_k ?_
    refine xr_if_eq xi_17_5 (by first | exact tI_n (by omega) | exact tI_d (by omega) | assumption | exact tI_e1 | exact tI_e2 | exact tI_e3 | exact tI_e4) (fun c_ => by exfalso; omega) (fun c_ => ?_)
    refine xr_iload_n xi_17_8 rfl ?_
    refine xr_stat xi_17_9 (by decide) rfl rfl (Nat.le_of_ble_eq_true rfl) (Nat.le_of_ble_eq_true rfl) ?_
    refine wv_isString (fun s hs e => ?_) (fun hn => ?_)
    · subst e
      refine xr_k ?_
      refine xr_if_eq xi_17_12 (by first | exact tI_n (by omega) | exact tI_d (by omega) | assumption | exact tI_e1 | exact tI_e2 | exact tI_e3 | exact tI_e4) (fun c_ => by exfalso; omega) (fun c_ => ?_)
      refine xr_aload_n xi_17_15 rfl ?_
      refine xr_iload_n xi_17_16 rfl ?_
      refine xr_virt xi_17_17 rfl rfl rfl rfl (Nat.le_of_ble_eq_true rfl) (Nat.le_of_ble_eq_true rfl) ?_
      refine wv_lives hR hI (fun u hu e => ?_) (fun hn => ?_)
      · subst e
        have ht := hI.lt hl
        have hu2 := hI.lt hu
        obtain ⟨i1, i2, i3, i4⟩ := sInv_tie hI hl hs (x := u + 1) (by omega) (fun _ => hu)
        have e : t * 3 + s = 3 * t + s := by omega
        rw [pTie_0 hI hl hs hu] at hQ
        have hR2 := vR.tie (x := u + 1) ht hs hR
        have hq : (sNoted (un G (ri t (2 + s)) (u + 1)) t s ↔ sAge G u < sAge G t) := by
          unfold sNoted
          rw [un_s]
          show sLive _ t ∧ 0 < u + 1 ∧ sAge _ u < sAge _ t ↔ _
          rw [i4 u hu2, i4 t ht]
          exact ⟨fun q => q.2.2, fun q => ⟨(i2 t).mpr hl, by omega, q⟩⟩
        refine xr_k ?_
        refine xr_if_ne xi_17_20 (by first | exact tI_n (by omega) | exact tI_d (by omega) | assumption | exact tI_e1 | exact tI_e2 | exact tI_e3 | exact tI_e4) (fun c_ => ?_) (fun c_ => by exfalso; omega)
        refine xr_aload_n xi_17_26 rfl ?_
        refine xr_getf xi_17_27 rfl rfl ?_
        refine xr_iload_n xi_17_30 rfl ?_
        refine xr_iconst (z := nI 3) xi_17_31 rfl ?_
        refine xr_imul xi_17_32 (by first | exact pk_mul _ _ | exact rfl) ?_
        refine xr_iload_n xi_17_33 rfl ?_
        refine xr_iadd xi_17_34 ((nI_add _ _).trans (congrArg nI e)) ?_
        refine xr_iload_n xi_17_35 rfl ?_
        refine xr_iast xi_17_36 rfl (by first | exact tI_n (by first | omega | (simp only [ri]; omega)) | exact tI_dn (by omega) (by omega) | assumption) (by first | omega | (simp only [ri]; omega)) (vH_T (dI_1 _).symm) ?_
        refine xr_aload_n xi_17_37 rfl ?_
        refine xr_iload_n xi_17_38 rfl ?_
        refine xr_iload_n xi_17_39 rfl ?_
        refine xr_virt xi_17_40 rfl rfl rfl rfl (Nat.le_of_ble_eq_true rfl) (Nat.le_of_ble_eq_true rfl) ?_
        refine wv_isNoted hR2 i1 ht hs (fun q => ?_) (fun q => ?_)
        · refine xr_k ?_
          refine xr_if_eq xi_17_43 (by first | exact tI_n (by omega) | exact tI_d (by omega) | assumption | exact tI_e1 | exact tI_e2 | exact tI_e3 | exact tI_e4) (fun c_ => by exfalso; omega) (fun c_ => ?_)
          refine xr_iconst (z := nI 1) xi_17_46 rfl ?_
          refine xr_goto xi_17_47 ?_
          refine xr_iret xi_17_51 (fun h => absurd h (by decide)) ?_
          rw [if_pos (hq.mp q)] at hQ
          exact hQ _ _ _ _ _ _ _ _ _ _ _ (fun _ => hR2)
        · refine xr_k ?_
          refine xr_if_eq xi_17_43 (by first | exact tI_n (by omega) | exact tI_d (by omega) | assumption | exact tI_e1 | exact tI_e2 | exact tI_e3 | exact tI_e4) (fun c_ => ?_) (fun c_ => by exfalso; omega)
          refine xr_iconst (z := nI 0) xi_17_50 rfl ?_
          refine xr_iret xi_17_51 (fun h => absurd h (by decide)) ?_
          rw [if_neg (fun z => q (hq.mpr z))] at hQ
          exact hQ _ _ _ _ _ _ _ _ _ _ _ (fun _ => hR2)
      · refine xr_k ?_
        refine xr_if_ne xi_17_20 (by first | exact tI_n (by omega) | exact tI_d (by omega) | assumption | exact tI_e1 | exact tI_e2 | exact tI_e3 | exact tI_e4) (fun c_ => by exfalso; omega) (fun c_ => ?_)
        refine xr_ldc (z := xE1) xi_17_23 rfl ?_
        refine xr_iret xi_17_25 (fun h => absurd h (by decide)) ?_
        rw [pTie_1 (fun ⟨_, _, u, _, _, h3, _, _, h6⟩ => hn u h3 h6)] at hQ
        exact hQ _ _ _ _ _ _ _ _ _ _ _ (fun _ => hR)
    · refine xr_k ?_
      refine xr_if_eq xi_17_12 (by first | exact tI_n (by omega) | exact tI_d (by omega) | assumption | exact tI_e1 | exact tI_e2 | exact tI_e3 | exact tI_e4) (fun c_ => ?_) (fun c_ => by exfalso; omega)
      refine xr_ldc (z := xE1) xi_17_23 rfl ?_
      refine xr_iret xi_17_25 (fun h => absurd h (by decide)) ?_
      rw [pTie_1 (fun ⟨_, s, _, _, h2, _, _, h5, _⟩ => hn s h2 h5)] at hQ
      exact hQ _ _ _ _ _ _ _ _ _ _ _ (fun _ => hR)
  · refine xr_k ?_
    refine xr_if_eq xi_17_5 (by first | exact tI_n (by omega) | exact tI_d (by omega) | assumption | exact tI_e1 | exact tI_e2 | exact tI_e3 | exact tI_e4) (fun c_ => ?_) (fun c_ => by exfalso; omega)
    refine xr_ldc (z := xE1) xi_17_23 rfl ?_
    refine xr_iret xi_17_25 (fun h => absurd h (by decide)) ?_
    rw [pTie_1 (fun ⟨t, _, _, h1, _, _, h4, _⟩ => hn t h1 h4)] at hQ
    exact hQ _ _ _ _ _ _ _ _ _ _ _ (fun _ => hR)
theorem wv_slacken {x y : Int32} (hR : vR A Gs Sp Ti Mv Hd pin c w f m G) (hI : sInv G) (hQ : vC Q (pLoosen G x y)) : xc L xs 18 [.ref 0, .int x, .int y] (vH A Gs Sp Ti Mv Hd pin c w f m) Q := by
  refine xr_aload_n xi_18_0 rfl ?_
  refine xr_iload_n xi_18_1 rfl ?_
  refine xr_virt xi_18_2 rfl rfl rfl rfl (Nat.le_of_ble_eq_true rfl) (Nat.le_of_ble_eq_true rfl) ?_
  refine wv_lives hR hI (fun t hl e => ?_) (fun hn => ?_)
  · subst e
    refine xr_k ?_
    refine xr_if_eq xi_18_5 (by first | exact tI_n (by omega) | exact tI_d (by omega) | assumption | exact tI_e1 | exact tI_e2 | exact tI_e3 | exact tI_e4) (fun c_ => by exfalso; omega) (fun c_ => ?_)
    refine xr_iload_n xi_18_8 rfl ?_
    refine xr_stat xi_18_9 (by decide) rfl rfl (Nat.le_of_ble_eq_true rfl) (Nat.le_of_ble_eq_true rfl) ?_
    refine wv_isString (fun s hs e => ?_) (fun hn => ?_)
    · subst e
      have ht := hI.lt hl
      have h30 := (hI.t ht hs).1
      have e : t * 3 + s = 3 * t + s := by omega
      refine xr_k ?_
      refine xr_if_ne xi_18_12 (by first | exact tI_n (by omega) | exact tI_d (by omega) | assumption | exact tI_e1 | exact tI_e2 | exact tI_e3 | exact tI_e4) (fun c_ => ?_) (fun c_ => by exfalso; omega)
      refine xr_aload_n xi_18_18 rfl ?_
      refine xr_iload_n xi_18_19 rfl ?_
      refine xr_iload_n xi_18_20 rfl ?_
      refine xr_virt xi_18_21 rfl rfl rfl rfl (Nat.le_of_ble_eq_true rfl) (Nat.le_of_ble_eq_true rfl) ?_
      refine wv_tiedAt hR hI ht hs ?_
      refine xr_k ?_
      refine xr_istore_n xi_18_24 (Nat.le_of_ble_eq_true rfl) rfl ?_
      refine xr_iload_n xi_18_25 rfl ?_
      refine xr_iconst (z := dI 0) xi_18_26 xm_m1 ?_
      refine xr_ic_ne xi_18_27 (by first | exact tI_n (by omega) | exact tI_d (by omega) | assumption | exact tI_e1 | exact tI_e2 | exact tI_e3 | exact tI_e4) (by first | exact tI_n (by omega) | exact tI_d (by omega) | assumption | exact tI_e1 | exact tI_e2 | exact tI_e3 | exact tI_e4) (fun c_27 => ?_) (fun c_27 => ?_)
      · refine xr_aload_n xi_18_33 rfl ?_
        refine xr_getf xi_18_34 rfl rfl ?_
        refine xr_iload_n xi_18_37 rfl ?_
        refine xr_iconst (z := nI 3) xi_18_38 rfl ?_
        refine xr_imul xi_18_39 (by first | exact pk_mul _ _ | exact rfl) ?_
        refine xr_iload_n xi_18_40 rfl ?_
        refine xr_iadd xi_18_41 ((nI_add _ _).trans (congrArg nI e)) ?_
        refine xr_iconst (z := dI 0) xi_18_42 xm_m1 ?_
        refine xr_iast xi_18_43 rfl (by first | exact tI_n (by first | omega | (simp only [ri]; omega)) | exact tI_dn (by omega) (by omega) | assumption) (by first | omega | (simp only [ri]; omega)) (vH_T rfl) ?_
        refine xr_iload_n xi_18_44 rfl ?_
        refine xr_iret xi_18_45 (fun h => absurd h (by decide)) ?_
        rw [pLoosen_0 hI hl hs (by omega)] at hQ
        rw [dI_pos (by omega)]
        exact hQ _ _ _ _ _ _ _ _ _ _ _ (fun _ => vR.tie ht hs hR)
      · refine xr_ldc (z := xE2) xi_18_30 rfl ?_
        refine xr_iret xi_18_32 (fun h => absurd h (by decide)) ?_
        rw [pLoosen_2 hI hl hs (by omega)] at hQ
        exact hQ _ _ _ _ _ _ _ _ _ _ _ (fun _ => hR)
    · refine xr_k ?_
      refine xr_if_ne xi_18_12 (by first | exact tI_n (by omega) | exact tI_d (by omega) | assumption | exact tI_e1 | exact tI_e2 | exact tI_e3 | exact tI_e4) (fun c_ => by exfalso; omega) (fun c_ => ?_)
      refine xr_ldc (z := xE1) xi_18_15 rfl ?_
      refine xr_iret xi_18_17 (fun h => absurd h (by decide)) ?_
      rw [pLoosen_1 (fun ⟨_, s, _, h2, _, h4⟩ => hn s h2 h4)] at hQ
      exact hQ _ _ _ _ _ _ _ _ _ _ _ (fun _ => hR)
  · refine xr_k ?_
    refine xr_if_eq xi_18_5 (by first | exact tI_n (by omega) | exact tI_d (by omega) | assumption | exact tI_e1 | exact tI_e2 | exact tI_e3 | exact tI_e4) (fun c_ => ?_) (fun c_ => by exfalso; omega)
    refine xr_ldc (z := xE1) xi_18_15 rfl ?_
    refine xr_iret xi_18_17 (fun h => absurd h (by decide)) ?_
    rw [pLoosen_1 (fun ⟨t, _, h1, _, h3, _⟩ => hn t h1 h3)] at hQ
    exact hQ _ _ _ _ _ _ _ _ _ _ _ (fun _ => hR)
theorem wv_setPin {x : Int32} (hR : vR A Gs Sp Ti Mv Hd pin c w f m G) (hI : sInv G) (hQ : vC Q (pPin G x 1)) : xc L xs 19 [.ref 0, .int x] (vH A Gs Sp Ti Mv Hd pin c w f m) Q := by
  refine xr_aload_n xi_19_0 rfl ?_
  refine xr_iload_n xi_19_1 rfl ?_
  refine xr_virt xi_19_2 rfl rfl rfl rfl (Nat.le_of_ble_eq_true rfl) (Nat.le_of_ble_eq_true rfl) ?_
  refine wv_lives hR hI (fun t hl e => ?_) (fun hn => ?_)
  · subst e
    have ht := hI.lt hl
    have hp := hR.pp
    subst hp
    refine xr_k ?_
    refine xr_if_ne xi_19_5 (by first | exact tI_n (by omega) | exact tI_d (by omega) | assumption | exact tI_e1 | exact tI_e2 | exact tI_e3 | exact tI_e4) (fun c_ => ?_) (fun c_ => by exfalso; omega)
    refine xr_aload_n xi_19_11 rfl ?_
    refine xr_getf xi_19_12 rfl rfl ?_
    refine xr_iload_n xi_19_15 rfl ?_
    refine xr_stat xi_19_16 (by decide) rfl rfl (Nat.le_of_ble_eq_true rfl) (Nat.le_of_ble_eq_true rfl) ?_
    refine wv_has ht (fun q => ?_) (fun q => ?_)
    · refine xr_k ?_
      refine xr_if_eq xi_19_19 (by first | exact tI_n (by omega) | exact tI_d (by omega) | assumption | exact tI_e1 | exact tI_e2 | exact tI_e3 | exact tI_e4) (fun c_ => by exfalso; omega) (fun c_ => ?_)
      refine xr_ldc (z := xE2) xi_19_22 rfl ?_
      refine xr_iret xi_19_24 (fun h => absurd h (by decide)) ?_
      rw [pPin_2 hI hl q] at hQ
      exact hQ _ _ _ _ _ _ _ _ _ _ _ (fun _ => hR)
    · obtain ⟨i1, -, -, -⟩ := sInv_pin hI hl (x := 1) (Nat.le_refl _)
      have e : mk (fun u => G (ri u 1) = 1 ∨ u = t) = mk (fun u => un G (ri t 1) 1 (ri u 1) = 1) := by
        refine mk_congr (fun u _ => ?_)
        by_cases e : u = t
        · subst e; rw [un_s]; exact ⟨fun _ => rfl, fun _ => Or.inr rfl⟩
        · rw [un_n (by unfold ri; omega)]; exact ⟨fun h => h.elim id (fun z => absurd z e), Or.inl⟩
      have hR2 := vR.pint (t0 := t) (x := 1) rfl hR
      have e2 : mk (fun u => un G (ri t 1) 1 (ri u 1) = 1) = mk (sPin (un G (ri t 1) 1)) := hR2.pn i1
      refine xr_k ?_
      refine xr_if_eq xi_19_19 (by first | exact tI_n (by omega) | exact tI_d (by omega) | assumption | exact tI_e1 | exact tI_e2 | exact tI_e3 | exact tI_e4) (fun c_ => ?_) (fun c_ => by exfalso; omega)
      refine xr_aload_n xi_19_25 rfl ?_
      refine xr_dup xi_19_26 ?_
      refine xr_getf xi_19_27 rfl rfl ?_
      refine xr_iconst (z := nI 1) xi_19_30 rfl ?_
      refine xr_iload_n xi_19_31 rfl ?_
      refine xr_ishl xi_19_32 rfl ?_
      refine xr_ior xi_19_33 ((mk_or1 _ ht).trans e) ?_
      refine xr_putf xi_19_34 rfl (Nat.le_of_ble_eq_true rfl) (show _ = vH A Gs Sp Ti Mv Hd (mk (fun u => un G (ri t 1) 1 (ri u 1) = 1)) c w f m from rfl) ?_
      refine xr_aload_n xi_19_37 rfl ?_
      refine xr_getf xi_19_38 rfl rfl ?_
      refine xr_stat xi_19_41 (by decide) rfl rfl (Nat.le_of_ble_eq_true rfl) (Nat.le_of_ble_eq_true rfl) ?_
      rw [show (mk (fun u => un G (ri t 1) 1 (ri u 1) = 1)) = mk (sPin (un G (ri t 1) 1)) from e2] at hR2 ⊢
      refine wj_bc ?_
      refine xr_k ?_
      refine xr_iret xi_19_44 (fun h => absurd h (by decide)) ?_
      rw [pPin_0 hI hl q] at hQ
      exact hQ _ _ _ _ _ _ _ _ _ _ _ (fun _ => hR2)
  · refine xr_k ?_
    refine xr_if_ne xi_19_5 (by first | exact tI_n (by omega) | exact tI_d (by omega) | assumption | exact tI_e1 | exact tI_e2 | exact tI_e3 | exact tI_e4) (fun c_ => by exfalso; omega) (fun c_ => ?_)
    refine xr_ldc (z := xE1) xi_19_8 rfl ?_
    refine xr_iret xi_19_10 (fun h => absurd h (by decide)) ?_
    rw [pPin_1 hn] at hQ
    exact hQ _ _ _ _ _ _ _ _ _ _ _ (fun _ => hR)
theorem wv_takePin {x : Int32} (hR : vR A Gs Sp Ti Mv Hd pin c w f m G) (hI : sInv G) (hQ : vC Q (pPin G x 0)) : xc L xs 20 [.ref 0, .int x] (vH A Gs Sp Ti Mv Hd pin c w f m) Q := by
  refine xr_aload_n xi_20_0 rfl ?_
  refine xr_iload_n xi_20_1 rfl ?_
  refine xr_virt xi_20_2 rfl rfl rfl rfl (Nat.le_of_ble_eq_true rfl) (Nat.le_of_ble_eq_true rfl) ?_
  refine wv_lives hR hI (fun t hl e => ?_) (fun hn => ?_)
  · subst e
    have ht := hI.lt hl
    have h1 := (hI.p ht).1
    have hp := hR.pp
    subst hp
    refine xr_k ?_
    refine xr_if_ne xi_20_5 (by first | exact tI_n (by omega) | exact tI_d (by omega) | assumption | exact tI_e1 | exact tI_e2 | exact tI_e3 | exact tI_e4) (fun c_ => ?_) (fun c_ => by exfalso; omega)
    refine xr_aload_n xi_20_11 rfl ?_
    refine xr_getf xi_20_12 rfl rfl ?_
    refine xr_iload_n xi_20_15 rfl ?_
    refine xr_stat xi_20_16 (by decide) rfl rfl (Nat.le_of_ble_eq_true rfl) (Nat.le_of_ble_eq_true rfl) ?_
    refine wv_has ht (fun q => ?_) (fun q => ?_)
    · obtain ⟨i1, -, -, -⟩ := sInv_pin hI hl (x := 0) (by omega)
      have e : mk (fun u => G (ri u 1) = 1 ∧ ¬ u = t) = mk (fun u => un G (ri t 1) 0 (ri u 1) = 1) := by
        refine mk_congr (fun u _ => ?_)
        by_cases e : u = t
        · subst e; rw [un_s]; exact ⟨fun q => absurd rfl q.2, fun q => by omega⟩
        · rw [un_n (by unfold ri; omega)]; exact ⟨fun h => h.1, fun h => ⟨h, e⟩⟩
      have hR2 := vR.pint (t0 := t) (x := 0) rfl hR
      have e2 : mk (fun u => un G (ri t 1) 0 (ri u 1) = 1) = mk (sPin (un G (ri t 1) 0)) := hR2.pn i1
      refine xr_k ?_
      refine xr_if_ne xi_20_19 (by first | exact tI_n (by omega) | exact tI_d (by omega) | assumption | exact tI_e1 | exact tI_e2 | exact tI_e3 | exact tI_e4) (fun c_ => ?_) (fun c_ => by exfalso; omega)
      refine xr_aload_n xi_20_25 rfl ?_
      refine xr_dup xi_20_26 ?_
      refine xr_getf xi_20_27 rfl rfl ?_
      refine xr_iconst (z := nI 1) xi_20_30 rfl ?_
      refine xr_iload_n xi_20_31 rfl ?_
      refine xr_ishl xi_20_32 (mk_1 ht) ?_
      refine xr_iconst (z := dI 0) xi_20_33 xm_m1 ?_
      refine xr_ixor xi_20_34 rfl ?_
      refine xr_iand xi_20_35 ((mk_andn _ _).trans e) ?_
      refine xr_putf xi_20_36 rfl (Nat.le_of_ble_eq_true rfl) (show _ = vH A Gs Sp Ti Mv Hd (mk (fun u => un G (ri t 1) 0 (ri u 1) = 1)) c w f m from rfl) ?_
      refine xr_aload_n xi_20_39 rfl ?_
      refine xr_getf xi_20_40 rfl rfl ?_
      refine xr_stat xi_20_43 (by decide) rfl rfl (Nat.le_of_ble_eq_true rfl) (Nat.le_of_ble_eq_true rfl) ?_
      rw [show (mk (fun u => un G (ri t 1) 0 (ri u 1) = 1)) = mk (sPin (un G (ri t 1) 0)) from e2] at hR2 ⊢
      refine wj_bc ?_
      refine xr_k ?_
      refine xr_iret xi_20_46 (fun h => absurd h (by decide)) ?_
      rw [pPin_0 hI hl (by omega)] at hQ
      exact hQ _ _ _ _ _ _ _ _ _ _ _ (fun _ => hR2)
    · refine xr_k ?_
      refine xr_if_ne xi_20_19 (by first | exact tI_n (by omega) | exact tI_d (by omega) | assumption | exact tI_e1 | exact tI_e2 | exact tI_e3 | exact tI_e4) (fun c_ => by exfalso; omega) (fun c_ => ?_)
      refine xr_ldc (z := xE2) xi_20_22 rfl ?_
      refine xr_iret xi_20_24 (fun h => absurd h (by decide)) ?_
      rw [pPin_2 hI hl (by omega)] at hQ
      exact hQ _ _ _ _ _ _ _ _ _ _ _ (fun _ => hR)
  · refine xr_k ?_
    refine xr_if_ne xi_20_5 (by first | exact tI_n (by omega) | exact tI_d (by omega) | assumption | exact tI_e1 | exact tI_e2 | exact tI_e3 | exact tI_e4) (fun c_ => by exfalso; omega) (fun c_ => ?_)
    refine xr_ldc (z := xE1) xi_20_8 rfl ?_
    refine xr_iret xi_20_10 (fun h => absurd h (by decide)) ?_
    rw [pPin_1 hn] at hQ
    exact hQ _ _ _ _ _ _ _ _ _ _ _ (fun _ => hR)
theorem wv_turnFully (hR : vR A Gs Sp Ti Mv Hd pin c w f m G) (hI : sInv G) (hQ : vC Q (pFull G)) : xc L xs 22 [.ref 0] (vH A Gs Sp Ti Mv Hd pin c w f m) Q := by
  have e : mk (fun t => sAll G t ∧ ¬ sNeed G t) = mk (sForg G) := rfl
  refine xr_aload_n xi_22_0 rfl ?_
  refine xr_virt xi_22_1 rfl rfl rfl rfl (Nat.le_of_ble_eq_true rfl) (Nat.le_of_ble_eq_true rfl) ?_
  refine wv_livingSet hR hI ?_
  refine xr_k ?_
  refine xr_aload_n xi_22_4 rfl ?_
  refine xr_virt xi_22_5 rfl rfl rfl rfl (Nat.le_of_ble_eq_true rfl) (Nat.le_of_ble_eq_true rfl) ?_
  refine wv_neededSet hR hI ?_
  refine xr_k ?_
  refine xr_iconst (z := dI 0) xi_22_8 xm_m1 ?_
  refine xr_ixor xi_22_9 rfl ?_
  refine xr_iand xi_22_10 ((mk_andn _ _).trans e) ?_
  refine xr_istore_n xi_22_11 (Nat.le_of_ble_eq_true rfl) rfl ?_
  refine xr_aload_n xi_22_12 rfl ?_
  refine xr_iload_n xi_22_13 rfl ?_
  refine xr_virt xi_22_14 rfl rfl rfl rfl (Nat.le_of_ble_eq_true rfl) (Nat.le_of_ble_eq_true rfl) ?_
  refine wv_remove hR hI.c (fun t ht => hI.l ht) (fun t q => q.1.1.1) (fun t q => ?_) (fun A Gs Sp Ti Mv Hd pin c w f m hR => ?_)
  · have ht := hI.lt q.1.1
    have h1 := (hI.p ht).1
    have h2 : ¬ G (ri t 1) = 1 := fun z => q.2 (sReach_F (Or.inr ⟨q.1.1, z⟩) q.1)
    omega
  refine xr_kv ?_
  refine xr_aload_n xi_22_17 rfl ?_
  refine xr_dup xi_22_18 ?_
  refine xr_getf xi_22_19 rfl rfl ?_
  refine xr_iconst (z := nI 1) xi_22_22 rfl ?_
  refine xr_iadd xi_22_23 (by first | exact nI_add _ _ | exact rfl) ?_
  refine xr_putf xi_22_24 rfl (Nat.le_of_ble_eq_true rfl) (show _ = vH A Gs Sp Ti Mv Hd pin c w (f + 1) m from rfl) ?_
  refine xr_iload_n xi_22_27 rfl ?_
  refine xr_stat xi_22_28 (by decide) rfl rfl (Nat.le_of_ble_eq_true rfl) (Nat.le_of_ble_eq_true rfl) ?_
  refine wj_bc ?_
  refine xr_k ?_
  refine xr_iret xi_22_31 (fun h => absurd h (by decide)) ?_
  exact hQ _ _ _ _ _ _ _ _ _ _ _ (fun _ => vR.ful hR)
theorem wv_passWinter {x : Int32} (hR : vR A Gs Sp Ti Mv Hd pin c w f m G) (hI : sInv G) (hQ : vC Q (pWinter G x)) : xc L xs 21 [.ref 0, .int x] (vH A Gs Sp Ti Mv Hd pin c w f m) Q := by
  have hc := hI.c
  have bad : ¬ (0 ≤ x.toInt ∧ x.toInt < 2) → ∀ a, a < 2 → x ≠ nI a := fun q a ha e => q (by rw [e, tI_n (by omega)]; omega)
  refine xr_iload_n xi_21_0 rfl ?_
  refine xr_if_lt xi_21_1 (rfl) (fun c_1 => ?_) (fun c_1 => ?_)
  · refine xr_ldc (z := xE1) xi_21_9 rfl ?_
    refine xr_iret xi_21_11 (fun h => absurd h (by decide)) ?_
    rw [pWinter_1 (bad (by omega))] at hQ
    exact hQ _ _ _ _ _ _ _ _ _ _ _ (fun _ => hR)
  · refine xr_iload_n xi_21_4 rfl ?_
    refine xr_iconst (z := nI 2) xi_21_5 rfl ?_
    refine xr_ic_lt xi_21_6 (rfl) (by first | exact tI_n (by omega) | exact tI_d (by omega) | assumption | exact tI_e1 | exact tI_e2 | exact tI_e3 | exact tI_e4) (fun c_6 => ?_) (fun c_6 => ?_)
    · obtain ⟨a, ha, rfl⟩ := x_of (n := 2) c_1 c_6 (by omega)
      have eg : mk (fun t => sYoung G a t ∧ ¬ sSurv G a t) = mk (sGone G a) := rfl
      have es : mk (fun t => sSurv G a t ∧ sPin G t) = mk (sStay G a) := rfl
      refine xr_aload_n xi_21_12 rfl ?_
      refine xr_iload_n xi_21_13 rfl ?_
      refine xr_virt xi_21_14 rfl rfl rfl rfl (Nat.le_of_ble_eq_true rfl) (Nat.le_of_ble_eq_true rfl) ?_
      refine wv_survivingSet ha hR hI ?_
      refine xr_k ?_
      refine xr_istore_n xi_21_17 (Nat.le_of_ble_eq_true rfl) rfl ?_
      refine xr_aload_n xi_21_18 rfl ?_
      refine xr_iload_n xi_21_19 rfl ?_
      refine xr_virt xi_21_20 rfl rfl rfl rfl (Nat.le_of_ble_eq_true rfl) (Nat.le_of_ble_eq_true rfl) ?_
      refine wv_concernedSet hR hI (by omega) ?_
      refine xr_k ?_
      refine xr_iload_n xi_21_23 rfl ?_
      refine xr_iconst (z := dI 0) xi_21_24 xm_m1 ?_
      refine xr_ixor xi_21_25 rfl ?_
      refine xr_iand xi_21_26 ((mk_andn _ _).trans eg) ?_
      refine xr_istore_n xi_21_27 (Nat.le_of_ble_eq_true rfl) rfl ?_
      refine xr_aload_n xi_21_28 rfl ?_
      refine xr_iconst (z := nI 0) xi_21_29 rfl ?_
      refine xr_virt xi_21_30 rfl rfl rfl rfl (Nat.le_of_ble_eq_true rfl) (Nat.le_of_ble_eq_true rfl) ?_
      refine wv_ageSet hR hI (by omega) ?_
      refine xr_k ?_
      refine xr_istore xi_21_33 (Nat.le_of_ble_eq_true rfl) rfl ?_
      refine xr_aload_n xi_21_35 rfl ?_
      refine xr_iload_n xi_21_36 rfl ?_
      refine xr_aload_n xi_21_37 rfl ?_
      refine xr_getf xi_21_38 rfl rfl ?_
      refine xr_iand xi_21_41 ((congrArg (mk (sSurv G a) &&& ·) (hR.pn hI)).trans ((mk_and _ _).trans es)) ?_
      refine xr_virt xi_21_42 rfl rfl rfl rfl (Nat.le_of_ble_eq_true rfl) (Nat.le_of_ble_eq_true rfl) ?_
      refine wv_warm hR hI (fun t q => q.2.1) (fun A Gs Sp Ti Mv Hd pin c w f m hR => ?_)
      refine xr_kv ?_
      obtain ⟨g1, g2, g3⟩ := sGone_ok (a := a) hI
      have key2 : ∀ d i H A Gs Sp Ti Mv Hd pin c w f m, i + d = 30 → G 0 ≤ i → sMv G (sStay G a) (sMove G a) (G 0) = some H → vR A Gs Sp Ti Mv Hd pin c w f m H → xw L xs 21 48 [.ref 0, .int (nI a), .int (mk (sSurv G a)), .int (mk (sGone G a)), .int (mk (sAged G (0 + 1))), .int (nI i)] [] (vH A Gs Sp Ti Mv Hd pin c w f m) Q := by
        intro d
        induction d with
        | zero =>
          intro i H A Gs Sp Ti Mv Hd pin c w f m hi hge hH hR
          have e : i = 30 := by omega
          subst e
          obtain ⟨h1, h2, h3, h4, h5⟩ := sMv_inv hI ha (G 0) H (Nat.le_refl _) hH
          refine xr_iload xi_21_48 rfl ?_
          refine xr_bipush (z := nI 30) xi_21_50 rfl ?_
          refine xr_ic_ge xi_21_52 (by first | exact tI_n (by omega) | exact tI_d (by omega) | assumption | exact tI_e1 | exact tI_e2 | exact tI_e3 | exact tI_e4) (by first | exact tI_n (by omega) | exact tI_d (by omega) | assumption | exact tI_e1 | exact tI_e2 | exact tI_e3 | exact tI_e4) (fun c_ => ?_) (fun c_ => by exfalso; omega)
          refine xr_aload_n xi_21_104 rfl ?_
          refine xr_iload_n xi_21_105 rfl ?_
          refine xr_virt xi_21_106 rfl rfl rfl rfl (Nat.le_of_ble_eq_true rfl) (Nat.le_of_ble_eq_true rfl) ?_
          refine wv_remove hR h1.c (fun t ht => h1.l ht) (fun t q => by rw [h3 0 (by omega)]; exact q.1.1.1) (fun t q => ?_) (fun A Gs Sp Ti Mv Hd pin c w f m hR => ?_)
          · have ht := hI.lt q.1.1
            have e1 : H (ri t 1) = G (ri t 1) := h4 _ (by unfold ri; omega) (fun u => ri_ne (by omega) (by omega) (by omega)) (fun u => ri_ne (by omega) (by omega) (by omega))
            have h1 := (hI.p ht).1
            have h2 : ¬ G (ri t 1) = 1 := fun z => g2 t ⟨q.1.1, z⟩ q
            omega
          refine xr_kv ?_
          refine xr_aload_n xi_21_109 rfl ?_
          refine xr_dup xi_21_110 ?_
          refine xr_getf xi_21_111 rfl rfl ?_
          refine xr_iconst (z := nI 1) xi_21_114 rfl ?_
          refine xr_iadd xi_21_115 (by first | exact nI_add _ _ | exact rfl) ?_
          refine xr_putf xi_21_116 rfl (Nat.le_of_ble_eq_true rfl) (show _ = vH A Gs Sp Ti Mv Hd pin c (w + 1) f m from rfl) ?_
          refine xr_iload_n xi_21_119 rfl ?_
          refine xr_stat xi_21_120 (by decide) rfl rfl (Nat.le_of_ble_eq_true rfl) (Nat.le_of_ble_eq_true rfl) ?_
          refine wj_bc ?_
          refine xr_k ?_
          refine xr_iret xi_21_123 (fun h => absurd h (by decide)) ?_
          rw [pWinter_0 ha (sWin_1 hH)] at hQ
          exact hQ _ _ _ _ _ _ _ _ _ _ _ (fun _ => vR.win hR)
        | succ d ih =>
          intro i H A Gs Sp Ti Mv Hd pin c w f m hi hge hH hR
          obtain ⟨h1, h2, h3, h4, h5⟩ := sMv_inv hI ha (G 0) H (Nat.le_refl _) hH
          refine xr_iload xi_21_48 rfl ?_
          refine xr_bipush (z := nI 30) xi_21_50 rfl ?_
          refine xr_ic_ge xi_21_52 (by first | exact tI_n (by omega) | exact tI_d (by omega) | assumption | exact tI_e1 | exact tI_e2 | exact tI_e3 | exact tI_e4) (by first | exact tI_n (by omega) | exact tI_d (by omega) | assumption | exact tI_e1 | exact tI_e2 | exact tI_e3 | exact tI_e4) (fun c_ => by exfalso; omega) (fun c_ => ?_)
          refine xr_iload_n xi_21_55 rfl ?_
          refine xr_aload_n xi_21_56 rfl ?_
          refine xr_getf xi_21_57 rfl rfl ?_
          refine xr_iconst (z := dI 0) xi_21_60 xm_m1 ?_
          refine xr_ixor xi_21_61 rfl ?_
          refine xr_iand xi_21_62 ((congrArg (fun z => mk (sSurv G a) &&& (z ^^^ dI 0)) (hR.pn h1)).trans (mk_andn _ _)) ?_
          refine xr_iload xi_21_63 rfl ?_
          refine xr_stat xi_21_65 (by decide) rfl rfl (Nat.le_of_ble_eq_true rfl) (Nat.le_of_ble_eq_true rfl) ?_
          refine wv_has (by omega) (fun q => ?_) (fun _ => ?_)
          · exfalso
            have := (sSurv_y q.1).1.1
            omega
          · refine xr_k ?_
            refine xr_if_eq xi_21_68 (by first | exact tI_n (by omega) | exact tI_d (by omega) | assumption | exact tI_e1 | exact tI_e2 | exact tI_e3 | exact tI_e4) (fun c_ => ?_) (fun c_ => by exfalso; omega)
            refine xr_iinc xi_21_98 rfl (by first | exact nI_1 _ | exact rfl) rfl ?_
            refine xr_goto xi_21_101 ?_
            exact ih (i + 1) H _ _ _ _ _ _ _ _ _ _ _ (by omega) (by omega) hH hR
      have key : ∀ d i H A Gs Sp Ti Mv Hd pin c w f m, i + d = G 0 → sMv G (sStay G a) (sMove G a) i = some H → vR A Gs Sp Ti Mv Hd pin c w f m H → xw L xs 21 48 [.ref 0, .int (nI a), .int (mk (sSurv G a)), .int (mk (sGone G a)), .int (mk (sAged G (0 + 1))), .int (nI i)] [] (vH A Gs Sp Ti Mv Hd pin c w f m) Q := by
        intro d
        induction d with
        | zero =>
          intro i H A Gs Sp Ti Mv Hd pin c w f m hi hH hR
          have e : i = G 0 := by omega
          subst e
          exact key2 (30 - G 0) (G 0) H _ _ _ _ _ _ _ _ _ _ _ (by omega) (Nat.le_refl _) hH hR
        | succ d ih =>
          intro i H A Gs Sp Ti Mv Hd pin c w f m hi hH hR
          obtain ⟨h1, h2, h3, h4, h5⟩ := sMv_inv hI ha i H (by omega) hH
          have ep : sPin H i ↔ sPin G i := by
            have e1 : H (ri i 1) = G (ri i 1) := h4 _ (by unfold ri; omega) (fun u => ri_ne (by omega) (by omega) (by omega)) (fun u => ri_ne (by omega) (by omega) (by omega))
            unfold sPin
            rw [h2 i, e1]
          refine xr_iload xi_21_48 rfl ?_
          refine xr_bipush (z := nI 30) xi_21_50 rfl ?_
          refine xr_ic_ge xi_21_52 (by first | exact tI_n (by omega) | exact tI_d (by omega) | assumption | exact tI_e1 | exact tI_e2 | exact tI_e3 | exact tI_e4) (by first | exact tI_n (by omega) | exact tI_d (by omega) | assumption | exact tI_e1 | exact tI_e2 | exact tI_e3 | exact tI_e4) (fun c_ => by exfalso; omega) (fun c_ => ?_)
          refine xr_iload_n xi_21_55 rfl ?_
          refine xr_aload_n xi_21_56 rfl ?_
          refine xr_getf xi_21_57 rfl rfl ?_
          refine xr_iconst (z := dI 0) xi_21_60 xm_m1 ?_
          refine xr_ixor xi_21_61 rfl ?_
          refine xr_iand xi_21_62 ((congrArg (fun z => mk (sSurv G a) &&& (z ^^^ dI 0)) (hR.pn h1)).trans (mk_andn _ _)) ?_
          refine xr_iload xi_21_63 rfl ?_
          refine xr_stat xi_21_65 (by decide) rfl rfl (Nat.le_of_ble_eq_true rfl) (Nat.le_of_ble_eq_true rfl) ?_
          refine wv_has (by omega) (fun q => ?_) (fun q => ?_)
          · have hm : sMove G a i := ⟨q.1, fun z => q.2 (ep.mpr z.2)⟩
            have hy := sSurv_y q.1
            have hg := hI.g hy.1
            have hy2 := hy.2
            have mv : ∀ b, b + 1 = sAge G i + 1 → xw L xs 21 89 [.ref 0, .int (nI a), .int (mk (sSurv G a)), .int (mk (sGone G a)), .int (mk (sAged G (0 + 1))), .int (nI i)] [.int (nI b), .int (nI i), .ref 0] (vH A Gs Sp Ti Mv Hd pin c w f m) Q := by
              intro b hb
              refine xr_virt xi_21_89 rfl rfl rfl rfl (Nat.le_of_ble_eq_true rfl) (Nat.le_of_ble_eq_true rfl) ?_
              refine wv_moveTo hR h1 (by rw [h3 0 (by omega)]; omega) (by omega) (fun p H1 hr A Gs Sp Ti Mv Hd pin c w f m hR => ?_) (fun hr A Gs Sp Ti Mv Hd pin c w f m => ?_)
              · rw [hb] at hr
                refine xr_k ?_
                refine xr_if_ne xi_21_92 (by first | exact tI_n (by omega) | exact tI_d (by omega) | assumption | exact tI_e1 | exact tI_e2 | exact tI_e3 | exact tI_e4) (fun c_ => ?_) (fun c_ => by exfalso; omega)
                refine xr_iinc xi_21_98 rfl (by first | exact nI_1 _ | exact rfl) rfl ?_
                refine xr_goto xi_21_101 ?_
                exact ih (i + 1) _ _ _ _ _ _ _ _ _ _ _ _ (by omega) (sMv_s1 hH hm hr) hR
              · rw [hb] at hr
                refine xr_k ?_
                refine xr_if_ne xi_21_92 (by first | exact tI_n (by omega) | exact tI_d (by omega) | assumption | exact tI_e1 | exact tI_e2 | exact tI_e3 | exact tI_e4) (fun c_ => by exfalso; omega) (fun c_ => ?_)
                refine xr_ldc (z := xE2) xi_21_95 rfl ?_
                refine xr_iret xi_21_97 (fun h => absurd h (by decide)) ?_
                rw [pWinter_2 ha (sWin_0 (n := i + 1) (by omega) (sMv_sn hH hm hr))] at hQ
                exact hQ _ _ _ _ _ _ _ _ _ _ _ (fun z => absurd z (by show ¬ 0 ≤ xE2.toInt; rw [tI_e2]; decide))
            refine xr_k ?_
            refine xr_if_eq xi_21_68 (by first | exact tI_n (by omega) | exact tI_d (by omega) | assumption | exact tI_e1 | exact tI_e2 | exact tI_e3 | exact tI_e4) (fun c_ => by exfalso; omega) (fun c_ => ?_)
            refine xr_aload_n xi_21_71 rfl ?_
            refine xr_iload xi_21_72 rfl ?_
            refine xr_iload xi_21_74 rfl ?_
            refine xr_iload xi_21_76 rfl ?_
            refine xr_stat xi_21_78 (by decide) rfl rfl (Nat.le_of_ble_eq_true rfl) (Nat.le_of_ble_eq_true rfl) ?_
            refine wv_has (by omega) (fun z => ?_) (fun z => ?_)
            · have := z.2
              refine xr_k ?_
              refine xr_if_eq xi_21_81 (by first | exact tI_n (by omega) | exact tI_d (by omega) | assumption | exact tI_e1 | exact tI_e2 | exact tI_e3 | exact tI_e4) (fun c_ => by exfalso; omega) (fun c_ => ?_)
              refine xr_iconst (z := nI 1) xi_21_84 rfl ?_
              refine xr_goto xi_21_85 ?_
              exact mv 1 (by omega)
            · have : ¬ sAge G i = 1 := fun e => z ⟨hy.1, e⟩
              refine xr_k ?_
              refine xr_if_eq xi_21_81 (by first | exact tI_n (by omega) | exact tI_d (by omega) | assumption | exact tI_e1 | exact tI_e2 | exact tI_e3 | exact tI_e4) (fun c_ => ?_) (fun c_ => by exfalso; omega)
              refine xr_iconst (z := nI 2) xi_21_88 rfl ?_
              exact mv 2 (by omega)
          · refine xr_k ?_
            refine xr_if_eq xi_21_68 (by first | exact tI_n (by omega) | exact tI_d (by omega) | assumption | exact tI_e1 | exact tI_e2 | exact tI_e3 | exact tI_e4) (fun c_ => ?_) (fun c_ => by exfalso; omega)
            refine xr_iinc xi_21_98 rfl (by first | exact nI_1 _ | exact rfl) rfl ?_
            refine xr_goto xi_21_101 ?_
            exact ih (i + 1) H _ _ _ _ _ _ _ _ _ _ _ (by omega) (sMv_s0 hH (fun z => q ⟨z.1, fun y => z.2 ⟨z.1, ep.mp y⟩⟩)) hR
      refine xr_iconst (z := nI 0) xi_21_45 rfl ?_
      refine xr_istore xi_21_46 (Nat.le_of_ble_eq_true rfl) rfl ?_
      exact key (G 0) 0 _ _ _ _ _ _ _ _ _ _ _ _ (by omega) rfl hR
    · refine xr_ldc (z := xE1) xi_21_9 rfl ?_
      refine xr_iret xi_21_11 (fun h => absurd h (by decide)) ?_
      rw [pWinter_1 (bad (by omega))] at hQ
      exact hQ _ _ _ _ _ _ _ _ _ _ _ (fun _ => hR)
end V6
