/-! what the village tells of itself -/
section V3
variable {L : Nat} {xs : Nat → Int32} {Q : Option Value → xm_H → Prop} {A Gs Sp Ti Mv Hd G : Nat → Nat} {pin : Int32} {c w f m : Nat}
theorem sLive_place {G : Nat → Nat} {t : Nat} (hI : sInv G) (hl : sLive G t) : ∃ s, G (ri t 0) = s + 1 ∧ s < 40 ∧ sHome G t = s / 5 ∧ (G (ri t 0) - 1) % 5 = s % 5 := by
  have h1 := hl.2
  have h2 := hI.l (hI.lt hl)
  refine ⟨G (ri t 0) - 1, by omega, by omega, rfl, rfl⟩
theorem wv_addressOf {t : Nat} (hR : vR A Gs Sp Ti Mv Hd pin c w f m G) (hI : sInv G) (hl : sLive G t) (hQ : Q (some (.int (nI (10 * sHome G t + (G (ri t 0) - 1) % 5)))) (vH A Gs Sp Ti Mv Hd pin c w f m)) : xc L xs 35 [.ref 0, .int (nI t)] (vH A Gs Sp Ti Mv Hd pin c w f m) Q := by
  have ht := hI.lt hl
  obtain ⟨s, h1, h2, h3, h4⟩ := sLive_place hI hl
  have hs := (hR.s ht).trans h1
  refine xr_aload_n xi_35_0 rfl ?_
  refine xr_iload_n xi_35_1 rfl ?_
  refine xr_virt xi_35_2 rfl rfl rfl rfl (Nat.le_of_ble_eq_true rfl) (Nat.le_of_ble_eq_true rfl) ?_
  refine wv_lives hR hI (fun u hu e => ?_) (fun q => absurd rfl (q t hl))
  refine xr_k ?_
  rw [h3, h4, Nat.mul_comm] at hQ
  refine xr_if_ne xi_35_5 (by first | exact tI_n (by omega) | exact tI_d (by omega) | assumption | exact tI_e1 | exact tI_e2 | exact tI_e3 | exact tI_e4) (fun c_ => ?_) (fun c_ => by exfalso; omega)
  refine xr_aload_n xi_35_10 rfl ?_
  refine xr_getf xi_35_11 rfl rfl ?_
  refine xr_iload_n xi_35_14 rfl ?_
  refine xr_ialz xi_35_15 rfl (by first | exact tI_n (by first | omega | (simp only [ri]; omega)) | exact tI_dn (by omega) (by omega) | assumption) (by first | omega | (simp only [ri]; omega)) (dF_s hs) ?_
  refine xr_iconst (z := nI 5) xi_35_16 rfl ?_
  refine xr_idiv xi_35_17 (by decide) (by first | exact pk_div (by omega) (by omega) (by omega) | exact rfl) ?_
  refine xr_bipush (z := nI 10) xi_35_18 rfl ?_
  refine xr_imul xi_35_20 (by first | exact pk_mul _ _ | exact rfl) ?_
  refine xr_aload_n xi_35_21 rfl ?_
  refine xr_getf xi_35_22 rfl rfl ?_
  refine xr_iload_n xi_35_25 rfl ?_
  refine xr_ialz xi_35_26 rfl (by first | exact tI_n (by first | omega | (simp only [ri]; omega)) | exact tI_dn (by omega) (by omega) | assumption) (by first | omega | (simp only [ri]; omega)) (dF_s hs) ?_
  refine xr_iconst (z := nI 5) xi_35_27 rfl ?_
  refine xr_irem xi_35_28 (by decide) (by first | exact pk_rem (by omega) (by omega) (by omega) | exact rfl) ?_
  refine xr_iadd xi_35_29 (by first | exact nI_add _ _ | exact rfl) ?_
  refine xr_iret xi_35_30 (fun h => absurd h (by decide)) ?_
  exact hQ
theorem wv_addressX {x : Int32} (hR : vR A Gs Sp Ti Mv Hd pin c w f m G) (hI : sInv G) (hl : ∀ t, sLive G t → x ≠ nI t) (hQ : Q (some (.int (dI 0))) (vH A Gs Sp Ti Mv Hd pin c w f m)) : xc L xs 35 [.ref 0, .int x] (vH A Gs Sp Ti Mv Hd pin c w f m) Q := by
  refine xr_aload_n xi_35_0 rfl ?_
  refine xr_iload_n xi_35_1 rfl ?_
  refine xr_virt xi_35_2 rfl rfl rfl rfl (Nat.le_of_ble_eq_true rfl) (Nat.le_of_ble_eq_true rfl) ?_
  refine wv_lives hR hI (fun u hu e => absurd e (hl u hu)) (fun q => ?_)
  refine xr_k ?_
  refine xr_if_ne xi_35_5 (by first | exact tI_n (by omega) | exact tI_d (by omega) | assumption | exact tI_e1 | exact tI_e2 | exact tI_e3 | exact tI_e4) (fun c_ => by exfalso; omega) (fun c_ => ?_)
  refine xr_iconst (z := dI 0) xi_35_8 xm_m1 ?_
  refine xr_iret xi_35_9 (fun h => absurd h (by decide)) ?_
  exact hQ
theorem wv_ageOf {t : Nat} (hR : vR A Gs Sp Ti Mv Hd pin c w f m G) (hI : sInv G) (hl : sLive G t) (hQ : Q (some (.int (dI (sAge G t)))) (vH A Gs Sp Ti Mv Hd pin c w f m)) : xc L xs 36 [.ref 0, .int (nI t)] (vH A Gs Sp Ti Mv Hd pin c w f m) Q := by
  have ht := hI.lt hl
  obtain ⟨s, h1, h2, h3, h4⟩ := sLive_place hI hl
  have hs := (hR.s ht).trans h1
  have ha : A (s / 5) = sAge G t := by
    rw [hR.a (by omega)]
    unfold sAge
    rw [h3]
  refine xr_aload_n xi_36_0 rfl ?_
  refine xr_iload_n xi_36_1 rfl ?_
  refine xr_virt xi_36_2 rfl rfl rfl rfl (Nat.le_of_ble_eq_true rfl) (Nat.le_of_ble_eq_true rfl) ?_
  refine wv_lives hR hI (fun u hu e => ?_) (fun q => absurd rfl (q t hl))
  refine xr_k ?_
  refine xr_if_eq xi_36_5 (by first | exact tI_n (by omega) | exact tI_d (by omega) | assumption | exact tI_e1 | exact tI_e2 | exact tI_e3 | exact tI_e4) (fun c_ => by exfalso; omega) (fun c_ => ?_)
  refine xr_aload_n xi_36_8 rfl ?_
  refine xr_getf xi_36_9 rfl rfl ?_
  refine xr_aload_n xi_36_12 rfl ?_
  refine xr_getf xi_36_13 rfl rfl ?_
  refine xr_iload_n xi_36_16 rfl ?_
  refine xr_ialz xi_36_17 rfl (by first | exact tI_n (by first | omega | (simp only [ri]; omega)) | exact tI_dn (by omega) (by omega) | assumption) (by first | omega | (simp only [ri]; omega)) (dF_s hs) ?_
  refine xr_iconst (z := nI 5) xi_36_18 rfl ?_
  refine xr_idiv xi_36_19 (by decide) (by first | exact pk_div (by omega) (by omega) (by omega) | exact rfl) ?_
  refine xr_ialz xi_36_20 rfl (by first | exact tI_n (by first | omega | (simp only [ri]; omega)) | exact tI_dn (by omega) (by omega) | assumption) (by first | omega | (simp only [ri]; omega)) (congrArg dI ha) ?_
  refine xr_goto xi_36_21 ?_
  refine xr_iret xi_36_25 (fun h => absurd h (by decide)) ?_
  exact hQ
theorem wv_ageX {x : Int32} (hR : vR A Gs Sp Ti Mv Hd pin c w f m G) (hI : sInv G) (hl : ∀ t, sLive G t → x ≠ nI t) (hQ : Q (some (.int (dI 0))) (vH A Gs Sp Ti Mv Hd pin c w f m)) : xc L xs 36 [.ref 0, .int x] (vH A Gs Sp Ti Mv Hd pin c w f m) Q := by
  refine xr_aload_n xi_36_0 rfl ?_
  refine xr_iload_n xi_36_1 rfl ?_
  refine xr_virt xi_36_2 rfl rfl rfl rfl (Nat.le_of_ble_eq_true rfl) (Nat.le_of_ble_eq_true rfl) ?_
  refine wv_lives hR hI (fun u hu e => absurd e (hl u hu)) (fun q => ?_)
  refine xr_k ?_
  refine xr_if_eq xi_36_5 (by first | exact tI_n (by omega) | exact tI_d (by omega) | assumption | exact tI_e1 | exact tI_e2 | exact tI_e3 | exact tI_e4) (fun c_ => ?_) (fun c_ => by exfalso; omega)
  refine xr_iconst (z := dI 0) xi_36_24 xm_m1 ?_
  refine xr_iret xi_36_25 (fun h => absurd h (by decide)) ?_
  exact hQ
theorem wv_movesOf {t : Nat} (hR : vR A Gs Sp Ti Mv Hd pin c w f m G) (hI : sInv G) (ht : t < G 0) (hQ : Q (some (.int (nI (G (ri t 5))))) (vH A Gs Sp Ti Mv Hd pin c w f m)) : xc L xs 37 [.ref 0, .int (nI t)] (vH A Gs Sp Ti Mv Hd pin c w f m) Q := by
  have hc := hI.c
  have hm := hR.mv (t := t) (by omega)
  refine xr_aload_n xi_37_0 rfl ?_
  refine xr_iload_n xi_37_1 rfl ?_
  refine xr_virt xi_37_2 rfl rfl rfl rfl (Nat.le_of_ble_eq_true rfl) (Nat.le_of_ble_eq_true rfl) ?_
  refine wv_came hR hI (fun u hu e => ?_) (fun q => absurd rfl (q t ht))
  refine xr_k ?_
  refine xr_if_eq xi_37_5 (by first | exact tI_n (by omega) | exact tI_d (by omega) | assumption | exact tI_e1 | exact tI_e2 | exact tI_e3 | exact tI_e4) (fun c_ => by exfalso; omega) (fun c_ => ?_)
  refine xr_aload_n xi_37_8 rfl ?_
  refine xr_getf xi_37_9 rfl rfl ?_
  refine xr_iload_n xi_37_12 rfl ?_
  refine xr_ialz xi_37_13 rfl (by first | exact tI_n (by first | omega | (simp only [ri]; omega)) | exact tI_dn (by omega) (by omega) | assumption) (by first | omega | (simp only [ri]; omega)) (congrArg nI hm) ?_
  refine xr_goto xi_37_14 ?_
  refine xr_iret xi_37_18 (fun h => absurd h (by decide)) ?_
  exact hQ
theorem wv_tiedAt {t s : Nat} (hR : vR A Gs Sp Ti Mv Hd pin c w f m G) (hI : sInv G) (ht : t < 30) (hs : s < 3) (hQ : Q (some (.int (dI (G (ri t (2 + s)))))) (vH A Gs Sp Ti Mv Hd pin c w f m)) : xc L xs 38 [.ref 0, .int (nI t), .int (nI s)] (vH A Gs Sp Ti Mv Hd pin c w f m) Q := by
  have hc := hI.c
  have h1 := hR.t ht hs
  rw [Nat.mul_comm] at h1
  refine xr_aload_n xi_38_0 rfl ?_
  refine xr_iload_n xi_38_1 rfl ?_
  refine xr_virt xi_38_2 rfl rfl rfl rfl (Nat.le_of_ble_eq_true rfl) (Nat.le_of_ble_eq_true rfl) ?_
  refine wv_came hR hI (fun u hu e => ?_) (fun q => ?_)
  · refine xr_k ?_
    refine xr_if_eq xi_38_5 (by first | exact tI_n (by omega) | exact tI_d (by omega) | assumption | exact tI_e1 | exact tI_e2 | exact tI_e3 | exact tI_e4) (fun c_ => by exfalso; omega) (fun c_ => ?_)
    refine xr_iload_n xi_38_8 rfl ?_
    refine xr_stat xi_38_9 (by decide) rfl rfl (Nat.le_of_ble_eq_true rfl) (Nat.le_of_ble_eq_true rfl) ?_
    refine wv_isString (fun k hk e => ?_) (fun q => absurd rfl (q s hs))
    refine xr_k ?_
    refine xr_if_ne xi_38_12 (by first | exact tI_n (by omega) | exact tI_d (by omega) | assumption | exact tI_e1 | exact tI_e2 | exact tI_e3 | exact tI_e4) (fun c_ => ?_) (fun c_ => by exfalso; omega)
    refine xr_aload_n xi_38_17 rfl ?_
    refine xr_getf xi_38_18 rfl rfl ?_
    refine xr_iload_n xi_38_21 rfl ?_
    refine xr_iconst (z := nI 3) xi_38_22 rfl ?_
    refine xr_imul xi_38_23 (by first | exact pk_mul _ _ | exact rfl) ?_
    refine xr_iload_n xi_38_24 rfl ?_
    refine xr_iadd xi_38_25 (by first | exact nI_add _ _ | exact rfl) ?_
    refine xr_ialz xi_38_26 rfl (by first | exact tI_n (by first | omega | (simp only [ri]; omega)) | exact tI_dn (by omega) (by omega) | assumption) (by first | omega | (simp only [ri]; omega)) (congrArg dI h1) ?_
    refine xr_iret xi_38_27 (fun h => absurd h (by decide)) ?_
    exact hQ
  · refine xr_k ?_
    refine xr_if_eq xi_38_5 (by first | exact tI_n (by omega) | exact tI_d (by omega) | assumption | exact tI_e1 | exact tI_e2 | exact tI_e3 | exact tI_e4) (fun c_ => ?_) (fun c_ => by exfalso; omega)
    refine xr_iconst (z := dI 0) xi_38_15 xm_m1 ?_
    refine xr_iret xi_38_16 (fun h => absurd h (by decide)) ?_
    have hz : G (ri t (2 + s)) = 0 := hI.z ht (by omega) (by rcases Nat.lt_or_ge t (G 0) with z | z; exact absurd rfl (q t z); exact z)
    rw [hz] at hQ
    exact hQ
theorem wv_isNoted {t s : Nat} (hR : vR A Gs Sp Ti Mv Hd pin c w f m G) (hI : sInv G) (ht : t < 30) (hs : s < 3) (h1 : sNoted G t s → Q (some (.int (nI 1))) (vH A Gs Sp Ti Mv Hd pin c w f m)) (h2 : ¬ sNoted G t s → Q (some (.int (nI 0))) (vH A Gs Sp Ti Mv Hd pin c w f m)) : xc L xs 39 [.ref 0, .int (nI t), .int (nI s)] (vH A Gs Sp Ti Mv Hd pin c w f m) Q := by
  have h30 := hI.t ht hs
  refine xr_aload_n xi_39_0 rfl ?_
  refine xr_iload_n xi_39_1 rfl ?_
  refine xr_iload_n xi_39_2 rfl ?_
  refine xr_virt xi_39_3 rfl rfl rfl rfl (Nat.le_of_ble_eq_true rfl) (Nat.le_of_ble_eq_true rfl) ?_
  refine wv_tiedAt hR hI ht hs ?_
  refine xr_k ?_
  refine xr_istore_n xi_39_6 (Nat.le_of_ble_eq_true rfl) rfl ?_
  refine xr_iload_n xi_39_7 rfl ?_
  refine xr_iconst (z := dI 0) xi_39_8 xm_m1 ?_
  cases hv : G (ri t (2 + s)) with
  | zero =>
    refine xr_ic_eq xi_39_9 (by first | exact tI_n (by omega) | exact tI_d (by omega) | assumption | exact tI_e1 | exact tI_e2 | exact tI_e3 | exact tI_e4) (by first | exact tI_n (by omega) | exact tI_d (by omega) | assumption | exact tI_e1 | exact tI_e2 | exact tI_e3 | exact tI_e4) (fun c_ => ?_) (fun c_ => by exfalso; omega)
    refine xr_iconst (z := nI 0) xi_39_29 rfl ?_
    refine xr_iret xi_39_30 (fun _ => (by first | exact Or.inl rfl | exact Or.inr rfl | assumption)) ?_
    exact h2 (fun q => by have := q.2.1; omega)
  | succ u =>
    have h3 := h30.2 (by omega)
    have hu : sLive G u := by have := h3.2; rw [hv] at this; exact this
    have a1 := hI.ag (hI.lt hu)
    have a2 := hI.ag ht
    rw [dI_1]
    refine xr_ic_eq xi_39_9 (by first | exact tI_n (by omega) | exact tI_d (by omega) | assumption | exact tI_e1 | exact tI_e2 | exact tI_e3 | exact tI_e4) (by first | exact tI_n (by omega) | exact tI_d (by omega) | assumption | exact tI_e1 | exact tI_e2 | exact tI_e3 | exact tI_e4) (fun c_ => by exfalso; omega) (fun c_ => ?_)
    refine xr_aload_n xi_39_12 rfl ?_
    refine xr_iload_n xi_39_13 rfl ?_
    refine xr_virt xi_39_14 rfl rfl rfl rfl (Nat.le_of_ble_eq_true rfl) (Nat.le_of_ble_eq_true rfl) ?_
    refine wv_ageOf hR hI hu ?_
    refine xr_k ?_
    refine xr_aload_n xi_39_17 rfl ?_
    refine xr_iload_n xi_39_18 rfl ?_
    refine xr_virt xi_39_19 rfl rfl rfl rfl (Nat.le_of_ble_eq_true rfl) (Nat.le_of_ble_eq_true rfl) ?_
    refine wv_ageOf hR hI h3.1 ?_
    refine xr_k ?_
    refine xr_ic_ge xi_39_22 (by first | exact tI_n (by omega) | exact tI_d (by omega) | assumption | exact tI_e1 | exact tI_e2 | exact tI_e3 | exact tI_e4) (by first | exact tI_n (by omega) | exact tI_d (by omega) | assumption | exact tI_e1 | exact tI_e2 | exact tI_e3 | exact tI_e4) (fun c_22 => ?_) (fun c_22 => ?_)
    · refine xr_iconst (z := nI 0) xi_39_29 rfl ?_
      refine xr_iret xi_39_30 (fun _ => (by first | exact Or.inl rfl | exact Or.inr rfl | assumption)) ?_
      refine h2 (fun q => ?_)
      have := q.2.2
      rw [hv] at this
      have : sAge G u < sAge G t := this
      omega
    · refine xr_iconst (z := nI 1) xi_39_25 rfl ?_
      refine xr_goto xi_39_26 ?_
      refine xr_iret xi_39_30 (fun _ => (by first | exact Or.inl rfl | exact Or.inr rfl | assumption)) ?_
      refine h1 ⟨h3.1, by omega, ?_⟩
      rw [hv]
      show sAge G u < sAge G t
      omega
theorem wv_handsOn {t : Nat} (hR : vR A Gs Sp Ti Mv Hd pin c w f m G) (hI : sInv G) (ht : t < 30) (hQ : Q (some (.int (mk (sHset G t)))) (vH A Gs Sp Ti Mv Hd pin c w f m)) : xc L xs 40 [.ref 0, .int (nI t)] (vH A Gs Sp Ti Mv Hd pin c w f m) Q := by
  have key : ∀ d i, i + d = 4 → xw L xs 40 4 [.ref 0, .int (nI t), .int (mk (fun k => k < i ∧ sHset G t k)), .int (nI i)] [] (vH A Gs Sp Ti Mv Hd pin c w f m) Q := by
    intro d
    induction d with
    | zero =>
      intro i hi
      have e : i = 4 := by omega
      subst e
      refine xr_iload_n xi_40_4 rfl ?_
      refine xr_iconst (z := nI 4) xi_40_5 rfl ?_
      refine xr_ic_ge xi_40_6 (by first | exact tI_n (by omega) | exact tI_d (by omega) | assumption | exact tI_e1 | exact tI_e2 | exact tI_e3 | exact tI_e4) (by first | exact tI_n (by omega) | exact tI_d (by omega) | assumption | exact tI_e1 | exact tI_e2 | exact tI_e3 | exact tI_e4) (fun c_ => ?_) (fun c_ => by exfalso; omega)
      refine xr_iload_n xi_40_31 rfl ?_
      refine xr_iret xi_40_32 (fun h => absurd h (by decide)) ?_
      rw [mk_all (fun k _ h => h.1)]
      exact hQ
    | succ d ih =>
      intro i hi
      have hh := hR.h (k := i) (by omega)
      have h30 := (hI.h (k := i) (by omega)).1
      refine xr_iload_n xi_40_4 rfl ?_
      refine xr_iconst (z := nI 4) xi_40_5 rfl ?_
      refine xr_ic_ge xi_40_6 (by first | exact tI_n (by omega) | exact tI_d (by omega) | assumption | exact tI_e1 | exact tI_e2 | exact tI_e3 | exact tI_e4) (by first | exact tI_n (by omega) | exact tI_d (by omega) | assumption | exact tI_e1 | exact tI_e2 | exact tI_e3 | exact tI_e4) (fun c_ => by exfalso; omega) (fun c_ => ?_)
      refine xr_aload_n xi_40_9 rfl ?_
      refine xr_getf xi_40_10 rfl rfl ?_
      refine xr_iload_n xi_40_13 rfl ?_
      refine xr_ialz xi_40_14 rfl (by first | exact tI_n (by first | omega | (simp only [ri]; omega)) | exact tI_dn (by omega) (by omega) | assumption) (by first | omega | (simp only [ri]; omega)) (congrArg dI hh) ?_
      refine xr_iload_n xi_40_15 rfl ?_
      refine xr_ic_ne xi_40_16 (by first | exact tI_n (by omega) | exact tI_d (by omega) | assumption | exact tI_e1 | exact tI_e2 | exact tI_e3 | exact tI_e4) (by first | exact tI_n (by omega) | exact tI_d (by omega) | assumption | exact tI_e1 | exact tI_e2 | exact tI_e3 | exact tI_e4) (fun c_16 => ?_) (fun c_16 => ?_)
      · rw [mk_stepn (P := sHset G t) (fun q => by have := q.2; omega)]
        refine xr_iinc xi_40_25 rfl (by first | exact nI_1 _ | exact rfl) rfl ?_
        refine xr_goto xi_40_28 ?_
        exact ih (i + 1) (by omega)
      · refine xr_iload_n xi_40_19 rfl ?_
        refine xr_iconst (z := nI 1) xi_40_20 rfl ?_
        refine xr_iload_n xi_40_21 rfl ?_
        refine xr_ishl xi_40_22 rfl ?_
        refine xr_ior xi_40_23 (mk_step1 (P := sHset G t) (by omega) ⟨by omega, by omega⟩) ?_
        refine xr_istore_n xi_40_24 (Nat.le_of_ble_eq_true rfl) rfl ?_
        refine xr_iinc xi_40_25 rfl (by first | exact nI_1 _ | exact rfl) rfl ?_
        refine xr_goto xi_40_28 ?_
        exact ih (i + 1) (by omega)
  refine xr_iconst xi_40_0 (show xm_i 0 = mk (fun k => k < 0 ∧ sHset G t k) from mk_start _) ?_
  refine xr_istore_n xi_40_1 (Nat.le_of_ble_eq_true rfl) rfl ?_
  refine xr_iconst (z := nI 0) xi_40_2 rfl ?_
  refine xr_istore_n xi_40_3 (Nat.le_of_ble_eq_true rfl) rfl ?_
  exact key 4 0 (by omega)
theorem wv_tiedTo {t : Nat} (hR : vR A Gs Sp Ti Mv Hd pin c w f m G) (hI : sInv G) (ht : t < 30) (hQ : Q (some (.int (mk (sTfrom G t)))) (vH A Gs Sp Ti Mv Hd pin c w f m)) : xc L xs 41 [.ref 0, .int (nI t)] (vH A Gs Sp Ti Mv Hd pin c w f m) Q := by
  have key : ∀ d i x4, i + d = 30 → xw L xs 41 4 [.ref 0, .int (nI t), .int (mk (fun u => u < i ∧ ∃ k, k < 3 ∧ G (ri u (2 + k)) = t + 1)), .int (nI i), x4] [] (vH A Gs Sp Ti Mv Hd pin c w f m) Q := by
    intro d
    induction d with
    | zero =>
      intro i x4 hi
      have e : i = 30 := by omega
      subst e
      refine xr_iload_n xi_41_4 rfl ?_
      refine xr_bipush (z := nI 30) xi_41_5 rfl ?_
      refine xr_ic_ge xi_41_7 (by first | exact tI_n (by omega) | exact tI_d (by omega) | assumption | exact tI_e1 | exact tI_e2 | exact tI_e3 | exact tI_e4) (by first | exact tI_n (by omega) | exact tI_d (by omega) | assumption | exact tI_e1 | exact tI_e2 | exact tI_e3 | exact tI_e4) (fun c_ => ?_) (fun c_ => by exfalso; omega)
      refine xr_iload_n xi_41_52 rfl ?_
      refine xr_iret xi_41_53 (fun h => absurd h (by decide)) ?_
      have e : mk (fun u => u < 30 ∧ ∃ k, k < 3 ∧ G (ri u (2 + k)) = t + 1) = mk (sTfrom G t) := by
        refine mk_congr (fun u hu => ⟨fun ⟨h1, k, h2, h3⟩ => ⟨?_, k, h2, h3⟩, fun ⟨h1, h2⟩ => ⟨hu, h2⟩⟩)
        rcases Nat.lt_or_ge u (G 0) with q | q
        · exact q
        · have := hI.z hu (w := 2 + k) (by omega) q
          omega
      rw [e]
      exact hQ
    | succ d ih =>
      intro i x4 hi
      have key2 : ∀ d2 s, s + d2 = 3 → xw L xs 41 13 [.ref 0, .int (nI t), .int (mk (fun u => (u < i ∧ ∃ k, k < 3 ∧ G (ri u (2 + k)) = t + 1) ∨ (u = i ∧ ∃ k, k < s ∧ G (ri u (2 + k)) = t + 1))), .int (nI i), .int (nI s)] [] (vH A Gs Sp Ti Mv Hd pin c w f m) Q := by
        intro d2
        induction d2 with
        | zero =>
          intro s hs
          have e : s = 3 := by omega
          subst e
          refine xr_iload xi_41_13 rfl ?_
          refine xr_iconst (z := nI 3) xi_41_15 rfl ?_
          refine xr_ic_ge xi_41_16 (by first | exact tI_n (by omega) | exact tI_d (by omega) | assumption | exact tI_e1 | exact tI_e2 | exact tI_e3 | exact tI_e4) (by first | exact tI_n (by omega) | exact tI_d (by omega) | assumption | exact tI_e1 | exact tI_e2 | exact tI_e3 | exact tI_e4) (fun c_ => ?_) (fun c_ => by exfalso; omega)
          have e : mk (fun u => (u < i ∧ ∃ k, k < 3 ∧ G (ri u (2 + k)) = t + 1) ∨ (u = i ∧ ∃ k, k < 3 ∧ G (ri u (2 + k)) = t + 1)) = mk (fun u => u < i + 1 ∧ ∃ k, k < 3 ∧ G (ri u (2 + k)) = t + 1) := by
            refine mk_congr (fun u _ => ⟨fun h => h.elim (fun q => ⟨by omega, q.2⟩) (fun q => ⟨by omega, q.2⟩), fun q => ?_⟩)
            by_cases e : u = i
            · exact Or.inr ⟨e, q.2⟩
            · exact Or.inl ⟨by omega, q.2⟩
          rw [e]
          refine xr_iinc xi_41_46 rfl (by first | exact nI_1 _ | exact rfl) rfl ?_
          refine xr_goto xi_41_49 ?_
          exact ih (i + 1) _ (by omega)
        | succ d2 ih2 =>
          intro s hs
          have hg := (hI.t (t := i) (k := s) (by omega) (by omega)).1
          have htt := hR.t (t := i) (k := s) (by omega) (by omega)
          rw [Nat.mul_comm] at htt
          refine xr_iload xi_41_13 rfl ?_
          refine xr_iconst (z := nI 3) xi_41_15 rfl ?_
          refine xr_ic_ge xi_41_16 (by first | exact tI_n (by omega) | exact tI_d (by omega) | assumption | exact tI_e1 | exact tI_e2 | exact tI_e3 | exact tI_e4) (by first | exact tI_n (by omega) | exact tI_d (by omega) | assumption | exact tI_e1 | exact tI_e2 | exact tI_e3 | exact tI_e4) (fun c_ => by exfalso; omega) (fun c_ => ?_)
          refine xr_aload_n xi_41_19 rfl ?_
          refine xr_getf xi_41_20 rfl rfl ?_
          refine xr_iload_n xi_41_23 rfl ?_
          refine xr_iconst (z := nI 3) xi_41_24 rfl ?_
          refine xr_imul xi_41_25 (by first | exact pk_mul _ _ | exact rfl) ?_
          refine xr_iload xi_41_26 rfl ?_
          refine xr_iadd xi_41_28 (by first | exact nI_add _ _ | exact rfl) ?_
          refine xr_ialz xi_41_29 rfl (by first | exact tI_n (by first | omega | (simp only [ri]; omega)) | exact tI_dn (by omega) (by omega) | assumption) (by first | omega | (simp only [ri]; omega)) (congrArg dI htt) ?_
          refine xr_iload_n xi_41_30 rfl ?_
          refine xr_ic_ne xi_41_31 (by first | exact tI_n (by omega) | exact tI_d (by omega) | assumption | exact tI_e1 | exact tI_e2 | exact tI_e3 | exact tI_e4) (by first | exact tI_n (by omega) | exact tI_d (by omega) | assumption | exact tI_e1 | exact tI_e2 | exact tI_e3 | exact tI_e4) (fun c_31 => ?_) (fun c_31 => ?_)
          · have e : mk (fun u => (u < i ∧ ∃ k, k < 3 ∧ G (ri u (2 + k)) = t + 1) ∨ (u = i ∧ ∃ k, k < s ∧ G (ri u (2 + k)) = t + 1)) = mk (fun u => (u < i ∧ ∃ k, k < 3 ∧ G (ri u (2 + k)) = t + 1) ∨ (u = i ∧ ∃ k, k < s + 1 ∧ G (ri u (2 + k)) = t + 1)) := by
              refine mk_congr (fun u _ => ⟨fun h => h.elim Or.inl (fun ⟨e, k, h1, h2⟩ => Or.inr ⟨e, k, by omega, h2⟩), fun h => h.elim Or.inl (fun ⟨e, k, h1, h2⟩ => Or.inr ⟨e, k, ?_, h2⟩)⟩)
              have : k ≠ s := fun e2 => by rw [e, e2] at h2; omega
              omega
            rw [e]
            refine xr_iinc xi_41_40 rfl (by first | exact nI_1 _ | exact rfl) rfl ?_
            refine xr_goto xi_41_43 ?_
            exact ih2 (s + 1) (by omega)
          · refine xr_iload_n xi_41_34 rfl ?_
            refine xr_iconst (z := nI 1) xi_41_35 rfl ?_
            refine xr_iload_n xi_41_36 rfl ?_
            refine xr_ishl xi_41_37 rfl ?_
            refine xr_ior xi_41_38 (mk_or1 _ (by omega)) ?_
            refine xr_istore_n xi_41_39 (Nat.le_of_ble_eq_true rfl) rfl ?_
            have e : mk (fun u => ((u < i ∧ ∃ k, k < 3 ∧ G (ri u (2 + k)) = t + 1) ∨ (u = i ∧ ∃ k, k < s ∧ G (ri u (2 + k)) = t + 1)) ∨ u = i) = mk (fun u => (u < i ∧ ∃ k, k < 3 ∧ G (ri u (2 + k)) = t + 1) ∨ (u = i ∧ ∃ k, k < s + 1 ∧ G (ri u (2 + k)) = t + 1)) := by
              refine mk_congr (fun u _ => ⟨?_, ?_⟩)
              · rintro ((h | ⟨e, k, h1, h2⟩) | rfl)
                · exact Or.inl h
                · exact Or.inr ⟨e, k, by omega, h2⟩
                · exact Or.inr ⟨rfl, s, by omega, by omega⟩
              · rintro (h | ⟨e, -⟩)
                · exact Or.inl (Or.inl h)
                · exact Or.inr e
            rw [e]
            refine xr_iinc xi_41_40 rfl (by first | exact nI_1 _ | exact rfl) rfl ?_
            refine xr_goto xi_41_43 ?_
            exact ih2 (s + 1) (by omega)
      refine xr_iload_n xi_41_4 rfl ?_
      refine xr_bipush (z := nI 30) xi_41_5 rfl ?_
      refine xr_ic_ge xi_41_7 (by first | exact tI_n (by omega) | exact tI_d (by omega) | assumption | exact tI_e1 | exact tI_e2 | exact tI_e3 | exact tI_e4) (by first | exact tI_n (by omega) | exact tI_d (by omega) | assumption | exact tI_e1 | exact tI_e2 | exact tI_e3 | exact tI_e4) (fun c_ => by exfalso; omega) (fun c_ => ?_)
      refine xr_iconst (z := nI 0) xi_41_10 rfl ?_
      refine xr_istore xi_41_11 (Nat.le_of_ble_eq_true rfl) rfl ?_
      have h0 := key2 3 0 (by omega)
      have e : mk (fun u => (u < i ∧ ∃ k, k < 3 ∧ G (ri u (2 + k)) = t + 1) ∨ (u = i ∧ ∃ k, k < 0 ∧ G (ri u (2 + k)) = t + 1)) = mk (fun u => u < i ∧ ∃ k, k < 3 ∧ G (ri u (2 + k)) = t + 1) := mk_congr (fun u _ => ⟨fun h => h.elim id (fun ⟨_, k, h, _⟩ => by omega), Or.inl⟩)
      rw [e] at h0
      exact h0
  refine xr_iconst xi_41_0 (show xm_i 0 = mk (fun u => u < 0 ∧ ∃ k, k < 3 ∧ G (ri u (2 + k)) = t + 1) from mk_start _) ?_
  refine xr_istore_n xi_41_1 (Nat.le_of_ble_eq_true rfl) rfl ?_
  refine xr_iconst (z := nI 0) xi_41_2 rfl ?_
  refine xr_istore_n xi_41_3 (Nat.le_of_ble_eq_true rfl) rfl ?_
  exact key 30 0 _ (by omega)
theorem wv_fullHands (hR : vR A Gs Sp Ti Mv Hd pin c w f m G) (hI : sInv G) (hQ : Q (some (.int (nI (cnt (fun k => 0 < G (12 + k)) 4)))) (vH A Gs Sp Ti Mv Hd pin c w f m)) : xc L xs 43 [.ref 0] (vH A Gs Sp Ti Mv Hd pin c w f m) Q := by
  have key : ∀ d i, i + d = 4 → xw L xs 43 4 [.ref 0, .int (nI (cnt (fun k => 0 < G (12 + k)) i)), .int (nI i)] [] (vH A Gs Sp Ti Mv Hd pin c w f m) Q := by
    intro d
    induction d with
    | zero =>
      intro i hi
      have e : i = 4 := by omega
      subst e
      refine xr_iload_n xi_43_4 rfl ?_
      refine xr_iconst (z := nI 4) xi_43_5 rfl ?_
      refine xr_ic_ge xi_43_6 (by first | exact tI_n (by omega) | exact tI_d (by omega) | assumption | exact tI_e1 | exact tI_e2 | exact tI_e3 | exact tI_e4) (by first | exact tI_n (by omega) | exact tI_d (by omega) | assumption | exact tI_e1 | exact tI_e2 | exact tI_e3 | exact tI_e4) (fun c_ => ?_) (fun c_ => by exfalso; omega)
      refine xr_iload_n xi_43_28 rfl ?_
      refine xr_iret xi_43_29 (fun h => absurd h (by decide)) ?_
      exact hQ
    | succ d ih =>
      intro i hi
      have hh := hR.h (k := i) (by omega)
      have h30 := (hI.h (k := i) (by omega)).1
      refine xr_iload_n xi_43_4 rfl ?_
      refine xr_iconst (z := nI 4) xi_43_5 rfl ?_
      refine xr_ic_ge xi_43_6 (by first | exact tI_n (by omega) | exact tI_d (by omega) | assumption | exact tI_e1 | exact tI_e2 | exact tI_e3 | exact tI_e4) (by first | exact tI_n (by omega) | exact tI_d (by omega) | assumption | exact tI_e1 | exact tI_e2 | exact tI_e3 | exact tI_e4) (fun c_ => by exfalso; omega) (fun c_ => ?_)
      refine xr_aload_n xi_43_9 rfl ?_
      refine xr_getf xi_43_10 rfl rfl ?_
      refine xr_iload_n xi_43_13 rfl ?_
      refine xr_ialz xi_43_14 rfl (by first | exact tI_n (by first | omega | (simp only [ri]; omega)) | exact tI_dn (by omega) (by omega) | assumption) (by first | omega | (simp only [ri]; omega)) (congrArg dI hh) ?_
      refine xr_iconst (z := dI 0) xi_43_15 xm_m1 ?_
      refine xr_ic_eq xi_43_16 (by first | exact tI_n (by omega) | exact tI_d (by omega) | assumption | exact tI_e1 | exact tI_e2 | exact tI_e3 | exact tI_e4) (by first | exact tI_n (by omega) | exact tI_d (by omega) | assumption | exact tI_e1 | exact tI_e2 | exact tI_e3 | exact tI_e4) (fun c_16 => ?_) (fun c_16 => ?_)
      · rw [← cnt_st (P := fun k => 0 < G (12 + k)) (n := i) (by omega)]
        refine xr_iinc xi_43_22 rfl (by first | exact nI_1 _ | exact rfl) rfl ?_
        refine xr_goto xi_43_25 ?_
        exact ih (i + 1) (by omega)
      · refine xr_iinc xi_43_19 rfl (cnt_s1 (P := fun k => 0 < G (12 + k)) (by omega)) rfl ?_
        refine xr_iinc xi_43_22 rfl (by first | exact nI_1 _ | exact rfl) rfl ?_
        refine xr_goto xi_43_25 ?_
        exact ih (i + 1) (by omega)
  refine xr_iconst (z := nI 0) xi_43_0 rfl ?_
  refine xr_istore_n xi_43_1 (Nat.le_of_ble_eq_true rfl) rfl ?_
  refine xr_iconst (z := nI 0) xi_43_2 rfl ?_
  refine xr_istore_n xi_43_3 (Nat.le_of_ble_eq_true rfl) rfl ?_
  exact key 4 0 (by omega)
theorem wv_freeHouses (hR : vR A Gs Sp Ti Mv Hd pin c w f m G) (hI : sInv G) (hQ : Q (some (.int (nI (cnt (fun h => G (4 + h) = 0) 8)))) (vH A Gs Sp Ti Mv Hd pin c w f m)) : xc L xs 44 [.ref 0] (vH A Gs Sp Ti Mv Hd pin c w f m) Q := by
  have key : ∀ d i, i + d = 8 → xw L xs 44 4 [.ref 0, .int (nI (cnt (fun h => G (4 + h) = 0) i)), .int (nI i)] [] (vH A Gs Sp Ti Mv Hd pin c w f m) Q := by
    intro d
    induction d with
    | zero =>
      intro i hi
      have e : i = 8 := by omega
      subst e
      refine xr_iload_n xi_44_4 rfl ?_
      refine xr_bipush (z := nI 8) xi_44_5 rfl ?_
      refine xr_ic_ge xi_44_7 (by first | exact tI_n (by omega) | exact tI_d (by omega) | assumption | exact tI_e1 | exact tI_e2 | exact tI_e3 | exact tI_e4) (by first | exact tI_n (by omega) | exact tI_d (by omega) | assumption | exact tI_e1 | exact tI_e2 | exact tI_e3 | exact tI_e4) (fun c_ => ?_) (fun c_ => by exfalso; omega)
      refine xr_iload_n xi_44_29 rfl ?_
      refine xr_iret xi_44_30 (fun h => absurd h (by decide)) ?_
      exact hQ
    | succ d ih =>
      intro i hi
      have hh := hR.a (k := i) (by omega)
      have h30 := hI.a (k := i) (by omega)
      refine xr_iload_n xi_44_4 rfl ?_
      refine xr_bipush (z := nI 8) xi_44_5 rfl ?_
      refine xr_ic_ge xi_44_7 (by first | exact tI_n (by omega) | exact tI_d (by omega) | assumption | exact tI_e1 | exact tI_e2 | exact tI_e3 | exact tI_e4) (by first | exact tI_n (by omega) | exact tI_d (by omega) | assumption | exact tI_e1 | exact tI_e2 | exact tI_e3 | exact tI_e4) (fun c_ => by exfalso; omega) (fun c_ => ?_)
      refine xr_aload_n xi_44_10 rfl ?_
      refine xr_getf xi_44_11 rfl rfl ?_
      refine xr_iload_n xi_44_14 rfl ?_
      refine xr_ialz xi_44_15 rfl (by first | exact tI_n (by first | omega | (simp only [ri]; omega)) | exact tI_dn (by omega) (by omega) | assumption) (by first | omega | (simp only [ri]; omega)) (congrArg dI hh) ?_
      refine xr_iconst (z := dI 0) xi_44_16 xm_m1 ?_
      refine xr_ic_ne xi_44_17 (by first | exact tI_n (by omega) | exact tI_d (by omega) | assumption | exact tI_e1 | exact tI_e2 | exact tI_e3 | exact tI_e4) (by first | exact tI_n (by omega) | exact tI_d (by omega) | assumption | exact tI_e1 | exact tI_e2 | exact tI_e3 | exact tI_e4) (fun c_17 => ?_) (fun c_17 => ?_)
      · rw [← cnt_st (P := fun h => G (4 + h) = 0) (n := i) (by omega)]
        refine xr_iinc xi_44_23 rfl (by first | exact nI_1 _ | exact rfl) rfl ?_
        refine xr_goto xi_44_26 ?_
        exact ih (i + 1) (by omega)
      · refine xr_iinc xi_44_20 rfl (cnt_s1 (P := fun h => G (4 + h) = 0) (by omega)) rfl ?_
        refine xr_iinc xi_44_23 rfl (by first | exact nI_1 _ | exact rfl) rfl ?_
        refine xr_goto xi_44_26 ?_
        exact ih (i + 1) (by omega)
  refine xr_iconst (z := nI 0) xi_44_0 rfl ?_
  refine xr_istore_n xi_44_1 (Nat.le_of_ble_eq_true rfl) rfl ?_
  refine xr_iconst (z := nI 0) xi_44_2 rfl ?_
  refine xr_istore_n xi_44_3 (Nat.le_of_ble_eq_true rfl) rfl ?_
  exact key 8 0 (by omega)
theorem wv_notedStrings (hR : vR A Gs Sp Ti Mv Hd pin c w f m G) (hI : sInv G) (hQ : Q (some (.int (nI (cnt (sNf G) 90)))) (vH A Gs Sp Ti Mv Hd pin c w f m)) : xc L xs 45 [.ref 0] (vH A Gs Sp Ti Mv Hd pin c w f m) Q := by
  have key : ∀ d i x3, i + d = 30 → xw L xs 45 4 [.ref 0, .int (nI (cnt (sNf G) (3 * i))), .int (nI i), x3] [] (vH A Gs Sp Ti Mv Hd pin c w f m) Q := by
    intro d
    induction d with
    | zero =>
      intro i x3 hi
      have e : i = 30 := by omega
      subst e
      refine xr_iload_n xi_45_4 rfl ?_
      refine xr_bipush (z := nI 30) xi_45_5 rfl ?_
      refine xr_ic_ge xi_45_7 (by first | exact tI_n (by omega) | exact tI_d (by omega) | assumption | exact tI_e1 | exact tI_e2 | exact tI_e3 | exact tI_e4) (by first | exact tI_n (by omega) | exact tI_d (by omega) | assumption | exact tI_e1 | exact tI_e2 | exact tI_e3 | exact tI_e4) (fun c_ => ?_) (fun c_ => by exfalso; omega)
      refine xr_iload_n xi_45_41 rfl ?_
      refine xr_iret xi_45_42 (fun h => absurd h (by decide)) ?_
      exact hQ
    | succ d ih =>
      intro i x3 hi
      have key2 : ∀ d2 s, s + d2 = 3 → xw L xs 45 12 [.ref 0, .int (nI (cnt (sNf G) (3 * i + s))), .int (nI i), .int (nI s)] [] (vH A Gs Sp Ti Mv Hd pin c w f m) Q := by
        intro d2
        induction d2 with
        | zero =>
          intro s hs
          have e : s = 3 := by omega
          subst e
          refine xr_iload_n xi_45_12 rfl ?_
          refine xr_iconst (z := nI 3) xi_45_13 rfl ?_
          refine xr_ic_ge xi_45_14 (by first | exact tI_n (by omega) | exact tI_d (by omega) | assumption | exact tI_e1 | exact tI_e2 | exact tI_e3 | exact tI_e4) (by first | exact tI_n (by omega) | exact tI_d (by omega) | assumption | exact tI_e1 | exact tI_e2 | exact tI_e3 | exact tI_e4) (fun c_ => ?_) (fun c_ => by exfalso; omega)
          refine xr_iinc xi_45_35 rfl (by first | exact nI_1 _ | exact rfl) rfl ?_
          refine xr_goto xi_45_38 ?_
          exact ih (i + 1) _ (by omega)
        | succ d2 ih2 =>
          intro s hs
          have e1 : (3 * i + s) / 3 = i := by omega
          have e2 : (3 * i + s) % 3 = s := by omega
          have e3 : sNf G (3 * i + s) ↔ sNoted G i s := by unfold sNf; rw [e1, e2]
          refine xr_iload_n xi_45_12 rfl ?_
          refine xr_iconst (z := nI 3) xi_45_13 rfl ?_
          refine xr_ic_ge xi_45_14 (by first | exact tI_n (by omega) | exact tI_d (by omega) | assumption | exact tI_e1 | exact tI_e2 | exact tI_e3 | exact tI_e4) (by first | exact tI_n (by omega) | exact tI_d (by omega) | assumption | exact tI_e1 | exact tI_e2 | exact tI_e3 | exact tI_e4) (fun c_ => by exfalso; omega) (fun c_ => ?_)
          refine xr_aload_n xi_45_17 rfl ?_
          refine xr_iload_n xi_45_18 rfl ?_
          refine xr_iload_n xi_45_19 rfl ?_
          refine xr_virt xi_45_20 rfl rfl rfl rfl (Nat.le_of_ble_eq_true rfl) (Nat.le_of_ble_eq_true rfl) ?_
          refine wv_isNoted hR hI (by omega) (by omega) (fun q => ?_) (fun q => ?_)
          · refine xr_k ?_
            refine xr_if_eq xi_45_23 (by first | exact tI_n (by omega) | exact tI_d (by omega) | assumption | exact tI_e1 | exact tI_e2 | exact tI_e3 | exact tI_e4) (fun c_ => by exfalso; omega) (fun c_ => ?_)
            refine xr_iinc xi_45_26 rfl (cnt_s1 (P := sNf G) (e3.mpr q)) rfl ?_
            refine xr_iinc xi_45_29 rfl (by first | exact nI_1 _ | exact rfl) rfl ?_
            refine xr_goto xi_45_32 ?_
            exact ih2 (s + 1) (by omega)
          · refine xr_k ?_
            rw [← cnt_st (P := sNf G) (n := 3 * i + s) (fun z => q (e3.mp z))]
            refine xr_if_eq xi_45_23 (by first | exact tI_n (by omega) | exact tI_d (by omega) | assumption | exact tI_e1 | exact tI_e2 | exact tI_e3 | exact tI_e4) (fun c_ => ?_) (fun c_ => by exfalso; omega)
            refine xr_iinc xi_45_29 rfl (by first | exact nI_1 _ | exact rfl) rfl ?_
            refine xr_goto xi_45_32 ?_
            exact ih2 (s + 1) (by omega)
      refine xr_iload_n xi_45_4 rfl ?_
      refine xr_bipush (z := nI 30) xi_45_5 rfl ?_
      refine xr_ic_ge xi_45_7 (by first | exact tI_n (by omega) | exact tI_d (by omega) | assumption | exact tI_e1 | exact tI_e2 | exact tI_e3 | exact tI_e4) (by first | exact tI_n (by omega) | exact tI_d (by omega) | assumption | exact tI_e1 | exact tI_e2 | exact tI_e3 | exact tI_e4) (fun c_ => by exfalso; omega) (fun c_ => ?_)
      refine xr_iconst (z := nI 0) xi_45_10 rfl ?_
      refine xr_istore_n xi_45_11 (Nat.le_of_ble_eq_true rfl) rfl ?_
      exact key2 3 0 (by omega)
  refine xr_iconst (z := nI 0) xi_45_0 rfl ?_
  refine xr_istore_n xi_45_1 (Nat.le_of_ble_eq_true rfl) rfl ?_
  refine xr_iconst (z := nI 0) xi_45_2 rfl ?_
  refine xr_istore_n xi_45_3 (Nat.le_of_ble_eq_true rfl) rfl ?_
  exact key 30 0 _ (by omega)
theorem wv_emptySpotIn {h : Nat} (hR : vR A Gs Sp Ti Mv Hd pin c w f m G) (hc : G 0 ≤ 30) (hh : h < 8) (h1 : ∀ q, fstN (fun q => sEmp G (5 * h + q)) 5 = some q → q < 5 → Q (some (.int (nI (5 * h + q)))) (vH A Gs Sp Ti Mv Hd pin c w f m)) (h2 : fstN (fun q => sEmp G (5 * h + q)) 5 = none → Q (some (.int (dI 0))) (vH A Gs Sp Ti Mv Hd pin c w f m)) : xc L xs 30 [.ref 0, .int (nI h)] (vH A Gs Sp Ti Mv Hd pin c w f m) Q := by
  have key : ∀ d i x3, i + d = 5 → (∀ j, j < i → ¬ sEmp G (5 * h + j)) → xw L xs 30 2 [.ref 0, .int (nI h), .int (nI i), x3] [] (vH A Gs Sp Ti Mv Hd pin c w f m) Q := by
    intro d
    induction d with
    | zero =>
      intro i x3 hi hu
      refine xr_iload_n xi_30_2 rfl ?_
      refine xr_iconst (z := nI 5) xi_30_3 rfl ?_
      refine xr_ic_ge xi_30_4 (by first | exact tI_n (by omega) | exact tI_d (by omega) | assumption | exact tI_e1 | exact tI_e2 | exact tI_e3 | exact tI_e4) (by first | exact tI_n (by omega) | exact tI_d (by omega) | assumption | exact tI_e1 | exact tI_e2 | exact tI_e3 | exact tI_e4) (fun c_ => ?_) (fun c_ => by exfalso; omega)
      refine xr_iconst (z := dI 0) xi_30_31 xm_m1 ?_
      refine xr_iret xi_30_32 (fun h => absurd h (by decide)) ?_
      exact h2 (fstN_none.mpr (fun j hj => hu j (by omega)))
    | succ d ih =>
      intro i x3 hi hu
      have hg := hR.g30 (p := 5 * h + i) (by omega)
      have h0 := hR.g0 hc (p := 5 * h + i) (by omega)
      have e : h * 5 + i = 5 * h + i := by omega
      refine xr_iload_n xi_30_2 rfl ?_
      refine xr_iconst (z := nI 5) xi_30_3 rfl ?_
      refine xr_ic_ge xi_30_4 (by first | exact tI_n (by omega) | exact tI_d (by omega) | assumption | exact tI_e1 | exact tI_e2 | exact tI_e3 | exact tI_e4) (by first | exact tI_n (by omega) | exact tI_d (by omega) | assumption | exact tI_e1 | exact tI_e2 | exact tI_e3 | exact tI_e4) (fun c_ => by exfalso; omega) (fun c_ => ?_)
      refine xr_iload_n xi_30_7 rfl ?_
      refine xr_iconst (z := nI 5) xi_30_8 rfl ?_
      refine xr_imul xi_30_9 (by first | exact pk_mul _ _ | exact rfl) ?_
      refine xr_iload_n xi_30_10 rfl ?_
      refine xr_iadd xi_30_11 ((nI_add _ _).trans (congrArg nI e)) ?_
      refine xr_istore_n xi_30_12 (Nat.le_of_ble_eq_true rfl) rfl ?_
      refine xr_aload_n xi_30_13 rfl ?_
      refine xr_getf xi_30_14 rfl rfl ?_
      refine xr_iload_n xi_30_17 rfl ?_
      refine xr_ialz xi_30_18 rfl (by first | exact tI_n (by first | omega | (simp only [ri]; omega)) | exact tI_dn (by omega) (by omega) | assumption) (by first | omega | (simp only [ri]; omega)) (by first | exact dF_at _ _ | exact mF_at _ _ | exact rfl) ?_
      refine xr_iconst (z := dI 0) xi_30_19 xm_m1 ?_
      refine xr_ic_ne xi_30_20 (by first | exact tI_n (by omega) | exact tI_d (by omega) | assumption | exact tI_e1 | exact tI_e2 | exact tI_e3 | exact tI_e4) (by first | exact tI_n (by omega) | exact tI_d (by omega) | assumption | exact tI_e1 | exact tI_e2 | exact tI_e3 | exact tI_e4) (fun c_20 => ?_) (fun c_20 => ?_)
      · refine xr_iinc xi_30_25 rfl (by first | exact nI_1 _ | exact rfl) rfl ?_
        refine xr_goto xi_30_28 ?_
        refine ih (i + 1) _ (by omega) (fun j hj => ?_)
        by_cases e2 : j = i
        · subst e2
          exact fun q => by have := h0.mpr q; omega
        · exact hu j (by omega)
      · refine xr_iload_n xi_30_23 rfl ?_
        refine xr_iret xi_30_24 (fun h => absurd h (by decide)) ?_
        exact h1 i (fstN_some.mpr ⟨by omega, h0.mp (by omega), hu⟩) (by omega)
  refine xr_iconst (z := nI 0) xi_30_0 rfl ?_
  refine xr_istore_n xi_30_1 (Nat.le_of_ble_eq_true rfl) rfl ?_
  exact key 5 0 _ (by omega) (fun j hj => by omega)
theorem wv_roomOf {b : Nat} (hR : vR A Gs Sp Ti Mv Hd pin c w f m G) (hc : G 0 ≤ 30) (ha : ∀ h, h < 8 → G (4 + h) ≤ 3) (hb : b < 10) (h1 : ∀ p G', sRoom G (b + 1) = some (p, G') → p < 40 → Q (some (.int (nI p))) (vH A Gs Sp Ti Mv Hd pin c w f m)) (h2 : sRoom G (b + 1) = none → Q (some (.int (dI 0))) (vH A Gs Sp Ti Mv Hd pin c w f m)) : xc L xs 29 [.ref 0, .int (nI b)] (vH A Gs Sp Ti Mv Hd pin c w f m) Q := by
  have key2 : ∀ d i x3, i + d = 8 → fstN (fun h => G (4 + h) = b + 1 ∧ ∃ q, q < 5 ∧ sEmp G (5 * h + q)) 8 = none → (∀ j, j < i → ¬ G (4 + j) = 0) → xw L xs 29 39 [.ref 0, .int (nI b), .int (nI i), x3] [] (vH A Gs Sp Ti Mv Hd pin c w f m) Q := by
    intro d
    induction d with
    | zero =>
      intro i x3 hi hn hu
      refine xr_iload_n xi_29_39 rfl ?_
      refine xr_bipush (z := nI 8) xi_29_40 rfl ?_
      refine xr_ic_ge xi_29_42 (by first | exact tI_n (by omega) | exact tI_d (by omega) | assumption | exact tI_e1 | exact tI_e2 | exact tI_e3 | exact tI_e4) (by first | exact tI_n (by omega) | exact tI_d (by omega) | assumption | exact tI_e1 | exact tI_e2 | exact tI_e3 | exact tI_e4) (fun c_ => ?_) (fun c_ => by exfalso; omega)
      refine xr_iconst (z := dI 0) xi_29_65 xm_m1 ?_
      refine xr_iret xi_29_66 (fun h => absurd h (by decide)) ?_
      exact h2 (sRoom_no hn (fstN_none.mpr (fun j hj => hu j (by omega))))
    | succ d ih =>
      intro i x3 hi hn hu
      have hai := ha i (by omega)
      have hra := hR.a (k := i) (by omega)
      refine xr_iload_n xi_29_39 rfl ?_
      refine xr_bipush (z := nI 8) xi_29_40 rfl ?_
      refine xr_ic_ge xi_29_42 (by first | exact tI_n (by omega) | exact tI_d (by omega) | assumption | exact tI_e1 | exact tI_e2 | exact tI_e3 | exact tI_e4) (by first | exact tI_n (by omega) | exact tI_d (by omega) | assumption | exact tI_e1 | exact tI_e2 | exact tI_e3 | exact tI_e4) (fun c_ => by exfalso; omega) (fun c_ => ?_)
      refine xr_aload_n xi_29_45 rfl ?_
      refine xr_getf xi_29_46 rfl rfl ?_
      refine xr_iload_n xi_29_49 rfl ?_
      refine xr_ialz xi_29_50 rfl (by first | exact tI_n (by first | omega | (simp only [ri]; omega)) | exact tI_dn (by omega) (by omega) | assumption) (by first | omega | (simp only [ri]; omega)) (congrArg dI hra) ?_
      refine xr_iconst (z := dI 0) xi_29_51 xm_m1 ?_
      refine xr_ic_ne xi_29_52 (by first | exact tI_n (by omega) | exact tI_d (by omega) | assumption | exact tI_e1 | exact tI_e2 | exact tI_e3 | exact tI_e4) (by first | exact tI_n (by omega) | exact tI_d (by omega) | assumption | exact tI_e1 | exact tI_e2 | exact tI_e3 | exact tI_e4) (fun c_52 => ?_) (fun c_52 => ?_)
      · refine xr_iinc xi_29_59 rfl (by first | exact nI_1 _ | exact rfl) rfl ?_
        refine xr_goto xi_29_62 ?_
        refine ih (i + 1) _ (by omega) hn (fun j hj => ?_)
        by_cases e2 : j = i
        · subst e2
          omega
        · exact hu j (by omega)
      · have e : i * 5 = 5 * i := Nat.mul_comm _ _
        refine xr_iload_n xi_29_55 rfl ?_
        refine xr_iconst (z := nI 5) xi_29_56 rfl ?_
        refine xr_imul xi_29_57 ((pk_mul _ _).trans (congrArg nI e)) ?_
        refine xr_iret xi_29_58 (fun h => absurd h (by decide)) ?_
        exact h1 (5 * i) _ (sRoom_free hn (fstN_some.mpr ⟨by omega, by omega, hu⟩)) (by omega)
  have key : ∀ d i x3, i + d = 8 → (∀ j, j < i → ¬ (G (4 + j) = b + 1 ∧ ∃ q, q < 5 ∧ sEmp G (5 * j + q))) → xw L xs 29 2 [.ref 0, .int (nI b), .int (nI i), x3] [] (vH A Gs Sp Ti Mv Hd pin c w f m) Q := by
    intro d
    induction d with
    | zero =>
      intro i x3 hi hu
      refine xr_iload_n xi_29_2 rfl ?_
      refine xr_bipush (z := nI 8) xi_29_3 rfl ?_
      refine xr_ic_ge xi_29_5 (by first | exact tI_n (by omega) | exact tI_d (by omega) | assumption | exact tI_e1 | exact tI_e2 | exact tI_e3 | exact tI_e4) (by first | exact tI_n (by omega) | exact tI_d (by omega) | assumption | exact tI_e1 | exact tI_e2 | exact tI_e3 | exact tI_e4) (fun c_ => ?_) (fun c_ => by exfalso; omega)
      refine xr_iconst (z := nI 0) xi_29_37 rfl ?_
      refine xr_istore_n xi_29_38 (Nat.le_of_ble_eq_true rfl) rfl ?_
      exact key2 8 0 _ (by omega) (fstN_none.mpr (fun j hj => hu j (by omega))) (fun j hj => by omega)
    | succ d ih =>
      intro i x3 hi hu
      have hai := ha i (by omega)
      have hra := hR.a (k := i) (by omega)
      have next : ¬ (G (4 + i) = b + 1 ∧ ∃ q, q < 5 ∧ sEmp G (5 * i + q)) → ∀ x3, xw L xs 29 31 [.ref 0, .int (nI b), .int (nI i), x3] [] (vH A Gs Sp Ti Mv Hd pin c w f m) Q := by
        intro hn x3
        refine xr_iinc xi_29_31 rfl (by first | exact nI_1 _ | exact rfl) rfl ?_
        refine xr_goto xi_29_34 ?_
        refine ih (i + 1) _ (by omega) (fun j hj => ?_)
        by_cases e2 : j = i
        · subst e2; exact hn
        · exact hu j (by omega)
      refine xr_iload_n xi_29_2 rfl ?_
      refine xr_bipush (z := nI 8) xi_29_3 rfl ?_
      refine xr_ic_ge xi_29_5 (by first | exact tI_n (by omega) | exact tI_d (by omega) | assumption | exact tI_e1 | exact tI_e2 | exact tI_e3 | exact tI_e4) (by first | exact tI_n (by omega) | exact tI_d (by omega) | assumption | exact tI_e1 | exact tI_e2 | exact tI_e3 | exact tI_e4) (fun c_ => by exfalso; omega) (fun c_ => ?_)
      refine xr_aload_n xi_29_8 rfl ?_
      refine xr_getf xi_29_9 rfl rfl ?_
      refine xr_iload_n xi_29_12 rfl ?_
      refine xr_ialz xi_29_13 rfl (by first | exact tI_n (by first | omega | (simp only [ri]; omega)) | exact tI_dn (by omega) (by omega) | assumption) (by first | omega | (simp only [ri]; omega)) (congrArg dI hra) ?_
      refine xr_iload_n xi_29_14 rfl ?_
      refine xr_ic_ne xi_29_15 (by first | exact tI_n (by omega) | exact tI_d (by omega) | assumption | exact tI_e1 | exact tI_e2 | exact tI_e3 | exact tI_e4) (by first | exact tI_n (by omega) | exact tI_d (by omega) | assumption | exact tI_e1 | exact tI_e2 | exact tI_e3 | exact tI_e4) (fun c_15 => ?_) (fun c_15 => ?_)
      · exact next (fun q => by have := q.1; omega) _
      · refine xr_aload_n xi_29_18 rfl ?_
        refine xr_iload_n xi_29_19 rfl ?_
        refine xr_virt xi_29_20 rfl rfl rfl rfl (Nat.le_of_ble_eq_true rfl) (Nat.le_of_ble_eq_true rfl) ?_
        refine wv_emptySpotIn hR hc (by omega) (fun q hq hq5 => ?_) (fun hn => ?_)
        · have hq2 := fstN_some.mp hq
          refine xr_k ?_
          refine xr_istore_n xi_29_23 (Nat.le_of_ble_eq_true rfl) rfl ?_
          refine xr_iload_n xi_29_24 rfl ?_
          refine xr_iconst (z := dI 0) xi_29_25 xm_m1 ?_
          refine xr_ic_eq xi_29_26 (by first | exact tI_n (by omega) | exact tI_d (by omega) | assumption | exact tI_e1 | exact tI_e2 | exact tI_e3 | exact tI_e4) (by first | exact tI_n (by omega) | exact tI_d (by omega) | assumption | exact tI_e1 | exact tI_e2 | exact tI_e3 | exact tI_e4) (fun c_ => by exfalso; omega) (fun c_ => ?_)
          refine xr_iload_n xi_29_29 rfl ?_
          refine xr_iret xi_29_30 (fun h => absurd h (by decide)) ?_
          exact h1 (5 * i + q) G (sRoom_in (fstN_some.mpr ⟨by omega, ⟨by omega, q, hq2.1, hq2.2.1⟩, hu⟩) hq) (by omega)
        · refine xr_k ?_
          refine xr_istore_n xi_29_23 (Nat.le_of_ble_eq_true rfl) rfl ?_
          refine xr_iload_n xi_29_24 rfl ?_
          refine xr_iconst (z := dI 0) xi_29_25 xm_m1 ?_
          refine xr_ic_eq xi_29_26 (by first | exact tI_n (by omega) | exact tI_d (by omega) | assumption | exact tI_e1 | exact tI_e2 | exact tI_e3 | exact tI_e4) (by first | exact tI_n (by omega) | exact tI_d (by omega) | assumption | exact tI_e1 | exact tI_e2 | exact tI_e3 | exact tI_e4) (fun c_ => ?_) (fun c_ => by exfalso; omega)
          exact next (fun z => by obtain ⟨-, q, hq1, hq2⟩ := z; exact fstN_none.mp hn q hq1 hq2) _
  refine xr_iconst (z := nI 0) xi_29_0 rfl ?_
  refine xr_istore_n xi_29_1 (Nat.le_of_ble_eq_true rfl) rfl ?_
  exact key 8 0 _ (by omega) (fun u hu => by omega)
end V3
