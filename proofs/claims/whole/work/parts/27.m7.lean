theorem x_pos {x : Int32} (h0 : 0 ≤ x.toInt) : ∃ k, k < 2147483648 ∧ x = nI k := by
  have h1 : x.toInt < 2147483648 := x.toInt_lt
  refine ⟨x.toInt.toNat, by omega, ?_⟩
  apply Int32.toInt_inj.mp
  rw [tI_n (by omega)]
  omega
section M7
variable {L : Nat} {xs : Nat → Int32} {Q : Option Value → xm_H → Prop} {st ln po le fa re od : Nat} {tx ag nu be Z G : Nat → Nat}
theorem wm_tiedFrom {t : Nat} (hI : sInv G) (ht : t < 30) (hQ : Q (some (.int (mk (sTfrom G t)))) (mJ st tx ln ag po le nu fa re od be Z G)) : xc L xs 137 [.ref 0, .int (nI t)] (mJ st tx ln ag po le nu fa re od be Z G) Q := by
  have hc := hI.c
  have key : ∀ d i, i + d = G 0 → xw L xs 137 4 [.ref 0, .int (nI t), .int (mk (fun u => u < i ∧ sTfrom G t u)), .int (nI i)] [] (mJ st tx ln ag po le nu fa re od be Z G) Q := by
    intro d
    induction d with
    | zero =>
      intro i hi
      refine xr_iload_n xi_137_4 rfl ?_
      refine xr_aload_n xi_137_5 rfl ?_
      refine xr_getf xi_137_6 rfl rfl ?_
      refine xr_iconst (z := nI 0) xi_137_9 rfl ?_
      refine xr_ialz xi_137_10 rfl (by first | exact tI_n (by first | omega | (simp only [ri]; omega)) | exact tI_dn (by omega) (by omega) | assumption) (by first | omega | (simp only [ri]; omega)) (by first | exact mj_lo (by first | omega | (simp only [ri]; omega)) | exact mF_at _ _ | exact rfl) ?_
      refine xr_ic_ge xi_137_11 (by first | exact tI_n (by omega) | exact tI_d (by omega) | assumption | exact tI_e1 | exact tI_e2 | exact tI_e3 | exact tI_e4) (by first | exact tI_n (by omega) | exact tI_d (by omega) | assumption | exact tI_e1 | exact tI_e2 | exact tI_e3 | exact tI_e4) (fun c_ => ?_) (fun c_ => by exfalso; omega)
      refine xr_iload_n xi_137_44 rfl ?_
      refine xr_iret xi_137_45 (fun h => absurd h (by decide)) ?_
      rw [mk_all (fun u _ h => by have := h.1; omega)]
      exact hQ
    | succ d ih =>
      intro i hi
      refine xr_iload_n xi_137_4 rfl ?_
      refine xr_aload_n xi_137_5 rfl ?_
      refine xr_getf xi_137_6 rfl rfl ?_
      refine xr_iconst (z := nI 0) xi_137_9 rfl ?_
      refine xr_ialz xi_137_10 rfl (by first | exact tI_n (by first | omega | (simp only [ri]; omega)) | exact tI_dn (by omega) (by omega) | assumption) (by first | omega | (simp only [ri]; omega)) (by first | exact mj_lo (by first | omega | (simp only [ri]; omega)) | exact mF_at _ _ | exact rfl) ?_
      refine xr_ic_ge xi_137_11 (by first | exact tI_n (by omega) | exact tI_d (by omega) | assumption | exact tI_e1 | exact tI_e2 | exact tI_e3 | exact tI_e4) (by first | exact tI_n (by omega) | exact tI_d (by omega) | assumption | exact tI_e1 | exact tI_e2 | exact tI_e3 | exact tI_e4) (fun c_ => by exfalso; omega) (fun c_ => ?_)
      refine xr_iload_n xi_137_14 rfl ?_
      refine xr_aload_n xi_137_15 rfl ?_
      refine xr_iconst (z := nI 1) xi_137_16 rfl ?_
      refine xr_iload_n xi_137_17 rfl ?_
      refine xr_ishl xi_137_18 (mk_1 (by omega)) ?_
      refine xr_virt xi_137_19 rfl rfl rfl rfl (Nat.le_of_ble_eq_true rfl) (Nat.le_of_ble_eq_true rfl) ?_
      refine wm_tiedTo hI ?_
      refine xr_k ?_
      refine xr_iload_n xi_137_22 rfl ?_
      refine xr_stat xi_137_23 (by decide) rfl rfl (Nat.le_of_ble_eq_true rfl) (Nat.le_of_ble_eq_true rfl) ?_
      refine wm_has ht (fun h => ?_) (fun h => ?_)
      · refine xr_k ?_
        obtain ⟨u, k, h1, h2, h3, h4⟩ := h
        subst h3
        refine xr_if_eq xi_137_26 (by first | exact tI_n (by omega) | exact tI_d (by omega) | assumption | exact tI_e1 | exact tI_e2 | exact tI_e3 | exact tI_e4) (fun c_ => by exfalso; omega) (fun c_ => ?_)
        refine xr_iconst (z := nI 1) xi_137_29 rfl ?_
        refine xr_iload_n xi_137_30 rfl ?_
        refine xr_ishl xi_137_31 rfl ?_
        refine xr_goto xi_137_32 ?_
        refine xr_ior xi_137_36 (mk_step1 (by omega) ⟨h1, k, h2, h4⟩) ?_
        refine xr_istore_n xi_137_37 (Nat.le_of_ble_eq_true rfl) rfl ?_
        refine xr_iinc xi_137_38 rfl (by first | exact nI_1 _ | exact rfl) rfl ?_
        refine xr_goto xi_137_41 ?_
        exact ih (u + 1) (by omega)
      · refine xr_k ?_
        refine xr_if_eq xi_137_26 (by first | exact tI_n (by omega) | exact tI_d (by omega) | assumption | exact tI_e1 | exact tI_e2 | exact tI_e3 | exact tI_e4) (fun c_ => ?_) (fun c_ => by exfalso; omega)
        refine xr_iconst (z := nI 0) xi_137_35 rfl ?_
        refine xr_ior xi_137_36 (mk_step0 (fun ⟨q1, k, q2, q3⟩ => h ⟨i, k, q1, q2, rfl, q3⟩)) ?_
        refine xr_istore_n xi_137_37 (Nat.le_of_ble_eq_true rfl) rfl ?_
        refine xr_iinc xi_137_38 rfl (by first | exact nI_1 _ | exact rfl) rfl ?_
        refine xr_goto xi_137_41 ?_
        exact ih (i + 1) (by omega)
  refine xr_iconst xi_137_0 (show xm_i 0 = mk (fun u => u < 0 ∧ sTfrom G t u) from mk_start _) ?_
  refine xr_istore_n xi_137_1 (Nat.le_of_ble_eq_true rfl) rfl ?_
  refine xr_iconst (z := nI 0) xi_137_2 rfl ?_
  refine xr_istore_n xi_137_3 (Nat.le_of_ble_eq_true rfl) rfl ?_
  exact key (G 0) 0 (by omega)
theorem wm_handsOf {t : Nat} (hI : sInv G) (ht : t < 30) (hQ : Q (some (.int (mk (sHset G t)))) (mJ st tx ln ag po le nu fa re od be Z G)) : xc L xs 138 [.ref 0, .int (nI t)] (mJ st tx ln ag po le nu fa re od be Z G) Q := by
  have key : ∀ d i, i + d = 4 → xw L xs 138 4 [.ref 0, .int (nI t), .int (mk (fun k => k < i ∧ sHset G t k)), .int (nI i)] [] (mJ st tx ln ag po le nu fa re od be Z G) Q := by
    intro d
    induction d with
    | zero =>
      intro i hi
      refine xr_iload_n xi_138_4 rfl ?_
      refine xr_iconst (z := nI 4) xi_138_5 rfl ?_
      refine xr_ic_ge xi_138_6 (by first | exact tI_n (by omega) | exact tI_d (by omega) | assumption | exact tI_e1 | exact tI_e2 | exact tI_e3 | exact tI_e4) (by first | exact tI_n (by omega) | exact tI_d (by omega) | assumption | exact tI_e1 | exact tI_e2 | exact tI_e3 | exact tI_e4) (fun c_ => ?_) (fun c_ => by exfalso; omega)
      refine xr_iload_n xi_138_40 rfl ?_
      refine xr_iret xi_138_41 (fun h => absurd h (by decide)) ?_
      rw [mk_all (fun u _ h => by have := h.1; omega)]
      exact hQ
    | succ d ih =>
      intro i hi
      have hh := (hI.h (k := i) (by omega)).1
      refine xr_iload_n xi_138_4 rfl ?_
      refine xr_iconst (z := nI 4) xi_138_5 rfl ?_
      refine xr_ic_ge xi_138_6 (by first | exact tI_n (by omega) | exact tI_d (by omega) | assumption | exact tI_e1 | exact tI_e2 | exact tI_e3 | exact tI_e4) (by first | exact tI_n (by omega) | exact tI_d (by omega) | assumption | exact tI_e1 | exact tI_e2 | exact tI_e3 | exact tI_e4) (fun c_ => by exfalso; omega) (fun c_ => ?_)
      refine xr_iload_n xi_138_9 rfl ?_
      refine xr_aload_n xi_138_10 rfl ?_
      refine xr_getf xi_138_11 rfl rfl ?_
      refine xr_bipush (z := nI 12) xi_138_14 rfl ?_
      refine xr_iload_n xi_138_16 rfl ?_
      refine xr_iadd xi_138_17 (by first | exact nI_add _ _ | exact rfl) ?_
      refine xr_ialz xi_138_18 rfl (by first | exact tI_n (by first | omega | (simp only [ri]; omega)) | exact tI_dn (by omega) (by omega) | assumption) (by first | omega | (simp only [ri]; omega)) (by first | exact mj_lo (by first | omega | (simp only [ri]; omega)) | exact mF_at _ _ | exact rfl) ?_
      refine xr_iload_n xi_138_19 rfl ?_
      refine xr_iconst (z := nI 1) xi_138_20 rfl ?_
      refine xr_iadd xi_138_21 (by first | exact nI_add _ _ | exact rfl) ?_
      refine xr_ic_ne xi_138_22 (by first | exact tI_n (by omega) | exact tI_d (by omega) | assumption | exact tI_e1 | exact tI_e2 | exact tI_e3 | exact tI_e4) (by first | exact tI_n (by omega) | exact tI_d (by omega) | assumption | exact tI_e1 | exact tI_e2 | exact tI_e3 | exact tI_e4) (fun c_22 => ?_) (fun c_22 => ?_)
      · refine xr_iconst (z := nI 0) xi_138_31 rfl ?_
        refine xr_ior xi_138_32 (mk_step0 (fun q => by have := q.2; omega)) ?_
        refine xr_istore_n xi_138_33 (Nat.le_of_ble_eq_true rfl) rfl ?_
        refine xr_iinc xi_138_34 rfl (by first | exact nI_1 _ | exact rfl) rfl ?_
        refine xr_goto xi_138_37 ?_
        exact ih (i + 1) (by omega)
      · refine xr_iconst (z := nI 1) xi_138_25 rfl ?_
        refine xr_iload_n xi_138_26 rfl ?_
        refine xr_ishl xi_138_27 rfl ?_
        refine xr_goto xi_138_28 ?_
        refine xr_ior xi_138_32 (mk_step1 (by omega) ⟨by omega, by omega⟩) ?_
        refine xr_istore_n xi_138_33 (Nat.le_of_ble_eq_true rfl) rfl ?_
        refine xr_iinc xi_138_34 rfl (by first | exact nI_1 _ | exact rfl) rfl ?_
        refine xr_goto xi_138_37 ?_
        exact ih (i + 1) (by omega)
  refine xr_iconst xi_138_0 (show xm_i 0 = mk (fun k => k < 0 ∧ sHset G t k) from mk_start _) ?_
  refine xr_istore_n xi_138_1 (Nat.le_of_ble_eq_true rfl) rfl ?_
  refine xr_iconst (z := nI 0) xi_138_2 rfl ?_
  refine xr_istore_n xi_138_3 (Nat.le_of_ble_eq_true rfl) rfl ?_
  exact key 4 0 (by omega)
theorem wm_livingIn {h : Nat} (hI : sInv G) (hh : h < 8) (hQ : Q (some (.int (mk (sInH G h)))) (mJ st tx ln ag po le nu fa re od be Z G)) : xc L xs 140 [.ref 0, .int (nI h)] (mJ st tx ln ag po le nu fa re od be Z G) Q := by
  have hc := hI.c
  have key : ∀ d i, i + d = G 0 → xw L xs 140 4 [.ref 0, .int (nI h), .int (mk (fun t => t < i ∧ sInH G h t)), .int (nI i)] [] (mJ st tx ln ag po le nu fa re od be Z G) Q := by
    intro d
    induction d with
    | zero =>
      intro i hi
      refine xr_iload_n xi_140_4 rfl ?_
      refine xr_aload_n xi_140_5 rfl ?_
      refine xr_getf xi_140_6 rfl rfl ?_
      refine xr_iconst (z := nI 0) xi_140_9 rfl ?_
      refine xr_ialz xi_140_10 rfl (by first | exact tI_n (by first | omega | (simp only [ri]; omega)) | exact tI_dn (by omega) (by omega) | assumption) (by first | omega | (simp only [ri]; omega)) (by first | exact mj_lo (by first | omega | (simp only [ri]; omega)) | exact mF_at _ _ | exact rfl) ?_
      refine xr_ic_ge xi_140_11 (by first | exact tI_n (by omega) | exact tI_d (by omega) | assumption | exact tI_e1 | exact tI_e2 | exact tI_e3 | exact tI_e4) (by first | exact tI_n (by omega) | exact tI_d (by omega) | assumption | exact tI_e1 | exact tI_e2 | exact tI_e3 | exact tI_e4) (fun c_ => ?_) (fun c_ => by exfalso; omega)
      refine xr_iload_n xi_140_47 rfl ?_
      refine xr_iret xi_140_48 (fun h => absurd h (by decide)) ?_
      rw [mk_all (fun t _ h => by have := h.1.1; omega)]
      exact hQ
    | succ d ih =>
      intro i hi
      refine xr_iload_n xi_140_4 rfl ?_
      refine xr_aload_n xi_140_5 rfl ?_
      refine xr_getf xi_140_6 rfl rfl ?_
      refine xr_iconst (z := nI 0) xi_140_9 rfl ?_
      refine xr_ialz xi_140_10 rfl (by first | exact tI_n (by first | omega | (simp only [ri]; omega)) | exact tI_dn (by omega) (by omega) | assumption) (by first | omega | (simp only [ri]; omega)) (by first | exact mj_lo (by first | omega | (simp only [ri]; omega)) | exact mF_at _ _ | exact rfl) ?_
      refine xr_ic_ge xi_140_11 (by first | exact tI_n (by omega) | exact tI_d (by omega) | assumption | exact tI_e1 | exact tI_e2 | exact tI_e3 | exact tI_e4) (by first | exact tI_n (by omega) | exact tI_d (by omega) | assumption | exact tI_e1 | exact tI_e2 | exact tI_e3 | exact tI_e4) (fun c_ => by exfalso; omega) (fun c_ => ?_)
      refine xr_iload_n xi_140_14 rfl ?_
      refine xr_aload_n xi_140_15 rfl ?_
      refine xr_iload_n xi_140_16 rfl ?_
      refine xr_virt xi_140_17 rfl rfl rfl rfl (Nat.le_of_ble_eq_true rfl) (Nat.le_of_ble_eq_true rfl) ?_
      refine wm_isThingN hI (by omega) (fun hl => ?_) (fun hl => ?_)
      · have hg := hI.ho (t := i) (by omega)
        refine xr_k ?_
        refine xr_if_eq xi_140_20 (by first | exact tI_n (by omega) | exact tI_d (by omega) | assumption | exact tI_e1 | exact tI_e2 | exact tI_e3 | exact tI_e4) (fun c_ => by exfalso; omega) (fun c_ => ?_)
        refine xr_aload_n xi_140_23 rfl ?_
        refine xr_iload_n xi_140_24 rfl ?_
        refine xr_virt xi_140_25 rfl rfl rfl rfl (Nat.le_of_ble_eq_true rfl) (Nat.le_of_ble_eq_true rfl) ?_
        refine wm_homeOf hI hl ?_
        refine xr_k ?_
        refine xr_iload_n xi_140_28 rfl ?_
        refine xr_ic_ne xi_140_29 (by first | exact tI_n (by omega) | exact tI_d (by omega) | assumption | exact tI_e1 | exact tI_e2 | exact tI_e3 | exact tI_e4) (by first | exact tI_n (by omega) | exact tI_d (by omega) | assumption | exact tI_e1 | exact tI_e2 | exact tI_e3 | exact tI_e4) (fun c_29 => ?_) (fun c_29 => ?_)
        · refine xr_iconst (z := nI 0) xi_140_38 rfl ?_
          refine xr_ior xi_140_39 (mk_step0 (fun q => by have := q.2; omega)) ?_
          refine xr_istore_n xi_140_40 (Nat.le_of_ble_eq_true rfl) rfl ?_
          refine xr_iinc xi_140_41 rfl (by first | exact nI_1 _ | exact rfl) rfl ?_
          refine xr_goto xi_140_44 ?_
          exact ih (i + 1) (by omega)
        · refine xr_iconst (z := nI 1) xi_140_32 rfl ?_
          refine xr_iload_n xi_140_33 rfl ?_
          refine xr_ishl xi_140_34 rfl ?_
          refine xr_goto xi_140_35 ?_
          refine xr_ior xi_140_39 (mk_step1 (by omega) ⟨hl, by omega⟩) ?_
          refine xr_istore_n xi_140_40 (Nat.le_of_ble_eq_true rfl) rfl ?_
          refine xr_iinc xi_140_41 rfl (by first | exact nI_1 _ | exact rfl) rfl ?_
          refine xr_goto xi_140_44 ?_
          exact ih (i + 1) (by omega)
      · refine xr_k ?_
        refine xr_if_eq xi_140_20 (by first | exact tI_n (by omega) | exact tI_d (by omega) | assumption | exact tI_e1 | exact tI_e2 | exact tI_e3 | exact tI_e4) (fun c_ => ?_) (fun c_ => by exfalso; omega)
        refine xr_iconst (z := nI 0) xi_140_38 rfl ?_
        refine xr_ior xi_140_39 (mk_step0 (fun q => hl q.1)) ?_
        refine xr_istore_n xi_140_40 (Nat.le_of_ble_eq_true rfl) rfl ?_
        refine xr_iinc xi_140_41 rfl (by first | exact nI_1 _ | exact rfl) rfl ?_
        refine xr_goto xi_140_44 ?_
        exact ih (i + 1) (by omega)
  refine xr_iconst xi_140_0 (show xm_i 0 = mk (fun t => t < 0 ∧ sInH G h t) from mk_start _) ?_
  refine xr_istore_n xi_140_1 (Nat.le_of_ble_eq_true rfl) rfl ?_
  refine xr_iconst (z := nI 0) xi_140_2 rfl ?_
  refine xr_istore_n xi_140_3 (Nat.le_of_ble_eq_true rfl) rfl ?_
  exact key (G 0) 0 (by omega)
theorem wm_thingOf {x y : Int32} (hI : sInv G) (h1 : ∀ t w, t < G 0 → w < 10 → x = nI t → y = nI w → Q (some (.int (qThing G t w))) (mJ st tx ln ag po le nu fa re od be Z G)) (h2 : (¬ ∃ t w, t < G 0 ∧ w < 10 ∧ x = nI t ∧ y = nI w) → Q (some (.int xE1)) (mJ st tx ln ag po le nu fa re od be Z G)) : xc L xs 139 [.ref 0, .int x, .int y] (mJ st tx ln ag po le nu fa re od be Z G) Q := by
  have hc := hI.c
  refine xr_iload_n xi_139_0 rfl ?_
  refine xr_iconst (z := nI 0) xi_139_1 rfl ?_
  refine xr_aload_n xi_139_2 rfl ?_
  refine xr_getf xi_139_3 rfl rfl ?_
  refine xr_iconst (z := nI 0) xi_139_6 rfl ?_
  refine xr_ialz xi_139_7 rfl (by first | exact tI_n (by first | omega | (simp only [ri]; omega)) | exact tI_dn (by omega) (by omega) | assumption) (by first | omega | (simp only [ri]; omega)) (by first | exact mj_lo (by first | omega | (simp only [ri]; omega)) | exact mF_at _ _ | exact rfl) ?_
  refine xr_iconst (z := nI 1) xi_139_8 rfl ?_
  refine xr_isub xi_139_9 (by first | exact pk_sub (by omega) | exact nI_d _ | exact rfl) ?_
  refine xr_stat xi_139_10 (by decide) rfl rfl (Nat.le_of_ble_eq_true rfl) (Nat.le_of_ble_eq_true rfl) ?_
  refine wm_in rfl (tI_n (by omega)) (tI_d (n := G 0) (by omega)) (fun h => ?_) (fun h => ?_)
  · obtain ⟨t, ht, rfl⟩ := x_of (n := G 0) h.1 (by omega) (by omega)
    have ht3 : t < 30 := by omega
    have key : ∀ b, (b = 1 ∧ sLive G t ∨ b = 0 ∧ ¬ sLive G t) → xw L xs 139 25 [.ref 0, .int (nI t), .int y, .int (nI b)] [] (mJ st tx ln ag po le nu fa re od be Z G) Q := by
      intro b hb
      by_cases hw : ∃ w, w < 10 ∧ y = nI w
      · obtain ⟨w, hw, rfl⟩ := hw
        have hq := h1 t w ht hw rfl rfl
        have hw10 : w = 0 ∨ w = 1 ∨ w = 2 ∨ w = 3 ∨ (4 ≤ w ∧ w < 7) ∨ w = 7 ∨ w = 8 ∨ w = 9 := by omega
        rcases hw10 with rfl | rfl | rfl | rfl | hw4 | rfl | rfl | rfl
        · rcases hb with ⟨rfl, hl⟩ | ⟨rfl, hl⟩
          · have e : qThing G t 0 = nI 1 := if_pos (cd_t.mpr hl)
            rw [e] at hq
            refine xr_iload_n xi_139_25 rfl ?_
            refine xr_tsw xi_139_26 (by first | exact tI_n (by omega) | exact tI_d (by omega) | assumption | exact tI_e1 | exact tI_e2 | exact tI_e3 | exact tI_e4) (t := 80) (by decide) ?_
            refine xr_iload_n xi_139_80 rfl ?_
            refine xr_if_eq xi_139_81 (by first | exact tI_n (by omega) | exact tI_d (by omega) | assumption | exact tI_e1 | exact tI_e2 | exact tI_e3 | exact tI_e4) (fun c_ => by exfalso; omega) (fun c_ => ?_)
            refine xr_iconst (z := nI 1) xi_139_84 rfl ?_
            refine xr_goto xi_139_85 ?_
            refine xr_iret xi_139_89 (fun h => absurd h (by decide)) ?_
            exact hq
          · have e : qThing G t 0 = nI 0 := if_neg (fun q => hl (cd_t.mp q))
            rw [e] at hq
            refine xr_iload_n xi_139_25 rfl ?_
            refine xr_tsw xi_139_26 (by first | exact tI_n (by omega) | exact tI_d (by omega) | assumption | exact tI_e1 | exact tI_e2 | exact tI_e3 | exact tI_e4) (t := 80) (by decide) ?_
            refine xr_iload_n xi_139_80 rfl ?_
            refine xr_if_eq xi_139_81 (by first | exact tI_n (by omega) | exact tI_d (by omega) | assumption | exact tI_e1 | exact tI_e2 | exact tI_e3 | exact tI_e4) (fun c_ => ?_) (fun c_ => by exfalso; omega)
            refine xr_iconst (z := nI 0) xi_139_88 rfl ?_
            refine xr_iret xi_139_89 (fun h => absurd h (by decide)) ?_
            exact hq
        · rcases hb with ⟨rfl, hl⟩ | ⟨rfl, hl⟩
          · have e : qThing G t 1 = nI (10 * sHome G t + (G (ri t 0) - 1) % 5) := if_pos (cd_t.mpr hl)
            have h0 := hl.2
            have h40 := hI.l ht3
            rw [e] at hq
            refine xr_iload_n xi_139_25 rfl ?_
            refine xr_tsw xi_139_26 (by first | exact tI_n (by omega) | exact tI_d (by omega) | assumption | exact tI_e1 | exact tI_e2 | exact tI_e3 | exact tI_e4) (t := 90) (by decide) ?_
            refine xr_iload_n xi_139_90 rfl ?_
            refine xr_if_eq xi_139_91 (by first | exact tI_n (by omega) | exact tI_d (by omega) | assumption | exact tI_e1 | exact tI_e2 | exact tI_e3 | exact tI_e4) (fun c_ => by exfalso; omega) (fun c_ => ?_)
            refine xr_bipush (z := nI 10) xi_139_94 rfl ?_
            refine xr_aload_n xi_139_96 rfl ?_
            refine xr_iload_n xi_139_97 rfl ?_
            refine xr_virt xi_139_98 rfl rfl rfl rfl (Nat.le_of_ble_eq_true rfl) (Nat.le_of_ble_eq_true rfl) ?_
            refine wm_homeOf hI hl ?_
            refine xr_k ?_
            refine xr_imul xi_139_101 (by first | exact pk_mul _ _ | exact rfl) ?_
            refine xr_aload_n xi_139_102 rfl ?_
            refine xr_getf xi_139_103 rfl rfl ?_
            refine xr_iload_n xi_139_106 rfl ?_
            refine xr_iconst (z := nI 0) xi_139_107 rfl ?_
            refine xr_stat xi_139_108 (by decide) rfl rfl (Nat.le_of_ble_eq_true rfl) (Nat.le_of_ble_eq_true rfl) ?_
            refine wm_of ?_
            refine xr_k ?_
            refine xr_ialz xi_139_111 rfl (by first | exact tI_n (by first | omega | (simp only [ri]; omega)) | exact tI_dn (by omega) (by omega) | assumption) (by first | omega | (simp only [ri]; omega)) (by first | exact mj_lo (by first | omega | (simp only [ri]; omega)) | exact mF_at _ _ | exact rfl) ?_
            refine xr_iconst (z := nI 1) xi_139_112 rfl ?_
            refine xr_isub xi_139_113 (by first | exact pk_sub (by omega) | exact nI_d _ | exact rfl) ?_
            refine xr_iconst (z := nI 5) xi_139_114 rfl ?_
            refine xr_irem xi_139_115 (by decide) (by first | exact pk_rem (by omega) (by omega) (by omega) | exact rfl) ?_
            refine xr_iadd xi_139_116 (by first | exact nI_add _ _ | exact rfl) ?_
            refine xr_goto xi_139_117 ?_
            refine xr_iret xi_139_122 (fun h => absurd h (by decide)) ?_
            exact hq
          · have e : qThing G t 1 = xE4 := if_neg (fun q => hl (cd_t.mp q))
            rw [e] at hq
            refine xr_iload_n xi_139_25 rfl ?_
            refine xr_tsw xi_139_26 (by first | exact tI_n (by omega) | exact tI_d (by omega) | assumption | exact tI_e1 | exact tI_e2 | exact tI_e3 | exact tI_e4) (t := 90) (by decide) ?_
            refine xr_iload_n xi_139_90 rfl ?_
            refine xr_if_eq xi_139_91 (by first | exact tI_n (by omega) | exact tI_d (by omega) | assumption | exact tI_e1 | exact tI_e2 | exact tI_e3 | exact tI_e4) (fun c_ => ?_) (fun c_ => by exfalso; omega)
            refine xr_ldc (z := xE4) xi_139_120 rfl ?_
            refine xr_iret xi_139_122 (fun h => absurd h (by decide)) ?_
            exact hq
        · rcases hb with ⟨rfl, hl⟩ | ⟨rfl, hl⟩
          · have e : qThing G t 2 = dI (sAge G t) := if_pos (cd_t.mpr hl)
            rw [e] at hq
            refine xr_iload_n xi_139_25 rfl ?_
            refine xr_tsw xi_139_26 (by first | exact tI_n (by omega) | exact tI_d (by omega) | assumption | exact tI_e1 | exact tI_e2 | exact tI_e3 | exact tI_e4) (t := 123) (by decide) ?_
            refine xr_iload_n xi_139_123 rfl ?_
            refine xr_if_eq xi_139_124 (by first | exact tI_n (by omega) | exact tI_d (by omega) | assumption | exact tI_e1 | exact tI_e2 | exact tI_e3 | exact tI_e4) (fun c_ => by exfalso; omega) (fun c_ => ?_)
            refine xr_aload_n xi_139_127 rfl ?_
            refine xr_iload_n xi_139_128 rfl ?_
            refine xr_virt xi_139_129 rfl rfl rfl rfl (Nat.le_of_ble_eq_true rfl) (Nat.le_of_ble_eq_true rfl) ?_
            refine wm_ageOf hI hl ?_
            refine xr_k ?_
            refine xr_goto xi_139_132 ?_
            refine xr_iret xi_139_137 (fun h => absurd h (by decide)) ?_
            exact hq
          · have e : qThing G t 2 = xE4 := if_neg (fun q => hl (cd_t.mp q))
            rw [e] at hq
            refine xr_iload_n xi_139_25 rfl ?_
            refine xr_tsw xi_139_26 (by first | exact tI_n (by omega) | exact tI_d (by omega) | assumption | exact tI_e1 | exact tI_e2 | exact tI_e3 | exact tI_e4) (t := 123) (by decide) ?_
            refine xr_iload_n xi_139_123 rfl ?_
            refine xr_if_eq xi_139_124 (by first | exact tI_n (by omega) | exact tI_d (by omega) | assumption | exact tI_e1 | exact tI_e2 | exact tI_e3 | exact tI_e4) (fun c_ => ?_) (fun c_ => by exfalso; omega)
            refine xr_ldc (z := xE4) xi_139_135 rfl ?_
            refine xr_iret xi_139_137 (fun h => absurd h (by decide)) ?_
            exact hq
        · refine xr_iload_n xi_139_25 rfl ?_
          refine xr_tsw xi_139_26 (by first | exact tI_n (by omega) | exact tI_d (by omega) | assumption | exact tI_e1 | exact tI_e2 | exact tI_e3 | exact tI_e4) (t := 138) (by decide) ?_
          refine xr_aload_n xi_139_138 rfl ?_
          refine xr_getf xi_139_139 rfl rfl ?_
          refine xr_iload_n xi_139_142 rfl ?_
          refine xr_iconst (z := nI 1) xi_139_143 rfl ?_
          refine xr_stat xi_139_144 (by decide) rfl rfl (Nat.le_of_ble_eq_true rfl) (Nat.le_of_ble_eq_true rfl) ?_
          refine wm_of ?_
          refine xr_k ?_
          refine xr_ialz xi_139_147 rfl (by first | exact tI_n (by first | omega | (simp only [ri]; omega)) | exact tI_dn (by omega) (by omega) | assumption) (by first | omega | (simp only [ri]; omega)) (by first | exact mj_lo (by first | omega | (simp only [ri]; omega)) | exact mF_at _ _ | exact rfl) ?_
          refine xr_iret xi_139_148 (fun h => absurd h (by decide)) ?_
          exact hq
        · obtain ⟨s, rfl⟩ : ∃ s, w = 4 + s := ⟨w - 4, by omega⟩
          have hs : s < 3 := by omega
          have h30 := (hI.t ht3 hs).1
          rw [qThing_t hs] at hq
          have hsw : xw L xs 139 149 [.ref 0, .int (nI t), .int (nI (4 + s)), .int (nI b)] [] (mJ st tx ln ag po le nu fa re od be Z G) Q := by
            refine xr_aload_n xi_139_149 rfl ?_
            refine xr_getf xi_139_150 rfl rfl ?_
            refine xr_iload_n xi_139_153 rfl ?_
            refine xr_iload_n xi_139_154 rfl ?_
            refine xr_iconst (z := nI 2) xi_139_155 rfl ?_
            refine xr_isub xi_139_156 ((pk_sub (by omega)).trans (congrArg nI (show 4 + s - 2 = 2 + s by omega))) ?_
            refine xr_stat xi_139_157 (by decide) rfl rfl (Nat.le_of_ble_eq_true rfl) (Nat.le_of_ble_eq_true rfl) ?_
            refine wm_of ?_
            refine xr_k ?_
            refine xr_ialz xi_139_160 rfl (by first | exact tI_n (by first | omega | (simp only [ri]; omega)) | exact tI_dn (by omega) (by omega) | assumption) (by first | omega | (simp only [ri]; omega)) (by first | exact mj_lo (by first | omega | (simp only [ri]; omega)) | exact mF_at _ _ | exact rfl) ?_
            refine xr_if_ne xi_139_161 (by first | exact tI_n (by omega) | exact tI_d (by omega) | assumption | exact tI_e1 | exact tI_e2 | exact tI_e3 | exact tI_e4) (fun c_161 => ?_) (fun c_161 => ?_)
            · rw [if_neg (by omega)] at hq
              refine xr_aload_n xi_139_169 rfl ?_
              refine xr_getf xi_139_170 rfl rfl ?_
              refine xr_iload_n xi_139_173 rfl ?_
              refine xr_iload_n xi_139_174 rfl ?_
              refine xr_iconst (z := nI 2) xi_139_175 rfl ?_
              refine xr_isub xi_139_176 ((pk_sub (by omega)).trans (congrArg nI (show 4 + s - 2 = 2 + s by omega))) ?_
              refine xr_stat xi_139_177 (by decide) rfl rfl (Nat.le_of_ble_eq_true rfl) (Nat.le_of_ble_eq_true rfl) ?_
              refine wm_of ?_
              refine xr_k ?_
              refine xr_ialz xi_139_180 rfl (by first | exact tI_n (by first | omega | (simp only [ri]; omega)) | exact tI_dn (by omega) (by omega) | assumption) (by first | omega | (simp only [ri]; omega)) (by first | exact mj_lo (by first | omega | (simp only [ri]; omega)) | exact mF_at _ _ | exact rfl) ?_
              refine xr_iconst (z := nI 1) xi_139_181 rfl ?_
              refine xr_isub xi_139_182 (nI_d _) ?_
              refine xr_iret xi_139_183 (fun h => absurd h (by decide)) ?_
              exact hq
            · rw [if_pos (by omega)] at hq
              refine xr_ldc (z := xE4) xi_139_164 rfl ?_
              refine xr_goto xi_139_166 ?_
              refine xr_iret xi_139_183 (fun h => absurd h (by decide)) ?_
              exact hq
          have h3 : s = 0 ∨ s = 1 ∨ s = 2 := by omega
          rcases h3 with rfl | rfl | rfl
          · refine xr_iload_n xi_139_25 rfl ?_
            refine xr_tsw xi_139_26 (by first | exact tI_n (by omega) | exact tI_d (by omega) | assumption | exact tI_e1 | exact tI_e2 | exact tI_e3 | exact tI_e4) (t := 149) (by decide) ?_
            exact hsw
          · refine xr_iload_n xi_139_25 rfl ?_
            refine xr_tsw xi_139_26 (by first | exact tI_n (by omega) | exact tI_d (by omega) | assumption | exact tI_e1 | exact tI_e2 | exact tI_e3 | exact tI_e4) (t := 149) (by decide) ?_
            exact hsw
          · refine xr_iload_n xi_139_25 rfl ?_
            refine xr_tsw xi_139_26 (by first | exact tI_n (by omega) | exact tI_d (by omega) | assumption | exact tI_e1 | exact tI_e2 | exact tI_e3 | exact tI_e4) (t := 149) (by decide) ?_
            exact hsw
        · refine xr_iload_n xi_139_25 rfl ?_
          refine xr_tsw xi_139_26 (by first | exact tI_n (by omega) | exact tI_d (by omega) | assumption | exact tI_e1 | exact tI_e2 | exact tI_e3 | exact tI_e4) (t := 184) (by decide) ?_
          refine xr_aload_n xi_139_184 rfl ?_
          refine xr_iload_n xi_139_185 rfl ?_
          refine xr_virt xi_139_186 rfl rfl rfl rfl (Nat.le_of_ble_eq_true rfl) (Nat.le_of_ble_eq_true rfl) ?_
          refine wm_handsOf hI ht3 ?_
          refine xr_k ?_
          refine xr_iret xi_139_189 (fun h => absurd h (by decide)) ?_
          exact hq
        · refine xr_iload_n xi_139_25 rfl ?_
          refine xr_tsw xi_139_26 (by first | exact tI_n (by omega) | exact tI_d (by omega) | assumption | exact tI_e1 | exact tI_e2 | exact tI_e3 | exact tI_e4) (t := 190) (by decide) ?_
          refine xr_aload_n xi_139_190 rfl ?_
          refine xr_iload_n xi_139_191 rfl ?_
          refine xr_virt xi_139_192 rfl rfl rfl rfl (Nat.le_of_ble_eq_true rfl) (Nat.le_of_ble_eq_true rfl) ?_
          refine wm_tiedFrom hI ht3 ?_
          refine xr_k ?_
          refine xr_iret xi_139_195 (fun h => absurd h (by decide)) ?_
          exact hq
        · refine xr_iload_n xi_139_25 rfl ?_
          refine xr_tsw xi_139_26 (by first | exact tI_n (by omega) | exact tI_d (by omega) | assumption | exact tI_e1 | exact tI_e2 | exact tI_e3 | exact tI_e4) (t := 196) (by decide) ?_
          refine xr_aload_n xi_139_196 rfl ?_
          refine xr_getf xi_139_197 rfl rfl ?_
          refine xr_iload_n xi_139_200 rfl ?_
          refine xr_iconst (z := nI 5) xi_139_201 rfl ?_
          refine xr_stat xi_139_202 (by decide) rfl rfl (Nat.le_of_ble_eq_true rfl) (Nat.le_of_ble_eq_true rfl) ?_
          refine wm_of ?_
          refine xr_k ?_
          refine xr_ialz xi_139_205 rfl (by first | exact tI_n (by first | omega | (simp only [ri]; omega)) | exact tI_dn (by omega) (by omega) | assumption) (by first | omega | (simp only [ri]; omega)) (by first | exact mj_lo (by first | omega | (simp only [ri]; omega)) | exact mF_at _ _ | exact rfl) ?_
          refine xr_iret xi_139_206 (fun h => absurd h (by decide)) ?_
          exact hq
      · have hbad : y.toInt < 0 ∨ 9 < y.toInt := by
          apply Classical.byContradiction
          intro q
          exact hw (x_of (n := 10) (by omega) (by omega) (by omega))
        refine xr_iload_n xi_139_25 rfl ?_
        refine xr_tsw xi_139_26 rfl (t := 207) (by rw [if_pos hbad]; rfl) ?_
        refine xr_ldc (z := xE1) xi_139_207 rfl ?_
        refine xr_iret xi_139_209 (fun h => absurd h (by decide)) ?_
        exact h2 (fun ⟨t', w, _, q2, _, q4⟩ => hw ⟨w, q2, q4⟩)
    refine xr_k ?_
    refine xr_if_ne xi_139_13 (by first | exact tI_n (by omega) | exact tI_d (by omega) | assumption | exact tI_e1 | exact tI_e2 | exact tI_e3 | exact tI_e4) (fun c_ => ?_) (fun c_ => by exfalso; omega)
    refine xr_aload_n xi_139_19 rfl ?_
    refine xr_iload_n xi_139_20 rfl ?_
    refine xr_virt xi_139_21 rfl rfl rfl rfl (Nat.le_of_ble_eq_true rfl) (Nat.le_of_ble_eq_true rfl) ?_
    refine wm_isThingN hI (by omega) (fun hl => ?_) (fun hl => ?_)
    · refine xr_k ?_
      refine xr_istore_n xi_139_24 (Nat.le_of_ble_eq_true rfl) rfl ?_
      exact key 1 (Or.inl ⟨rfl, hl⟩)
    · refine xr_k ?_
      refine xr_istore_n xi_139_24 (Nat.le_of_ble_eq_true rfl) rfl ?_
      exact key 0 (Or.inr ⟨rfl, hl⟩)
  · refine xr_k ?_
    refine xr_if_ne xi_139_13 (by first | exact tI_n (by omega) | exact tI_d (by omega) | assumption | exact tI_e1 | exact tI_e2 | exact tI_e3 | exact tI_e4) (fun c_ => by exfalso; omega) (fun c_ => ?_)
    refine xr_ldc (z := xE1) xi_139_16 rfl ?_
    refine xr_iret xi_139_18 (fun h => absurd h (by decide)) ?_
    refine h2 (fun ⟨t, w, q1, _, q3, _⟩ => h ?_)
    rw [q3, tI_n (by omega)]
    omega
theorem wm_houseOf {x y : Int32} (hI : sInv G) (h1 : ∀ h w, h < 8 → w < 8 → x = nI h → y = nI w → Q (some (.int (qHouse G h w))) (mJ st tx ln ag po le nu fa re od be Z G)) (h2 : (¬ ∃ h w, h < 8 ∧ w < 8 ∧ x = nI h ∧ y = nI w) → Q (some (.int xE1)) (mJ st tx ln ag po le nu fa re od be Z G)) : xc L xs 141 [.ref 0, .int x, .int y] (mJ st tx ln ag po le nu fa re od be Z G) Q := by
  have hc := hI.c
  refine xr_iload_n xi_141_0 rfl ?_
  refine xr_iconst (z := nI 0) xi_141_1 rfl ?_
  refine xr_bipush (z := nI 7) xi_141_2 rfl ?_
  refine xr_stat xi_141_4 (by decide) rfl rfl (Nat.le_of_ble_eq_true rfl) (Nat.le_of_ble_eq_true rfl) ?_
  refine wm_in rfl (tI_n (by omega)) (tI_n (by omega)) (fun h => ?_) (fun h => ?_)
  · obtain ⟨a, ha, rfl⟩ := x_of (n := 8) h.1 (by omega) (by omega)
    have ha3 := hI.a ha
    refine xr_k ?_
    refine xr_if_eq xi_141_7 (by first | exact tI_n (by omega) | exact tI_d (by omega) | assumption | exact tI_e1 | exact tI_e2 | exact tI_e3 | exact tI_e4) (fun c_ => by exfalso; omega) (fun c_ => ?_)
    refine xr_iload_n xi_141_10 rfl ?_
    refine xr_iconst (z := nI 0) xi_141_11 rfl ?_
    refine xr_bipush (z := nI 7) xi_141_12 rfl ?_
    refine xr_stat xi_141_14 (by decide) rfl rfl (Nat.le_of_ble_eq_true rfl) (Nat.le_of_ble_eq_true rfl) ?_
    refine wm_in rfl (tI_n (by omega)) (tI_n (by omega)) (fun h => ?_) (fun h => ?_)
    · obtain ⟨w, hw, rfl⟩ := x_of (n := 8) h.1 (by omega) (by omega)
      have hq := h1 a w ha hw rfl rfl
      refine xr_k ?_
      refine xr_if_ne xi_141_17 (by first | exact tI_n (by omega) | exact tI_d (by omega) | assumption | exact tI_e1 | exact tI_e2 | exact tI_e3 | exact tI_e4) (fun c_ => ?_) (fun c_ => by exfalso; omega)
      refine xr_iload_n xi_141_23 rfl ?_
      refine xr_if_ne xi_141_24 (by first | exact tI_n (by omega) | exact tI_d (by omega) | assumption | exact tI_e1 | exact tI_e2 | exact tI_e3 | exact tI_e4) (fun c_24 => ?_) (fun c_24 => ?_)
      · refine xr_iload_n xi_141_54 rfl ?_
        refine xr_iconst (z := nI 1) xi_141_55 rfl ?_
        refine xr_ic_ne xi_141_56 (by first | exact tI_n (by omega) | exact tI_d (by omega) | assumption | exact tI_e1 | exact tI_e2 | exact tI_e3 | exact tI_e4) (by first | exact tI_n (by omega) | exact tI_d (by omega) | assumption | exact tI_e1 | exact tI_e2 | exact tI_e3 | exact tI_e4) (fun c_56 => ?_) (fun c_56 => ?_)
        · refine xr_iload_n xi_141_70 rfl ?_
          refine xr_iconst (z := nI 2) xi_141_71 rfl ?_
          refine xr_ic_ne xi_141_72 (by first | exact tI_n (by omega) | exact tI_d (by omega) | assumption | exact tI_e1 | exact tI_e2 | exact tI_e3 | exact tI_e4) (by first | exact tI_n (by omega) | exact tI_d (by omega) | assumption | exact tI_e1 | exact tI_e2 | exact tI_e3 | exact tI_e4) (fun c_72 => ?_) (fun c_72 => ?_)
          · obtain ⟨v, rfl⟩ : ∃ v, w = v + 3 := ⟨w - 3, by omega⟩
            refine xr_aload_n xi_141_83 rfl ?_
            refine xr_iconst (z := nI 5) xi_141_84 rfl ?_
            refine xr_iload_n xi_141_85 rfl ?_
            refine xr_imul xi_141_86 (by first | exact pk_mul _ _ | exact rfl) ?_
            refine xr_iload_n xi_141_87 rfl ?_
            refine xr_iadd xi_141_88 (by first | exact nI_add _ _ | exact rfl) ?_
            refine xr_iconst (z := nI 3) xi_141_89 rfl ?_
            refine xr_isub xi_141_90 ((pk_sub (by omega)).trans (congrArg nI (show 5 * a + (v + 3) - 3 = 5 * a + v by omega))) ?_
            refine xr_virt xi_141_91 rfl rfl rfl rfl (Nat.le_of_ble_eq_true rfl) (Nat.le_of_ble_eq_true rfl) ?_
            refine wm_thingAt hc (fun t ht => hI.l ht) (by omega) (fun t ht e1 e2 => ?_) (fun he => ?_)
            · have e : qHouse G a (v + 3) = nI t := qAt_some ht e1 e2
              rw [e] at hq
              refine xr_k ?_
              refine xr_iret xi_141_94 (fun h => absurd h (by decide)) ?_
              exact hq
            · have e : qHouse G a (v + 3) = xE4 := qAt_none he
              rw [e] at hq
              refine xr_k ?_
              refine xr_iret xi_141_94 (fun h => absurd h (by decide)) ?_
              exact hq
          · have e : w = 2 := by omega
            subst e
            refine xr_aload_n xi_141_75 rfl ?_
            refine xr_iload_n xi_141_76 rfl ?_
            refine xr_virt xi_141_77 rfl rfl rfl rfl (Nat.le_of_ble_eq_true rfl) (Nat.le_of_ble_eq_true rfl) ?_
            refine wm_livingIn hI ha ?_
            refine xr_k ?_
            refine xr_goto xi_141_80 ?_
            refine xr_iret xi_141_94 (fun h => absurd h (by decide)) ?_
            exact hq
        · have e : w = 1 := by omega
          subst e
          refine xr_aload_n xi_141_59 rfl ?_
          refine xr_iload_n xi_141_60 rfl ?_
          refine xr_virt xi_141_61 rfl rfl rfl rfl (Nat.le_of_ble_eq_true rfl) (Nat.le_of_ble_eq_true rfl) ?_
          refine wm_livingIn hI ha ?_
          refine xr_k ?_
          refine xr_stat xi_141_64 (by decide) rfl rfl (Nat.le_of_ble_eq_true rfl) (Nat.le_of_ble_eq_true rfl) ?_
          refine wm_bits ?_
          refine xr_k ?_
          refine xr_goto xi_141_67 ?_
          refine xr_iret xi_141_94 (fun h => absurd h (by decide)) ?_
          exact hq
      · have e : w = 0 := by omega
        subst e
        refine xr_aload_n xi_141_27 rfl ?_
        refine xr_getf xi_141_28 rfl rfl ?_
        refine xr_iconst (z := nI 4) xi_141_31 rfl ?_
        refine xr_iload_n xi_141_32 rfl ?_
        refine xr_iadd xi_141_33 (by first | exact nI_add _ _ | exact rfl) ?_
        refine xr_ialz xi_141_34 rfl (by first | exact tI_n (by first | omega | (simp only [ri]; omega)) | exact tI_dn (by omega) (by omega) | assumption) (by first | omega | (simp only [ri]; omega)) (by first | exact mj_lo (by first | omega | (simp only [ri]; omega)) | exact mF_at _ _ | exact rfl) ?_
        refine xr_if_ne xi_141_35 (by first | exact tI_n (by omega) | exact tI_d (by omega) | assumption | exact tI_e1 | exact tI_e2 | exact tI_e3 | exact tI_e4) (fun c_35 => ?_) (fun c_35 => ?_)
        · have e : qHouse G a 0 = dI (G (4 + a)) := if_neg (by omega)
          rw [e] at hq
          refine xr_aload_n xi_141_43 rfl ?_
          refine xr_getf xi_141_44 rfl rfl ?_
          refine xr_iconst (z := nI 4) xi_141_47 rfl ?_
          refine xr_iload_n xi_141_48 rfl ?_
          refine xr_iadd xi_141_49 (by first | exact nI_add _ _ | exact rfl) ?_
          refine xr_ialz xi_141_50 rfl (by first | exact tI_n (by first | omega | (simp only [ri]; omega)) | exact tI_dn (by omega) (by omega) | assumption) (by first | omega | (simp only [ri]; omega)) (by first | exact mj_lo (by first | omega | (simp only [ri]; omega)) | exact mF_at _ _ | exact rfl) ?_
          refine xr_iconst (z := nI 1) xi_141_51 rfl ?_
          refine xr_isub xi_141_52 (nI_d _) ?_
          refine xr_iret xi_141_53 (fun h => absurd h (by decide)) ?_
          exact hq
        · have e : qHouse G a 0 = xE4 := if_pos (by omega)
          rw [e] at hq
          refine xr_ldc (z := xE4) xi_141_38 rfl ?_
          refine xr_goto xi_141_40 ?_
          refine xr_iret xi_141_53 (fun h => absurd h (by decide)) ?_
          exact hq
    · refine xr_k ?_
      refine xr_if_ne xi_141_17 (by first | exact tI_n (by omega) | exact tI_d (by omega) | assumption | exact tI_e1 | exact tI_e2 | exact tI_e3 | exact tI_e4) (fun c_ => by exfalso; omega) (fun c_ => ?_)
      refine xr_ldc (z := xE1) xi_141_20 rfl ?_
      refine xr_iret xi_141_22 (fun h => absurd h (by decide)) ?_
      refine h2 (fun ⟨t, w, _, q2, _, q4⟩ => h ?_)
      rw [q4, tI_n (by omega)]
      omega
  · refine xr_k ?_
    refine xr_if_eq xi_141_7 (by first | exact tI_n (by omega) | exact tI_d (by omega) | assumption | exact tI_e1 | exact tI_e2 | exact tI_e3 | exact tI_e4) (fun c_ => ?_) (fun c_ => by exfalso; omega)
    refine xr_ldc (z := xE1) xi_141_20 rfl ?_
    refine xr_iret xi_141_22 (fun h => absurd h (by decide)) ?_
    refine h2 (fun ⟨t, w, q1, _, q3, _⟩ => h ?_)
    rw [q3, tI_n (by omega)]
    omega
theorem wm_handOf {x : Int32} (hI : sInv G) (h1 : ∀ h, h < 4 → x = nI h → Q (some (.int (qHand G h))) (mJ st tx ln ag po le nu fa re od be Z G)) (h2 : (∀ h, h < 4 → x ≠ nI h) → Q (some (.int xE1)) (mJ st tx ln ag po le nu fa re od be Z G)) : xc L xs 142 [.ref 0, .int x] (mJ st tx ln ag po le nu fa re od be Z G) Q := by
  refine xr_iload_n xi_142_0 rfl ?_
  refine xr_stat xi_142_1 (by decide) rfl rfl (Nat.le_of_ble_eq_true rfl) (Nat.le_of_ble_eq_true rfl) ?_
  refine wm_isHand (fun h hh e => ?_) (fun hn => ?_)
  · subst e
    have hq := h1 h hh rfl
    have h30 := (hI.h hh).1
    unfold qHand at hq
    refine xr_k ?_
    refine xr_if_ne xi_142_4 (by first | exact tI_n (by omega) | exact tI_d (by omega) | assumption | exact tI_e1 | exact tI_e2 | exact tI_e3 | exact tI_e4) (fun c_ => ?_) (fun c_ => by exfalso; omega)
    refine xr_aload_n xi_142_12 rfl ?_
    refine xr_getf xi_142_13 rfl rfl ?_
    refine xr_bipush (z := nI 12) xi_142_16 rfl ?_
    refine xr_iload_n xi_142_18 rfl ?_
    refine xr_iadd xi_142_19 (by first | exact nI_add _ _ | exact rfl) ?_
    refine xr_ialz xi_142_20 rfl (by first | exact tI_n (by first | omega | (simp only [ri]; omega)) | exact tI_dn (by omega) (by omega) | assumption) (by first | omega | (simp only [ri]; omega)) (by first | exact mj_lo (by first | omega | (simp only [ri]; omega)) | exact mF_at _ _ | exact rfl) ?_
    refine xr_if_ne xi_142_21 (by first | exact tI_n (by omega) | exact tI_d (by omega) | assumption | exact tI_e1 | exact tI_e2 | exact tI_e3 | exact tI_e4) (fun c_21 => ?_) (fun c_21 => ?_)
    · rw [if_neg (by omega)] at hq
      refine xr_aload_n xi_142_29 rfl ?_
      refine xr_getf xi_142_30 rfl rfl ?_
      refine xr_bipush (z := nI 12) xi_142_33 rfl ?_
      refine xr_iload_n xi_142_35 rfl ?_
      refine xr_iadd xi_142_36 (by first | exact nI_add _ _ | exact rfl) ?_
      refine xr_ialz xi_142_37 rfl (by first | exact tI_n (by first | omega | (simp only [ri]; omega)) | exact tI_dn (by omega) (by omega) | assumption) (by first | omega | (simp only [ri]; omega)) (by first | exact mj_lo (by first | omega | (simp only [ri]; omega)) | exact mF_at _ _ | exact rfl) ?_
      refine xr_iconst (z := nI 1) xi_142_38 rfl ?_
      refine xr_isub xi_142_39 (nI_d _) ?_
      refine xr_iret xi_142_40 (fun h => absurd h (by decide)) ?_
      exact hq
    · rw [if_pos (by omega)] at hq
      refine xr_ldc (z := xE4) xi_142_24 rfl ?_
      refine xr_goto xi_142_26 ?_
      refine xr_iret xi_142_40 (fun h => absurd h (by decide)) ?_
      exact hq
  · refine xr_k ?_
    refine xr_if_ne xi_142_4 (by first | exact tI_n (by omega) | exact tI_d (by omega) | assumption | exact tI_e1 | exact tI_e2 | exact tI_e3 | exact tI_e4) (fun c_ => by exfalso; omega) (fun c_ => ?_)
    refine xr_ldc (z := xE1) xi_142_7 rfl ?_
    refine xr_goto xi_142_9 ?_
    refine xr_iret xi_142_40 (fun h => absurd h (by decide)) ?_
    exact h2 hn
theorem wm_isNoted {t s : Nat} (hI : sInv G) (ht : t < G 0) (hs : s < 3) (h1 : sNoted G t s → Q (some (.int (nI 1))) (mJ st tx ln ag po le nu fa re od be Z G)) (h2 : ¬ sNoted G t s → Q (some (.int (nI 0))) (mJ st tx ln ag po le nu fa re od be Z G)) : xc L xs 143 [.ref 0, .int (nI t), .int (nI s)] (mJ st tx ln ag po le nu fa re od be Z G) Q := by
  have hc := hI.c
  have ht3 : t < 30 := by omega
  have hg := hI.t ht3 hs
  refine xr_aload_n xi_143_0 rfl ?_
  refine xr_getf xi_143_1 rfl rfl ?_
  refine xr_iload_n xi_143_4 rfl ?_
  refine xr_iconst (z := nI 2) xi_143_5 rfl ?_
  refine xr_iload_n xi_143_6 rfl ?_
  refine xr_iadd xi_143_7 (by first | exact nI_add _ _ | exact rfl) ?_
  refine xr_stat xi_143_8 (by decide) rfl rfl (Nat.le_of_ble_eq_true rfl) (Nat.le_of_ble_eq_true rfl) ?_
  refine wm_of ?_
  refine xr_k ?_
  refine xr_ialz xi_143_11 rfl (by first | exact tI_n (by first | omega | (simp only [ri]; omega)) | exact tI_dn (by omega) (by omega) | assumption) (by first | omega | (simp only [ri]; omega)) (by first | exact mj_lo (by first | omega | (simp only [ri]; omega)) | exact mF_at _ _ | exact rfl) ?_
  refine xr_iconst (z := nI 1) xi_143_12 rfl ?_
  refine xr_isub xi_143_13 (nI_d _) ?_
  refine xr_istore_n xi_143_14 (Nat.le_of_ble_eq_true rfl) rfl ?_
  refine xr_aload_n xi_143_15 rfl ?_
  refine xr_iload_n xi_143_16 rfl ?_
  refine xr_virt xi_143_17 rfl rfl rfl rfl (Nat.le_of_ble_eq_true rfl) (Nat.le_of_ble_eq_true rfl) ?_
  refine wm_isThingN hI (by omega) (fun hl => ?_) (fun hl => ?_)
  · refine xr_k ?_
    refine xr_if_eq xi_143_20 (by first | exact tI_n (by omega) | exact tI_d (by omega) | assumption | exact tI_e1 | exact tI_e2 | exact tI_e3 | exact tI_e4) (fun c_ => by exfalso; omega) (fun c_ => ?_)
    refine xr_iload_n xi_143_23 rfl ?_
    refine xr_if_lt xi_143_24 (by first | exact tI_n (by omega) | exact tI_d (by omega) | assumption | exact tI_e1 | exact tI_e2 | exact tI_e3 | exact tI_e4) (fun c_24 => ?_) (fun c_24 => ?_)
    · refine xr_iconst (z := nI 0) xi_143_44 rfl ?_
      refine xr_iret xi_143_45 (fun _ => (by first | exact Or.inl rfl | exact Or.inr rfl | assumption)) ?_
      exact h2 (fun q => by have := q.2.1; omega)
    · have h0 : 0 < G (ri t (2 + s)) := by omega
      have hl2 := (hg.2 h0).2
      have ha1 := hI.ag ht3
      have ha2 := hI.ag (hI.lt hl2)
      rw [dI_pos h0]
      refine xr_aload_n xi_143_27 rfl ?_
      refine xr_iload_n xi_143_28 rfl ?_
      refine xr_virt xi_143_29 rfl rfl rfl rfl (Nat.le_of_ble_eq_true rfl) (Nat.le_of_ble_eq_true rfl) ?_
      refine wm_ageOf hI hl2 ?_
      refine xr_k ?_
      refine xr_aload_n xi_143_32 rfl ?_
      refine xr_iload_n xi_143_33 rfl ?_
      refine xr_virt xi_143_34 rfl rfl rfl rfl (Nat.le_of_ble_eq_true rfl) (Nat.le_of_ble_eq_true rfl) ?_
      refine wm_ageOf hI hl ?_
      refine xr_k ?_
      refine xr_ic_ge xi_143_37 (by first | exact tI_n (by omega) | exact tI_d (by omega) | assumption | exact tI_e1 | exact tI_e2 | exact tI_e3 | exact tI_e4) (by first | exact tI_n (by omega) | exact tI_d (by omega) | assumption | exact tI_e1 | exact tI_e2 | exact tI_e3 | exact tI_e4) (fun c_37 => ?_) (fun c_37 => ?_)
      · refine xr_iconst (z := nI 0) xi_143_44 rfl ?_
        refine xr_iret xi_143_45 (fun _ => (by first | exact Or.inl rfl | exact Or.inr rfl | assumption)) ?_
        exact h2 (fun q => by have := q.2.2; omega)
      · refine xr_iconst (z := nI 1) xi_143_40 rfl ?_
        refine xr_goto xi_143_41 ?_
        refine xr_iret xi_143_45 (fun _ => (by first | exact Or.inl rfl | exact Or.inr rfl | assumption)) ?_
        exact h1 ⟨hl, h0, by omega⟩
  · refine xr_k ?_
    refine xr_if_eq xi_143_20 (by first | exact tI_n (by omega) | exact tI_d (by omega) | assumption | exact tI_e1 | exact tI_e2 | exact tI_e3 | exact tI_e4) (fun c_ => ?_) (fun c_ => by exfalso; omega)
    refine xr_iconst (z := nI 0) xi_143_44 rfl ?_
    refine xr_iret xi_143_45 (fun _ => (by first | exact Or.inl rfl | exact Or.inr rfl | assumption)) ?_
    exact h2 (fun q => hl q.1)
theorem wm_notes {x : Int32} (hI : sInv G) (h1 : ∀ i, i < 2147483648 → x = nI i → Q (some (.int (qNote G i))) (mJ st tx ln ag po le nu fa re od be Z G)) (h2 : x.toInt < 0 → Q (some (.int (nI (cnt (sNf G) 90)))) (mJ st tx ln ag po le nu fa re od be Z G)) : xc L xs 144 [.ref 0, .int x] (mJ st tx ln ag po le nu fa re od be Z G) Q := by
  have hc := hI.c
  have e90 : cnt (sNf G) 90 = cnt (sNf G) (3 * G 0) := by
    have := cnt_ext (P := sNf G) (n := 3 * G 0) (fun j hj => sNf_lo hj) (90 - 3 * G 0)
    rwa [show 3 * G 0 + (90 - 3 * G 0) = 90 by omega] at this
  have key : ∀ d i, i + d = 3 * G 0 → (0 ≤ x.toInt → (cnt (sNf G) i : Int) ≤ x.toInt) → xw L xs 144 4 [.ref 0, .int x, .int (nI (cnt (sNf G) i)), .int (nI i)] [] (mJ st tx ln ag po le nu fa re od be Z G) Q := by
    intro d
    induction d with
    | zero =>
      intro i hi hle
      have hcl := cnt_le (sNf G) i
      have e : i = 3 * G 0 := by omega
      subst e
      refine xr_iload_n xi_144_4 rfl ?_
      refine xr_iconst (z := nI 3) xi_144_5 rfl ?_
      refine xr_aload_n xi_144_6 rfl ?_
      refine xr_getf xi_144_7 rfl rfl ?_
      refine xr_iconst (z := nI 0) xi_144_10 rfl ?_
      refine xr_ialz xi_144_11 rfl (by first | exact tI_n (by first | omega | (simp only [ri]; omega)) | exact tI_dn (by omega) (by omega) | assumption) (by first | omega | (simp only [ri]; omega)) (by first | exact mj_lo (by first | omega | (simp only [ri]; omega)) | exact mF_at _ _ | exact rfl) ?_
      refine xr_imul xi_144_12 (by first | exact pk_mul _ _ | exact rfl) ?_
      refine xr_ic_ge xi_144_13 (by first | exact tI_n (by omega) | exact tI_d (by omega) | assumption | exact tI_e1 | exact tI_e2 | exact tI_e3 | exact tI_e4) (by first | exact tI_n (by omega) | exact tI_d (by omega) | assumption | exact tI_e1 | exact tI_e2 | exact tI_e3 | exact tI_e4) (fun c_ => ?_) (fun c_ => by exfalso; omega)
      refine xr_iload_n xi_144_54 rfl ?_
      refine xr_if_ge xi_144_55 rfl (fun c => ?_) (fun c => ?_)
      · refine xr_ldc (z := xE4) xi_144_62 rfl ?_
        refine xr_iret xi_144_64 (fun h => absurd h (by decide)) ?_
        obtain ⟨j, hj, hx⟩ := x_pos c
        have hq := h1 j (by omega) hx
        rw [qNote_none (by rw [e90]; have := hle c; rw [hx, tI_n (by omega)] at this; omega)] at hq
        exact hq
      · refine xr_iload_n xi_144_58 rfl ?_
        refine xr_goto xi_144_59 ?_
        refine xr_iret xi_144_64 (fun h => absurd h (by decide)) ?_
        rw [← e90]
        exact h2 c
    | succ d ih =>
      intro i hi hle
      have hcl := cnt_le (sNf G) i
      refine xr_iload_n xi_144_4 rfl ?_
      refine xr_iconst (z := nI 3) xi_144_5 rfl ?_
      refine xr_aload_n xi_144_6 rfl ?_
      refine xr_getf xi_144_7 rfl rfl ?_
      refine xr_iconst (z := nI 0) xi_144_10 rfl ?_
      refine xr_ialz xi_144_11 rfl (by first | exact tI_n (by first | omega | (simp only [ri]; omega)) | exact tI_dn (by omega) (by omega) | assumption) (by first | omega | (simp only [ri]; omega)) (by first | exact mj_lo (by first | omega | (simp only [ri]; omega)) | exact mF_at _ _ | exact rfl) ?_
      refine xr_imul xi_144_12 (by first | exact pk_mul _ _ | exact rfl) ?_
      refine xr_ic_ge xi_144_13 (by first | exact tI_n (by omega) | exact tI_d (by omega) | assumption | exact tI_e1 | exact tI_e2 | exact tI_e3 | exact tI_e4) (by first | exact tI_n (by omega) | exact tI_d (by omega) | assumption | exact tI_e1 | exact tI_e2 | exact tI_e3 | exact tI_e4) (fun c_ => by exfalso; omega) (fun c_ => ?_)
      refine xr_aload_n xi_144_16 rfl ?_
      refine xr_iload_n xi_144_17 rfl ?_
      refine xr_iconst (z := nI 3) xi_144_18 rfl ?_
      refine xr_idiv xi_144_19 (by decide) (by first | exact pk_div (by omega) (by omega) (by omega) | exact rfl) ?_
      refine xr_iload_n xi_144_20 rfl ?_
      refine xr_iconst (z := nI 3) xi_144_21 rfl ?_
      refine xr_irem xi_144_22 (by decide) (by first | exact pk_rem (by omega) (by omega) (by omega) | exact rfl) ?_
      refine xr_virt xi_144_23 rfl rfl rfl rfl (Nat.le_of_ble_eq_true rfl) (Nat.le_of_ble_eq_true rfl) ?_
      refine wm_isNoted hI (by omega) (by omega) (fun hn => ?_) (fun hn => ?_)
      · have es : cnt (sNf G) (i + 1) = cnt (sNf G) i + 1 := cnt_up hn
        refine xr_k ?_
        refine xr_if_eq xi_144_26 (by first | exact tI_n (by omega) | exact tI_d (by omega) | assumption | exact tI_e1 | exact tI_e2 | exact tI_e3 | exact tI_e4) (fun c_ => by exfalso; omega) (fun c_ => ?_)
        refine xr_iload_n xi_144_29 rfl ?_
        refine xr_iload_n xi_144_30 rfl ?_
        refine xr_ic_ne xi_144_31 (tI_n (by omega)) rfl (fun c => ?_) (fun c => ?_)
        · refine xr_iinc xi_144_45 rfl (by first | exact nI_1 _ | exact rfl) rfl ?_
          refine xr_iinc xi_144_48 rfl (by first | exact nI_1 _ | exact rfl) rfl ?_
          refine xr_goto xi_144_51 ?_
          rw [← es]
          exact ih (i + 1) (by omega) (fun q => by have := hle q; omega)
        · have hx : x = nI (cnt (sNf G) i) := by apply Int32.toInt_inj.mp; rw [tI_n (by omega)]; exact c.symm
          have hq := h1 _ (by omega) hx
          rw [qNote_some (by omega) hn rfl] at hq
          refine xr_bipush (z := nI 10) xi_144_34 rfl ?_
          refine xr_iload_n xi_144_36 rfl ?_
          refine xr_iconst (z := nI 3) xi_144_37 rfl ?_
          refine xr_idiv xi_144_38 (by decide) (by first | exact pk_div (by omega) (by omega) (by omega) | exact rfl) ?_
          refine xr_imul xi_144_39 (by first | exact pk_mul _ _ | exact rfl) ?_
          refine xr_iload_n xi_144_40 rfl ?_
          refine xr_iconst (z := nI 3) xi_144_41 rfl ?_
          refine xr_irem xi_144_42 (by decide) (by first | exact pk_rem (by omega) (by omega) (by omega) | exact rfl) ?_
          refine xr_iadd xi_144_43 (by first | exact nI_add _ _ | exact rfl) ?_
          refine xr_iret xi_144_44 (fun h => absurd h (by decide)) ?_
          exact hq
      · have es : cnt (sNf G) (i + 1) = cnt (sNf G) i := cnt_st hn
        refine xr_k ?_
        refine xr_if_eq xi_144_26 (by first | exact tI_n (by omega) | exact tI_d (by omega) | assumption | exact tI_e1 | exact tI_e2 | exact tI_e3 | exact tI_e4) (fun c_ => ?_) (fun c_ => by exfalso; omega)
        refine xr_iinc xi_144_48 rfl (by first | exact nI_1 _ | exact rfl) rfl ?_
        refine xr_goto xi_144_51 ?_
        rw [← es]
        exact ih (i + 1) (by omega) (fun q => by have := hle q; omega)
  refine xr_iconst (z := nI 0) xi_144_0 rfl ?_
  refine xr_istore_n xi_144_1 (Nat.le_of_ble_eq_true rfl) rfl ?_
  refine xr_iconst (z := nI 0) xi_144_2 rfl ?_
  refine xr_istore_n xi_144_3 (Nat.le_of_ble_eq_true rfl) rfl ?_
  exact key (3 * G 0) 0 (by omega) (fun q => q)
theorem wm_noteAt {x : Int32} (hI : sInv G) (h1 : ∀ i, i < 2147483648 → x = nI i → Q (some (.int (qNote G i))) (mJ st tx ln ag po le nu fa re od be Z G)) (h2 : x.toInt < 0 → Q (some (.int xE1)) (mJ st tx ln ag po le nu fa re od be Z G)) : xc L xs 145 [.ref 0, .int x] (mJ st tx ln ag po le nu fa re od be Z G) Q := by
  refine xr_iload_n xi_145_0 rfl ?_
  refine xr_if_ge xi_145_1 rfl (fun c => ?_) (fun c => ?_)
  · refine xr_aload_n xi_145_9 rfl ?_
    refine xr_iload_n xi_145_10 rfl ?_
    refine xr_virt xi_145_11 rfl rfl rfl rfl (Nat.le_of_ble_eq_true rfl) (Nat.le_of_ble_eq_true rfl) ?_
    refine wm_notes hI (fun i hi e => ?_) (fun q => by omega)
    refine xr_k ?_
    refine xr_iret xi_145_14 (fun h => absurd h (by decide)) ?_
    exact h1 i hi e
  · refine xr_ldc (z := xE1) xi_145_4 rfl ?_
    refine xr_goto xi_145_6 ?_
    refine xr_iret xi_145_14 (fun h => absurd h (by decide)) ?_
    exact h2 c
theorem wm_needed {x : Int32} (hI : sInv G) (h1 : x = nI 0 → Q (some (.int (mk (sNeed G)))) (mJ st tx ln ag po le nu fa re od be Z G)) (h2 : x = nI 1 → Q (some (.int (mk (sForg G)))) (mJ st tx ln ag po le nu fa re od be Z G)) (h3 : x ≠ nI 0 → x ≠ nI 1 → Q (some (.int xE1)) (mJ st tx ln ag po le nu fa re od be Z G)) : xc L xs 146 [.ref 0, .int x] (mJ st tx ln ag po le nu fa re od be Z G) Q := by
  refine xr_iload_n xi_146_0 rfl ?_
  refine xr_if_ne xi_146_1 rfl (fun c => ?_) (fun c => ?_)
  · refine xr_iload_n xi_146_11 rfl ?_
    refine xr_iconst (z := nI 1) xi_146_12 rfl ?_
    refine xr_ic_ne xi_146_13 rfl (tI_n (by omega)) (fun c2 => ?_) (fun c2 => ?_)
    · refine xr_ldc (z := xE1) xi_146_30 rfl ?_
      refine xr_iret xi_146_32 (fun h => absurd h (by decide)) ?_
      exact h3 (fun e => c (by rw [e]; rfl)) (fun e => c2 (by rw [e]; rfl))
    · refine xr_aload_n xi_146_16 rfl ?_
      refine xr_virt xi_146_17 rfl rfl rfl rfl (Nat.le_of_ble_eq_true rfl) (Nat.le_of_ble_eq_true rfl) ?_
      refine wm_all hI ?_
      refine xr_k ?_
      refine xr_aload_n xi_146_20 rfl ?_
      refine xr_virt xi_146_21 rfl rfl rfl rfl (Nat.le_of_ble_eq_true rfl) (Nat.le_of_ble_eq_true rfl) ?_
      refine wm_neededOf hI ?_
      refine xr_k ?_
      refine xr_iconst (z := dI 0) xi_146_24 xm_m1 ?_
      refine xr_ixor xi_146_25 rfl ?_
      refine xr_iand xi_146_26 (mk_andn _ _) ?_
      refine xr_goto xi_146_27 ?_
      refine xr_iret xi_146_32 (fun h => absurd h (by decide)) ?_
      exact h2 (Int32.toInt_inj.mp c2)
  · refine xr_aload_n xi_146_4 rfl ?_
    refine xr_virt xi_146_5 rfl rfl rfl rfl (Nat.le_of_ble_eq_true rfl) (Nat.le_of_ble_eq_true rfl) ?_
    refine wm_neededOf hI ?_
    refine xr_k ?_
    refine xr_goto xi_146_8 ?_
    refine xr_iret xi_146_32 (fun h => absurd h (by decide)) ?_
    exact h1 (Int32.toInt_inj.mp c)
theorem wm_survivors {x y : Int32} (hI : sInv G) (h1 : ∀ a w ag' Z', a < 2 → w < 4 → x = nI a → y = nI w → (∀ i, i < 980 → Z' i = Z i) → Q (some (.int (qSurv G a w))) (mJ st tx ln ag' po le nu fa re od be Z' G)) (h2 : (¬ ∃ a w, a < 2 ∧ w < 4 ∧ x = nI a ∧ y = nI w) → Q (some (.int xE1)) (mJ st tx ln ag po le nu fa re od be Z G)) : xc L xs 147 [.ref 0, .int x, .int y] (mJ st tx ln ag po le nu fa re od be Z G) Q := by
  refine xr_iload_n xi_147_0 rfl ?_
  refine xr_stat xi_147_1 (by decide) rfl rfl (Nat.le_of_ble_eq_true rfl) (Nat.le_of_ble_eq_true rfl) ?_
  refine wm_isYoung (fun a ha e => ?_) (fun hn => ?_)
  · subst e
    refine xr_k ?_
    refine xr_if_eq xi_147_4 (by first | exact tI_n (by omega) | exact tI_d (by omega) | assumption | exact tI_e1 | exact tI_e2 | exact tI_e3 | exact tI_e4) (fun c_ => by exfalso; omega) (fun c_ => ?_)
    refine xr_iload_n xi_147_7 rfl ?_
    refine xr_iconst (z := nI 0) xi_147_8 rfl ?_
    refine xr_iconst (z := nI 3) xi_147_9 rfl ?_
    refine xr_stat xi_147_10 (by decide) rfl rfl (Nat.le_of_ble_eq_true rfl) (Nat.le_of_ble_eq_true rfl) ?_
    refine wm_in rfl (tI_n (by omega)) (tI_n (by omega)) (fun h => ?_) (fun h => ?_)
    · obtain ⟨w, hw, rfl⟩ := x_of (n := 4) h.1 (by omega) (by omega)
      have hq := fun ag' Z' => h1 a w ag' Z' ha hw rfl rfl
      refine xr_k ?_
      refine xr_if_ne xi_147_13 (by first | exact tI_n (by omega) | exact tI_d (by omega) | assumption | exact tI_e1 | exact tI_e2 | exact tI_e3 | exact tI_e4) (fun c_ => ?_) (fun c_ => by exfalso; omega)
      refine xr_aload_n xi_147_19 rfl ?_
      refine xr_iload_n xi_147_20 rfl ?_
      refine xr_virt xi_147_21 rfl rfl rfl rfl (Nat.le_of_ble_eq_true rfl) (Nat.le_of_ble_eq_true rfl) ?_
      refine wm_survivorsOf ha hI ?_
      refine xr_k ?_
      refine xr_istore_n xi_147_24 (Nat.le_of_ble_eq_true rfl) rfl ?_
      refine xr_iload_n xi_147_25 rfl ?_
      refine xr_if_ne xi_147_26 (by first | exact tI_n (by omega) | exact tI_d (by omega) | assumption | exact tI_e1 | exact tI_e2 | exact tI_e3 | exact tI_e4) (fun c_26 => ?_) (fun c_26 => ?_)
      · refine xr_iload_n xi_147_33 rfl ?_
        refine xr_iconst (z := nI 1) xi_147_34 rfl ?_
        refine xr_ic_ne xi_147_35 (by first | exact tI_n (by omega) | exact tI_d (by omega) | assumption | exact tI_e1 | exact tI_e2 | exact tI_e3 | exact tI_e4) (by first | exact tI_n (by omega) | exact tI_d (by omega) | assumption | exact tI_e1 | exact tI_e2 | exact tI_e3 | exact tI_e4) (fun c_35 => ?_) (fun c_35 => ?_)
        · refine xr_iload_n xi_147_50 rfl ?_
          refine xr_iconst (z := nI 2) xi_147_51 rfl ?_
          refine xr_ic_ne xi_147_52 (by first | exact tI_n (by omega) | exact tI_d (by omega) | assumption | exact tI_e1 | exact tI_e2 | exact tI_e3 | exact tI_e4) (by first | exact tI_n (by omega) | exact tI_d (by omega) | assumption | exact tI_e1 | exact tI_e2 | exact tI_e3 | exact tI_e4) (fun c_52 => ?_) (fun c_52 => ?_)
          · have e : w = 3 := by omega
            subst e
            refine xr_aload_n xi_147_69 rfl ?_
            refine xr_iload_n xi_147_70 rfl ?_
            refine xr_virt xi_147_71 rfl rfl rfl rfl (Nat.le_of_ble_eq_true rfl) (Nat.le_of_ble_eq_true rfl) ?_
            refine wm_canCome ha hI (fun Z' hz hs => ?_) (fun Z' hz hs => ?_)
            · have e : qSurv G a 3 = nI 1 := if_neg (fun q => hs (cd_t.mp q))
              rw [e] at hq
              refine xr_k ?_
              refine xr_if_eq xi_147_74 (by first | exact tI_n (by omega) | exact tI_d (by omega) | assumption | exact tI_e1 | exact tI_e2 | exact tI_e3 | exact tI_e4) (fun c_ => by exfalso; omega) (fun c_ => ?_)
              refine xr_iconst (z := nI 1) xi_147_77 rfl ?_
              refine xr_goto xi_147_78 ?_
              refine xr_iret xi_147_82 (fun h => absurd h (by decide)) ?_
              exact hq _ Z' hz
            · have e : qSurv G a 3 = nI 0 := if_pos (cd_t.mpr hs)
              rw [e] at hq
              refine xr_k ?_
              refine xr_if_eq xi_147_74 (by first | exact tI_n (by omega) | exact tI_d (by omega) | assumption | exact tI_e1 | exact tI_e2 | exact tI_e3 | exact tI_e4) (fun c_ => ?_) (fun c_ => by exfalso; omega)
              refine xr_iconst (z := nI 0) xi_147_81 rfl ?_
              refine xr_iret xi_147_82 (fun h => absurd h (by decide)) ?_
              exact hq _ Z' hz
          · have e : w = 2 := by omega
            subst e
            refine xr_iload_n xi_147_55 rfl ?_
            refine xr_aload_n xi_147_56 rfl ?_
            refine xr_virt xi_147_57 rfl rfl rfl rfl (Nat.le_of_ble_eq_true rfl) (Nat.le_of_ble_eq_true rfl) ?_
            refine wm_pinned hI ?_
            refine xr_k ?_
            refine xr_iconst (z := dI 0) xi_147_60 xm_m1 ?_
            refine xr_ixor xi_147_61 rfl ?_
            refine xr_iand xi_147_62 (mk_andn _ _) ?_
            refine xr_stat xi_147_63 (by decide) rfl rfl (Nat.le_of_ble_eq_true rfl) (Nat.le_of_ble_eq_true rfl) ?_
            refine wm_bits ?_
            refine xr_k ?_
            refine xr_goto xi_147_66 ?_
            refine xr_iret xi_147_82 (fun h => absurd h (by decide)) ?_
            exact hq _ Z (fun _ _ => rfl)
        · have e : w = 1 := by omega
          subst e
          refine xr_aload_n xi_147_38 rfl ?_
          refine xr_iload_n xi_147_39 rfl ?_
          refine xr_virt xi_147_40 rfl rfl rfl rfl (Nat.le_of_ble_eq_true rfl) (Nat.le_of_ble_eq_true rfl) ?_
          refine wm_living hI (by omega) ?_
          refine xr_k ?_
          refine xr_iload_n xi_147_43 rfl ?_
          refine xr_iconst (z := dI 0) xi_147_44 xm_m1 ?_
          refine xr_ixor xi_147_45 rfl ?_
          refine xr_iand xi_147_46 (mk_andn _ _) ?_
          refine xr_goto xi_147_47 ?_
          refine xr_iret xi_147_82 (fun h => absurd h (by decide)) ?_
          exact hq _ Z (fun _ _ => rfl)
      · have e : w = 0 := by omega
        subst e
        refine xr_iload_n xi_147_29 rfl ?_
        refine xr_goto xi_147_30 ?_
        refine xr_iret xi_147_82 (fun h => absurd h (by decide)) ?_
        exact hq _ Z (fun _ _ => rfl)
    · refine xr_k ?_
      refine xr_if_ne xi_147_13 (by first | exact tI_n (by omega) | exact tI_d (by omega) | assumption | exact tI_e1 | exact tI_e2 | exact tI_e3 | exact tI_e4) (fun c_ => by exfalso; omega) (fun c_ => ?_)
      refine xr_ldc (z := xE1) xi_147_16 rfl ?_
      refine xr_iret xi_147_18 (fun h => absurd h (by decide)) ?_
      refine h2 (fun ⟨t, w, _, q2, _, q4⟩ => h ?_)
      rw [q4, tI_n (by omega)]
      omega
  · refine xr_k ?_
    refine xr_if_eq xi_147_4 (by first | exact tI_n (by omega) | exact tI_d (by omega) | assumption | exact tI_e1 | exact tI_e2 | exact tI_e3 | exact tI_e4) (fun c_ => ?_) (fun c_ => by exfalso; omega)
    refine xr_ldc (z := xE1) xi_147_16 rfl ?_
    refine xr_iret xi_147_18 (fun h => absurd h (by decide)) ?_
    exact h2 (fun ⟨t, w, q1, _, q3, _⟩ => hn t q1 q3)
theorem wm_keptBy {x : Int32} (hI : sInv G) (h1 : ∀ t, sLive G t → x = nI t → Q (some (.int (mk (sKept G t)))) (mJ st tx ln ag po le nu fa re od be Z G)) (h2 : (∀ t, sLive G t → x ≠ nI t) → Q (some (.int xE1)) (mJ st tx ln ag po le nu fa re od be Z G)) : xc L xs 148 [.ref 0, .int x] (mJ st tx ln ag po le nu fa re od be Z G) Q := by
  refine xr_aload_n xi_148_0 rfl ?_
  refine xr_iload_n xi_148_1 rfl ?_
  refine xr_virt xi_148_2 rfl rfl rfl rfl (Nat.le_of_ble_eq_true rfl) (Nat.le_of_ble_eq_true rfl) ?_
  refine wm_isThing hI (fun t ht e => ?_) (fun hn => ?_)
  · subst e
    have ht3 := hI.lt ht
    refine xr_k ?_
    refine xr_if_ne xi_148_5 (by first | exact tI_n (by omega) | exact tI_d (by omega) | assumption | exact tI_e1 | exact tI_e2 | exact tI_e3 | exact tI_e4) (fun c_ => ?_) (fun c_ => by exfalso; omega)
    refine xr_aload_n xi_148_11 rfl ?_
    refine xr_virt xi_148_12 rfl rfl rfl rfl (Nat.le_of_ble_eq_true rfl) (Nat.le_of_ble_eq_true rfl) ?_
    refine wm_all hI ?_
    refine xr_k ?_
    refine xr_iconst (z := nI 1) xi_148_15 rfl ?_
    refine xr_iload_n xi_148_16 rfl ?_
    refine xr_ishl xi_148_17 (mk_1 ht3) ?_
    refine xr_iconst (z := dI 0) xi_148_18 xm_m1 ?_
    refine xr_ixor xi_148_19 rfl ?_
    refine xr_iand xi_148_20 (mk_andn _ _) ?_
    refine xr_istore_n xi_148_21 (Nat.le_of_ble_eq_true rfl) rfl ?_
    refine xr_aload_n xi_148_22 rfl ?_
    refine xr_virt xi_148_23 rfl rfl rfl rfl (Nat.le_of_ble_eq_true rfl) (Nat.le_of_ble_eq_true rfl) ?_
    refine wm_neededOf hI ?_
    refine xr_k ?_
    refine xr_iload_n xi_148_26 rfl ?_
    refine xr_iand xi_148_27 (mk_and _ _) ?_
    refine xr_aload_n xi_148_28 rfl ?_
    refine xr_aload_n xi_148_29 rfl ?_
    refine xr_virt xi_148_30 rfl rfl rfl rfl (Nat.le_of_ble_eq_true rfl) (Nat.le_of_ble_eq_true rfl) ?_
    refine wm_roots hI ?_
    refine xr_k ?_
    refine xr_iload_n xi_148_33 rfl ?_
    refine xr_virt xi_148_34 rfl rfl rfl rfl (Nat.le_of_ble_eq_true rfl) (Nat.le_of_ble_eq_true rfl) ?_
    refine wm_reached hI ?_
    refine xr_k ?_
    refine xr_iconst (z := dI 0) xi_148_37 xm_m1 ?_
    refine xr_ixor xi_148_38 rfl ?_
    refine xr_iand xi_148_39 (mk_andn _ _) ?_
    refine xr_iret xi_148_40 (fun h => absurd h (by decide)) ?_
    exact h1 t ht rfl
  · refine xr_k ?_
    refine xr_if_ne xi_148_5 (by first | exact tI_n (by omega) | exact tI_d (by omega) | assumption | exact tI_e1 | exact tI_e2 | exact tI_e3 | exact tI_e4) (fun c_ => by exfalso; omega) (fun c_ => ?_)
    refine xr_ldc (z := xE1) xi_148_8 rfl ?_
    refine xr_iret xi_148_10 (fun h => absurd h (by decide)) ?_
    exact h2 hn
theorem wm_far {x : Int32} (hI : sInv G) (h1 : ∀ t, sLive G t → x = nI t → Q (some (.int (qFar G t))) (mJ st tx ln ag po le nu fa re od be Z G)) (h2 : (∀ t, sLive G t → x ≠ nI t) → Q (some (.int xE1)) (mJ st tx ln ag po le nu fa re od be Z G)) : xc L xs 149 [.ref 0, .int x] (mJ st tx ln ag po le nu fa re od be Z G) Q := by
  have hc := hI.c
  refine xr_aload_n xi_149_0 rfl ?_
  refine xr_iload_n xi_149_1 rfl ?_
  refine xr_virt xi_149_2 rfl rfl rfl rfl (Nat.le_of_ble_eq_true rfl) (Nat.le_of_ble_eq_true rfl) ?_
  refine wm_isThing hI (fun t ht e => ?_) (fun hn => ?_)
  · subst e
    have ht3 := hI.lt ht
    have hq := h1 t ht rfl
    have key : ∀ d n, n + d = 30 → (∀ m, m < n → ¬ fS G m t) → (∀ m, m < n → ∃ t, t < 30 ∧ sTied G (fS G m) t ∧ ¬ fS G m t) → xw L xs 149 18 [.ref 0, .int (nI t), .int (mk (fS G n)), .int (nI n)] [] (mJ st tx ln ag po le nu fa re od be Z G) Q := by
      intro d
      induction d with
      | zero =>
        intro n hn hm hg
        have := fS_cnt hc n hg (by omega)
        have := cnt_le (fS G n) 30
        omega
      | succ d ih =>
        intro n hn hm hg
        refine xr_iload_n xi_149_18 rfl ?_
        refine xr_iload_n xi_149_19 rfl ?_
        refine xr_stat xi_149_20 (by decide) rfl rfl (Nat.le_of_ble_eq_true rfl) (Nat.le_of_ble_eq_true rfl) ?_
        refine wm_has ht3 (fun h => ?_) (fun h => ?_)
        · rw [qFar_some (by omega) h hm] at hq
          refine xr_k ?_
          refine xr_if_ne xi_149_23 (by first | exact tI_n (by omega) | exact tI_d (by omega) | assumption | exact tI_e1 | exact tI_e2 | exact tI_e3 | exact tI_e4) (fun c_ => ?_) (fun c_ => by exfalso; omega)
          refine xr_iload_n xi_149_52 rfl ?_
          refine xr_iload_n xi_149_53 rfl ?_
          refine xr_stat xi_149_54 (by decide) rfl rfl (Nat.le_of_ble_eq_true rfl) (Nat.le_of_ble_eq_true rfl) ?_
          refine wm_has ht3 (fun _ => ?_) (fun q => absurd h q)
          refine xr_k ?_
          refine xr_if_eq xi_149_57 (by first | exact tI_n (by omega) | exact tI_d (by omega) | assumption | exact tI_e1 | exact tI_e2 | exact tI_e3 | exact tI_e4) (fun c_ => by exfalso; omega) (fun c_ => ?_)
          refine xr_iload_n xi_149_60 rfl ?_
          refine xr_goto xi_149_61 ?_
          refine xr_iret xi_149_66 (fun h => absurd h (by decide)) ?_
          exact hq
        · refine xr_k ?_
          refine xr_if_ne xi_149_23 (by first | exact tI_n (by omega) | exact tI_d (by omega) | assumption | exact tI_e1 | exact tI_e2 | exact tI_e3 | exact tI_e4) (fun c_ => by exfalso; omega) (fun c_ => ?_)
          refine xr_aload_n xi_149_26 rfl ?_
          refine xr_iload_n xi_149_27 rfl ?_
          refine xr_virt xi_149_28 rfl rfl rfl rfl (Nat.le_of_ble_eq_true rfl) (Nat.le_of_ble_eq_true rfl) ?_
          refine wm_tiedTo hI ?_
          refine xr_k ?_
          refine xr_iload_n xi_149_31 rfl ?_
          refine xr_iconst (z := dI 0) xi_149_32 xm_m1 ?_
          refine xr_ixor xi_149_33 rfl ?_
          refine xr_iand xi_149_34 (mk_andn _ _) ?_
          refine xr_if_eqz xi_149_35 (fun c => ?_) (fun c => ?_)
          · have hcl : ∀ u, u < 30 → sTied G (fS G n) u → fS G n u := fun u hu q => Classical.byContradiction fun z => mk_eq0.mp c u hu ⟨q, z⟩
            rw [qFar_none (fun m hm2 q => ?_)] at hq
            · refine xr_iload_n xi_149_52 rfl ?_
              refine xr_iload_n xi_149_53 rfl ?_
              refine xr_stat xi_149_54 (by decide) rfl rfl (Nat.le_of_ble_eq_true rfl) (Nat.le_of_ble_eq_true rfl) ?_
              refine wm_has ht3 (fun q => absurd q h) (fun _ => ?_)
              refine xr_k ?_
              refine xr_if_eq xi_149_57 (by first | exact tI_n (by omega) | exact tI_d (by omega) | assumption | exact tI_e1 | exact tI_e2 | exact tI_e3 | exact tI_e4) (fun c_ => ?_) (fun c_ => by exfalso; omega)
              refine xr_ldc (z := xE4) xi_149_64 rfl ?_
              refine xr_iret xi_149_66 (fun h => absurd h (by decide)) ?_
              exact hq
            · by_cases hmn : m < n
              · exact hm m hmn q
              · have := fS_end hc hcl (m - n) t ht3 (by rwa [show n + (m - n) = m by omega])
                exact h this
          · refine xr_iload_n xi_149_38 rfl ?_
            refine xr_aload_n xi_149_39 rfl ?_
            refine xr_iload_n xi_149_40 rfl ?_
            refine xr_virt xi_149_41 rfl rfl rfl rfl (Nat.le_of_ble_eq_true rfl) (Nat.le_of_ble_eq_true rfl) ?_
            refine wm_tiedTo hI ?_
            refine xr_k ?_
            refine xr_ior xi_149_44 (mk_or _ _) ?_
            refine xr_istore_n xi_149_45 (Nat.le_of_ble_eq_true rfl) rfl ?_
            refine xr_iinc xi_149_46 rfl (by first | exact nI_1 _ | exact rfl) rfl ?_
            refine xr_goto xi_149_49 ?_
            refine ih (n + 1) (by omega) (fun m hm2 => ?_) (fun m hm2 => ?_)
            · by_cases e : m = n
              · rw [e]; exact h
              · exact hm m (by omega)
            · by_cases e : m = n
              · rw [e]
                apply Classical.byContradiction
                intro q
                exact c (mk_eq0.mpr (fun u hu ⟨z1, z2⟩ => q ⟨u, hu, z1, z2⟩))
              · exact hg m (by omega)
    refine xr_k ?_
    refine xr_if_ne xi_149_5 (by first | exact tI_n (by omega) | exact tI_d (by omega) | assumption | exact tI_e1 | exact tI_e2 | exact tI_e3 | exact tI_e4) (fun c_ => ?_) (fun c_ => by exfalso; omega)
    refine xr_aload_n xi_149_11 rfl ?_
    refine xr_virt xi_149_12 rfl rfl rfl rfl (Nat.le_of_ble_eq_true rfl) (Nat.le_of_ble_eq_true rfl) ?_
    refine wm_roots hI ?_
    refine xr_k ?_
    refine xr_istore_n xi_149_15 (Nat.le_of_ble_eq_true rfl) rfl ?_
    refine xr_iconst (z := nI 0) xi_149_16 rfl ?_
    refine xr_istore_n xi_149_17 (Nat.le_of_ble_eq_true rfl) rfl ?_
    exact key 30 0 (by omega) (fun m hm => by omega) (fun m hm => by omega)
  · refine xr_k ?_
    refine xr_if_ne xi_149_5 (by first | exact tI_n (by omega) | exact tI_d (by omega) | assumption | exact tI_e1 | exact tI_e2 | exact tI_e3 | exact tI_e4) (fun c_ => by exfalso; omega) (fun c_ => ?_)
    refine xr_ldc (z := xE1) xi_149_8 rfl ?_
    refine xr_iret xi_149_10 (fun h => absurd h (by decide)) ?_
    exact h2 hn
theorem wm_freeOnes (hI : sInv G) (hQ : Q (some (.int (nI (cnt (fun h => G (4 + h) = 0) 8)))) (mJ st tx ln ag po le nu fa re od be Z G)) : xc L xs 150 [.ref 0] (mJ st tx ln ag po le nu fa re od be Z G) Q := by
  have key : ∀ d i, i + d = 8 → xw L xs 150 4 [.ref 0, .int (nI (cnt (fun h => G (4 + h) = 0) i)), .int (nI i)] [] (mJ st tx ln ag po le nu fa re od be Z G) Q := by
    intro d
    induction d with
    | zero =>
      intro i hi
      have e : i = 8 := by omega
      subst e
      refine xr_iload_n xi_150_4 rfl ?_
      refine xr_bipush (z := nI 8) xi_150_5 rfl ?_
      refine xr_ic_ge xi_150_7 (by first | exact tI_n (by omega) | exact tI_d (by omega) | assumption | exact tI_e1 | exact tI_e2 | exact tI_e3 | exact tI_e4) (by first | exact tI_n (by omega) | exact tI_d (by omega) | assumption | exact tI_e1 | exact tI_e2 | exact tI_e3 | exact tI_e4) (fun c_ => ?_) (fun c_ => by exfalso; omega)
      refine xr_iload_n xi_150_35 rfl ?_
      refine xr_iret xi_150_36 (fun h => absurd h (by decide)) ?_
      exact hQ
    | succ d ih =>
      intro i hi
      have ha := hI.a (k := i) (by omega)
      refine xr_iload_n xi_150_4 rfl ?_
      refine xr_bipush (z := nI 8) xi_150_5 rfl ?_
      refine xr_ic_ge xi_150_7 (by first | exact tI_n (by omega) | exact tI_d (by omega) | assumption | exact tI_e1 | exact tI_e2 | exact tI_e3 | exact tI_e4) (by first | exact tI_n (by omega) | exact tI_d (by omega) | assumption | exact tI_e1 | exact tI_e2 | exact tI_e3 | exact tI_e4) (fun c_ => by exfalso; omega) (fun c_ => ?_)
      refine xr_iload_n xi_150_10 rfl ?_
      refine xr_aload_n xi_150_11 rfl ?_
      refine xr_getf xi_150_12 rfl rfl ?_
      refine xr_iconst (z := nI 4) xi_150_15 rfl ?_
      refine xr_iload_n xi_150_16 rfl ?_
      refine xr_iadd xi_150_17 (by first | exact nI_add _ _ | exact rfl) ?_
      refine xr_ialz xi_150_18 rfl (by first | exact tI_n (by first | omega | (simp only [ri]; omega)) | exact tI_dn (by omega) (by omega) | assumption) (by first | omega | (simp only [ri]; omega)) (by first | exact mj_lo (by first | omega | (simp only [ri]; omega)) | exact mF_at _ _ | exact rfl) ?_
      refine xr_if_ne xi_150_19 (by first | exact tI_n (by omega) | exact tI_d (by omega) | assumption | exact tI_e1 | exact tI_e2 | exact tI_e3 | exact tI_e4) (fun c_19 => ?_) (fun c_19 => ?_)
      · refine xr_iconst (z := nI 0) xi_150_26 rfl ?_
        refine xr_iadd xi_150_27 (cnt_s0 (by omega)) ?_
        refine xr_istore_n xi_150_28 (Nat.le_of_ble_eq_true rfl) rfl ?_
        refine xr_iinc xi_150_29 rfl (by first | exact nI_1 _ | exact rfl) rfl ?_
        refine xr_goto xi_150_32 ?_
        exact ih (i + 1) (by omega)
      · refine xr_iconst (z := nI 1) xi_150_22 rfl ?_
        refine xr_goto xi_150_23 ?_
        refine xr_iadd xi_150_27 (cnt_s1 (by omega)) ?_
        refine xr_istore_n xi_150_28 (Nat.le_of_ble_eq_true rfl) rfl ?_
        refine xr_iinc xi_150_29 rfl (by first | exact nI_1 _ | exact rfl) rfl ?_
        refine xr_goto xi_150_32 ?_
        exact ih (i + 1) (by omega)
  refine xr_iconst (z := nI 0) xi_150_0 rfl ?_
  refine xr_istore_n xi_150_1 (Nat.le_of_ble_eq_true rfl) rfl ?_
  refine xr_iconst (z := nI 0) xi_150_2 rfl ?_
  refine xr_istore_n xi_150_3 (Nat.le_of_ble_eq_true rfl) rfl ?_
  exact key 8 0 (by omega)
theorem cnt_aged (hI : sInv G) {a : Nat} : cnt (sYoung G (a + 1)) 30 - cnt (sYoung G a) 30 = cnt (sAged G (a + 2)) 30 ∧ cnt (sYoung G a) 30 ≤ cnt (sYoung G (a + 1)) 30 := by
  have h := cnt_sub (P := sYoung G (a + 1)) (R := sYoung G a) 30 (fun t _ q => ⟨q.1, by have := q.2; omega⟩)
  have e : cnt (fun t => sYoung G (a + 1) t ∧ ¬ sYoung G a t) 30 = cnt (sAged G (a + 2)) 30 := cnt_congr 30 (fun t _ => by
    constructor
    · rintro ⟨⟨q1, q2⟩, q3⟩
      refine ⟨q1, ?_⟩
      have : ¬ sAge G t ≤ a + 1 := fun z => q3 ⟨q1, z⟩
      omega
    · rintro ⟨q1, q2⟩
      exact ⟨⟨q1, by omega⟩, fun z => by have := z.2; omega⟩)
  omega
theorem cnt_aged0 (hI : sInv G) : cnt (sYoung G 0) 30 = cnt (sAged G 1) 30 := cnt_congr 30 (fun t _ => ⟨fun q => ⟨q.1, by have := hI.g q.1; have := q.2; omega⟩, fun q => ⟨q.1, by have := q.2; omega⟩⟩)
theorem wm_count {x : Int32} (hI : sInv G) (hst : st ≤ 4) (hln : ln ≤ 60) (h1 : ∀ w, w < 14 → x = nI w → Q (some (.int (qCount G st ln w))) (mJ st tx ln ag po le nu fa re od be Z G)) (h2 : (∀ w, w < 14 → x ≠ nI w) → Q (some (.int xE1)) (mJ st tx ln ag po le nu fa re od be Z G)) : xc L xs 151 [.ref 0, .int x] (mJ st tx ln ag po le nu fa re od be Z G) Q := by
  by_cases hw : ∃ w, w < 14 ∧ x = nI w
  · obtain ⟨w, hw, rfl⟩ := hw
    have hq := h1 w hw rfl
    have hw14 : w = 0 ∨ w = 1 ∨ w = 2 ∨ w = 3 ∨ w = 4 ∨ w = 5 ∨ w = 6 ∨ w = 7 ∨ w = 8 ∨ w = 9 ∨ w = 10 ∨ w = 11 ∨ w = 12 ∨ w = 13 := by omega
    rcases hw14 with rfl | rfl | rfl | rfl | rfl | rfl | rfl | rfl | rfl | rfl | rfl | rfl | rfl | rfl
    · refine xr_iload_n xi_151_0 rfl ?_
      refine xr_tsw xi_151_1 (by first | exact tI_n (by omega) | exact tI_d (by omega) | assumption | exact tI_e1 | exact tI_e2 | exact tI_e3 | exact tI_e4) (t := 72) (by decide) ?_
      refine xr_aload_n xi_151_72 rfl ?_
      refine xr_getf xi_151_73 rfl rfl ?_
      refine xr_iconst (z := nI 0) xi_151_76 rfl ?_
      refine xr_ialz xi_151_77 rfl (by first | exact tI_n (by first | omega | (simp only [ri]; omega)) | exact tI_dn (by omega) (by omega) | assumption) (by first | omega | (simp only [ri]; omega)) (by first | exact mj_lo (by first | omega | (simp only [ri]; omega)) | exact mF_at _ _ | exact rfl) ?_
      refine xr_iret xi_151_78 (fun h => absurd h (by decide)) ?_
      exact hq
    · refine xr_iload_n xi_151_0 rfl ?_
      refine xr_tsw xi_151_1 (by first | exact tI_n (by omega) | exact tI_d (by omega) | assumption | exact tI_e1 | exact tI_e2 | exact tI_e3 | exact tI_e4) (t := 79) (by decide) ?_
      refine xr_aload_n xi_151_79 rfl ?_
      refine xr_virt xi_151_80 rfl rfl rfl rfl (Nat.le_of_ble_eq_true rfl) (Nat.le_of_ble_eq_true rfl) ?_
      refine wm_all hI ?_
      refine xr_k ?_
      refine xr_stat xi_151_83 (by decide) rfl rfl (Nat.le_of_ble_eq_true rfl) (Nat.le_of_ble_eq_true rfl) ?_
      refine wm_bits ?_
      refine xr_k ?_
      refine xr_iret xi_151_86 (fun h => absurd h (by decide)) ?_
      exact hq
    · refine xr_iload_n xi_151_0 rfl ?_
      refine xr_tsw xi_151_1 (by first | exact tI_n (by omega) | exact tI_d (by omega) | assumption | exact tI_e1 | exact tI_e2 | exact tI_e3 | exact tI_e4) (t := 87) (by decide) ?_
      refine xr_aload_n xi_151_87 rfl ?_
      refine xr_virt xi_151_88 rfl rfl rfl rfl (Nat.le_of_ble_eq_true rfl) (Nat.le_of_ble_eq_true rfl) ?_
      refine wm_pinned hI ?_
      refine xr_k ?_
      refine xr_stat xi_151_91 (by decide) rfl rfl (Nat.le_of_ble_eq_true rfl) (Nat.le_of_ble_eq_true rfl) ?_
      refine wm_bits ?_
      refine xr_k ?_
      refine xr_iret xi_151_94 (fun h => absurd h (by decide)) ?_
      exact hq
    · refine xr_iload_n xi_151_0 rfl ?_
      refine xr_tsw xi_151_1 (by first | exact tI_n (by omega) | exact tI_d (by omega) | assumption | exact tI_e1 | exact tI_e2 | exact tI_e3 | exact tI_e4) (t := 95) (by decide) ?_
      refine xr_aload_n xi_151_95 rfl ?_
      refine xr_iconst (z := nI 0) xi_151_96 rfl ?_
      refine xr_virt xi_151_97 rfl rfl rfl rfl (Nat.le_of_ble_eq_true rfl) (Nat.le_of_ble_eq_true rfl) ?_
      refine wm_living hI (by omega) ?_
      refine xr_k ?_
      refine xr_stat xi_151_100 (by decide) rfl rfl (Nat.le_of_ble_eq_true rfl) (Nat.le_of_ble_eq_true rfl) ?_
      refine wm_bits ?_
      refine xr_k ?_
      refine xr_iret xi_151_103 (fun h => absurd h (by decide)) ?_
      rw [cnt_aged0 hI]
      exact hq
    · have e := cnt_aged (a := 0) hI
      refine xr_iload_n xi_151_0 rfl ?_
      refine xr_tsw xi_151_1 (by first | exact tI_n (by omega) | exact tI_d (by omega) | assumption | exact tI_e1 | exact tI_e2 | exact tI_e3 | exact tI_e4) (t := 104) (by decide) ?_
      refine xr_aload_n xi_151_104 rfl ?_
      refine xr_iload_n xi_151_105 rfl ?_
      refine xr_iconst (z := nI 3) xi_151_106 rfl ?_
      refine xr_isub xi_151_107 (by first | exact pk_sub (by omega) | exact nI_d _ | exact rfl) ?_
      refine xr_virt xi_151_108 rfl rfl rfl rfl (Nat.le_of_ble_eq_true rfl) (Nat.le_of_ble_eq_true rfl) ?_
      refine wm_living hI (by omega) ?_
      refine xr_k ?_
      refine xr_stat xi_151_111 (by decide) rfl rfl (Nat.le_of_ble_eq_true rfl) (Nat.le_of_ble_eq_true rfl) ?_
      refine wm_bits ?_
      refine xr_k ?_
      refine xr_aload_n xi_151_114 rfl ?_
      refine xr_iload_n xi_151_115 rfl ?_
      refine xr_iconst (z := nI 4) xi_151_116 rfl ?_
      refine xr_isub xi_151_117 (by first | exact pk_sub (by omega) | exact nI_d _ | exact rfl) ?_
      refine xr_virt xi_151_118 rfl rfl rfl rfl (Nat.le_of_ble_eq_true rfl) (Nat.le_of_ble_eq_true rfl) ?_
      refine wm_living hI (by omega) ?_
      refine xr_k ?_
      refine xr_stat xi_151_121 (by decide) rfl rfl (Nat.le_of_ble_eq_true rfl) (Nat.le_of_ble_eq_true rfl) ?_
      refine wm_bits ?_
      refine xr_k ?_
      refine xr_isub xi_151_124 ((pk_sub (by exact e.2)).trans (congrArg nI e.1)) ?_
      refine xr_iret xi_151_125 (fun h => absurd h (by decide)) ?_
      exact hq
    · have e := cnt_aged (a := 1) hI
      refine xr_iload_n xi_151_0 rfl ?_
      refine xr_tsw xi_151_1 (by first | exact tI_n (by omega) | exact tI_d (by omega) | assumption | exact tI_e1 | exact tI_e2 | exact tI_e3 | exact tI_e4) (t := 104) (by decide) ?_
      refine xr_aload_n xi_151_104 rfl ?_
      refine xr_iload_n xi_151_105 rfl ?_
      refine xr_iconst (z := nI 3) xi_151_106 rfl ?_
      refine xr_isub xi_151_107 (by first | exact pk_sub (by omega) | exact nI_d _ | exact rfl) ?_
      refine xr_virt xi_151_108 rfl rfl rfl rfl (Nat.le_of_ble_eq_true rfl) (Nat.le_of_ble_eq_true rfl) ?_
      refine wm_living hI (by omega) ?_
      refine xr_k ?_
      refine xr_stat xi_151_111 (by decide) rfl rfl (Nat.le_of_ble_eq_true rfl) (Nat.le_of_ble_eq_true rfl) ?_
      refine wm_bits ?_
      refine xr_k ?_
      refine xr_aload_n xi_151_114 rfl ?_
      refine xr_iload_n xi_151_115 rfl ?_
      refine xr_iconst (z := nI 4) xi_151_116 rfl ?_
      refine xr_isub xi_151_117 (by first | exact pk_sub (by omega) | exact nI_d _ | exact rfl) ?_
      refine xr_virt xi_151_118 rfl rfl rfl rfl (Nat.le_of_ble_eq_true rfl) (Nat.le_of_ble_eq_true rfl) ?_
      refine wm_living hI (by omega) ?_
      refine xr_k ?_
      refine xr_stat xi_151_121 (by decide) rfl rfl (Nat.le_of_ble_eq_true rfl) (Nat.le_of_ble_eq_true rfl) ?_
      refine wm_bits ?_
      refine xr_k ?_
      refine xr_isub xi_151_124 ((pk_sub (by exact e.2)).trans (congrArg nI e.1)) ?_
      refine xr_iret xi_151_125 (fun h => absurd h (by decide)) ?_
      exact hq
    · refine xr_iload_n xi_151_0 rfl ?_
      refine xr_tsw xi_151_1 (by first | exact tI_n (by omega) | exact tI_d (by omega) | assumption | exact tI_e1 | exact tI_e2 | exact tI_e3 | exact tI_e4) (t := 126) (by decide) ?_
      refine xr_aload_n xi_151_126 rfl ?_
      refine xr_virt xi_151_127 rfl rfl rfl rfl (Nat.le_of_ble_eq_true rfl) (Nat.le_of_ble_eq_true rfl) ?_
      refine wm_freeOnes hI ?_
      refine xr_k ?_
      refine xr_iret xi_151_130 (fun h => absurd h (by decide)) ?_
      exact hq
    · refine xr_iload_n xi_151_0 rfl ?_
      refine xr_tsw xi_151_1 (by first | exact tI_n (by omega) | exact tI_d (by omega) | assumption | exact tI_e1 | exact tI_e2 | exact tI_e3 | exact tI_e4) (t := 131) (by decide) ?_
      refine xr_aload_n xi_151_131 rfl ?_
      refine xr_iconst (z := dI 0) xi_151_132 xm_m1 ?_
      refine xr_virt xi_151_133 rfl rfl rfl rfl (Nat.le_of_ble_eq_true rfl) (Nat.le_of_ble_eq_true rfl) ?_
      refine wm_notes hI (fun i hi e => ?_) (fun _ => ?_)
      · exfalso
        have := congrArg Int32.toInt e
        rw [tI_d (by omega), tI_n hi] at this
        omega
      · refine xr_k ?_
        refine xr_iret xi_151_136 (fun h => absurd h (by decide)) ?_
        exact hq
    · refine xr_iload_n xi_151_0 rfl ?_
      refine xr_tsw xi_151_1 (by first | exact tI_n (by omega) | exact tI_d (by omega) | assumption | exact tI_e1 | exact tI_e2 | exact tI_e3 | exact tI_e4) (t := 137) (by decide) ?_
      refine xr_aload_n xi_151_137 rfl ?_
      refine xr_getf xi_151_138 rfl rfl ?_
      refine xr_iconst (z := nI 1) xi_151_141 rfl ?_
      refine xr_iload_n xi_151_142 rfl ?_
      refine xr_iadd xi_151_143 (by first | exact nI_add _ _ | exact rfl) ?_
      refine xr_bipush (z := nI 8) xi_151_144 rfl ?_
      refine xr_isub xi_151_146 (by first | exact pk_sub (by omega) | exact nI_d _ | exact rfl) ?_
      refine xr_ialz xi_151_147 rfl (by first | exact tI_n (by first | omega | (simp only [ri]; omega)) | exact tI_dn (by omega) (by omega) | assumption) (by first | omega | (simp only [ri]; omega)) (by first | exact mj_lo (by first | omega | (simp only [ri]; omega)) | exact mF_at _ _ | exact rfl) ?_
      refine xr_iret xi_151_148 (fun h => absurd h (by decide)) ?_
      exact hq
    · refine xr_iload_n xi_151_0 rfl ?_
      refine xr_tsw xi_151_1 (by first | exact tI_n (by omega) | exact tI_d (by omega) | assumption | exact tI_e1 | exact tI_e2 | exact tI_e3 | exact tI_e4) (t := 137) (by decide) ?_
      refine xr_aload_n xi_151_137 rfl ?_
      refine xr_getf xi_151_138 rfl rfl ?_
      refine xr_iconst (z := nI 1) xi_151_141 rfl ?_
      refine xr_iload_n xi_151_142 rfl ?_
      refine xr_iadd xi_151_143 (by first | exact nI_add _ _ | exact rfl) ?_
      refine xr_bipush (z := nI 8) xi_151_144 rfl ?_
      refine xr_isub xi_151_146 (by first | exact pk_sub (by omega) | exact nI_d _ | exact rfl) ?_
      refine xr_ialz xi_151_147 rfl (by first | exact tI_n (by first | omega | (simp only [ri]; omega)) | exact tI_dn (by omega) (by omega) | assumption) (by first | omega | (simp only [ri]; omega)) (by first | exact mj_lo (by first | omega | (simp only [ri]; omega)) | exact mF_at _ _ | exact rfl) ?_
      refine xr_iret xi_151_148 (fun h => absurd h (by decide)) ?_
      exact hq
    · refine xr_iload_n xi_151_0 rfl ?_
      refine xr_tsw xi_151_1 (by first | exact tI_n (by omega) | exact tI_d (by omega) | assumption | exact tI_e1 | exact tI_e2 | exact tI_e3 | exact tI_e4) (t := 149) (by decide) ?_
      refine xr_aload_n xi_151_149 rfl ?_
      refine xr_getf xi_151_150 rfl rfl ?_
      refine xr_iconst (z := nI 0) xi_151_153 rfl ?_
      refine xr_ialz xi_151_154 rfl (by first | exact tI_n (by first | omega | (simp only [ri]; omega)) | exact tI_dn (by omega) (by omega) | assumption) (by first | omega | (simp only [ri]; omega)) (by first | exact mj_lo (by first | omega | (simp only [ri]; omega)) | exact mF_at _ _ | exact rfl) ?_
      refine xr_aload_n xi_151_155 rfl ?_
      refine xr_virt xi_151_156 rfl rfl rfl rfl (Nat.le_of_ble_eq_true rfl) (Nat.le_of_ble_eq_true rfl) ?_
      refine wm_all hI ?_
      refine xr_k ?_
      refine xr_stat xi_151_159 (by decide) rfl rfl (Nat.le_of_ble_eq_true rfl) (Nat.le_of_ble_eq_true rfl) ?_
      refine wm_bits ?_
      refine xr_k ?_
      refine xr_isub xi_151_162 (rfl) ?_
      refine xr_iret xi_151_163 (fun h => absurd h (by decide)) ?_
      exact hq
    · refine xr_iload_n xi_151_0 rfl ?_
      refine xr_tsw xi_151_1 (by first | exact tI_n (by omega) | exact tI_d (by omega) | assumption | exact tI_e1 | exact tI_e2 | exact tI_e3 | exact tI_e4) (t := 164) (by decide) ?_
      refine xr_aload_n xi_151_164 rfl ?_
      refine xr_getf xi_151_165 rfl rfl ?_
      refine xr_iconst (z := nI 3) xi_151_168 rfl ?_
      refine xr_ialz xi_151_169 rfl (by first | exact tI_n (by first | omega | (simp only [ri]; omega)) | exact tI_dn (by omega) (by omega) | assumption) (by first | omega | (simp only [ri]; omega)) (by first | exact mj_lo (by first | omega | (simp only [ri]; omega)) | exact mF_at _ _ | exact rfl) ?_
      refine xr_iret xi_151_170 (fun h => absurd h (by decide)) ?_
      exact hq
    · refine xr_iload_n xi_151_0 rfl ?_
      refine xr_tsw xi_151_1 (by first | exact tI_n (by omega) | exact tI_d (by omega) | assumption | exact tI_e1 | exact tI_e2 | exact tI_e3 | exact tI_e4) (t := 171) (by decide) ?_
      refine xr_aload_n xi_151_171 rfl ?_
      refine xr_getf xi_151_172 rfl rfl ?_
      refine xr_iret xi_151_175 (fun h => absurd h (by decide)) ?_
      exact hq
    · refine xr_iload_n xi_151_0 rfl ?_
      refine xr_tsw xi_151_1 (by first | exact tI_n (by omega) | exact tI_d (by omega) | assumption | exact tI_e1 | exact tI_e2 | exact tI_e3 | exact tI_e4) (t := 176) (by decide) ?_
      refine xr_aload_n xi_151_176 rfl ?_
      refine xr_getf xi_151_177 rfl rfl ?_
      refine xr_iret xi_151_180 (fun h => absurd h (by decide)) ?_
      exact hq
  · have hbad : x.toInt < 0 ∨ 13 < x.toInt := by
      apply Classical.byContradiction
      intro q
      exact hw (x_of (n := 14) (by omega) (by omega) (by omega))
    refine xr_iload_n xi_151_0 rfl ?_
    refine xr_tsw xi_151_1 rfl (t := 181) (by rw [if_pos hbad]; rfl) ?_
    refine xr_ldc (z := xE1) xi_151_181 rfl ?_
    refine xr_iret xi_151_183 (fun h => absurd h (by decide)) ?_
    exact h2 (fun w q1 q2 => hw ⟨w, q1, q2⟩)
end M7
