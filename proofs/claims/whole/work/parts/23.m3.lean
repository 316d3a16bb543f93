theorem xr_if_eqz {L : Nat} {xs : Nat → Int32} {k pc nx x y : Nat} {v : Int} {ls st : List Value} {hp : xm_H} {Q : Option Value → xm_H → Prop} {z : Int} {a : Int32} (hi : xm_ins k pc = some (.ifCond .eq z, nx, x, y, v)) (kt : a = 0 → xw L xs k x ls st hp Q) (kf : ¬ a = 0 → xw L xs k nx ls st hp Q) : xw L xs k pc ls (.int a :: st) hp Q :=
  xr_ifj hi (fun h => kt (of_decide_eq_true h)) (fun h => kf (fun q => h (decide_eq_true q)))
section M3
variable {L : Nat} {xs : Nat → Int32} {Q : Option Value → xm_H → Prop} {st ln po le fa re od : Nat} {tx ag nu be Z G : Nat → Nat}
theorem wm_pinned (hI : sInv G) (hQ : Q (some (.int (mk (sPin G)))) (mJ st tx ln ag po le nu fa re od be Z G)) : xc L xs 117 [.ref 0] (mJ st tx ln ag po le nu fa re od be Z G) Q := by
  have hc := hI.c
  have key : ∀ d i, i + d = G 0 → xw L xs 117 4 [.ref 0, .int (mk (fun t => t < i ∧ sPin G t)), .int (nI i)] [] (mJ st tx ln ag po le nu fa re od be Z G) Q := by
    intro d
    induction d with
    | zero =>
      intro i hi
      refine xr_iload_n xi_117_4 rfl ?_
      refine xr_aload_n xi_117_5 rfl ?_
      refine xr_getf xi_117_6 rfl rfl ?_
      refine xr_iconst (z := nI 0) xi_117_9 rfl ?_
      refine xr_ialz xi_117_10 rfl (by first | exact tI_n (by first | omega | (simp only [ri]; omega)) | exact tI_dn (by omega) (by omega) | assumption) (by first | omega | (simp only [ri]; omega)) (by first | exact mj_lo (by first | omega | (simp only [ri]; omega)) | exact mF_at _ _ | exact rfl) ?_
      refine xr_ic_ge xi_117_11 (by first | exact tI_n (by omega) | exact tI_d (by omega) | assumption | exact tI_e1 | exact tI_e2 | exact tI_e3 | exact tI_e4) (by first | exact tI_n (by omega) | exact tI_d (by omega) | assumption | exact tI_e1 | exact tI_e2 | exact tI_e3 | exact tI_e4) (fun c_ => ?_) (fun c_ => by exfalso; omega)
      refine xr_iload_n xi_117_52 rfl ?_
      refine xr_iret xi_117_53 (fun h => absurd h (by decide)) ?_
      rw [mk_all (fun t _ h => by have := h.1.1; omega)]
      exact hQ
    | succ d ih =>
      intro i hi
      have hp := (hI.p (t := i) (by omega)).1
      refine xr_iload_n xi_117_4 rfl ?_
      refine xr_aload_n xi_117_5 rfl ?_
      refine xr_getf xi_117_6 rfl rfl ?_
      refine xr_iconst (z := nI 0) xi_117_9 rfl ?_
      refine xr_ialz xi_117_10 rfl (by first | exact tI_n (by first | omega | (simp only [ri]; omega)) | exact tI_dn (by omega) (by omega) | assumption) (by first | omega | (simp only [ri]; omega)) (by first | exact mj_lo (by first | omega | (simp only [ri]; omega)) | exact mF_at _ _ | exact rfl) ?_
      refine xr_ic_ge xi_117_11 (by first | exact tI_n (by omega) | exact tI_d (by omega) | assumption | exact tI_e1 | exact tI_e2 | exact tI_e3 | exact tI_e4) (by first | exact tI_n (by omega) | exact tI_d (by omega) | assumption | exact tI_e1 | exact tI_e2 | exact tI_e3 | exact tI_e4) (fun c_ => by exfalso; omega) (fun c_ => ?_)
      refine xr_iload_n xi_117_14 rfl ?_
      refine xr_aload_n xi_117_15 rfl ?_
      refine xr_iload_n xi_117_16 rfl ?_
      refine xr_virt xi_117_17 rfl rfl rfl rfl (Nat.le_of_ble_eq_true rfl) (Nat.le_of_ble_eq_true rfl) ?_
      refine wm_isThingN hI (by omega) (fun hl => ?_) (fun hl => ?_)
      · refine xr_k ?_
        refine xr_if_eq xi_117_20 (by first | exact tI_n (by omega) | exact tI_d (by omega) | assumption | exact tI_e1 | exact tI_e2 | exact tI_e3 | exact tI_e4) (fun c_ => by exfalso; omega) (fun c_ => ?_)
        refine xr_aload_n xi_117_23 rfl ?_
        refine xr_getf xi_117_24 rfl rfl ?_
        refine xr_iload_n xi_117_27 rfl ?_
        refine xr_iconst (z := nI 1) xi_117_28 rfl ?_
        refine xr_stat xi_117_29 (by decide) rfl rfl (Nat.le_of_ble_eq_true rfl) (Nat.le_of_ble_eq_true rfl) ?_
        refine wm_of ?_
        refine xr_k ?_
        refine xr_ialz xi_117_32 rfl (by first | exact tI_n (by first | omega | (simp only [ri]; omega)) | exact tI_dn (by omega) (by omega) | assumption) (by first | omega | (simp only [ri]; omega)) (by first | exact mj_lo (by first | omega | (simp only [ri]; omega)) | exact mF_at _ _ | exact rfl) ?_
        refine xr_iconst (z := nI 1) xi_117_33 rfl ?_
        refine xr_ic_ne xi_117_34 (by first | exact tI_n (by omega) | exact tI_d (by omega) | assumption | exact tI_e1 | exact tI_e2 | exact tI_e3 | exact tI_e4) (by first | exact tI_n (by omega) | exact tI_d (by omega) | assumption | exact tI_e1 | exact tI_e2 | exact tI_e3 | exact tI_e4) (fun c_34 => ?_) (fun c_34 => ?_)
        · refine xr_iconst (z := nI 0) xi_117_43 rfl ?_
          refine xr_ior xi_117_44 (mk_step0 (fun q => by have := q.2; omega)) ?_
          refine xr_istore_n xi_117_45 (Nat.le_of_ble_eq_true rfl) rfl ?_
          refine xr_iinc xi_117_46 rfl (by first | exact nI_1 _ | exact rfl) rfl ?_
          refine xr_goto xi_117_49 ?_
          exact ih (i + 1) (by omega)
        · refine xr_iconst (z := nI 1) xi_117_37 rfl ?_
          refine xr_iload_n xi_117_38 rfl ?_
          refine xr_ishl xi_117_39 rfl ?_
          refine xr_goto xi_117_40 ?_
          refine xr_ior xi_117_44 (mk_step1 (by omega) ⟨hl, by omega⟩) ?_
          refine xr_istore_n xi_117_45 (Nat.le_of_ble_eq_true rfl) rfl ?_
          refine xr_iinc xi_117_46 rfl (by first | exact nI_1 _ | exact rfl) rfl ?_
          refine xr_goto xi_117_49 ?_
          exact ih (i + 1) (by omega)
      · refine xr_k ?_
        refine xr_if_eq xi_117_20 (by first | exact tI_n (by omega) | exact tI_d (by omega) | assumption | exact tI_e1 | exact tI_e2 | exact tI_e3 | exact tI_e4) (fun c_ => ?_) (fun c_ => by exfalso; omega)
        refine xr_iconst (z := nI 0) xi_117_43 rfl ?_
        refine xr_ior xi_117_44 (mk_step0 (fun q => hl q.1)) ?_
        refine xr_istore_n xi_117_45 (Nat.le_of_ble_eq_true rfl) rfl ?_
        refine xr_iinc xi_117_46 rfl (by first | exact nI_1 _ | exact rfl) rfl ?_
        refine xr_goto xi_117_49 ?_
        exact ih (i + 1) (by omega)
  refine xr_iconst xi_117_0 (show xm_i 0 = mk (fun t => t < 0 ∧ sPin G t) from mk_start _) ?_
  refine xr_istore_n xi_117_1 (Nat.le_of_ble_eq_true rfl) rfl ?_
  refine xr_iconst (z := nI 0) xi_117_2 rfl ?_
  refine xr_istore_n xi_117_3 (Nat.le_of_ble_eq_true rfl) rfl ?_
  exact key (G 0) 0 (by omega)
theorem mk_g1 {P R : Nat → Prop} {g : Nat} (h0 : 0 < g) (h : g ≤ 30) (hR : ∀ t, t < 30 → (R t ↔ P t ∨ g = t + 1)) : mk P ||| (nI 1 <<< (nI (g - 1) &&& 31)) = mk R := by
  rw [mk_or1 _ (by omega)]
  exact mk_congr (fun t ht => by rw [hR t ht]; exact ⟨fun q => q.elim Or.inl (fun z => Or.inr (by omega)), fun q => q.elim Or.inl (fun z => Or.inr (by omega))⟩)
theorem mk_g0 {P R : Nat → Prop} (hR : ∀ t, t < 30 → (R t ↔ P t)) : mk P ||| nI 0 = mk R := by
  rw [mk_or0]
  exact mk_congr (fun t ht => (hR t ht).symm)
theorem wm_held (hI : sInv G) (hQ : Q (some (.int (mk (sHeld G)))) (mJ st tx ln ag po le nu fa re od be Z G)) : xc L xs 122 [.ref 0] (mJ st tx ln ag po le nu fa re od be Z G) Q := by
  have key : ∀ d i, i + d = 4 → xw L xs 122 4 [.ref 0, .int (mk (fun t => ∃ k, k < i ∧ G (12 + k) = t + 1)), .int (nI i)] [] (mJ st tx ln ag po le nu fa re od be Z G) Q := by
    intro d
    induction d with
    | zero =>
      intro i hi
      have e : i = 4 := by omega
      subst e
      refine xr_iload_n xi_122_4 rfl ?_
      refine xr_iconst (z := nI 4) xi_122_5 rfl ?_
      refine xr_ic_ge xi_122_6 (by first | exact tI_n (by omega) | exact tI_d (by omega) | assumption | exact tI_e1 | exact tI_e2 | exact tI_e3 | exact tI_e4) (by first | exact tI_n (by omega) | exact tI_d (by omega) | assumption | exact tI_e1 | exact tI_e2 | exact tI_e3 | exact tI_e4) (fun c_ => ?_) (fun c_ => by exfalso; omega)
      refine xr_iload_n xi_122_47 rfl ?_
      refine xr_iret xi_122_48 (fun h => absurd h (by decide)) ?_
      exact hQ
    | succ d ih =>
      intro i hi
      have hh := (hI.h (k := i) (by omega)).1
      refine xr_iload_n xi_122_4 rfl ?_
      refine xr_iconst (z := nI 4) xi_122_5 rfl ?_
      refine xr_ic_ge xi_122_6 (by first | exact tI_n (by omega) | exact tI_d (by omega) | assumption | exact tI_e1 | exact tI_e2 | exact tI_e3 | exact tI_e4) (by first | exact tI_n (by omega) | exact tI_d (by omega) | assumption | exact tI_e1 | exact tI_e2 | exact tI_e3 | exact tI_e4) (fun c_ => by exfalso; omega) (fun c_ => ?_)
      refine xr_iload_n xi_122_9 rfl ?_
      refine xr_aload_n xi_122_10 rfl ?_
      refine xr_getf xi_122_11 rfl rfl ?_
      refine xr_bipush (z := nI 12) xi_122_14 rfl ?_
      refine xr_iload_n xi_122_16 rfl ?_
      refine xr_iadd xi_122_17 (by first | exact nI_add _ _ | exact rfl) ?_
      refine xr_ialz xi_122_18 rfl (by first | exact tI_n (by first | omega | (simp only [ri]; omega)) | exact tI_dn (by omega) (by omega) | assumption) (by first | omega | (simp only [ri]; omega)) (by first | exact mj_lo (by first | omega | (simp only [ri]; omega)) | exact mF_at _ _ | exact rfl) ?_
      refine xr_if_le xi_122_19 (by first | exact tI_n (by omega) | exact tI_d (by omega) | assumption | exact tI_e1 | exact tI_e2 | exact tI_e3 | exact tI_e4) (fun c_19 => ?_) (fun c_19 => ?_)
      · refine xr_iconst (z := nI 0) xi_122_38 rfl ?_
        refine xr_ior xi_122_39 (mk_g0 (R := fun t => ∃ k, k < i + 1 ∧ G (12 + k) = t + 1) (fun t _ => ⟨fun ⟨k, h1, h2⟩ => ⟨k, by (by_cases e : k = i); (subst e; omega); omega, h2⟩, fun ⟨k, h1, h2⟩ => ⟨k, by omega, h2⟩⟩)) ?_
        refine xr_istore_n xi_122_40 (Nat.le_of_ble_eq_true rfl) rfl ?_
        refine xr_iinc xi_122_41 rfl (by first | exact nI_1 _ | exact rfl) rfl ?_
        refine xr_goto xi_122_44 ?_
        exact ih (i + 1) (by omega)
      · refine xr_iconst (z := nI 1) xi_122_22 rfl ?_
        refine xr_aload_n xi_122_23 rfl ?_
        refine xr_getf xi_122_24 rfl rfl ?_
        refine xr_bipush (z := nI 12) xi_122_27 rfl ?_
        refine xr_iload_n xi_122_29 rfl ?_
        refine xr_iadd xi_122_30 (by first | exact nI_add _ _ | exact rfl) ?_
        refine xr_ialz xi_122_31 rfl (by first | exact tI_n (by first | omega | (simp only [ri]; omega)) | exact tI_dn (by omega) (by omega) | assumption) (by first | omega | (simp only [ri]; omega)) (by first | exact mj_lo (by first | omega | (simp only [ri]; omega)) | exact mF_at _ _ | exact rfl) ?_
        refine xr_iconst (z := nI 1) xi_122_32 rfl ?_
        refine xr_isub xi_122_33 (by first | exact pk_sub (by omega) | exact nI_d _ | exact rfl) ?_
        refine xr_ishl xi_122_34 rfl ?_
        refine xr_goto xi_122_35 ?_
        refine xr_ior xi_122_39 (mk_g1 (R := fun t => ∃ k, k < i + 1 ∧ G (12 + k) = t + 1) (by omega) hh (fun t _ => ⟨fun ⟨k, h1, h2⟩ => by by_cases e : k = i; exact Or.inr (by rw [e] at h2; exact h2); exact Or.inl ⟨k, by omega, h2⟩, fun h => h.elim (fun ⟨k, h1, h2⟩ => ⟨k, by omega, h2⟩) (fun h => ⟨i, by omega, h⟩)⟩)) ?_
        refine xr_istore_n xi_122_40 (Nat.le_of_ble_eq_true rfl) rfl ?_
        refine xr_iinc xi_122_41 rfl (by first | exact nI_1 _ | exact rfl) rfl ?_
        refine xr_goto xi_122_44 ?_
        exact ih (i + 1) (by omega)
  refine xr_iconst xi_122_0 (show xm_i 0 = mk (fun t => ∃ k, k < 0 ∧ G (12 + k) = t + 1) from mk_0.trans (mk_congr (fun t _ => ⟨fun h => h.elim, fun ⟨k, h, _⟩ => by omega⟩))) ?_
  refine xr_istore_n xi_122_1 (Nat.le_of_ble_eq_true rfl) rfl ?_
  refine xr_iconst (z := nI 0) xi_122_2 rfl ?_
  refine xr_istore_n xi_122_3 (Nat.le_of_ble_eq_true rfl) rfl ?_
  exact key 4 0 (by omega)
theorem wm_tiedTo {P : Nat → Prop} (hI : sInv G) (hQ : Q (some (.int (mk (sTied G P)))) (mJ st tx ln ag po le nu fa re od be Z G)) : xc L xs 123 [.ref 0, .int (mk P)] (mJ st tx ln ag po le nu fa re od be Z G) Q := by
  have hc := hI.c
  have key : ∀ d i x4, i + d = G 0 → xw L xs 123 4 [.ref 0, .int (mk P), .int (mk (fun j => ∃ t k, t < i ∧ k < 3 ∧ P t ∧ G (ri t (2 + k)) = j + 1)), .int (nI i), x4] [] (mJ st tx ln ag po le nu fa re od be Z G) Q := by
    intro d
    induction d with
    | zero =>
      intro i x4 hi
      have e : i = G 0 := by omega
      subst e
      refine xr_iload_n xi_123_4 rfl ?_
      refine xr_aload_n xi_123_5 rfl ?_
      refine xr_getf xi_123_6 rfl rfl ?_
      refine xr_iconst (z := nI 0) xi_123_9 rfl ?_
      refine xr_ialz xi_123_10 rfl (by first | exact tI_n (by first | omega | (simp only [ri]; omega)) | exact tI_dn (by omega) (by omega) | assumption) (by first | omega | (simp only [ri]; omega)) (by first | exact mj_lo (by first | omega | (simp only [ri]; omega)) | exact mF_at _ _ | exact rfl) ?_
      refine xr_ic_ge xi_123_11 (by first | exact tI_n (by omega) | exact tI_d (by omega) | assumption | exact tI_e1 | exact tI_e2 | exact tI_e3 | exact tI_e4) (by first | exact tI_n (by omega) | exact tI_d (by omega) | assumption | exact tI_e1 | exact tI_e2 | exact tI_e3 | exact tI_e4) (fun c_ => ?_) (fun c_ => by exfalso; omega)
      refine xr_iload_n xi_123_83 rfl ?_
      refine xr_iret xi_123_84 (fun h => absurd h (by decide)) ?_
      exact hQ
    | succ d ih =>
      intro i x4 hi
      have next : ∀ (R : Nat → Prop) (x4 : Value), (∀ j, j < 30 → (R j ↔ ∃ t k, t < i + 1 ∧ k < 3 ∧ P t ∧ G (ri t (2 + k)) = j + 1)) → xw L xs 123 77 [.ref 0, .int (mk P), .int (mk R), .int (nI i), x4] [] (mJ st tx ln ag po le nu fa re od be Z G) Q := by
        intro R x4 hR
        rw [mk_congr hR]
        refine xr_iinc xi_123_77 rfl (by first | exact nI_1 _ | exact rfl) rfl ?_
        refine xr_goto xi_123_80 ?_
        exact ih (i + 1) _ (by omega)
      by_cases hp : P i
      · have key2 : ∀ d2 m, m + d2 = 3 → xw L xs 123 17 [.ref 0, .int (mk P), .int (mk (fun j => (∃ t k, t < i ∧ k < 3 ∧ P t ∧ G (ri t (2 + k)) = j + 1) ∨ ∃ k, k < m ∧ G (ri i (2 + k)) = j + 1)), .int (nI i), .int (nI m)] [] (mJ st tx ln ag po le nu fa re od be Z G) Q := by
          intro d2
          induction d2 with
          | zero =>
            intro m hm
            have e : m = 3 := by omega
            subst e
            refine xr_iload xi_123_17 rfl ?_
            refine xr_iconst (z := nI 3) xi_123_19 rfl ?_
            refine xr_ic_ge xi_123_20 (by first | exact tI_n (by omega) | exact tI_d (by omega) | assumption | exact tI_e1 | exact tI_e2 | exact tI_e3 | exact tI_e4) (by first | exact tI_n (by omega) | exact tI_d (by omega) | assumption | exact tI_e1 | exact tI_e2 | exact tI_e3 | exact tI_e4) (fun c_ => ?_) (fun c_ => by exfalso; omega)
            refine next _ _ (fun j _ => ⟨?_, ?_⟩)
            · rintro (⟨t, k, h1, h2, h3, h4⟩ | ⟨k, h1, h2⟩)
              · exact ⟨t, k, by omega, h2, h3, h4⟩
              · exact ⟨i, k, by omega, h1, hp, h2⟩
            · rintro ⟨t, k, h1, h2, h3, h4⟩
              by_cases e : t = i
              · subst e
                exact Or.inr ⟨k, h2, h4⟩
              · exact Or.inl ⟨t, k, by omega, h2, h3, h4⟩
          | succ d2 ih2 =>
            intro m hm
            have hg := (hI.t (t := i) (k := m) (by omega) (by omega)).1
            refine xr_iload xi_123_17 rfl ?_
            refine xr_iconst (z := nI 3) xi_123_19 rfl ?_
            refine xr_ic_ge xi_123_20 (by first | exact tI_n (by omega) | exact tI_d (by omega) | assumption | exact tI_e1 | exact tI_e2 | exact tI_e3 | exact tI_e4) (by first | exact tI_n (by omega) | exact tI_d (by omega) | assumption | exact tI_e1 | exact tI_e2 | exact tI_e3 | exact tI_e4) (fun c_ => by exfalso; omega) (fun c_ => ?_)
            refine xr_iload_n xi_123_23 rfl ?_
            refine xr_iload_n xi_123_24 rfl ?_
            refine xr_stat xi_123_25 (by decide) rfl rfl (Nat.le_of_ble_eq_true rfl) (Nat.le_of_ble_eq_true rfl) ?_
            refine wm_has (by omega) (fun _ => ?_) (fun q => absurd hp q)
            refine xr_k ?_
            refine xr_if_eq xi_123_28 (by first | exact tI_n (by omega) | exact tI_d (by omega) | assumption | exact tI_e1 | exact tI_e2 | exact tI_e3 | exact tI_e4) (fun c_ => by exfalso; omega) (fun c_ => ?_)
            refine xr_iload_n xi_123_31 rfl ?_
            refine xr_aload_n xi_123_32 rfl ?_
            refine xr_getf xi_123_33 rfl rfl ?_
            refine xr_iload_n xi_123_36 rfl ?_
            refine xr_iconst (z := nI 2) xi_123_37 rfl ?_
            refine xr_iload xi_123_38 rfl ?_
            refine xr_iadd xi_123_40 (by first | exact nI_add _ _ | exact rfl) ?_
            refine xr_stat xi_123_41 (by decide) rfl rfl (Nat.le_of_ble_eq_true rfl) (Nat.le_of_ble_eq_true rfl) ?_
            refine wm_of ?_
            refine xr_k ?_
            refine xr_ialz xi_123_44 rfl (by first | exact tI_n (by first | omega | (simp only [ri]; omega)) | exact tI_dn (by omega) (by omega) | assumption) (by first | omega | (simp only [ri]; omega)) (by first | exact mj_lo (by first | omega | (simp only [ri]; omega)) | exact mF_at _ _ | exact rfl) ?_
            refine xr_if_le xi_123_45 (by first | exact tI_n (by omega) | exact tI_d (by omega) | assumption | exact tI_e1 | exact tI_e2 | exact tI_e3 | exact tI_e4) (fun c_45 => ?_) (fun c_45 => ?_)
            · refine xr_iconst (z := nI 0) xi_123_68 rfl ?_
              refine xr_ior xi_123_69 (mk_g0 (R := fun j => (∃ t k, t < i ∧ k < 3 ∧ P t ∧ G (ri t (2 + k)) = j + 1) ∨ ∃ k, k < m + 1 ∧ G (ri i (2 + k)) = j + 1) (fun t _ => ⟨fun h => h.elim Or.inl (fun ⟨k, h1, h2⟩ => Or.inr ⟨k, by (by_cases e : k = m); (subst e; omega); omega, h2⟩), fun h => h.elim Or.inl (fun ⟨k, h1, h2⟩ => Or.inr ⟨k, by omega, h2⟩)⟩)) ?_
              refine xr_istore_n xi_123_70 (Nat.le_of_ble_eq_true rfl) rfl ?_
              refine xr_iinc xi_123_71 rfl (by first | exact nI_1 _ | exact rfl) rfl ?_
              refine xr_goto xi_123_74 ?_
              exact ih2 (m + 1) (by omega)
            · refine xr_iconst (z := nI 1) xi_123_48 rfl ?_
              refine xr_aload_n xi_123_49 rfl ?_
              refine xr_getf xi_123_50 rfl rfl ?_
              refine xr_iload_n xi_123_53 rfl ?_
              refine xr_iconst (z := nI 2) xi_123_54 rfl ?_
              refine xr_iload xi_123_55 rfl ?_
              refine xr_iadd xi_123_57 (by first | exact nI_add _ _ | exact rfl) ?_
              refine xr_stat xi_123_58 (by decide) rfl rfl (Nat.le_of_ble_eq_true rfl) (Nat.le_of_ble_eq_true rfl) ?_
              refine wm_of ?_
              refine xr_k ?_
              refine xr_ialz xi_123_61 rfl (by first | exact tI_n (by first | omega | (simp only [ri]; omega)) | exact tI_dn (by omega) (by omega) | assumption) (by first | omega | (simp only [ri]; omega)) (by first | exact mj_lo (by first | omega | (simp only [ri]; omega)) | exact mF_at _ _ | exact rfl) ?_
              refine xr_iconst (z := nI 1) xi_123_62 rfl ?_
              refine xr_isub xi_123_63 (by first | exact pk_sub (by omega) | exact nI_d _ | exact rfl) ?_
              refine xr_ishl xi_123_64 rfl ?_
              refine xr_goto xi_123_65 ?_
              refine xr_ior xi_123_69 (mk_g1 (R := fun j => (∃ t k, t < i ∧ k < 3 ∧ P t ∧ G (ri t (2 + k)) = j + 1) ∨ ∃ k, k < m + 1 ∧ G (ri i (2 + k)) = j + 1) (by omega) hg (fun t _ => ⟨fun h => h.elim (fun z => Or.inl (Or.inl z)) (fun ⟨k, h1, h2⟩ => by by_cases e : k = m; exact Or.inr (by rw [e] at h2; exact h2); exact Or.inl (Or.inr ⟨k, by omega, h2⟩)), fun h => h.elim (fun z => z.elim Or.inl (fun ⟨k, h1, h2⟩ => Or.inr ⟨k, by omega, h2⟩)) (fun h => Or.inr ⟨m, by omega, h⟩)⟩)) ?_
              refine xr_istore_n xi_123_70 (Nat.le_of_ble_eq_true rfl) rfl ?_
              refine xr_iinc xi_123_71 rfl (by first | exact nI_1 _ | exact rfl) rfl ?_
              refine xr_goto xi_123_74 ?_
              exact ih2 (m + 1) (by omega)
        refine xr_iload_n xi_123_4 rfl ?_
        refine xr_aload_n xi_123_5 rfl ?_
        refine xr_getf xi_123_6 rfl rfl ?_
        refine xr_iconst (z := nI 0) xi_123_9 rfl ?_
        refine xr_ialz xi_123_10 rfl (by first | exact tI_n (by first | omega | (simp only [ri]; omega)) | exact tI_dn (by omega) (by omega) | assumption) (by first | omega | (simp only [ri]; omega)) (by first | exact mj_lo (by first | omega | (simp only [ri]; omega)) | exact mF_at _ _ | exact rfl) ?_
        refine xr_ic_ge xi_123_11 (by first | exact tI_n (by omega) | exact tI_d (by omega) | assumption | exact tI_e1 | exact tI_e2 | exact tI_e3 | exact tI_e4) (by first | exact tI_n (by omega) | exact tI_d (by omega) | assumption | exact tI_e1 | exact tI_e2 | exact tI_e3 | exact tI_e4) (fun c_ => by exfalso; omega) (fun c_ => ?_)
        refine xr_iconst (z := nI 0) xi_123_14 rfl ?_
        refine xr_istore xi_123_15 (Nat.le_of_ble_eq_true rfl) rfl ?_
        have h0 := key2 3 0 (by omega)
        have e : mk (fun j => (∃ t k, t < i ∧ k < 3 ∧ P t ∧ G (ri t (2 + k)) = j + 1) ∨ ∃ k, k < 0 ∧ G (ri i (2 + k)) = j + 1) = mk (fun j => ∃ t k, t < i ∧ k < 3 ∧ P t ∧ G (ri t (2 + k)) = j + 1) := mk_congr (fun j _ => ⟨fun h => h.elim id (fun ⟨k, h, _⟩ => by omega), Or.inl⟩)
        rw [e] at h0
        exact h0
      · refine xr_iload_n xi_123_4 rfl ?_
        refine xr_aload_n xi_123_5 rfl ?_
        refine xr_getf xi_123_6 rfl rfl ?_
        refine xr_iconst (z := nI 0) xi_123_9 rfl ?_
        refine xr_ialz xi_123_10 rfl (by first | exact tI_n (by first | omega | (simp only [ri]; omega)) | exact tI_dn (by omega) (by omega) | assumption) (by first | omega | (simp only [ri]; omega)) (by first | exact mj_lo (by first | omega | (simp only [ri]; omega)) | exact mF_at _ _ | exact rfl) ?_
        refine xr_ic_ge xi_123_11 (by first | exact tI_n (by omega) | exact tI_d (by omega) | assumption | exact tI_e1 | exact tI_e2 | exact tI_e3 | exact tI_e4) (by first | exact tI_n (by omega) | exact tI_d (by omega) | assumption | exact tI_e1 | exact tI_e2 | exact tI_e3 | exact tI_e4) (fun c_ => by exfalso; omega) (fun c_ => ?_)
        refine xr_iconst (z := nI 0) xi_123_14 rfl ?_
        refine xr_istore xi_123_15 (Nat.le_of_ble_eq_true rfl) rfl ?_
        refine xr_iload xi_123_17 rfl ?_
        refine xr_iconst (z := nI 3) xi_123_19 rfl ?_
        refine xr_ic_ge xi_123_20 (by first | exact tI_n (by omega) | exact tI_d (by omega) | assumption | exact tI_e1 | exact tI_e2 | exact tI_e3 | exact tI_e4) (by first | exact tI_n (by omega) | exact tI_d (by omega) | assumption | exact tI_e1 | exact tI_e2 | exact tI_e3 | exact tI_e4) (fun c_ => by exfalso; omega) (fun c_ => ?_)
        refine xr_iload_n xi_123_23 rfl ?_
        refine xr_iload_n xi_123_24 rfl ?_
        refine xr_stat xi_123_25 (by decide) rfl rfl (Nat.le_of_ble_eq_true rfl) (Nat.le_of_ble_eq_true rfl) ?_
        refine wm_has (by omega) (fun q => absurd q hp) (fun _ => ?_)
        refine xr_k ?_
        refine xr_if_eq xi_123_28 (by first | exact tI_n (by omega) | exact tI_d (by omega) | assumption | exact tI_e1 | exact tI_e2 | exact tI_e3 | exact tI_e4) (fun c_ => ?_) (fun c_ => by exfalso; omega)
        refine next _ _ (fun j _ => ⟨fun ⟨t, k, h1, h2, h3, h4⟩ => ⟨t, k, by omega, h2, h3, h4⟩, fun ⟨t, k, h1, h2, h3, h4⟩ => ⟨t, k, ?_, h2, h3, h4⟩⟩)
        have : t ≠ i := fun q => hp (q ▸ h3)
        omega
  refine xr_iconst xi_123_0 (show xm_i 0 = mk (fun j => ∃ t k, t < 0 ∧ k < 3 ∧ P t ∧ G (ri t (2 + k)) = j + 1) from mk_0.trans (mk_congr (fun t _ => ⟨fun h => h.elim, fun ⟨t, k, h, _⟩ => by omega⟩))) ?_
  refine xr_istore_n xi_123_1 (Nat.le_of_ble_eq_true rfl) rfl ?_
  refine xr_iconst (z := nI 0) xi_123_2 rfl ?_
  refine xr_istore_n xi_123_3 (Nat.le_of_ble_eq_true rfl) rfl ?_
  exact key (G 0) 0 .null (by omega)
theorem wm_reached {F I : Nat → Prop} (hI : sInv G) (hQ : Q (some (.int (mk (sReach G I F)))) (mJ st tx ln ag po le nu fa re od be Z G)) : xc L xs 124 [.ref 0, .int (mk F), .int (mk I)] (mJ st tx ln ag po le nu fa re od be Z G) Q := by
  have key : ∀ d n, n + d = 30 → xw L xs 124 7 [.ref 0, .int (mk F), .int (mk I), .int (mk (rch G I F n).1), .int (mk (rch G I F n).2)] [] (mJ st tx ln ag po le nu fa re od be Z G) Q := by
    intro d
    induction d with
    | zero =>
      intro n hn
      have e : n = 30 := by omega
      subst e
      refine xr_iload xi_124_7 rfl ?_
      refine xr_if_eqz xi_124_9 (fun c => ?_) (fun c => absurd (mk_eq0.mpr (fun t ht => rch_30 hI.c ht)) c)
      refine xr_iload_n xi_124_34 rfl ?_
      refine xr_iret xi_124_35 (fun h => absurd h (by decide)) ?_
      exact hQ
    | succ d ih =>
      intro n hn
      refine xr_iload xi_124_7 rfl ?_
      refine xr_if_eqz xi_124_9 (fun c => ?_) (fun c => ?_)
      · refine xr_iload_n xi_124_34 rfl ?_
        refine xr_iret xi_124_35 (fun h => absurd h (by decide)) ?_
        rw [sReach_at hI.c (by omega) (mk_eq0.mp c)]
        exact hQ
      · refine xr_aload_n xi_124_12 rfl ?_
        refine xr_iload xi_124_13 rfl ?_
        refine xr_virt xi_124_15 rfl rfl rfl rfl (Nat.le_of_ble_eq_true rfl) (Nat.le_of_ble_eq_true rfl) ?_
        refine wm_tiedTo hI ?_
        refine xr_k ?_
        refine xr_iload_n xi_124_18 rfl ?_
        refine xr_iand xi_124_19 (mk_and _ _) ?_
        refine xr_iload_n xi_124_20 rfl ?_
        refine xr_iconst (z := dI 0) xi_124_21 xm_m1 ?_
        refine xr_ixor xi_124_22 rfl ?_
        refine xr_iand xi_124_23 (mk_andn _ _) ?_
        refine xr_istore xi_124_24 (Nat.le_of_ble_eq_true rfl) rfl ?_
        refine xr_iload_n xi_124_26 rfl ?_
        refine xr_iload xi_124_27 rfl ?_
        refine xr_ior xi_124_29 (mk_or _ _) ?_
        refine xr_istore_n xi_124_30 (Nat.le_of_ble_eq_true rfl) rfl ?_
        refine xr_goto xi_124_31 ?_
        exact ih (n + 1) (by omega)
  refine xr_iload_n xi_124_0 rfl ?_
  refine xr_iload_n xi_124_1 rfl ?_
  refine xr_iand xi_124_2 (mk_and _ _) ?_
  refine xr_istore_n xi_124_3 (Nat.le_of_ble_eq_true rfl) rfl ?_
  refine xr_iload_n xi_124_4 rfl ?_
  refine xr_istore xi_124_5 (Nat.le_of_ble_eq_true rfl) rfl ?_
  exact key 30 0 (by omega)
theorem wm_roots (hI : sInv G) (hQ : Q (some (.int (mk (sRoots G)))) (mJ st tx ln ag po le nu fa re od be Z G)) : xc L xs 125 [.ref 0] (mJ st tx ln ag po le nu fa re od be Z G) Q := by
  refine xr_aload_n xi_125_0 rfl ?_
  refine xr_virt xi_125_1 rfl rfl rfl rfl (Nat.le_of_ble_eq_true rfl) (Nat.le_of_ble_eq_true rfl) ?_
  refine wm_held hI ?_
  refine xr_k ?_
  refine xr_aload_n xi_125_4 rfl ?_
  refine xr_virt xi_125_5 rfl rfl rfl rfl (Nat.le_of_ble_eq_true rfl) (Nat.le_of_ble_eq_true rfl) ?_
  refine wm_pinned hI ?_
  refine xr_k ?_
  refine xr_ior xi_125_8 (mk_or _ _) ?_
  refine xr_iret xi_125_9 (fun h => absurd h (by decide)) ?_
  exact hQ
theorem wm_all (hI : sInv G) (hQ : Q (some (.int (mk (sAll G)))) (mJ st tx ln ag po le nu fa re od be Z G)) : xc L xs 126 [.ref 0] (mJ st tx ln ag po le nu fa re od be Z G) Q := by
  refine xr_aload_n xi_126_0 rfl ?_
  refine xr_iconst (z := nI 2) xi_126_1 rfl ?_
  refine xr_virt xi_126_2 rfl rfl rfl rfl (Nat.le_of_ble_eq_true rfl) (Nat.le_of_ble_eq_true rfl) ?_
  refine wm_living hI (by omega) ?_
  refine xr_k ?_
  refine xr_iret xi_126_5 (fun h => absurd h (by decide)) ?_
  exact hQ
theorem wm_neededOf (hI : sInv G) (hQ : Q (some (.int (mk (sNeed G)))) (mJ st tx ln ag po le nu fa re od be Z G)) : xc L xs 127 [.ref 0] (mJ st tx ln ag po le nu fa re od be Z G) Q := by
  refine xr_aload_n xi_127_0 rfl ?_
  refine xr_aload_n xi_127_1 rfl ?_
  refine xr_virt xi_127_2 rfl rfl rfl rfl (Nat.le_of_ble_eq_true rfl) (Nat.le_of_ble_eq_true rfl) ?_
  refine wm_roots hI ?_
  refine xr_k ?_
  refine xr_aload_n xi_127_5 rfl ?_
  refine xr_virt xi_127_6 rfl rfl rfl rfl (Nat.le_of_ble_eq_true rfl) (Nat.le_of_ble_eq_true rfl) ?_
  refine wm_all hI ?_
  refine xr_k ?_
  refine xr_virt xi_127_9 rfl rfl rfl rfl (Nat.le_of_ble_eq_true rfl) (Nat.le_of_ble_eq_true rfl) ?_
  refine wm_reached hI ?_
  refine xr_k ?_
  refine xr_iret xi_127_12 (fun h => absurd h (by decide)) ?_
  exact hQ
theorem wm_survivorsOf {a : Nat} (ha : a < 2) (hI : sInv G) (hQ : Q (some (.int (mk (sSurv G a)))) (mJ st tx ln ag po le nu fa re od be Z G)) : xc L xs 128 [.ref 0, .int (nI a)] (mJ st tx ln ag po le nu fa re od be Z G) Q := by
  refine xr_aload_n xi_128_0 rfl ?_
  refine xr_iload_n xi_128_1 rfl ?_
  refine xr_virt xi_128_2 rfl rfl rfl rfl (Nat.le_of_ble_eq_true rfl) (Nat.le_of_ble_eq_true rfl) ?_
  refine wm_living hI (by omega) ?_
  refine xr_k ?_
  refine xr_istore_n xi_128_5 (Nat.le_of_ble_eq_true rfl) rfl ?_
  refine xr_aload_n xi_128_6 rfl ?_
  refine xr_aload_n xi_128_7 rfl ?_
  refine xr_virt xi_128_8 rfl rfl rfl rfl (Nat.le_of_ble_eq_true rfl) (Nat.le_of_ble_eq_true rfl) ?_
  refine wm_roots hI ?_
  refine xr_k ?_
  refine xr_aload_n xi_128_11 rfl ?_
  refine xr_aload_n xi_128_12 rfl ?_
  refine xr_virt xi_128_13 rfl rfl rfl rfl (Nat.le_of_ble_eq_true rfl) (Nat.le_of_ble_eq_true rfl) ?_
  refine wm_all hI ?_
  refine xr_k ?_
  refine xr_iload_n xi_128_16 rfl ?_
  refine xr_iconst (z := dI 0) xi_128_17 xm_m1 ?_
  refine xr_ixor xi_128_18 rfl ?_
  refine xr_iand xi_128_19 (mk_andn _ _) ?_
  refine xr_virt xi_128_20 rfl rfl rfl rfl (Nat.le_of_ble_eq_true rfl) (Nat.le_of_ble_eq_true rfl) ?_
  refine wm_tiedTo hI ?_
  refine xr_k ?_
  refine xr_ior xi_128_23 (mk_or _ _) ?_
  refine xr_iload_n xi_128_24 rfl ?_
  refine xr_virt xi_128_25 rfl rfl rfl rfl (Nat.le_of_ble_eq_true rfl) (Nat.le_of_ble_eq_true rfl) ?_
  refine wm_reached hI ?_
  refine xr_k ?_
  refine xr_iret xi_128_28 (fun h => absurd h (by decide)) ?_
  exact hQ
theorem wm_lose {P : Nat → Prop} (hc : G 0 ≤ 30) (hl : ∀ t, t < 30 → G (ri t 0) ≤ 40) (hQ : Q none (mJ st tx ln ag po le nu fa re od be Z (sLose G P))) : xc L xs 129 [.ref 0, .int (mk P)] (mJ st tx ln ag po le nu fa re od be Z G) Q := by
  have key : ∀ d i x3, i + d = G 0 → xw L xs 129 2 [.ref 0, .int (mk P), .int (nI i), x3] [] (mJ st tx ln ag po le nu fa re od be Z (sWipeN G P i 0)) Q := by
    intro d
    induction d with
    | zero =>
      intro i x3 hi
      have e : i = G 0 := by omega
      subst e
      have hz : sWipeN G P (G 0) 0 0 = G 0 := sWipeN_lo (by omega)
      refine xr_iload_n xi_129_2 rfl ?_
      refine xr_aload_n xi_129_3 rfl ?_
      refine xr_getf xi_129_4 rfl rfl ?_
      refine xr_iconst (z := nI 0) xi_129_7 rfl ?_
      refine xr_ialz xi_129_8 rfl (by first | exact tI_n (by first | omega | (simp only [ri]; omega)) | exact tI_dn (by omega) (by omega) | assumption) (by first | omega | (simp only [ri]; omega)) ((mj_lo (by omega)).trans (congrArg nI hz)) ?_
      refine xr_ic_ge xi_129_9 (by first | exact tI_n (by omega) | exact tI_d (by omega) | assumption | exact tI_e1 | exact tI_e2 | exact tI_e3 | exact tI_e4) (by first | exact tI_n (by omega) | exact tI_d (by omega) | assumption | exact tI_e1 | exact tI_e2 | exact tI_e3 | exact tI_e4) (fun c_ => ?_) (fun c_ => by exfalso; omega)
      rw [sWipeN_e]
      refine xr_aload_n xi_129_50 rfl ?_
      refine xr_virt xi_129_51 rfl rfl rfl rfl (Nat.le_of_ble_eq_true rfl) (Nat.le_of_ble_eq_true rfl) ?_
      refine wm_freeHouses (by rw [← sWipeN_e, hz]; exact hc) (fun t ht => by unfold sWipe; split; omega; exact hl t ht) ?_
      refine xr_kv ?_
      refine xr_ret xi_129_54 ?_
      exact hQ
    | succ d ih =>
      intro i x3 hi
      have hz : sWipeN G P i 0 0 = G 0 := sWipeN_lo (by omega)
      by_cases hp : P i
      · have key2 : ∀ d2 m, m + d2 = 5 → xw L xs 129 14 [.ref 0, .int (mk P), .int (nI i), .int (nI m)] [] (mJ st tx ln ag po le nu fa re od be Z (sWipeN G P i m)) Q := by
          intro d2
          induction d2 with
          | zero =>
            intro m hm
            have e : m = 5 := by omega
            subst e
            rw [sWipeN_5]
            refine xr_iload_n xi_129_14 rfl ?_
            refine xr_iconst (z := nI 5) xi_129_15 rfl ?_
            refine xr_ic_ge xi_129_16 (by first | exact tI_n (by omega) | exact tI_d (by omega) | assumption | exact tI_e1 | exact tI_e2 | exact tI_e3 | exact tI_e4) (by first | exact tI_n (by omega) | exact tI_d (by omega) | assumption | exact tI_e1 | exact tI_e2 | exact tI_e3 | exact tI_e4) (fun c_ => ?_) (fun c_ => by exfalso; omega)
            refine xr_iinc xi_129_44 rfl (by first | exact nI_1 _ | exact rfl) rfl ?_
            refine xr_goto xi_129_47 ?_
            exact ih (i + 1) _ (by omega)
          | succ d2 ih2 =>
            intro m hm
            refine xr_iload_n xi_129_14 rfl ?_
            refine xr_iconst (z := nI 5) xi_129_15 rfl ?_
            refine xr_ic_ge xi_129_16 (by first | exact tI_n (by omega) | exact tI_d (by omega) | assumption | exact tI_e1 | exact tI_e2 | exact tI_e3 | exact tI_e4) (by first | exact tI_n (by omega) | exact tI_d (by omega) | assumption | exact tI_e1 | exact tI_e2 | exact tI_e3 | exact tI_e4) (fun c_ => by exfalso; omega) (fun c_ => ?_)
            refine xr_iload_n xi_129_19 rfl ?_
            refine xr_iload_n xi_129_20 rfl ?_
            refine xr_stat xi_129_21 (by decide) rfl rfl (Nat.le_of_ble_eq_true rfl) (Nat.le_of_ble_eq_true rfl) ?_
            refine wm_has (by omega) (fun _ => ?_) (fun q => absurd hp q)
            refine xr_k ?_
            refine xr_if_eq xi_129_24 (by first | exact tI_n (by omega) | exact tI_d (by omega) | assumption | exact tI_e1 | exact tI_e2 | exact tI_e3 | exact tI_e4) (fun c_ => by exfalso; omega) (fun c_ => ?_)
            refine xr_aload_n xi_129_27 rfl ?_
            refine xr_getf xi_129_28 rfl rfl ?_
            refine xr_iload_n xi_129_31 rfl ?_
            refine xr_iload_n xi_129_32 rfl ?_
            refine xr_stat xi_129_33 (by decide) rfl rfl (Nat.le_of_ble_eq_true rfl) (Nat.le_of_ble_eq_true rfl) ?_
            refine wm_of ?_
            refine xr_k ?_
            refine xr_iconst (z := nI 0) xi_129_36 rfl ?_
            refine xr_iast xi_129_37 rfl (by first | exact tI_n (by first | omega | (simp only [ri]; omega)) | exact tI_dn (by omega) (by omega) | assumption) (by first | omega | (simp only [ri]; omega)) ((mH_row _ (by simp only [ri]; omega)).trans (congrArg (fun G => mJ st tx ln ag po le nu fa re od be Z G) (sWipeN_s (by omega) hp))) ?_
            refine xr_iinc xi_129_38 rfl (by first | exact nI_1 _ | exact rfl) rfl ?_
            refine xr_goto xi_129_41 ?_
            exact ih2 (m + 1) (by omega)
        refine xr_iload_n xi_129_2 rfl ?_
        refine xr_aload_n xi_129_3 rfl ?_
        refine xr_getf xi_129_4 rfl rfl ?_
        refine xr_iconst (z := nI 0) xi_129_7 rfl ?_
        refine xr_ialz xi_129_8 rfl (by first | exact tI_n (by first | omega | (simp only [ri]; omega)) | exact tI_dn (by omega) (by omega) | assumption) (by first | omega | (simp only [ri]; omega)) ((mj_lo (by omega)).trans (congrArg nI hz)) ?_
        refine xr_ic_ge xi_129_9 (by first | exact tI_n (by omega) | exact tI_d (by omega) | assumption | exact tI_e1 | exact tI_e2 | exact tI_e3 | exact tI_e4) (by first | exact tI_n (by omega) | exact tI_d (by omega) | assumption | exact tI_e1 | exact tI_e2 | exact tI_e3 | exact tI_e4) (fun c_ => by exfalso; omega) (fun c_ => ?_)
        refine xr_iconst (z := nI 0) xi_129_12 rfl ?_
        refine xr_istore_n xi_129_13 (Nat.le_of_ble_eq_true rfl) rfl ?_
        exact key2 5 0 (by omega)
      · refine xr_iload_n xi_129_2 rfl ?_
        refine xr_aload_n xi_129_3 rfl ?_
        refine xr_getf xi_129_4 rfl rfl ?_
        refine xr_iconst (z := nI 0) xi_129_7 rfl ?_
        refine xr_ialz xi_129_8 rfl (by first | exact tI_n (by first | omega | (simp only [ri]; omega)) | exact tI_dn (by omega) (by omega) | assumption) (by first | omega | (simp only [ri]; omega)) ((mj_lo (by omega)).trans (congrArg nI hz)) ?_
        refine xr_ic_ge xi_129_9 (by first | exact tI_n (by omega) | exact tI_d (by omega) | assumption | exact tI_e1 | exact tI_e2 | exact tI_e3 | exact tI_e4) (by first | exact tI_n (by omega) | exact tI_d (by omega) | assumption | exact tI_e1 | exact tI_e2 | exact tI_e3 | exact tI_e4) (fun c_ => by exfalso; omega) (fun c_ => ?_)
        refine xr_iconst (z := nI 0) xi_129_12 rfl ?_
        refine xr_istore_n xi_129_13 (Nat.le_of_ble_eq_true rfl) rfl ?_
        refine xr_iload_n xi_129_14 rfl ?_
        refine xr_iconst (z := nI 5) xi_129_15 rfl ?_
        refine xr_ic_ge xi_129_16 (by first | exact tI_n (by omega) | exact tI_d (by omega) | assumption | exact tI_e1 | exact tI_e2 | exact tI_e3 | exact tI_e4) (by first | exact tI_n (by omega) | exact tI_d (by omega) | assumption | exact tI_e1 | exact tI_e2 | exact tI_e3 | exact tI_e4) (fun c_ => by exfalso; omega) (fun c_ => ?_)
        refine xr_iload_n xi_129_19 rfl ?_
        refine xr_iload_n xi_129_20 rfl ?_
        refine xr_stat xi_129_21 (by decide) rfl rfl (Nat.le_of_ble_eq_true rfl) (Nat.le_of_ble_eq_true rfl) ?_
        refine wm_has (by omega) (fun q => absurd q hp) (fun _ => ?_)
        refine xr_k ?_
        rw [sWipeN_no hp]
        refine xr_if_eq xi_129_24 (by first | exact tI_n (by omega) | exact tI_d (by omega) | assumption | exact tI_e1 | exact tI_e2 | exact tI_e3 | exact tI_e4) (fun c_ => ?_) (fun c_ => by exfalso; omega)
        refine xr_iinc xi_129_44 rfl (by first | exact nI_1 _ | exact rfl) rfl ?_
        refine xr_goto xi_129_47 ?_
        exact ih (i + 1) _ (by omega)
  refine xr_iconst (z := nI 0) xi_129_0 rfl ?_
  refine xr_istore_n xi_129_1 (Nat.le_of_ble_eq_true rfl) rfl ?_
  have h0 := key (G 0) 0 .null (by omega)
  rw [sWipeN_0] at h0
  exact h0
end M3
