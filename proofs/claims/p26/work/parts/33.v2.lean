/-! the village's sets of things -/
theorem dF_0 {A : Nat → Nat} {i : Nat} (h : A i = 0) : dF A i = dI 0 := congrArg dI h
theorem dF_s {A : Nat → Nat} {i t : Nat} (h : A i = t + 1) : dF A i = nI t := (congrArg dI h).trans (dI_1 t)
theorem mk_stepn {P : Nat → Prop} {i : Nat} (h : ¬ P i) : mk (fun t => t < i ∧ P t) = mk (fun t => t < i + 1 ∧ P t) := by
  rw [← mk_step0 h, mk_or0]
theorem sInH_0 {G : Nat → Nat} {h : Nat} (hc : G 0 ≤ 30) : mk (sInH G h) = 0 ↔ ∀ q, q < 5 → sEmp G (5 * h + q) := by
  rw [mk_eq0]
  constructor
  · intro q0 q hq t ht e
    refine q0 t (by omega) ⟨⟨ht, by omega⟩, ?_⟩
    unfold sHome
    omega
  · rintro q0 t ht ⟨⟨h1, h2⟩, h3⟩
    unfold sHome at h3
    exact q0 (G (ri t 0) - 1 - 5 * h) (by omega) t h1 (by omega)
section V2
variable {L : Nat} {xs : Nat → Int32} {Q : Option Value → xm_H → Prop} {A Gs Sp Ti Mv Hd G : Nat → Nat} {pin : Int32} {c w f m : Nat}
theorem wv_thingsIn {h : Nat} (hR : vR A Gs Sp Ti Mv Hd pin c w f m G) (hc : G 0 ≤ 30) (hh : h < 8) (hQ : Q (some (.int (mk (sInH G h)))) (vH A Gs Sp Ti Mv Hd pin c w f m)) : xc L xs 42 [.ref 0, .int (nI h)] (vH A Gs Sp Ti Mv Hd pin c w f m) Q := by
  have key : ∀ d q x4, q + d = 5 → xw L xs 42 14 [.ref 0, .int (nI h), .int (mk (fun t => ∃ q', q' < q ∧ Gs (h * 5 + q') = t + 1)), .int (nI q), x4] [] (vH A Gs Sp Ti Mv Hd pin c w f m) Q := by
    intro d
    induction d with
    | zero =>
      intro q x4 hq
      have e : q = 5 := by omega
      subst e
      refine xr_iload_n xi_42_14 rfl ?_
      refine xr_iconst (z := nI 5) xi_42_15 rfl ?_
      refine xr_ic_ge xi_42_16 (by first | exact tI_n (by omega) | exact tI_d (by omega) | assumption | exact tI_e1 | exact tI_e2 | exact tI_e3 | exact tI_e4) (by first | exact tI_n (by omega) | exact tI_d (by omega) | assumption | exact tI_e1 | exact tI_e2 | exact tI_e3 | exact tI_e4) (fun c_ => ?_) (fun c_ => by exfalso; omega)
      refine xr_iload_n xi_42_50 rfl ?_
      refine xr_iret xi_42_51 (fun h => absurd h (by decide)) ?_
      have e : mk (fun t => ∃ q', q' < 5 ∧ Gs (h * 5 + q') = t + 1) = mk (sInH G h) := by
        refine mk_congr (fun t ht => ⟨?_, ?_⟩)
        · rintro ⟨q, h1, h2⟩
          have h3 := (hR.g (by omega) ht).mp h2
          refine ⟨⟨h3.1, by omega⟩, ?_⟩
          unfold sHome
          omega
        · rintro ⟨⟨h1, h2⟩, h3⟩
          unfold sHome at h3
          exact ⟨G (ri t 0) - 1 - 5 * h, by omega, (hR.g (by omega) ht).mpr ⟨h1, by omega⟩⟩
      rw [e]
      exact hQ
    | succ d ih =>
      intro q x4 hq
      have hg := hR.g30 (p := h * 5 + q) (by omega)
      cases hv : Gs (h * 5 + q) with
      | zero =>
        refine xr_iload_n xi_42_14 rfl ?_
        refine xr_iconst (z := nI 5) xi_42_15 rfl ?_
        refine xr_ic_ge xi_42_16 (by first | exact tI_n (by omega) | exact tI_d (by omega) | assumption | exact tI_e1 | exact tI_e2 | exact tI_e3 | exact tI_e4) (by first | exact tI_n (by omega) | exact tI_d (by omega) | assumption | exact tI_e1 | exact tI_e2 | exact tI_e3 | exact tI_e4) (fun c_ => by exfalso; omega) (fun c_ => ?_)
        refine xr_aload_n xi_42_19 rfl ?_
        refine xr_getf xi_42_20 rfl rfl ?_
        refine xr_iload_n xi_42_23 rfl ?_
        refine xr_iconst (z := nI 5) xi_42_24 rfl ?_
        refine xr_imul xi_42_25 (by first | exact pk_mul _ _ | exact rfl) ?_
        refine xr_iload_n xi_42_26 rfl ?_
        refine xr_iadd xi_42_27 (by first | exact nI_add _ _ | exact rfl) ?_
        refine xr_ialz xi_42_28 rfl (by first | exact tI_n (by first | omega | (simp only [ri]; omega)) | exact tI_dn (by omega) (by omega) | assumption) (by first | omega | (simp only [ri]; omega)) (dF_0 hv) ?_
        refine xr_istore xi_42_29 (Nat.le_of_ble_eq_true rfl) rfl ?_
        refine xr_iload xi_42_31 rfl ?_
        refine xr_iconst (z := dI 0) xi_42_33 xm_m1 ?_
        refine xr_ic_eq xi_42_34 (by first | exact tI_n (by omega) | exact tI_d (by omega) | assumption | exact tI_e1 | exact tI_e2 | exact tI_e3 | exact tI_e4) (by first | exact tI_n (by omega) | exact tI_d (by omega) | assumption | exact tI_e1 | exact tI_e2 | exact tI_e3 | exact tI_e4) (fun c_ => ?_) (fun c_ => by exfalso; omega)
        have e : mk (fun t => ∃ q', q' < q ∧ Gs (h * 5 + q') = t + 1) = mk (fun t => ∃ q', q' < q + 1 ∧ Gs (h * 5 + q') = t + 1) := by
          refine mk_congr (fun t _ => ⟨fun ⟨q', h1, h2⟩ => ⟨q', by omega, h2⟩, fun ⟨q', h1, h2⟩ => ⟨q', ?_, h2⟩⟩)
          have : q' ≠ q := fun e => by rw [e, hv] at h2; omega
          omega
        rw [e]
        refine xr_iinc xi_42_44 rfl (by first | exact nI_1 _ | exact rfl) rfl ?_
        refine xr_goto xi_42_47 ?_
        exact ih (q + 1) _ (by omega)
      | succ t =>
        refine xr_iload_n xi_42_14 rfl ?_
        refine xr_iconst (z := nI 5) xi_42_15 rfl ?_
        refine xr_ic_ge xi_42_16 (by first | exact tI_n (by omega) | exact tI_d (by omega) | assumption | exact tI_e1 | exact tI_e2 | exact tI_e3 | exact tI_e4) (by first | exact tI_n (by omega) | exact tI_d (by omega) | assumption | exact tI_e1 | exact tI_e2 | exact tI_e3 | exact tI_e4) (fun c_ => by exfalso; omega) (fun c_ => ?_)
        refine xr_aload_n xi_42_19 rfl ?_
        refine xr_getf xi_42_20 rfl rfl ?_
        refine xr_iload_n xi_42_23 rfl ?_
        refine xr_iconst (z := nI 5) xi_42_24 rfl ?_
        refine xr_imul xi_42_25 (by first | exact pk_mul _ _ | exact rfl) ?_
        refine xr_iload_n xi_42_26 rfl ?_
        refine xr_iadd xi_42_27 (by first | exact nI_add _ _ | exact rfl) ?_
        refine xr_ialz xi_42_28 rfl (by first | exact tI_n (by first | omega | (simp only [ri]; omega)) | exact tI_dn (by omega) (by omega) | assumption) (by first | omega | (simp only [ri]; omega)) (dF_s hv) ?_
        refine xr_istore xi_42_29 (Nat.le_of_ble_eq_true rfl) rfl ?_
        refine xr_iload xi_42_31 rfl ?_
        refine xr_iconst (z := dI 0) xi_42_33 xm_m1 ?_
        refine xr_ic_eq xi_42_34 (by first | exact tI_n (by omega) | exact tI_d (by omega) | assumption | exact tI_e1 | exact tI_e2 | exact tI_e3 | exact tI_e4) (by first | exact tI_n (by omega) | exact tI_d (by omega) | assumption | exact tI_e1 | exact tI_e2 | exact tI_e3 | exact tI_e4) (fun c_ => by exfalso; omega) (fun c_ => ?_)
        refine xr_iload_n xi_42_37 rfl ?_
        refine xr_iconst (z := nI 1) xi_42_38 rfl ?_
        refine xr_iload xi_42_39 rfl ?_
        refine xr_ishl xi_42_41 rfl ?_
        refine xr_ior xi_42_42 (mk_or1 _ (by omega)) ?_
        refine xr_istore_n xi_42_43 (Nat.le_of_ble_eq_true rfl) rfl ?_
        have e : mk (fun t' => (∃ q', q' < q ∧ Gs (h * 5 + q') = t' + 1) ∨ t' = t) = mk (fun t => ∃ q', q' < q + 1 ∧ Gs (h * 5 + q') = t + 1) := by
          refine mk_congr (fun t' _ => ⟨?_, fun ⟨q', h1, h2⟩ => ?_⟩)
          · rintro (⟨q', h1, h2⟩ | rfl)
            · exact ⟨q', by omega, h2⟩
            · exact ⟨q, by omega, hv⟩
          · by_cases e : q' = q
            · rw [e, hv] at h2
              exact Or.inr (by omega)
            · exact Or.inl ⟨q', by omega, h2⟩
        rw [e]
        refine xr_iinc xi_42_44 rfl (by first | exact nI_1 _ | exact rfl) rfl ?_
        refine xr_goto xi_42_47 ?_
        exact ih (q + 1) _ (by omega)
  refine xr_iconst xi_42_0 (show xm_i 0 = mk (fun t => ∃ q', q' < 0 ∧ Gs (h * 5 + q') = t + 1) from mk_0.trans (mk_congr (fun t _ => ⟨fun h => h.elim, fun ⟨q, h, _⟩ => by omega⟩))) ?_
  refine xr_istore_n xi_42_1 (Nat.le_of_ble_eq_true rfl) rfl ?_
  refine xr_iload_n xi_42_2 rfl ?_
  refine xr_if_lt xi_42_3 (by first | exact tI_n (by omega) | exact tI_d (by omega) | assumption | exact tI_e1 | exact tI_e2 | exact tI_e3 | exact tI_e4) (fun c_ => by exfalso; omega) (fun c_ => ?_)
  refine xr_iload_n xi_42_6 rfl ?_
  refine xr_bipush (z := nI 8) xi_42_7 rfl ?_
  refine xr_ic_ge xi_42_9 (by first | exact tI_n (by omega) | exact tI_d (by omega) | assumption | exact tI_e1 | exact tI_e2 | exact tI_e3 | exact tI_e4) (by first | exact tI_n (by omega) | exact tI_d (by omega) | assumption | exact tI_e1 | exact tI_e2 | exact tI_e3 | exact tI_e4) (fun c_ => by exfalso; omega) (fun c_ => ?_)
  refine xr_iconst (z := nI 0) xi_42_12 rfl ?_
  refine xr_istore_n xi_42_13 (Nat.le_of_ble_eq_true rfl) rfl ?_
  exact key 5 0 .null (by omega)
theorem wv_thingsX {x : Int32} (hx : ¬ (0 ≤ x.toInt ∧ x.toInt < 8)) (hQ : Q (some (.int (nI 0))) (vH A Gs Sp Ti Mv Hd pin c w f m)) : xc L xs 42 [.ref 0, .int x] (vH A Gs Sp Ti Mv Hd pin c w f m) Q := by
  refine xr_iconst (z := nI 0) xi_42_0 rfl ?_
  refine xr_istore_n xi_42_1 (Nat.le_of_ble_eq_true rfl) rfl ?_
  refine xr_iload_n xi_42_2 rfl ?_
  refine xr_if_lt xi_42_3 (rfl) (fun c_3 => ?_) (fun c_3 => ?_)
  · refine xr_iload_n xi_42_50 rfl ?_
    refine xr_iret xi_42_51 (fun h => absurd h (by decide)) ?_
    exact hQ
  · refine xr_iload_n xi_42_6 rfl ?_
    refine xr_bipush (z := nI 8) xi_42_7 rfl ?_
    refine xr_ic_ge xi_42_9 (rfl) (by first | exact tI_n (by omega) | exact tI_d (by omega) | assumption | exact tI_e1 | exact tI_e2 | exact tI_e3 | exact tI_e4) (fun c_9 => ?_) (fun c_9 => ?_)
    · refine xr_iload_n xi_42_50 rfl ?_
      refine xr_iret xi_42_51 (fun h => absurd h (by decide)) ?_
      exact hQ
    · omega
theorem wv_agesSet {lo up : Nat} (hR : vR A Gs Sp Ti Mv Hd pin c w f m G) (hI : sInv G) (hlo : lo < 10) (hup : up < 10) (hQ : Q (some (.int (mk (fun t => sLive G t ∧ lo + 1 ≤ sAge G t ∧ sAge G t ≤ up + 1)))) (vH A Gs Sp Ti Mv Hd pin c w f m)) : xc L xs 49 [.ref 0, .int (nI lo), .int (nI up)] (vH A Gs Sp Ti Mv Hd pin c w f m) Q := by
  have key : ∀ d i x5 x6, i + d = 30 → xw L xs 49 5 [.ref 0, .int (nI lo), .int (nI up), .int (mk (fun t => t < i ∧ sLive G t ∧ lo + 1 ≤ sAge G t ∧ sAge G t ≤ up + 1)), .int (nI i), x5, x6] [] (vH A Gs Sp Ti Mv Hd pin c w f m) Q := by
    intro d
    induction d with
    | zero =>
      intro i x5 x6 hi
      have e : i = 30 := by omega
      subst e
      refine xr_iload xi_49_5 rfl ?_
      refine xr_bipush (z := nI 30) xi_49_7 rfl ?_
      refine xr_ic_ge xi_49_9 (by first | exact tI_n (by omega) | exact tI_d (by omega) | assumption | exact tI_e1 | exact tI_e2 | exact tI_e3 | exact tI_e4) (by first | exact tI_n (by omega) | exact tI_d (by omega) | assumption | exact tI_e1 | exact tI_e2 | exact tI_e3 | exact tI_e4) (fun c_ => ?_) (fun c_ => by exfalso; omega)
      refine xr_iload_n xi_49_63 rfl ?_
      refine xr_iret xi_49_64 (fun h => absurd h (by decide)) ?_
      rw [mk_all (fun t ht _ => ht)]
      exact hQ
    | succ d ih =>
      intro i x5 x6 hi
      have no : ¬ (sLive G i ∧ lo + 1 ≤ sAge G i ∧ sAge G i ≤ up + 1) → ∀ x5 x6, xw L xs 49 57 [.ref 0, .int (nI lo), .int (nI up), .int (mk (fun t => t < i ∧ sLive G t ∧ lo + 1 ≤ sAge G t ∧ sAge G t ≤ up + 1)), .int (nI i), x5, x6] [] (vH A Gs Sp Ti Mv Hd pin c w f m) Q := by
        intro hn x5 x6
        rw [mk_stepn (P := fun t => sLive G t ∧ lo + 1 ≤ sAge G t ∧ sAge G t ≤ up + 1) hn]
        refine xr_iinc xi_49_57 rfl (by first | exact nI_1 _ | exact rfl) rfl ?_
        refine xr_goto xi_49_60 ?_
        exact ih (i + 1) _ _ (by omega)
      have hs := hR.s (t := i) (by omega)
      have hl := hI.l (t := i) (by omega)
      cases hv : Sp i with
      | zero =>
        refine xr_iload xi_49_5 rfl ?_
        refine xr_bipush (z := nI 30) xi_49_7 rfl ?_
        refine xr_ic_ge xi_49_9 (by first | exact tI_n (by omega) | exact tI_d (by omega) | assumption | exact tI_e1 | exact tI_e2 | exact tI_e3 | exact tI_e4) (by first | exact tI_n (by omega) | exact tI_d (by omega) | assumption | exact tI_e1 | exact tI_e2 | exact tI_e3 | exact tI_e4) (fun c_ => by exfalso; omega) (fun c_ => ?_)
        refine xr_aload_n xi_49_12 rfl ?_
        refine xr_getf xi_49_13 rfl rfl ?_
        refine xr_iload xi_49_16 rfl ?_
        refine xr_ialz xi_49_18 rfl (by first | exact tI_n (by first | omega | (simp only [ri]; omega)) | exact tI_dn (by omega) (by omega) | assumption) (by first | omega | (simp only [ri]; omega)) (dF_0 hv) ?_
        refine xr_istore xi_49_19 (Nat.le_of_ble_eq_true rfl) rfl ?_
        refine xr_iload xi_49_21 rfl ?_
        refine xr_iconst (z := dI 0) xi_49_23 xm_m1 ?_
        refine xr_ic_eq xi_49_24 (by first | exact tI_n (by omega) | exact tI_d (by omega) | assumption | exact tI_e1 | exact tI_e2 | exact tI_e3 | exact tI_e4) (by first | exact tI_n (by omega) | exact tI_d (by omega) | assumption | exact tI_e1 | exact tI_e2 | exact tI_e3 | exact tI_e4) (fun c_ => ?_) (fun c_ => by exfalso; omega)
        exact no (fun q => by have := q.1.2; omega) _ _
      | succ s =>
        have hli : sLive G i := by
          refine ⟨?_, by omega⟩
          rcases Nat.lt_or_ge i (G 0) with q | q
          · exact q
          · have := hI.z (t := i) (w := 0) (by omega) (by omega) q
            omega
        have hag : A (s / 5) = sAge G i := by
          rw [hR.a (by omega)]
          unfold sAge sHome
          rw [← hs, hv]
          rfl
        have ha3 := hI.ag (t := i) (by omega)
        refine xr_iload xi_49_5 rfl ?_
        refine xr_bipush (z := nI 30) xi_49_7 rfl ?_
        refine xr_ic_ge xi_49_9 (by first | exact tI_n (by omega) | exact tI_d (by omega) | assumption | exact tI_e1 | exact tI_e2 | exact tI_e3 | exact tI_e4) (by first | exact tI_n (by omega) | exact tI_d (by omega) | assumption | exact tI_e1 | exact tI_e2 | exact tI_e3 | exact tI_e4) (fun c_ => by exfalso; omega) (fun c_ => ?_)
        refine xr_aload_n xi_49_12 rfl ?_
        refine xr_getf xi_49_13 rfl rfl ?_
        refine xr_iload xi_49_16 rfl ?_
        refine xr_ialz xi_49_18 rfl (by first | exact tI_n (by first | omega | (simp only [ri]; omega)) | exact tI_dn (by omega) (by omega) | assumption) (by first | omega | (simp only [ri]; omega)) (dF_s hv) ?_
        refine xr_istore xi_49_19 (Nat.le_of_ble_eq_true rfl) rfl ?_
        refine xr_iload xi_49_21 rfl ?_
        refine xr_iconst (z := dI 0) xi_49_23 xm_m1 ?_
        refine xr_ic_eq xi_49_24 (by first | exact tI_n (by omega) | exact tI_d (by omega) | assumption | exact tI_e1 | exact tI_e2 | exact tI_e3 | exact tI_e4) (by first | exact tI_n (by omega) | exact tI_d (by omega) | assumption | exact tI_e1 | exact tI_e2 | exact tI_e3 | exact tI_e4) (fun c_ => by exfalso; omega) (fun c_ => ?_)
        refine xr_aload_n xi_49_27 rfl ?_
        refine xr_getf xi_49_28 rfl rfl ?_
        refine xr_iload xi_49_31 rfl ?_
        refine xr_iconst (z := nI 5) xi_49_33 rfl ?_
        refine xr_idiv xi_49_34 (by decide) (by first | exact pk_div (by omega) (by omega) (by omega) | exact rfl) ?_
        refine xr_ialz xi_49_35 rfl (by first | exact tI_n (by first | omega | (simp only [ri]; omega)) | exact tI_dn (by omega) (by omega) | assumption) (by first | omega | (simp only [ri]; omega)) (congrArg dI hag) ?_
        refine xr_istore xi_49_36 (Nat.le_of_ble_eq_true rfl) rfl ?_
        refine xr_iload xi_49_38 rfl ?_
        refine xr_iload_n xi_49_40 rfl ?_
        refine xr_ic_lt xi_49_41 (by first | exact tI_n (by omega) | exact tI_d (by omega) | assumption | exact tI_e1 | exact tI_e2 | exact tI_e3 | exact tI_e4) (by first | exact tI_n (by omega) | exact tI_d (by omega) | assumption | exact tI_e1 | exact tI_e2 | exact tI_e3 | exact tI_e4) (fun c_41 => ?_) (fun c_41 => ?_)
        · exact no (fun q => by omega) _ _
        · refine xr_iload xi_49_44 rfl ?_
          refine xr_iload_n xi_49_46 rfl ?_
          refine xr_ic_gt xi_49_47 (by first | exact tI_n (by omega) | exact tI_d (by omega) | assumption | exact tI_e1 | exact tI_e2 | exact tI_e3 | exact tI_e4) (by first | exact tI_n (by omega) | exact tI_d (by omega) | assumption | exact tI_e1 | exact tI_e2 | exact tI_e3 | exact tI_e4) (fun c_47 => ?_) (fun c_47 => ?_)
          · exact no (fun q => by omega) _ _
          · refine xr_iload_n xi_49_50 rfl ?_
            refine xr_iconst (z := nI 1) xi_49_51 rfl ?_
            refine xr_iload xi_49_52 rfl ?_
            refine xr_ishl xi_49_54 rfl ?_
            refine xr_ior xi_49_55 (mk_step1 (P := fun t => sLive G t ∧ lo + 1 ≤ sAge G t ∧ sAge G t ≤ up + 1) (by omega) ⟨hli, by omega, by omega⟩) ?_
            refine xr_istore_n xi_49_56 (Nat.le_of_ble_eq_true rfl) rfl ?_
            refine xr_iinc xi_49_57 rfl (by first | exact nI_1 _ | exact rfl) rfl ?_
            refine xr_goto xi_49_60 ?_
            exact ih (i + 1) _ _ (by omega)
  refine xr_iconst xi_49_0 (show xm_i 0 = mk (fun t => t < 0 ∧ sLive G t ∧ lo + 1 ≤ sAge G t ∧ sAge G t ≤ up + 1) from mk_start _) ?_
  refine xr_istore_n xi_49_1 (Nat.le_of_ble_eq_true rfl) rfl ?_
  refine xr_iconst (z := nI 0) xi_49_2 rfl ?_
  refine xr_istore xi_49_3 (Nat.le_of_ble_eq_true rfl) rfl ?_
  exact key 30 0 _ _ (by omega)
theorem wv_concernedSet {a : Nat} (hR : vR A Gs Sp Ti Mv Hd pin c w f m G) (hI : sInv G) (ha : a < 10) (hQ : Q (some (.int (mk (sYoung G a)))) (vH A Gs Sp Ti Mv Hd pin c w f m)) : xc L xs 48 [.ref 0, .int (nI a)] (vH A Gs Sp Ti Mv Hd pin c w f m) Q := by
  have e : mk (fun t => sLive G t ∧ 0 + 1 ≤ sAge G t ∧ sAge G t ≤ a + 1) = mk (sYoung G a) := mk_congr (fun t _ => ⟨fun q => ⟨q.1, q.2.2⟩, fun q => ⟨q.1, hI.g q.1, q.2⟩⟩)
  refine xr_aload_n xi_48_0 rfl ?_
  refine xr_iconst (z := nI 0) xi_48_1 rfl ?_
  refine xr_iload_n xi_48_2 rfl ?_
  refine xr_virt xi_48_3 rfl rfl rfl rfl (Nat.le_of_ble_eq_true rfl) (Nat.le_of_ble_eq_true rfl) ?_
  refine wv_agesSet hR hI (by omega) ha ?_
  refine xr_k ?_
  refine xr_iret xi_48_6 (fun h => absurd h (by decide)) ?_
  rw [e]
  exact hQ
theorem wv_livingSet (hR : vR A Gs Sp Ti Mv Hd pin c w f m G) (hI : sInv G) (hQ : Q (some (.int (mk (sAll G)))) (vH A Gs Sp Ti Mv Hd pin c w f m)) : xc L xs 47 [.ref 0] (vH A Gs Sp Ti Mv Hd pin c w f m) Q := by
  have e : mk (fun t => sLive G t ∧ 0 + 1 ≤ sAge G t ∧ sAge G t ≤ 2 + 1) = mk (sAll G) := mk_congr (fun t _ => ⟨fun q => ⟨q.1, q.2.2⟩, fun q => ⟨q.1, hI.g q.1, q.2⟩⟩)
  refine xr_aload_n xi_47_0 rfl ?_
  refine xr_iconst (z := nI 0) xi_47_1 rfl ?_
  refine xr_iconst (z := nI 2) xi_47_2 rfl ?_
  refine xr_virt xi_47_3 rfl rfl rfl rfl (Nat.le_of_ble_eq_true rfl) (Nat.le_of_ble_eq_true rfl) ?_
  refine wv_agesSet hR hI (by omega) (by omega) ?_
  refine xr_k ?_
  refine xr_iret xi_47_6 (fun h => absurd h (by decide)) ?_
  rw [e]
  exact hQ
theorem wv_ageSet {a : Nat} (hR : vR A Gs Sp Ti Mv Hd pin c w f m G) (hI : sInv G) (ha : a < 10) (hQ : Q (some (.int (mk (sAged G (a + 1))))) (vH A Gs Sp Ti Mv Hd pin c w f m)) : xc L xs 46 [.ref 0, .int (nI a)] (vH A Gs Sp Ti Mv Hd pin c w f m) Q := by
  have e : mk (fun t => sLive G t ∧ a + 1 ≤ sAge G t ∧ sAge G t ≤ a + 1) = mk (sAged G (a + 1)) := mk_congr (fun t _ => ⟨fun q => ⟨q.1, by omega⟩, fun q => ⟨q.1, by have := q.2; omega, by have := q.2; omega⟩⟩)
  refine xr_aload_n xi_46_0 rfl ?_
  refine xr_iload_n xi_46_1 rfl ?_
  refine xr_iload_n xi_46_2 rfl ?_
  refine xr_virt xi_46_3 rfl rfl rfl rfl (Nat.le_of_ble_eq_true rfl) (Nat.le_of_ble_eq_true rfl) ?_
  refine wv_agesSet hR hI (by omega) (by omega) ?_
  refine xr_k ?_
  refine xr_iret xi_46_6 (fun h => absurd h (by decide)) ?_
  rw [e]
  exact hQ
theorem wv_rootSet (hR : vR A Gs Sp Ti Mv Hd pin c w f m G) (hI : sInv G) (hQ : Q (some (.int (mk (sRoots G)))) (vH A Gs Sp Ti Mv Hd pin c w f m)) : xc L xs 50 [.ref 0] (vH A Gs Sp Ti Mv Hd pin c w f m) Q := by
  have key : ∀ d i, i + d = 4 → xw L xs 50 7 [.ref 0, .int (mk (fun t => (∃ k, k < i ∧ G (12 + k) = t + 1) ∨ sPin G t)), .int (nI i)] [] (vH A Gs Sp Ti Mv Hd pin c w f m) Q := by
    intro d
    induction d with
    | zero =>
      intro i hi
      have e : i = 4 := by omega
      subst e
      refine xr_iload_n xi_50_7 rfl ?_
      refine xr_iconst (z := nI 4) xi_50_8 rfl ?_
      refine xr_ic_ge xi_50_9 (by first | exact tI_n (by omega) | exact tI_d (by omega) | assumption | exact tI_e1 | exact tI_e2 | exact tI_e3 | exact tI_e4) (by first | exact tI_n (by omega) | exact tI_d (by omega) | assumption | exact tI_e1 | exact tI_e2 | exact tI_e3 | exact tI_e4) (fun c_ => ?_) (fun c_ => by exfalso; omega)
      refine xr_iload_n xi_50_39 rfl ?_
      refine xr_iret xi_50_40 (fun h => absurd h (by decide)) ?_
      exact hQ
    | succ d ih =>
      intro i hi
      have hh := hR.h (k := i) (by omega)
      have h30 := (hI.h (k := i) (by omega)).1
      cases hv : Hd i with
      | zero =>
        refine xr_iload_n xi_50_7 rfl ?_
        refine xr_iconst (z := nI 4) xi_50_8 rfl ?_
        refine xr_ic_ge xi_50_9 (by first | exact tI_n (by omega) | exact tI_d (by omega) | assumption | exact tI_e1 | exact tI_e2 | exact tI_e3 | exact tI_e4) (by first | exact tI_n (by omega) | exact tI_d (by omega) | assumption | exact tI_e1 | exact tI_e2 | exact tI_e3 | exact tI_e4) (fun c_ => by exfalso; omega) (fun c_ => ?_)
        refine xr_aload_n xi_50_12 rfl ?_
        refine xr_getf xi_50_13 rfl rfl ?_
        refine xr_iload_n xi_50_16 rfl ?_
        refine xr_ialz xi_50_17 rfl (by first | exact tI_n (by first | omega | (simp only [ri]; omega)) | exact tI_dn (by omega) (by omega) | assumption) (by first | omega | (simp only [ri]; omega)) (dF_0 hv) ?_
        refine xr_iconst (z := dI 0) xi_50_18 xm_m1 ?_
        refine xr_ic_eq xi_50_19 (by first | exact tI_n (by omega) | exact tI_d (by omega) | assumption | exact tI_e1 | exact tI_e2 | exact tI_e3 | exact tI_e4) (by first | exact tI_n (by omega) | exact tI_d (by omega) | assumption | exact tI_e1 | exact tI_e2 | exact tI_e3 | exact tI_e4) (fun c_ => ?_) (fun c_ => by exfalso; omega)
        have e : mk (fun t => (∃ k, k < i ∧ G (12 + k) = t + 1) ∨ sPin G t) = mk (fun t => (∃ k, k < i + 1 ∧ G (12 + k) = t + 1) ∨ sPin G t) := by
          refine mk_congr (fun t _ => ⟨fun q => q.elim (fun ⟨k, h1, h2⟩ => Or.inl ⟨k, by omega, h2⟩) Or.inr, fun q => q.elim (fun ⟨k, h1, h2⟩ => Or.inl ⟨k, ?_, h2⟩) Or.inr⟩)
          have : k ≠ i := fun e => by rw [e] at h2; omega
          omega
        rw [e]
        refine xr_iinc xi_50_33 rfl (by first | exact nI_1 _ | exact rfl) rfl ?_
        refine xr_goto xi_50_36 ?_
        exact ih (i + 1) (by omega)
      | succ t =>
        refine xr_iload_n xi_50_7 rfl ?_
        refine xr_iconst (z := nI 4) xi_50_8 rfl ?_
        refine xr_ic_ge xi_50_9 (by first | exact tI_n (by omega) | exact tI_d (by omega) | assumption | exact tI_e1 | exact tI_e2 | exact tI_e3 | exact tI_e4) (by first | exact tI_n (by omega) | exact tI_d (by omega) | assumption | exact tI_e1 | exact tI_e2 | exact tI_e3 | exact tI_e4) (fun c_ => by exfalso; omega) (fun c_ => ?_)
        refine xr_aload_n xi_50_12 rfl ?_
        refine xr_getf xi_50_13 rfl rfl ?_
        refine xr_iload_n xi_50_16 rfl ?_
        refine xr_ialz xi_50_17 rfl (by first | exact tI_n (by first | omega | (simp only [ri]; omega)) | exact tI_dn (by omega) (by omega) | assumption) (by first | omega | (simp only [ri]; omega)) (dF_s hv) ?_
        refine xr_iconst (z := dI 0) xi_50_18 xm_m1 ?_
        refine xr_ic_eq xi_50_19 (by first | exact tI_n (by omega) | exact tI_d (by omega) | assumption | exact tI_e1 | exact tI_e2 | exact tI_e3 | exact tI_e4) (by first | exact tI_n (by omega) | exact tI_d (by omega) | assumption | exact tI_e1 | exact tI_e2 | exact tI_e3 | exact tI_e4) (fun c_ => by exfalso; omega) (fun c_ => ?_)
        refine xr_iload_n xi_50_22 rfl ?_
        refine xr_iconst (z := nI 1) xi_50_23 rfl ?_
        refine xr_aload_n xi_50_24 rfl ?_
        refine xr_getf xi_50_25 rfl rfl ?_
        refine xr_iload_n xi_50_28 rfl ?_
        refine xr_ialz xi_50_29 rfl (by first | exact tI_n (by first | omega | (simp only [ri]; omega)) | exact tI_dn (by omega) (by omega) | assumption) (by first | omega | (simp only [ri]; omega)) (dF_s hv) ?_
        refine xr_ishl xi_50_30 rfl ?_
        refine xr_ior xi_50_31 (mk_or1 _ (by omega)) ?_
        refine xr_istore_n xi_50_32 (Nat.le_of_ble_eq_true rfl) rfl ?_
        have e : mk (fun t' => ((∃ k, k < i ∧ G (12 + k) = t' + 1) ∨ sPin G t') ∨ t' = t) = mk (fun t => (∃ k, k < i + 1 ∧ G (12 + k) = t + 1) ∨ sPin G t) := by
          refine mk_congr (fun t' _ => ⟨?_, ?_⟩)
          · rintro ((⟨k, h1, h2⟩ | h1) | rfl)
            · exact Or.inl ⟨k, by omega, h2⟩
            · exact Or.inr h1
            · exact Or.inl ⟨i, by omega, by omega⟩
          · rintro (⟨k, h1, h2⟩ | h1)
            · by_cases e : k = i
              · rw [e] at h2
                exact Or.inr (by omega)
              · exact Or.inl (Or.inl ⟨k, by omega, h2⟩)
            · exact Or.inl (Or.inr h1)
        rw [e]
        refine xr_iinc xi_50_33 rfl (by first | exact nI_1 _ | exact rfl) rfl ?_
        refine xr_goto xi_50_36 ?_
        exact ih (i + 1) (by omega)
  refine xr_aload_n xi_50_0 rfl ?_
  refine xr_getf xi_50_1 rfl rfl ?_
  refine xr_istore_n xi_50_4 (Nat.le_of_ble_eq_true rfl) rfl ?_
  refine xr_iconst (z := nI 0) xi_50_5 rfl ?_
  refine xr_istore_n xi_50_6 (Nat.le_of_ble_eq_true rfl) rfl ?_
  have e : pin = mk (fun t => (∃ k, k < 0 ∧ G (12 + k) = t + 1) ∨ sPin G t) := (hR.pn hI).trans (mk_congr (fun t _ => ⟨Or.inr, fun q => q.elim (fun ⟨k, h, _⟩ => by omega) id⟩))
  have h0 := key 4 0 (by omega)
  rw [← e] at h0
  exact h0
theorem wv_tiedFrom {P : Nat → Prop} (hR : vR A Gs Sp Ti Mv Hd pin c w f m G) (hI : sInv G) (hQ : Q (some (.int (mk (sTied G P)))) (vH A Gs Sp Ti Mv Hd pin c w f m)) : xc L xs 53 [.ref 0, .int (mk P)] (vH A Gs Sp Ti Mv Hd pin c w f m) Q := by
  have key : ∀ d i x4 x5, i + d = 30 → xw L xs 53 4 [.ref 0, .int (mk P), .int (mk (fun j => ∃ t k, t < i ∧ k < 3 ∧ P t ∧ G (ri t (2 + k)) = j + 1)), .int (nI i), x4, x5] [] (vH A Gs Sp Ti Mv Hd pin c w f m) Q := by
    intro d
    induction d with
    | zero =>
      intro i x4 x5 hi
      have e : i = 30 := by omega
      subst e
      refine xr_iload_n xi_53_4 rfl ?_
      refine xr_bipush (z := nI 30) xi_53_5 rfl ?_
      refine xr_ic_ge xi_53_7 (by first | exact tI_n (by omega) | exact tI_d (by omega) | assumption | exact tI_e1 | exact tI_e2 | exact tI_e3 | exact tI_e4) (by first | exact tI_n (by omega) | exact tI_d (by omega) | assumption | exact tI_e1 | exact tI_e2 | exact tI_e3 | exact tI_e4) (fun c_ => ?_) (fun c_ => by exfalso; omega)
      refine xr_iload_n xi_53_65 rfl ?_
      refine xr_iret xi_53_66 (fun h => absurd h (by decide)) ?_
      have e : mk (fun j => ∃ t k, t < 30 ∧ k < 3 ∧ P t ∧ G (ri t (2 + k)) = j + 1) = mk (sTied G P) := by
        refine mk_congr (fun j _ => ⟨fun ⟨t, k, h1, h2, h3, h4⟩ => ⟨t, k, ?_, h2, h3, h4⟩, fun ⟨t, k, h1, h2, h3, h4⟩ => ⟨t, k, by have := hI.c; omega, h2, h3, h4⟩⟩)
        rcases Nat.lt_or_ge t (G 0) with q | q
        · exact q
        · have := hI.z h1 (w := 2 + k) (by omega) q
          omega
      rw [e]
      exact hQ
    | succ d ih =>
      intro i x4 x5 hi
      have next : ∀ (R : Nat → Prop) (x4 x5 : Value), (∀ j, j < 30 → (R j ↔ ∃ t k, t < i + 1 ∧ k < 3 ∧ P t ∧ G (ri t (2 + k)) = j + 1)) → xw L xs 53 59 [.ref 0, .int (mk P), .int (mk R), .int (nI i), x4, x5] [] (vH A Gs Sp Ti Mv Hd pin c w f m) Q := by
        intro R x4 x5 hR2
        rw [mk_congr hR2]
        refine xr_iinc xi_53_59 rfl (by first | exact nI_1 _ | exact rfl) rfl ?_
        refine xr_goto xi_53_62 ?_
        exact ih (i + 1) _ _ (by omega)
      rcases mk_test P (n := i) (by omega) with ⟨e0, hp⟩ | ⟨e0, hp⟩
      · have key2 : ∀ d2 s x5, s + d2 = 3 → xw L xs 53 21 [.ref 0, .int (mk P), .int (mk (fun j => (∃ t k, t < i ∧ k < 3 ∧ P t ∧ G (ri t (2 + k)) = j + 1) ∨ ∃ k, k < s ∧ G (ri i (2 + k)) = j + 1)), .int (nI i), .int (nI s), x5] [] (vH A Gs Sp Ti Mv Hd pin c w f m) Q := by
          intro d2
          induction d2 with
          | zero =>
            intro s x5 hm
            have e : s = 3 := by omega
            subst e
            refine xr_iload xi_53_21 rfl ?_
            refine xr_iconst (z := nI 3) xi_53_23 rfl ?_
            refine xr_ic_ge xi_53_24 (by first | exact tI_n (by omega) | exact tI_d (by omega) | assumption | exact tI_e1 | exact tI_e2 | exact tI_e3 | exact tI_e4) (by first | exact tI_n (by omega) | exact tI_d (by omega) | assumption | exact tI_e1 | exact tI_e2 | exact tI_e3 | exact tI_e4) (fun c_ => ?_) (fun c_ => by exfalso; omega)
            refine next _ _ _ (fun j _ => ⟨?_, ?_⟩)
            · rintro (⟨t, k, h1, h2, h3, h4⟩ | ⟨k, h1, h2⟩)
              · exact ⟨t, k, by omega, h2, h3, h4⟩
              · exact ⟨i, k, by omega, h1, hp, h2⟩
            · rintro ⟨t, k, h1, h2, h3, h4⟩
              by_cases e : t = i
              · subst e
                exact Or.inr ⟨k, h2, h4⟩
              · exact Or.inl ⟨t, k, by omega, h2, h3, h4⟩
          | succ d2 ih2 =>
            intro s x5 hm
            have hg := (hI.t (t := i) (k := s) (by omega) (by omega)).1
            have ht := hR.t (t := i) (k := s) (by omega) (by omega)
            rw [Nat.mul_comm] at ht
            cases hv : Ti (i * 3 + s) with
            | zero =>
              refine xr_iload xi_53_21 rfl ?_
              refine xr_iconst (z := nI 3) xi_53_23 rfl ?_
              refine xr_ic_ge xi_53_24 (by first | exact tI_n (by omega) | exact tI_d (by omega) | assumption | exact tI_e1 | exact tI_e2 | exact tI_e3 | exact tI_e4) (by first | exact tI_n (by omega) | exact tI_d (by omega) | assumption | exact tI_e1 | exact tI_e2 | exact tI_e3 | exact tI_e4) (fun c_ => by exfalso; omega) (fun c_ => ?_)
              refine xr_aload_n xi_53_27 rfl ?_
              refine xr_getf xi_53_28 rfl rfl ?_
              refine xr_iload_n xi_53_31 rfl ?_
              refine xr_iconst (z := nI 3) xi_53_32 rfl ?_
              refine xr_imul xi_53_33 (by first | exact pk_mul _ _ | exact rfl) ?_
              refine xr_iload xi_53_34 rfl ?_
              refine xr_iadd xi_53_36 (by first | exact nI_add _ _ | exact rfl) ?_
              refine xr_ialz xi_53_37 rfl (by first | exact tI_n (by first | omega | (simp only [ri]; omega)) | exact tI_dn (by omega) (by omega) | assumption) (by first | omega | (simp only [ri]; omega)) (dF_0 hv) ?_
              refine xr_istore xi_53_38 (Nat.le_of_ble_eq_true rfl) rfl ?_
              refine xr_iload xi_53_40 rfl ?_
              refine xr_iconst (z := dI 0) xi_53_42 xm_m1 ?_
              refine xr_ic_eq xi_53_43 (by first | exact tI_n (by omega) | exact tI_d (by omega) | assumption | exact tI_e1 | exact tI_e2 | exact tI_e3 | exact tI_e4) (by first | exact tI_n (by omega) | exact tI_d (by omega) | assumption | exact tI_e1 | exact tI_e2 | exact tI_e3 | exact tI_e4) (fun c_ => ?_) (fun c_ => by exfalso; omega)
              have e : mk (fun j => (∃ t k, t < i ∧ k < 3 ∧ P t ∧ G (ri t (2 + k)) = j + 1) ∨ ∃ k, k < s ∧ G (ri i (2 + k)) = j + 1) = mk (fun j => (∃ t k, t < i ∧ k < 3 ∧ P t ∧ G (ri t (2 + k)) = j + 1) ∨ ∃ k, k < s + 1 ∧ G (ri i (2 + k)) = j + 1) := by
                refine mk_congr (fun t _ => ⟨fun h => h.elim Or.inl (fun ⟨k, h1, h2⟩ => Or.inr ⟨k, by omega, h2⟩), fun h => h.elim Or.inl (fun ⟨k, h1, h2⟩ => Or.inr ⟨k, ?_, h2⟩)⟩)
                have : k ≠ s := fun e => by rw [e] at h2; omega
                omega
              rw [e]
              refine xr_iinc xi_53_53 rfl (by first | exact nI_1 _ | exact rfl) rfl ?_
              refine xr_goto xi_53_56 ?_
              exact ih2 (s + 1) _ (by omega)
            | succ u =>
              refine xr_iload xi_53_21 rfl ?_
              refine xr_iconst (z := nI 3) xi_53_23 rfl ?_
              refine xr_ic_ge xi_53_24 (by first | exact tI_n (by omega) | exact tI_d (by omega) | assumption | exact tI_e1 | exact tI_e2 | exact tI_e3 | exact tI_e4) (by first | exact tI_n (by omega) | exact tI_d (by omega) | assumption | exact tI_e1 | exact tI_e2 | exact tI_e3 | exact tI_e4) (fun c_ => by exfalso; omega) (fun c_ => ?_)
              refine xr_aload_n xi_53_27 rfl ?_
              refine xr_getf xi_53_28 rfl rfl ?_
              refine xr_iload_n xi_53_31 rfl ?_
              refine xr_iconst (z := nI 3) xi_53_32 rfl ?_
              refine xr_imul xi_53_33 (by first | exact pk_mul _ _ | exact rfl) ?_
              refine xr_iload xi_53_34 rfl ?_
              refine xr_iadd xi_53_36 (by first | exact nI_add _ _ | exact rfl) ?_
              refine xr_ialz xi_53_37 rfl (by first | exact tI_n (by first | omega | (simp only [ri]; omega)) | exact tI_dn (by omega) (by omega) | assumption) (by first | omega | (simp only [ri]; omega)) (dF_s hv) ?_
              refine xr_istore xi_53_38 (Nat.le_of_ble_eq_true rfl) rfl ?_
              refine xr_iload xi_53_40 rfl ?_
              refine xr_iconst (z := dI 0) xi_53_42 xm_m1 ?_
              refine xr_ic_eq xi_53_43 (by first | exact tI_n (by omega) | exact tI_d (by omega) | assumption | exact tI_e1 | exact tI_e2 | exact tI_e3 | exact tI_e4) (by first | exact tI_n (by omega) | exact tI_d (by omega) | assumption | exact tI_e1 | exact tI_e2 | exact tI_e3 | exact tI_e4) (fun c_ => by exfalso; omega) (fun c_ => ?_)
              refine xr_iload_n xi_53_46 rfl ?_
              refine xr_iconst (z := nI 1) xi_53_47 rfl ?_
              refine xr_iload xi_53_48 rfl ?_
              refine xr_ishl xi_53_50 rfl ?_
              refine xr_ior xi_53_51 (mk_or1 _ (by omega)) ?_
              refine xr_istore_n xi_53_52 (Nat.le_of_ble_eq_true rfl) rfl ?_
              have e : mk (fun j => ((∃ t k, t < i ∧ k < 3 ∧ P t ∧ G (ri t (2 + k)) = j + 1) ∨ ∃ k, k < s ∧ G (ri i (2 + k)) = j + 1) ∨ j = u) = mk (fun j => (∃ t k, t < i ∧ k < 3 ∧ P t ∧ G (ri t (2 + k)) = j + 1) ∨ ∃ k, k < s + 1 ∧ G (ri i (2 + k)) = j + 1) := by
                refine mk_congr (fun t _ => ⟨?_, ?_⟩)
                · rintro ((h | ⟨k, h1, h2⟩) | rfl)
                  · exact Or.inl h
                  · exact Or.inr ⟨k, by omega, h2⟩
                  · exact Or.inr ⟨s, by omega, by omega⟩
                · rintro (h | ⟨k, h1, h2⟩)
                  · exact Or.inl (Or.inl h)
                  · by_cases e : k = s
                    · rw [e] at h2
                      exact Or.inr (by omega)
                    · exact Or.inl (Or.inr ⟨k, by omega, h2⟩)
              rw [e]
              refine xr_iinc xi_53_53 rfl (by first | exact nI_1 _ | exact rfl) rfl ?_
              refine xr_goto xi_53_56 ?_
              exact ih2 (s + 1) _ (by omega)
        refine xr_iload_n xi_53_4 rfl ?_
        refine xr_bipush (z := nI 30) xi_53_5 rfl ?_
        refine xr_ic_ge xi_53_7 (by first | exact tI_n (by omega) | exact tI_d (by omega) | assumption | exact tI_e1 | exact tI_e2 | exact tI_e3 | exact tI_e4) (by first | exact tI_n (by omega) | exact tI_d (by omega) | assumption | exact tI_e1 | exact tI_e2 | exact tI_e3 | exact tI_e4) (fun c_ => by exfalso; omega) (fun c_ => ?_)
        refine xr_iload_n xi_53_10 rfl ?_
        refine xr_iload_n xi_53_11 rfl ?_
        refine xr_ishr xi_53_12 rfl ?_
        refine xr_iconst (z := nI 1) xi_53_13 rfl ?_
        refine xr_iand xi_53_14 (e0) ?_
        refine xr_if_eq xi_53_15 (by first | exact tI_n (by omega) | exact tI_d (by omega) | assumption | exact tI_e1 | exact tI_e2 | exact tI_e3 | exact tI_e4) (fun c_ => by exfalso; omega) (fun c_ => ?_)
        refine xr_iconst (z := nI 0) xi_53_18 rfl ?_
        refine xr_istore xi_53_19 (Nat.le_of_ble_eq_true rfl) rfl ?_
        have h0 := key2 3 0 x5 (by omega)
        have e : mk (fun j => (∃ t k, t < i ∧ k < 3 ∧ P t ∧ G (ri t (2 + k)) = j + 1) ∨ ∃ k, k < 0 ∧ G (ri i (2 + k)) = j + 1) = mk (fun j => ∃ t k, t < i ∧ k < 3 ∧ P t ∧ G (ri t (2 + k)) = j + 1) := mk_congr (fun j _ => ⟨fun h => h.elim id (fun ⟨k, h, _⟩ => by omega), Or.inl⟩)
        rw [e] at h0
        exact h0
      · refine xr_iload_n xi_53_4 rfl ?_
        refine xr_bipush (z := nI 30) xi_53_5 rfl ?_
        refine xr_ic_ge xi_53_7 (by first | exact tI_n (by omega) | exact tI_d (by omega) | assumption | exact tI_e1 | exact tI_e2 | exact tI_e3 | exact tI_e4) (by first | exact tI_n (by omega) | exact tI_d (by omega) | assumption | exact tI_e1 | exact tI_e2 | exact tI_e3 | exact tI_e4) (fun c_ => by exfalso; omega) (fun c_ => ?_)
        refine xr_iload_n xi_53_10 rfl ?_
        refine xr_iload_n xi_53_11 rfl ?_
        refine xr_ishr xi_53_12 rfl ?_
        refine xr_iconst (z := nI 1) xi_53_13 rfl ?_
        refine xr_iand xi_53_14 (e0) ?_
        refine xr_if_eq xi_53_15 (by first | exact tI_n (by omega) | exact tI_d (by omega) | assumption | exact tI_e1 | exact tI_e2 | exact tI_e3 | exact tI_e4) (fun c_ => ?_) (fun c_ => by exfalso; omega)
        refine next _ _ _ (fun j _ => ⟨fun ⟨t, k, h1, h2, h3, h4⟩ => ⟨t, k, by omega, h2, h3, h4⟩, fun ⟨t, k, h1, h2, h3, h4⟩ => ⟨t, k, ?_, h2, h3, h4⟩⟩)
        have : t ≠ i := fun q => hp (q ▸ h3)
        omega
  refine xr_iconst xi_53_0 (show xm_i 0 = mk (fun j => ∃ t k, t < 0 ∧ k < 3 ∧ P t ∧ G (ri t (2 + k)) = j + 1) from mk_0.trans (mk_congr (fun t _ => ⟨fun h => h.elim, fun ⟨t, k, h, _⟩ => by omega⟩))) ?_
  refine xr_istore_n xi_53_1 (Nat.le_of_ble_eq_true rfl) rfl ?_
  refine xr_iconst (z := nI 0) xi_53_2 rfl ?_
  refine xr_istore_n xi_53_3 (Nat.le_of_ble_eq_true rfl) rfl ?_
  exact key 30 0 .null .null (by omega)
theorem wv_reach {F I : Nat → Prop} (hR : vR A Gs Sp Ti Mv Hd pin c w f m G) (hI : sInv G) (hQ : Q (some (.int (mk (sReach G I F)))) (vH A Gs Sp Ti Mv Hd pin c w f m)) : xc L xs 54 [.ref 0, .int (mk F), .int (mk I)] (vH A Gs Sp Ti Mv Hd pin c w f m) Q := by
  have key : ∀ d n, n + d = 30 → xw L xs 54 10 [.ref 0, .int (mk F), .int (mk I), .int (mk (rch G I F n).1), .int (mk (rch G I F n).2), .int (nI n)] [] (vH A Gs Sp Ti Mv Hd pin c w f m) Q := by
    intro d
    induction d with
    | zero =>
      intro n hn
      have e : n = 30 := by omega
      subst e
      refine xr_iload xi_54_10 rfl ?_
      refine xr_bipush (z := nI 30) xi_54_12 rfl ?_
      refine xr_ic_ge xi_54_14 (by first | exact tI_n (by omega) | exact tI_d (by omega) | assumption | exact tI_e1 | exact tI_e2 | exact tI_e3 | exact tI_e4) (by first | exact tI_n (by omega) | exact tI_d (by omega) | assumption | exact tI_e1 | exact tI_e2 | exact tI_e3 | exact tI_e4) (fun c_ => ?_) (fun c_ => by exfalso; omega)
      refine xr_iload_n xi_54_47 rfl ?_
      refine xr_iret xi_54_48 (fun h => absurd h (by decide)) ?_
      exact hQ
    | succ d ih =>
      intro n hn
      refine xr_iload xi_54_10 rfl ?_
      refine xr_bipush (z := nI 30) xi_54_12 rfl ?_
      refine xr_ic_ge xi_54_14 (by first | exact tI_n (by omega) | exact tI_d (by omega) | assumption | exact tI_e1 | exact tI_e2 | exact tI_e3 | exact tI_e4) (by first | exact tI_n (by omega) | exact tI_d (by omega) | assumption | exact tI_e1 | exact tI_e2 | exact tI_e3 | exact tI_e4) (fun c_ => by exfalso; omega) (fun c_ => ?_)
      refine xr_iload xi_54_17 rfl ?_
      refine xr_if_eqz xi_54_19 (fun c => ?_) (fun c => ?_)
      · refine xr_iload_n xi_54_47 rfl ?_
        refine xr_iret xi_54_48 (fun h => absurd h (by decide)) ?_
        rw [sReach_at hI.c (by omega) (mk_eq0.mp c)]
        exact hQ
      · refine xr_aload_n xi_54_22 rfl ?_
        refine xr_iload xi_54_23 rfl ?_
        refine xr_virt xi_54_25 rfl rfl rfl rfl (Nat.le_of_ble_eq_true rfl) (Nat.le_of_ble_eq_true rfl) ?_
        refine wv_tiedFrom hR hI ?_
        refine xr_k ?_
        refine xr_iload_n xi_54_28 rfl ?_
        refine xr_iand xi_54_29 (mk_and _ _) ?_
        refine xr_iload_n xi_54_30 rfl ?_
        refine xr_iconst (z := dI 0) xi_54_31 xm_m1 ?_
        refine xr_ixor xi_54_32 rfl ?_
        refine xr_iand xi_54_33 (mk_andn _ _) ?_
        refine xr_istore xi_54_34 (Nat.le_of_ble_eq_true rfl) rfl ?_
        refine xr_iload_n xi_54_36 rfl ?_
        refine xr_iload xi_54_37 rfl ?_
        refine xr_ior xi_54_39 (mk_or _ _) ?_
        refine xr_istore_n xi_54_40 (Nat.le_of_ble_eq_true rfl) rfl ?_
        refine xr_iinc xi_54_41 rfl (by first | exact nI_1 _ | exact rfl) rfl ?_
        refine xr_goto xi_54_44 ?_
        exact ih (n + 1) (by omega)
  refine xr_iload_n xi_54_0 rfl ?_
  refine xr_iload_n xi_54_1 rfl ?_
  refine xr_iand xi_54_2 (mk_and _ _) ?_
  refine xr_istore_n xi_54_3 (Nat.le_of_ble_eq_true rfl) rfl ?_
  refine xr_iload_n xi_54_4 rfl ?_
  refine xr_istore xi_54_5 (Nat.le_of_ble_eq_true rfl) rfl ?_
  refine xr_iconst (z := nI 0) xi_54_7 rfl ?_
  refine xr_istore xi_54_8 (Nat.le_of_ble_eq_true rfl) rfl ?_
  exact key 30 0 (by omega)
theorem wv_neededSet (hR : vR A Gs Sp Ti Mv Hd pin c w f m G) (hI : sInv G) (hQ : Q (some (.int (mk (sNeed G)))) (vH A Gs Sp Ti Mv Hd pin c w f m)) : xc L xs 51 [.ref 0] (vH A Gs Sp Ti Mv Hd pin c w f m) Q := by
  refine xr_aload_n xi_51_0 rfl ?_
  refine xr_aload_n xi_51_1 rfl ?_
  refine xr_virt xi_51_2 rfl rfl rfl rfl (Nat.le_of_ble_eq_true rfl) (Nat.le_of_ble_eq_true rfl) ?_
  refine wv_rootSet hR hI ?_
  refine xr_k ?_
  refine xr_aload_n xi_51_5 rfl ?_
  refine xr_virt xi_51_6 rfl rfl rfl rfl (Nat.le_of_ble_eq_true rfl) (Nat.le_of_ble_eq_true rfl) ?_
  refine wv_livingSet hR hI ?_
  refine xr_k ?_
  refine xr_virt xi_51_9 rfl rfl rfl rfl (Nat.le_of_ble_eq_true rfl) (Nat.le_of_ble_eq_true rfl) ?_
  refine wv_reach hR hI ?_
  refine xr_k ?_
  refine xr_iret xi_51_12 (fun h => absurd h (by decide)) ?_
  exact hQ
theorem wv_survivingSet {a : Nat} (ha : a < 2) (hR : vR A Gs Sp Ti Mv Hd pin c w f m G) (hI : sInv G) (hQ : Q (some (.int (mk (sSurv G a)))) (vH A Gs Sp Ti Mv Hd pin c w f m)) : xc L xs 52 [.ref 0, .int (nI a)] (vH A Gs Sp Ti Mv Hd pin c w f m) Q := by
  refine xr_aload_n xi_52_0 rfl ?_
  refine xr_iload_n xi_52_1 rfl ?_
  refine xr_virt xi_52_2 rfl rfl rfl rfl (Nat.le_of_ble_eq_true rfl) (Nat.le_of_ble_eq_true rfl) ?_
  refine wv_concernedSet hR hI (by omega) ?_
  refine xr_k ?_
  refine xr_istore_n xi_52_5 (Nat.le_of_ble_eq_true rfl) rfl ?_
  refine xr_aload_n xi_52_6 rfl ?_
  refine xr_aload_n xi_52_7 rfl ?_
  refine xr_virt xi_52_8 rfl rfl rfl rfl (Nat.le_of_ble_eq_true rfl) (Nat.le_of_ble_eq_true rfl) ?_
  refine wv_livingSet hR hI ?_
  refine xr_k ?_
  refine xr_iload_n xi_52_11 rfl ?_
  refine xr_iconst (z := dI 0) xi_52_12 xm_m1 ?_
  refine xr_ixor xi_52_13 rfl ?_
  refine xr_iand xi_52_14 (mk_andn _ _) ?_
  refine xr_virt xi_52_15 rfl rfl rfl rfl (Nat.le_of_ble_eq_true rfl) (Nat.le_of_ble_eq_true rfl) ?_
  refine wv_tiedFrom hR hI ?_
  refine xr_k ?_
  refine xr_istore_n xi_52_18 (Nat.le_of_ble_eq_true rfl) rfl ?_
  refine xr_aload_n xi_52_19 rfl ?_
  refine xr_aload_n xi_52_20 rfl ?_
  refine xr_virt xi_52_21 rfl rfl rfl rfl (Nat.le_of_ble_eq_true rfl) (Nat.le_of_ble_eq_true rfl) ?_
  refine wv_rootSet hR hI ?_
  refine xr_k ?_
  refine xr_iload_n xi_52_24 rfl ?_
  refine xr_ior xi_52_25 (mk_or _ _) ?_
  refine xr_iload_n xi_52_26 rfl ?_
  refine xr_virt xi_52_27 rfl rfl rfl rfl (Nat.le_of_ble_eq_true rfl) (Nat.le_of_ble_eq_true rfl) ?_
  refine wv_reach hR hI ?_
  refine xr_k ?_
  refine xr_iret xi_52_30 (fun h => absurd h (by decide)) ?_
  exact hQ
end V2
