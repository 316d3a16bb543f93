/-! the program's other reading calls -/
section W6
variable {L : Nat} {xs : Nat → Int32} {Q : Option Value → xm_H → Prop} {ln st : Nat} {tx Z G : Nat → Nat} {H : xm_H}
theorem ww_noteAt {x : Int32} (hS : wS H tx ln st Z G) (hI : sInv G) (h1 : ∀ i, i < 2147483648 → x = nI i → Q (some (.int (qNote G i))) H) (h2 : x.toInt < 0 → Q (some (.int xE1)) H) : xc L xs 68 [.ref 0, .int x] H Q := by
  obtain ⟨fs, pr, nu, po, sta, rea, R, rfl, hf, hX⟩ := hS
  obtain ⟨⟨A, Gs, Sp, Ti, Mv, Hd, pin, c, w, f, m⟩, hv, hr⟩ := wX_now hX
  have hr : vR A Gs Sp Ti Mv Hd pin c w f m G := hr
  refine xr_iload_n xi_68_0 rfl ?_
  refine xr_if_ge xi_68_1 (rfl) (fun c_1 => ?_) (fun c_1 => ?_)
  · have hx := Int32.toInt_lt x
    obtain ⟨i0, hi0, rfl⟩ : ∃ i0, i0 < 2147483648 ∧ x = nI i0 := ⟨x.toInt.toNat, by omega, Int32.toInt_inj.mp (by rw [tI_n (by omega)]; omega)⟩
    have h3 := h1 i0 hi0 rfl
    have key : ∀ d i x5, i + d = 30 → cnt (sNf G) (3 * i) ≤ i0 → xw L xs 68 17 [.ref 0, .int (nI i0), .ref (5 + 7 * pr), .int (nI (i0 - cnt (sNf G) (3 * i))), .int (nI i), x5] [] (wT fs pr st tx nu ln po sta rea ++ R) Q := by
      intro d
      induction d with
      | zero =>
        intro i x5 hi hcn
        have e : i = 30 := by omega
        subst e
        rw [qNote_none hcn] at h3
        refine xr_iload xi_68_17 rfl ?_
        refine xr_bipush (z := nI 30) xi_68_19 rfl ?_
        refine xr_ic_ge xi_68_21 (by first | exact tI_n (by omega) | exact tI_d (by omega) | assumption | exact tI_e1 | exact tI_e2 | exact tI_e3 | exact tI_e4) (by first | exact tI_n (by omega) | exact tI_d (by omega) | assumption | exact tI_e1 | exact tI_e2 | exact tI_e3 | exact tI_e4) (fun c_ => ?_) (fun c_ => by exfalso; omega)
        refine xr_ldc (z := xE4) xi_68_72 rfl ?_
        refine xr_iret xi_68_74 (fun h => absurd h (by decide)) ?_
        exact h3
      | succ d ih =>
        intro i x5 hi hcn
        have key2 : ∀ d2 s, s + d2 = 3 → cnt (sNf G) (3 * i + s) ≤ i0 → xw L xs 68 27 [.ref 0, .int (nI i0), .ref (5 + 7 * pr), .int (nI (i0 - cnt (sNf G) (3 * i + s))), .int (nI i), .int (nI s)] [] (wT fs pr st tx nu ln po sta rea ++ R) Q := by
          intro d2
          induction d2 with
          | zero =>
            intro s hs hcn
            have e : s = 3 := by omega
            subst e
            refine xr_iload xi_68_27 rfl ?_
            refine xr_iconst (z := nI 3) xi_68_29 rfl ?_
            refine xr_ic_ge xi_68_30 (by first | exact tI_n (by omega) | exact tI_d (by omega) | assumption | exact tI_e1 | exact tI_e2 | exact tI_e3 | exact tI_e4) (by first | exact tI_n (by omega) | exact tI_d (by omega) | assumption | exact tI_e1 | exact tI_e2 | exact tI_e3 | exact tI_e4) (fun c_ => ?_) (fun c_ => by exfalso; omega)
            refine xr_iinc xi_68_66 rfl (by first | exact nI_1 _ | exact rfl) rfl ?_
            refine xr_goto xi_68_69 ?_
            exact ih (i + 1) _ (by omega) hcn
          | succ d2 ih2 =>
            intro s hs hcn
            have e1 : (3 * i + s) / 3 = i := by omega
            have e2 : (3 * i + s) % 3 = s := by omega
            have e3 : sNf G (3 * i + s) ↔ sNoted G i s := by unfold sNf; rw [e1, e2]
            refine xr_iload xi_68_27 rfl ?_
            refine xr_iconst (z := nI 3) xi_68_29 rfl ?_
            refine xr_ic_ge xi_68_30 (by first | exact tI_n (by omega) | exact tI_d (by omega) | assumption | exact tI_e1 | exact tI_e2 | exact tI_e3 | exact tI_e4) (by first | exact tI_n (by omega) | exact tI_d (by omega) | assumption | exact tI_e1 | exact tI_e2 | exact tI_e3 | exact tI_e4) (fun c_ => by exfalso; omega) (fun c_ => ?_)
            refine xr_aload_n xi_68_33 rfl ?_
            refine xr_iload xi_68_34 rfl ?_
            refine xr_iload xi_68_36 rfl ?_
            refine xr_virt xi_68_38 rfl rfl (hv.1 0 _ rfl) rfl (Nat.le_of_ble_eq_true rfl) (Nat.le_of_ble_eq_true rfl) ?_
            refine xc_rd (as := [.ref 0, .int (nI i), .int (nI s)]) hv rfl (wv_isNoted hr hI (by omega) (by omega) (fun q => ⟨rfl, ?_⟩) (fun q => ⟨rfl, ?_⟩))
            · have hup := cnt_up (P := sNf G) (n := 3 * i + s) (e3.mpr q)
              refine xr_k ?_
              refine xr_if_eq xi_68_41 (by first | exact tI_n (by omega) | exact tI_d (by omega) | assumption | exact tI_e1 | exact tI_e2 | exact tI_e3 | exact tI_e4) (fun c_ => by exfalso; omega) (fun c_ => ?_)
              refine xr_iload_n xi_68_44 rfl ?_
              refine xr_if_ne xi_68_45 (by first | exact tI_n (by omega) | exact tI_d (by omega) | assumption | exact tI_e1 | exact tI_e2 | exact tI_e3 | exact tI_e4) (fun c_45 => ?_) (fun c_45 => ?_)
              · refine xr_iinc xi_68_57 rfl (by first | exact nI_m1 (by omega) | exact rfl) rfl ?_
                rw [show i0 - cnt (sNf G) (3 * i + s) - 1 = i0 - cnt (sNf G) (3 * i + s + 1) by omega]
                refine xr_iinc xi_68_60 rfl (by first | exact nI_1 _ | exact rfl) rfl ?_
                refine xr_goto xi_68_63 ?_
                exact ih2 (s + 1) (by omega) (by rw [show 3 * i + (s + 1) = 3 * i + s + 1 by omega]; omega)
              · rw [qNote_some (j := 3 * i + s) (by omega) (e3.mpr q) (by omega), e1, e2] at h3
                refine xr_bipush (z := nI 10) xi_68_48 rfl ?_
                refine xr_iload xi_68_50 rfl ?_
                refine xr_imul xi_68_52 (by first | exact pk_mul _ _ | exact rfl) ?_
                refine xr_iload xi_68_53 rfl ?_
                refine xr_iadd xi_68_55 (by first | exact nI_add _ _ | exact rfl) ?_
                refine xr_iret xi_68_56 (fun h => absurd h (by decide)) ?_
                exact h3
            · have hst := cnt_st (P := sNf G) (n := 3 * i + s) (fun z => q (e3.mp z))
              refine xr_k ?_
              rw [← hst]
              refine xr_if_eq xi_68_41 (by first | exact tI_n (by omega) | exact tI_d (by omega) | assumption | exact tI_e1 | exact tI_e2 | exact tI_e3 | exact tI_e4) (fun c_ => ?_) (fun c_ => by exfalso; omega)
              refine xr_iinc xi_68_60 rfl (by first | exact nI_1 _ | exact rfl) rfl ?_
              refine xr_goto xi_68_63 ?_
              exact ih2 (s + 1) (by omega) (by rw [show 3 * i + (s + 1) = 3 * i + s + 1 by omega, hst]; exact hcn)
        refine xr_iload xi_68_17 rfl ?_
        refine xr_bipush (z := nI 30) xi_68_19 rfl ?_
        refine xr_ic_ge xi_68_21 (by first | exact tI_n (by omega) | exact tI_d (by omega) | assumption | exact tI_e1 | exact tI_e2 | exact tI_e3 | exact tI_e4) (by first | exact tI_n (by omega) | exact tI_d (by omega) | assumption | exact tI_e1 | exact tI_e2 | exact tI_e3 | exact tI_e4) (fun c_ => by exfalso; omega) (fun c_ => ?_)
        refine xr_iconst (z := nI 0) xi_68_24 rfl ?_
        refine xr_istore xi_68_25 (Nat.le_of_ble_eq_true rfl) rfl ?_
        exact key2 3 0 (by omega) hcn
    refine xr_aload_n xi_68_7 rfl ?_
    refine xr_virt xi_68_8 rfl rfl rfl rfl (Nat.le_of_ble_eq_true rfl) (Nat.le_of_ble_eq_true rfl) ?_
    refine ww_now hf hX.2.1 ?_
    refine xr_k ?_
    refine xr_astore_n xi_68_11 (Nat.le_of_ble_eq_true rfl) rfl ?_
    refine xr_iload_n xi_68_12 rfl ?_
    refine xr_istore_n xi_68_13 (Nat.le_of_ble_eq_true rfl) rfl ?_
    refine xr_iconst (z := nI 0) xi_68_14 rfl ?_
    refine xr_istore xi_68_15 (Nat.le_of_ble_eq_true rfl) rfl ?_
    exact key 30 0 _ (by omega) (Nat.zero_le _)
  · refine xr_ldc (z := xE1) xi_68_4 rfl ?_
    refine xr_iret xi_68_6 (fun h => absurd h (by decide)) ?_
    exact h2 (by omega)
theorem ww_needed {x : Int32} (hS : wS H tx ln st Z G) (hI : sInv G) (h1 : x = nI 0 → Q (some (.int (mk (sNeed G)))) H) (h2 : x = nI 1 → Q (some (.int (mk (sForg G)))) H) (h3 : x ≠ nI 0 → x ≠ nI 1 → Q (some (.int xE1)) H) : xc L xs 69 [.ref 0, .int x] H Q := by
  obtain ⟨fs, pr, nu, po, sta, rea, R, rfl, hf, hX⟩ := hS
  obtain ⟨⟨A, Gs, Sp, Ti, Mv, Hd, pin, c, w, f, m⟩, hv, hr⟩ := wX_now hX
  have hr : vR A Gs Sp Ti Mv Hd pin c w f m G := hr
  have e : mk (fun t => sAll G t ∧ ¬ sNeed G t) = mk (sForg G) := rfl
  refine xr_aload_n xi_69_0 rfl ?_
  refine xr_virt xi_69_1 rfl rfl rfl rfl (Nat.le_of_ble_eq_true rfl) (Nat.le_of_ble_eq_true rfl) ?_
  refine ww_now hf hX.2.1 ?_
  refine xr_k ?_
  refine xr_astore_n xi_69_4 (Nat.le_of_ble_eq_true rfl) rfl ?_
  refine xr_iload_n xi_69_5 rfl ?_
  by_cases x0 : x = nI 0
  · subst x0
    refine xr_lsw xi_69_6 (by first | exact tI_n (by omega) | exact tI_d (by omega) | assumption | exact tI_e1 | exact tI_e2 | exact tI_e3 | exact tI_e4) (t := 32) (by decide) ?_
    refine xr_aload_n xi_69_32 rfl ?_
    refine xr_virt xi_69_33 rfl rfl (hv.1 0 _ rfl) rfl (Nat.le_of_ble_eq_true rfl) (Nat.le_of_ble_eq_true rfl) ?_
    refine xc_rd (as := [.ref 0]) hv rfl (wv_neededSet hr hI ⟨rfl, ?_⟩)
    refine xr_k ?_
    refine xr_iret xi_69_36 (fun h => absurd h (by decide)) ?_
    exact h1 rfl
  by_cases x1 : x = nI 1
  · subst x1
    refine xr_lsw xi_69_6 (by first | exact tI_n (by omega) | exact tI_d (by omega) | assumption | exact tI_e1 | exact tI_e2 | exact tI_e3 | exact tI_e4) (t := 37) (by decide) ?_
    refine xr_aload_n xi_69_37 rfl ?_
    refine xr_virt xi_69_38 rfl rfl (hv.1 0 _ rfl) rfl (Nat.le_of_ble_eq_true rfl) (Nat.le_of_ble_eq_true rfl) ?_
    refine xc_rd (as := [.ref 0]) hv rfl (wv_livingSet hr hI ⟨rfl, ?_⟩)
    refine xr_k ?_
    refine xr_aload_n xi_69_41 rfl ?_
    refine xr_virt xi_69_42 rfl rfl (hv.1 0 _ rfl) rfl (Nat.le_of_ble_eq_true rfl) (Nat.le_of_ble_eq_true rfl) ?_
    refine xc_rd (as := [.ref 0]) hv rfl (wv_neededSet hr hI ⟨rfl, ?_⟩)
    refine xr_k ?_
    refine xr_iconst (z := dI 0) xi_69_45 xm_m1 ?_
    refine xr_ixor xi_69_46 rfl ?_
    refine xr_iand xi_69_47 ((mk_andn _ _).trans e) ?_
    refine xr_iret xi_69_48 (fun h => absurd h (by decide)) ?_
    exact h2 rfl
  have n0 : ¬ x.toInt = 0 := fun q => x0 (Int32.toInt_inj.mp (by rw [q, tI_n (by omega)]; rfl))
  have n1 : ¬ x.toInt = 1 := fun q => x1 (Int32.toInt_inj.mp (by rw [q, tI_n (by omega)]; rfl))
  refine xr_lsw xi_69_6 rfl (t := 49) ?_ ?_
  · have m0 : ¬ (0 : Int) = x.toInt := fun q => n0 q.symm
    have m1 : ¬ (1 : Int) = x.toInt := fun q => n1 q.symm
    simp only [Op.lookupswitch.offset, n0, n1, m0, m1, if_false, beq_iff_eq, List.find?]
    rfl
  refine xr_ldc (z := xE1) xi_69_49 rfl ?_
  refine xr_iret xi_69_51 (fun h => absurd h (by decide)) ?_
  exact h3 x0 x1
theorem ww_survivors {x y : Int32} (hS : wS H tx ln st Z G) (hI : sInv G) (h1 : ∀ a u H', a < 2 → u < 4 → x = nI a → y = nI u → wS H' tx ln st Z G → Q (some (.int (qSurv G a u))) H') (h2 : (¬ ∃ a w, a < 2 ∧ w < 4 ∧ x = nI a ∧ y = nI w) → Q (some (.int xE1)) H) : xc L xs 70 [.ref 0, .int x, .int y] H Q := by
  have hS0 := hS
  obtain ⟨fs, pr, nu, po, sta, rea, R, rfl, hf, hX⟩ := hS
  obtain ⟨⟨A, Gs, Sp, Ti, Mv, Hd, pin, c, w, f, m⟩, hv, hr⟩ := wX_now hX
  have hr : vR A Gs Sp Ti Mv Hd pin c w f m G := hr
  have hp := hr.pn hI
  subst hp
  have bad : ¬ (0 ≤ x.toInt ∧ x.toInt < 2) → ¬ ∃ a w, a < 2 ∧ w < 4 ∧ x = nI a ∧ y = nI w := fun q ⟨k, u, q1, _, q3, _⟩ => q (by rw [q3, tI_n (by omega)]; omega)
  refine xr_iload_n xi_70_0 rfl ?_
  refine xr_if_lt xi_70_1 (rfl) (fun c_1 => ?_) (fun c_1 => ?_)
  · refine xr_ldc (z := xE1) xi_70_9 rfl ?_
    refine xr_iret xi_70_11 (fun h => absurd h (by decide)) ?_
    exact h2 (bad (by omega))
  · refine xr_iload_n xi_70_4 rfl ?_
    refine xr_iconst (z := nI 2) xi_70_5 rfl ?_
    refine xr_ic_lt xi_70_6 (rfl) (by first | exact tI_n (by omega) | exact tI_d (by omega) | assumption | exact tI_e1 | exact tI_e2 | exact tI_e3 | exact tI_e4) (fun c_6 => ?_) (fun c_6 => ?_)
    · obtain ⟨a, ha, rfl⟩ := x_of (n := 2) c_1 c_6 (by omega)
      have eg : mk (fun t => sYoung G a t ∧ ¬ sSurv G a t) = mk (sGone G a) := rfl
      refine xr_aload_n xi_70_12 rfl ?_
      refine xr_virt xi_70_13 rfl rfl rfl rfl (Nat.le_of_ble_eq_true rfl) (Nat.le_of_ble_eq_true rfl) ?_
      refine ww_now hf hX.2.1 ?_
      refine xr_k ?_
      refine xr_astore_n xi_70_16 (Nat.le_of_ble_eq_true rfl) rfl ?_
      refine xr_aload_n xi_70_17 rfl ?_
      refine xr_iload_n xi_70_18 rfl ?_
      refine xr_virt xi_70_19 rfl rfl (hv.1 0 _ rfl) rfl (Nat.le_of_ble_eq_true rfl) (Nat.le_of_ble_eq_true rfl) ?_
      refine xc_rd (as := [.ref 0, .int (nI a)]) hv rfl (wv_survivingSet ha hr hI ⟨rfl, ?_⟩)
      refine xr_k ?_
      refine xr_istore xi_70_22 (Nat.le_of_ble_eq_true rfl) rfl ?_
      refine xr_iload_n xi_70_24 rfl ?_
      by_cases hy : 0 ≤ y.toInt ∧ y.toInt < 4
      · obtain ⟨u, hu, rfl⟩ := x_of (n := 4) hy.1 hy.2 (by omega)
        have : u = 0 ∨ u = 1 ∨ u = 2 ∨ u = 3 := by omega
        rcases this with rfl | rfl | rfl | rfl
        · refine xr_tsw xi_70_25 (by first | exact tI_n (by omega) | exact tI_d (by omega) | assumption | exact tI_e1 | exact tI_e2 | exact tI_e3 | exact tI_e4) (t := 56) (by decide) ?_
          refine xr_iload xi_70_56 rfl ?_
          refine xr_iret xi_70_58 (fun h => absurd h (by decide)) ?_
          exact h1 a 0 _ ha hu rfl rfl hS0
        · refine xr_tsw xi_70_25 (by first | exact tI_n (by omega) | exact tI_d (by omega) | assumption | exact tI_e1 | exact tI_e2 | exact tI_e3 | exact tI_e4) (t := 59) (by decide) ?_
          refine xr_aload_n xi_70_59 rfl ?_
          refine xr_iload_n xi_70_60 rfl ?_
          refine xr_virt xi_70_61 rfl rfl (hv.1 0 _ rfl) rfl (Nat.le_of_ble_eq_true rfl) (Nat.le_of_ble_eq_true rfl) ?_
          refine xc_rd (as := [.ref 0, .int (nI a)]) hv rfl (wv_concernedSet hr hI (by omega) ⟨rfl, ?_⟩)
          refine xr_k ?_
          refine xr_iload xi_70_64 rfl ?_
          refine xr_iconst (z := dI 0) xi_70_66 xm_m1 ?_
          refine xr_ixor xi_70_67 rfl ?_
          refine xr_iand xi_70_68 ((mk_andn _ _).trans eg) ?_
          refine xr_iret xi_70_69 (fun h => absurd h (by decide)) ?_
          exact h1 a 1 _ ha hu rfl rfl hS0
        · refine xr_tsw xi_70_25 (by first | exact tI_n (by omega) | exact tI_d (by omega) | assumption | exact tI_e1 | exact tI_e2 | exact tI_e3 | exact tI_e4) (t := 70) (by decide) ?_
          refine xr_iload xi_70_70 rfl ?_
          refine xr_aload_n xi_70_72 rfl ?_
          refine xr_getf xi_70_73 (hv.1 0 _ rfl) rfl ?_
          refine xr_iconst (z := dI 0) xi_70_76 xm_m1 ?_
          refine xr_ixor xi_70_77 rfl ?_
          refine xr_iand xi_70_78 (mk_andn _ _) ?_
          refine xr_stat xi_70_79 (by decide) rfl rfl (Nat.le_of_ble_eq_true rfl) (Nat.le_of_ble_eq_true rfl) ?_
          refine wj_bc ?_
          refine xr_k ?_
          refine xr_iret xi_70_82 (fun h => absurd h (by decide)) ?_
          exact h1 a 2 _ ha hu rfl rfl hS0
        · refine xr_tsw xi_70_25 (by first | exact tI_n (by omega) | exact tI_d (by omega) | assumption | exact tI_e1 | exact tI_e2 | exact tI_e3 | exact tI_e4) (t := 83) (by decide) ?_
          refine xr_aload_n xi_70_83 rfl ?_
          refine xr_virt xi_70_84 rfl rfl rfl rfl (Nat.le_of_ble_eq_true rfl) (Nat.le_of_ble_eq_true rfl) ?_
          refine ww_trial hf hX (fun R' v hX' hv hr => ?_)
          refine xr_k ?_
          refine xr_iload_n xi_70_87 rfl ?_
          refine xr_virt xi_70_88 rfl rfl (hv.1 0 _ rfl) rfl (Nat.le_of_ble_eq_true rfl) (Nat.le_of_ble_eq_true rfl) ?_
          refine xc_ch (z := pWinter G (nI a)) (as := [.ref 0, .int (nI a)]) hv rfl (fun H' v' hv' hO hz => ?_) (fun Q' hQ' => wv_passWinter hr hI hQ')
          obtain ⟨R2, rfl⟩ := fO_split rfl hO
          have hS2 : wS (wT fs pr st tx nu ln po sta rea ++ R2) tx ln st Z G := ⟨fs, pr, nu, po, sta, rea, R2, rfl, hf, wX_other hX' hv' hO⟩
          have h3 := h1 a 3 _ ha hu rfl rfl hS2
          refine xr_k ?_
          cases hw : sWin G a with
          | none =>
            rw [show qSurv G a 3 = nI 0 from if_pos (cd_t.mpr hw)] at h3
            rw [pWinter_2 ha hw]
            refine xr_if_lt xi_70_91 (by first | exact tI_n (by omega) | exact tI_d (by omega) | assumption | exact tI_e1 | exact tI_e2 | exact tI_e3 | exact tI_e4) (fun c_ => ?_) (fun c_ => by exfalso; omega)
            refine xr_iconst (z := nI 0) xi_70_98 rfl ?_
            refine xr_iret xi_70_99 (fun h => absurd h (by decide)) ?_
            exact h3
          | some G' =>
            have hcl := cnt_le (sGone G a) 30
            rw [show qSurv G a 3 = nI 1 from if_neg (fun q => by have := cd_t.mp q; rw [hw] at this; cases this)] at h3
            rw [pWinter_0 ha hw]
            refine xr_if_lt xi_70_91 (by first | exact tI_n (by omega) | exact tI_d (by omega) | assumption | exact tI_e1 | exact tI_e2 | exact tI_e3 | exact tI_e4) (fun c_ => by exfalso; omega) (fun c_ => ?_)
            refine xr_iconst (z := nI 1) xi_70_94 rfl ?_
            refine xr_goto xi_70_95 ?_
            refine xr_iret xi_70_99 (fun h => absurd h (by decide)) ?_
            exact h3
      · refine xr_tsw xi_70_25 rfl (t := 100) (by rw [if_pos (by omega)]; rfl) ?_
        refine xr_ldc (z := xE1) xi_70_100 rfl ?_
        refine xr_iret xi_70_102 (fun h => absurd h (by decide)) ?_
        refine h2 (fun ⟨t', u, _, q2, _, q4⟩ => hy ?_)
        rw [q4, tI_n (by omega)]
        omega
    · refine xr_ldc (z := xE1) xi_70_9 rfl ?_
      refine xr_iret xi_70_11 (fun h => absurd h (by decide)) ?_
      exact h2 (bad (by omega))
theorem ww_keptBy {x : Int32} (hS : wS H tx ln st Z G) (hI : sInv G) (h1 : ∀ t, sLive G t → x = nI t → Q (some (.int (mk (sKept G t)))) H) (h2 : (∀ t, sLive G t → x ≠ nI t) → Q (some (.int xE1)) H) : xc L xs 71 [.ref 0, .int x] H Q := by
  obtain ⟨fs, pr, nu, po, sta, rea, R, rfl, hf, hX⟩ := hS
  obtain ⟨⟨A, Gs, Sp, Ti, Mv, Hd, pin, c, w, f, m⟩, hv, hr⟩ := wX_now hX
  have hr : vR A Gs Sp Ti Mv Hd pin c w f m G := hr
  refine xr_aload_n xi_71_0 rfl ?_
  refine xr_virt xi_71_1 rfl rfl rfl rfl (Nat.le_of_ble_eq_true rfl) (Nat.le_of_ble_eq_true rfl) ?_
  refine ww_now hf hX.2.1 ?_
  refine xr_k ?_
  refine xr_astore_n xi_71_4 (Nat.le_of_ble_eq_true rfl) rfl ?_
  refine xr_aload_n xi_71_5 rfl ?_
  refine xr_iload_n xi_71_6 rfl ?_
  refine xr_virt xi_71_7 rfl rfl (hv.1 0 _ rfl) rfl (Nat.le_of_ble_eq_true rfl) (Nat.le_of_ble_eq_true rfl) ?_
  refine xc_rd (as := [.ref 0, .int x]) hv rfl (wv_lives hr hI (fun t hl e => ⟨rfl, ?_⟩) (fun hn => ⟨rfl, ?_⟩))
  · subst e
    have ht := hI.lt hl
    refine xr_k ?_
    refine xr_if_ne xi_71_10 (by first | exact tI_n (by omega) | exact tI_d (by omega) | assumption | exact tI_e1 | exact tI_e2 | exact tI_e3 | exact tI_e4) (fun c_ => ?_) (fun c_ => by exfalso; omega)
    refine xr_aload_n xi_71_16 rfl ?_
    refine xr_virt xi_71_17 rfl rfl (hv.1 0 _ rfl) rfl (Nat.le_of_ble_eq_true rfl) (Nat.le_of_ble_eq_true rfl) ?_
    refine xc_rd (as := [.ref 0]) hv rfl (wv_livingSet hr hI ⟨rfl, ?_⟩)
    refine xr_k ?_
    refine xr_iconst (z := nI 1) xi_71_20 rfl ?_
    refine xr_iload_n xi_71_21 rfl ?_
    refine xr_ishl xi_71_22 (mk_1 ht) ?_
    refine xr_iconst (z := dI 0) xi_71_23 xm_m1 ?_
    refine xr_ixor xi_71_24 rfl ?_
    refine xr_iand xi_71_25 (mk_andn _ _) ?_
    refine xr_istore_n xi_71_26 (Nat.le_of_ble_eq_true rfl) rfl ?_
    refine xr_aload_n xi_71_27 rfl ?_
    refine xr_aload_n xi_71_28 rfl ?_
    refine xr_virt xi_71_29 rfl rfl (hv.1 0 _ rfl) rfl (Nat.le_of_ble_eq_true rfl) (Nat.le_of_ble_eq_true rfl) ?_
    refine xc_rd (as := [.ref 0]) hv rfl (wv_rootSet hr hI ⟨rfl, ?_⟩)
    refine xr_k ?_
    refine xr_iload_n xi_71_32 rfl ?_
    refine xr_virt xi_71_33 rfl rfl (hv.1 0 _ rfl) rfl (Nat.le_of_ble_eq_true rfl) (Nat.le_of_ble_eq_true rfl) ?_
    refine xc_rd (as := [.ref 0, .int (mk (sRoots G)), .int (mk (fun u => sAll G u ∧ ¬ u = t))]) hv rfl (wv_reach hr hI ⟨rfl, ?_⟩)
    refine xr_k ?_
    refine xr_istore xi_71_36 (Nat.le_of_ble_eq_true rfl) rfl ?_
    refine xr_aload_n xi_71_38 rfl ?_
    refine xr_virt xi_71_39 rfl rfl (hv.1 0 _ rfl) rfl (Nat.le_of_ble_eq_true rfl) (Nat.le_of_ble_eq_true rfl) ?_
    refine xc_rd (as := [.ref 0]) hv rfl (wv_neededSet hr hI ⟨rfl, ?_⟩)
    refine xr_k ?_
    refine xr_iload_n xi_71_42 rfl ?_
    refine xr_iand xi_71_43 (mk_and _ _) ?_
    refine xr_iload xi_71_44 rfl ?_
    refine xr_iconst (z := dI 0) xi_71_46 xm_m1 ?_
    refine xr_ixor xi_71_47 rfl ?_
    refine xr_iand xi_71_48 (mk_andn _ _) ?_
    refine xr_iret xi_71_49 (fun h => absurd h (by decide)) ?_
    exact h1 t hl rfl
  · refine xr_k ?_
    refine xr_if_ne xi_71_10 (by first | exact tI_n (by omega) | exact tI_d (by omega) | assumption | exact tI_e1 | exact tI_e2 | exact tI_e3 | exact tI_e4) (fun c_ => by exfalso; omega) (fun c_ => ?_)
    refine xr_ldc (z := xE1) xi_71_13 rfl ?_
    refine xr_iret xi_71_15 (fun h => absurd h (by decide)) ?_
    exact h2 hn
theorem ww_far {x : Int32} (hS : wS H tx ln st Z G) (hI : sInv G) (h1 : ∀ t, sLive G t → x = nI t → Q (some (.int (qFar G t))) H) (h2 : (∀ t, sLive G t → x ≠ nI t) → Q (some (.int xE1)) H) : xc L xs 72 [.ref 0, .int x] H Q := by
  obtain ⟨fs, pr, nu, po, sta, rea, R, rfl, hf, hX⟩ := hS
  obtain ⟨⟨A, Gs, Sp, Ti, Mv, Hd, pin, c, w, f, m⟩, hv, hr⟩ := wX_now hX
  have hr : vR A Gs Sp Ti Mv Hd pin c w f m G := hr
  refine xr_aload_n xi_72_0 rfl ?_
  refine xr_virt xi_72_1 rfl rfl rfl rfl (Nat.le_of_ble_eq_true rfl) (Nat.le_of_ble_eq_true rfl) ?_
  refine ww_now hf hX.2.1 ?_
  refine xr_k ?_
  refine xr_astore_n xi_72_4 (Nat.le_of_ble_eq_true rfl) rfl ?_
  refine xr_aload_n xi_72_5 rfl ?_
  refine xr_iload_n xi_72_6 rfl ?_
  refine xr_virt xi_72_7 rfl rfl (hv.1 0 _ rfl) rfl (Nat.le_of_ble_eq_true rfl) (Nat.le_of_ble_eq_true rfl) ?_
  refine xc_rd (as := [.ref 0, .int x]) hv rfl (wv_lives hr hI (fun t hl e => ⟨rfl, ?_⟩) (fun hn => ⟨rfl, ?_⟩))
  · subst e
    have ht := hI.lt hl
    have h3 := h1 t hl rfl
    refine xr_k ?_
    refine xr_if_ne xi_72_10 (by first | exact tI_n (by omega) | exact tI_d (by omega) | assumption | exact tI_e1 | exact tI_e2 | exact tI_e3 | exact tI_e4) (fun c_ => ?_) (fun c_ => by exfalso; omega)
    refine xr_aload_n xi_72_16 rfl ?_
    refine xr_virt xi_72_17 rfl rfl (hv.1 0 _ rfl) rfl (Nat.le_of_ble_eq_true rfl) (Nat.le_of_ble_eq_true rfl) ?_
    refine xc_rd (as := [.ref 0]) hv rfl (wv_rootSet hr hI ⟨rfl, ?_⟩)
    refine xr_k ?_
    have key : ∀ d n, n + d = 30 → (∀ j, j < n → ¬ fS G j t) → xw L xs 72 24 [.ref 0, .int (nI t), .ref (5 + 7 * pr), .int (mk (fS G n)), .int (nI n)] [] (wT fs pr st tx nu ln po sta rea ++ R) Q := by
      intro d
      induction d with
      | zero =>
        intro n hn hu
        have e : n = 30 := by omega
        subst e
        rw [qFar_none hu] at h3
        refine xr_iload xi_72_24 rfl ?_
        refine xr_bipush (z := nI 30) xi_72_26 rfl ?_
        refine xr_ic_ge xi_72_28 (by first | exact tI_n (by omega) | exact tI_d (by omega) | assumption | exact tI_e1 | exact tI_e2 | exact tI_e3 | exact tI_e4) (by first | exact tI_n (by omega) | exact tI_d (by omega) | assumption | exact tI_e1 | exact tI_e2 | exact tI_e3 | exact tI_e4) (fun c_ => ?_) (fun c_ => by exfalso; omega)
        refine xr_ldc (z := xE4) xi_72_56 rfl ?_
        refine xr_iret xi_72_58 (fun h => absurd h (by decide)) ?_
        exact h3
      | succ d ih =>
        intro n hn hu
        refine xr_iload xi_72_24 rfl ?_
        refine xr_bipush (z := nI 30) xi_72_26 rfl ?_
        refine xr_ic_ge xi_72_28 (by first | exact tI_n (by omega) | exact tI_d (by omega) | assumption | exact tI_e1 | exact tI_e2 | exact tI_e3 | exact tI_e4) (by first | exact tI_n (by omega) | exact tI_d (by omega) | assumption | exact tI_e1 | exact tI_e2 | exact tI_e3 | exact tI_e4) (fun c_ => by exfalso; omega) (fun c_ => ?_)
        refine xr_iload_n xi_72_31 rfl ?_
        refine xr_iload_n xi_72_32 rfl ?_
        refine xr_stat xi_72_33 (by decide) rfl rfl (Nat.le_of_ble_eq_true rfl) (Nat.le_of_ble_eq_true rfl) ?_
        refine wv_has ht (fun q => ?_) (fun q => ?_)
        · rw [qFar_some (n := n) (by omega) q hu] at h3
          refine xr_k ?_
          refine xr_if_eq xi_72_36 (by first | exact tI_n (by omega) | exact tI_d (by omega) | assumption | exact tI_e1 | exact tI_e2 | exact tI_e3 | exact tI_e4) (fun c_ => by exfalso; omega) (fun c_ => ?_)
          refine xr_iload xi_72_39 rfl ?_
          refine xr_iret xi_72_41 (fun h => absurd h (by decide)) ?_
          exact h3
        · refine xr_k ?_
          refine xr_if_eq xi_72_36 (by first | exact tI_n (by omega) | exact tI_d (by omega) | assumption | exact tI_e1 | exact tI_e2 | exact tI_e3 | exact tI_e4) (fun c_ => ?_) (fun c_ => by exfalso; omega)
          refine xr_iload_n xi_72_42 rfl ?_
          refine xr_aload_n xi_72_43 rfl ?_
          refine xr_iload_n xi_72_44 rfl ?_
          refine xr_virt xi_72_45 rfl rfl (hv.1 0 _ rfl) rfl (Nat.le_of_ble_eq_true rfl) (Nat.le_of_ble_eq_true rfl) ?_
          refine xc_rd (as := [.ref 0, .int (mk (fS G n))]) hv rfl (wv_tiedFrom hr hI ⟨rfl, ?_⟩)
          refine xr_k ?_
          have e : mk (fun u => fS G n u ∨ sTied G (fS G n) u) = mk (fS G (n + 1)) := rfl
          refine xr_ior xi_72_48 ((mk_or _ _).trans e) ?_
          refine xr_istore_n xi_72_49 (Nat.le_of_ble_eq_true rfl) rfl ?_
          refine xr_iinc xi_72_50 rfl (by first | exact nI_1 _ | exact rfl) rfl ?_
          refine xr_goto xi_72_53 ?_
          refine ih (n + 1) (by omega) (fun j hj => ?_)
          by_cases e2 : j = n
          · rw [e2]; exact q
          · exact hu j (by omega)
    refine xr_istore_n xi_72_20 (Nat.le_of_ble_eq_true rfl) rfl ?_
    refine xr_iconst (z := nI 0) xi_72_21 rfl ?_
    refine xr_istore xi_72_22 (Nat.le_of_ble_eq_true rfl) rfl ?_
    exact key 30 0 (by omega) (fun j hj => by omega)
  · refine xr_k ?_
    refine xr_if_ne xi_72_10 (by first | exact tI_n (by omega) | exact tI_d (by omega) | assumption | exact tI_e1 | exact tI_e2 | exact tI_e3 | exact tI_e4) (fun c_ => by exfalso; omega) (fun c_ => ?_)
    refine xr_ldc (z := xE1) xi_72_13 rfl ?_
    refine xr_iret xi_72_15 (fun h => absurd h (by decide)) ?_
    exact h2 hn
end W6
