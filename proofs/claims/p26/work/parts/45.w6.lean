/-! the program's counts, texts, undoing, orders -/
section W7
variable {L : Nat} {xs : Nat → Int32} {Q : Option Value → xm_H → Prop} {ln st : Nat} {tx Z G : Nat → Nat} {H : xm_H}
theorem ww_count {x : Int32} (hS : wS H tx ln st Z G) (hI : sInv G) (hln : ln ≤ 60) (h1 : ∀ w, w < 14 → x = nI w → Q (some (.int (qCount G st ln w))) H) (h2 : (∀ w, w < 14 → x ≠ nI w) → Q (some (.int xE1)) H) : xc L xs 73 [.ref 0, .int x] H Q := by
  obtain ⟨fs, pr, nu, po, sta, rea, R, rfl, hf, hX⟩ := hS
  obtain ⟨⟨A, Gs, Sp, Ti, Mv, Hd, pin, c, w, f, m⟩, hv, hr⟩ := wX_now hX
  have hr : vR A Gs Sp Ti Mv Hd pin c w f m G := hr
  have hp := hr.pn hI
  subst hp
  obtain ⟨rfl, rfl, rfl, rfl⟩ := hr.2.2.2.2.2.2.1
  refine xr_aload_n xi_73_0 rfl ?_
  refine xr_virt xi_73_1 rfl rfl rfl rfl (Nat.le_of_ble_eq_true rfl) (Nat.le_of_ble_eq_true rfl) ?_
  refine ww_now hf hX.2.1 ?_
  refine xr_k ?_
  refine xr_astore_n xi_73_4 (Nat.le_of_ble_eq_true rfl) rfl ?_
  refine xr_aload_n xi_73_5 rfl ?_
  refine xr_virt xi_73_6 rfl rfl (hv.1 0 _ rfl) rfl (Nat.le_of_ble_eq_true rfl) (Nat.le_of_ble_eq_true rfl) ?_
  refine xc_rd (as := [.ref 0]) hv rfl (wv_livingSet hr hI ⟨rfl, ?_⟩)
  refine xr_k ?_
  refine xr_stat xi_73_9 (by decide) rfl rfl (Nat.le_of_ble_eq_true rfl) (Nat.le_of_ble_eq_true rfl) ?_
  refine wj_bc ?_
  refine xr_k ?_
  refine xr_istore_n xi_73_12 (Nat.le_of_ble_eq_true rfl) rfl ?_
  refine xr_iload_n xi_73_13 rfl ?_
  by_cases hy : 0 ≤ x.toInt ∧ x.toInt < 14
  · obtain ⟨u, hu, rfl⟩ := x_of (n := 14) hy.1 hy.2 (by omega)
    have h3 := h1 u hu rfl
    have : u = 0 ∨ u = 1 ∨ u = 2 ∨ u = 3 ∨ u = 4 ∨ u = 5 ∨ u = 6 ∨ u = 7 ∨ u = 8 ∨ u = 9 ∨ u = 10 ∨ u = 11 ∨ u = 12 ∨ u = 13 := by omega
    rcases this with rfl | rfl | rfl | rfl | rfl | rfl | rfl | rfl | rfl | rfl | rfl | rfl | rfl | rfl
    · refine xr_tsw xi_73_14 (by first | exact tI_n (by omega) | exact tI_d (by omega) | assumption | exact tI_e1 | exact tI_e2 | exact tI_e3 | exact tI_e4) (t := 84) (by decide) ?_
      refine xr_aload_n xi_73_84 rfl ?_
      refine xr_getf xi_73_85 (hv.1 0 _ rfl) rfl ?_
      refine xr_iret xi_73_88 (fun h => absurd h (by decide)) ?_
      exact h3
    · refine xr_tsw xi_73_14 (by first | exact tI_n (by omega) | exact tI_d (by omega) | assumption | exact tI_e1 | exact tI_e2 | exact tI_e3 | exact tI_e4) (t := 89) (by decide) ?_
      refine xr_iload_n xi_73_89 rfl ?_
      refine xr_iret xi_73_90 (fun h => absurd h (by decide)) ?_
      exact h3
    · refine xr_tsw xi_73_14 (by first | exact tI_n (by omega) | exact tI_d (by omega) | assumption | exact tI_e1 | exact tI_e2 | exact tI_e3 | exact tI_e4) (t := 91) (by decide) ?_
      refine xr_aload_n xi_73_91 rfl ?_
      refine xr_getf xi_73_92 (hv.1 0 _ rfl) rfl ?_
      refine xr_stat xi_73_95 (by decide) rfl rfl (Nat.le_of_ble_eq_true rfl) (Nat.le_of_ble_eq_true rfl) ?_
      refine wj_bc ?_
      refine xr_k ?_
      refine xr_iret xi_73_98 (fun h => absurd h (by decide)) ?_
      exact h3
    · refine xr_tsw xi_73_14 (by first | exact tI_n (by omega) | exact tI_d (by omega) | assumption | exact tI_e1 | exact tI_e2 | exact tI_e3 | exact tI_e4) (t := 99) (by decide) ?_
      refine xr_aload_n xi_73_99 rfl ?_
      refine xr_iload_n xi_73_100 rfl ?_
      refine xr_iconst (z := nI 3) xi_73_101 rfl ?_
      refine xr_isub xi_73_102 ((pk_sub (by omega)).trans (congrArg nI (show 3 - 3 = 0 by omega))) ?_
      refine xr_virt xi_73_103 rfl rfl (hv.1 0 _ rfl) rfl (Nat.le_of_ble_eq_true rfl) (Nat.le_of_ble_eq_true rfl) ?_
      refine xc_rd (as := [.ref 0, .int (nI 0)]) hv rfl (wv_ageSet hr hI (by omega) ⟨rfl, ?_⟩)
      refine xr_k ?_
      refine xr_stat xi_73_106 (by decide) rfl rfl (Nat.le_of_ble_eq_true rfl) (Nat.le_of_ble_eq_true rfl) ?_
      refine wj_bc ?_
      refine xr_k ?_
      refine xr_iret xi_73_109 (fun h => absurd h (by decide)) ?_
      exact h3
    · refine xr_tsw xi_73_14 (by first | exact tI_n (by omega) | exact tI_d (by omega) | assumption | exact tI_e1 | exact tI_e2 | exact tI_e3 | exact tI_e4) (t := 99) (by decide) ?_
      refine xr_aload_n xi_73_99 rfl ?_
      refine xr_iload_n xi_73_100 rfl ?_
      refine xr_iconst (z := nI 3) xi_73_101 rfl ?_
      refine xr_isub xi_73_102 ((pk_sub (by omega)).trans (congrArg nI (show 4 - 3 = 1 by omega))) ?_
      refine xr_virt xi_73_103 rfl rfl (hv.1 0 _ rfl) rfl (Nat.le_of_ble_eq_true rfl) (Nat.le_of_ble_eq_true rfl) ?_
      refine xc_rd (as := [.ref 0, .int (nI 1)]) hv rfl (wv_ageSet hr hI (by omega) ⟨rfl, ?_⟩)
      refine xr_k ?_
      refine xr_stat xi_73_106 (by decide) rfl rfl (Nat.le_of_ble_eq_true rfl) (Nat.le_of_ble_eq_true rfl) ?_
      refine wj_bc ?_
      refine xr_k ?_
      refine xr_iret xi_73_109 (fun h => absurd h (by decide)) ?_
      exact h3
    · refine xr_tsw xi_73_14 (by first | exact tI_n (by omega) | exact tI_d (by omega) | assumption | exact tI_e1 | exact tI_e2 | exact tI_e3 | exact tI_e4) (t := 99) (by decide) ?_
      refine xr_aload_n xi_73_99 rfl ?_
      refine xr_iload_n xi_73_100 rfl ?_
      refine xr_iconst (z := nI 3) xi_73_101 rfl ?_
      refine xr_isub xi_73_102 ((pk_sub (by omega)).trans (congrArg nI (show 5 - 3 = 2 by omega))) ?_
      refine xr_virt xi_73_103 rfl rfl (hv.1 0 _ rfl) rfl (Nat.le_of_ble_eq_true rfl) (Nat.le_of_ble_eq_true rfl) ?_
      refine xc_rd (as := [.ref 0, .int (nI 2)]) hv rfl (wv_ageSet hr hI (by omega) ⟨rfl, ?_⟩)
      refine xr_k ?_
      refine xr_stat xi_73_106 (by decide) rfl rfl (Nat.le_of_ble_eq_true rfl) (Nat.le_of_ble_eq_true rfl) ?_
      refine wj_bc ?_
      refine xr_k ?_
      refine xr_iret xi_73_109 (fun h => absurd h (by decide)) ?_
      exact h3
    · refine xr_tsw xi_73_14 (by first | exact tI_n (by omega) | exact tI_d (by omega) | assumption | exact tI_e1 | exact tI_e2 | exact tI_e3 | exact tI_e4) (t := 110) (by decide) ?_
      refine xr_aload_n xi_73_110 rfl ?_
      refine xr_virt xi_73_111 rfl rfl (hv.1 0 _ rfl) rfl (Nat.le_of_ble_eq_true rfl) (Nat.le_of_ble_eq_true rfl) ?_
      refine xc_rd (as := [.ref 0]) hv rfl (wv_freeHouses hr hI ⟨rfl, ?_⟩)
      refine xr_k ?_
      refine xr_iret xi_73_114 (fun h => absurd h (by decide)) ?_
      exact h3
    · refine xr_tsw xi_73_14 (by first | exact tI_n (by omega) | exact tI_d (by omega) | assumption | exact tI_e1 | exact tI_e2 | exact tI_e3 | exact tI_e4) (t := 115) (by decide) ?_
      refine xr_aload_n xi_73_115 rfl ?_
      refine xr_virt xi_73_116 rfl rfl (hv.1 0 _ rfl) rfl (Nat.le_of_ble_eq_true rfl) (Nat.le_of_ble_eq_true rfl) ?_
      refine xc_rd (as := [.ref 0]) hv rfl (wv_notedStrings hr hI ⟨rfl, ?_⟩)
      refine xr_k ?_
      refine xr_iret xi_73_119 (fun h => absurd h (by decide)) ?_
      exact h3
    · refine xr_tsw xi_73_14 (by first | exact tI_n (by omega) | exact tI_d (by omega) | assumption | exact tI_e1 | exact tI_e2 | exact tI_e3 | exact tI_e4) (t := 120) (by decide) ?_
      refine xr_aload_n xi_73_120 rfl ?_
      refine xr_getf xi_73_121 (hv.1 0 _ rfl) rfl ?_
      refine xr_iret xi_73_124 (fun h => absurd h (by decide)) ?_
      exact h3
    · refine xr_tsw xi_73_14 (by first | exact tI_n (by omega) | exact tI_d (by omega) | assumption | exact tI_e1 | exact tI_e2 | exact tI_e3 | exact tI_e4) (t := 125) (by decide) ?_
      refine xr_aload_n xi_73_125 rfl ?_
      refine xr_getf xi_73_126 (hv.1 0 _ rfl) rfl ?_
      refine xr_iret xi_73_129 (fun h => absurd h (by decide)) ?_
      exact h3
    · refine xr_tsw xi_73_14 (by first | exact tI_n (by omega) | exact tI_d (by omega) | assumption | exact tI_e1 | exact tI_e2 | exact tI_e3 | exact tI_e4) (t := 130) (by decide) ?_
      refine xr_aload_n xi_73_130 rfl ?_
      refine xr_getf xi_73_131 (hv.1 0 _ rfl) rfl ?_
      refine xr_iload_n xi_73_134 rfl ?_
      refine xr_isub xi_73_135 (rfl) ?_
      refine xr_iret xi_73_136 (fun h => absurd h (by decide)) ?_
      exact h3
    · refine xr_tsw xi_73_14 (by first | exact tI_n (by omega) | exact tI_d (by omega) | assumption | exact tI_e1 | exact tI_e2 | exact tI_e3 | exact tI_e4) (t := 137) (by decide) ?_
      refine xr_aload_n xi_73_137 rfl ?_
      refine xr_getf xi_73_138 (hv.1 0 _ rfl) rfl ?_
      refine xr_iret xi_73_141 (fun h => absurd h (by decide)) ?_
      exact h3
    · refine xr_tsw xi_73_14 (by first | exact tI_n (by omega) | exact tI_d (by omega) | assumption | exact tI_e1 | exact tI_e2 | exact tI_e3 | exact tI_e4) (t := 142) (by decide) ?_
      refine xr_aload_n xi_73_142 rfl ?_
      refine xr_getf xi_73_143 rfl rfl ?_
      refine xr_iret xi_73_146 (fun h => absurd h (by decide)) ?_
      exact h3
    · refine xr_tsw xi_73_14 (by first | exact tI_n (by omega) | exact tI_d (by omega) | assumption | exact tI_e1 | exact tI_e2 | exact tI_e3 | exact tI_e4) (t := 147) (by decide) ?_
      refine xr_aload_n xi_73_147 rfl ?_
      refine xr_getf xi_73_148 rfl rfl ?_
      refine xr_getf xi_73_151 rfl rfl ?_
      refine xr_iret xi_73_154 (fun h => absurd h (by decide)) ?_
      exact h3
  · refine xr_tsw xi_73_14 rfl (t := 155) (by rw [if_pos (by omega)]; rfl) ?_
    refine xr_ldc (z := xE1) xi_73_155 rfl ?_
    refine xr_iret xi_73_157 (fun h => absurd h (by decide)) ?_
    refine h2 (fun u q2 q4 => hy ?_)
    rw [q4, tI_n (by omega)]
    omega
theorem wT_X {fs : Nat → Option Nat} {pr st ln po sta rea ln' po' sta' rea' : Nat} {tx nu tx' nu' Z G : Nat → Nat} {R : xm_H} (h : wX (wT fs pr st tx nu ln po sta rea ++ R) pr st Z G) : wX (wT fs pr st tx' nu' ln' po' sta' rea' ++ R) pr st Z G := by
  obtain ⟨h1, h2, h3, h4, h5⟩ := h
  refine ⟨?_, h2, h3, fun k hk => ?_, fun d hd => ?_⟩
  · rw [List.length_append] at h1 ⊢
    exact h1
  · obtain ⟨u, hu⟩ := h4 k hk
    exact ⟨u, wV_top rfl rfl hu⟩
  · obtain ⟨u, hu, hr⟩ := h5 d hd
    exact ⟨u, wV_top rfl rfl hu, hr⟩
theorem ww_type {x : Int32} (hS : wS H tx ln st Z G) (ht : tOk tx ln) (h1 : ∀ H' c, 32 ≤ c → c ≤ 126 → x = nI c → ln < 60 → wS H' (un tx ln c) (ln + 1) st Z G → Q (some (.int (nI (ln + 1)))) H') (h2 : (∃ c, 32 ≤ c ∧ c ≤ 126 ∧ x = nI c) → ln = 60 → Q (some (.int xE3)) H) (h3 : (¬ ∃ c, 32 ≤ c ∧ c ≤ 126 ∧ x = nI c) → Q (some (.int xE1)) H) : xc L xs 75 [.ref 0, .int x] H Q := by
  obtain ⟨fs, pr, nu, po, sta, rea, R, rfl, hf, hX⟩ := hS
  have hl := ht.1
  have bad : ¬ (32 ≤ x.toInt ∧ x.toInt ≤ 126) → ¬ ∃ c, 32 ≤ c ∧ c ≤ 126 ∧ x = nI c := fun q ⟨c, q1, q2, q3⟩ => q (by rw [q3, tI_n (by omega)]; omega)
  refine xr_iload_n xi_75_0 rfl ?_
  refine xr_bipush (z := nI 32) xi_75_1 rfl ?_
  refine xr_ic_lt xi_75_3 (rfl) (by first | exact tI_n (by omega) | exact tI_d (by omega) | assumption | exact tI_e1 | exact tI_e2 | exact tI_e3 | exact tI_e4) (fun c_3 => ?_) (fun c_3 => ?_)
  · refine xr_ldc (z := xE1) xi_75_12 rfl ?_
    refine xr_iret xi_75_14 (fun h => absurd h (by decide)) ?_
    exact h3 (bad (by omega))
  · refine xr_iload_n xi_75_6 rfl ?_
    refine xr_bipush (z := nI 126) xi_75_7 rfl ?_
    refine xr_ic_le xi_75_9 (rfl) (by first | exact tI_n (by omega) | exact tI_d (by omega) | assumption | exact tI_e1 | exact tI_e2 | exact tI_e3 | exact tI_e4) (fun c_9 => ?_) (fun c_9 => ?_)
    · obtain ⟨c, hc, rfl⟩ := x_of (x := x) (n := 127) (by omega) (by omega) (by omega)
      rw [tI_n (by omega)] at c_3 c_9
      refine xr_aload_n xi_75_15 rfl ?_
      refine xr_getf xi_75_16 rfl rfl ?_
      refine xr_iload_n xi_75_19 rfl ?_
      refine xr_virt xi_75_20 rfl rfl rfl rfl (Nat.le_of_ble_eq_true rfl) (Nat.le_of_ble_eq_true rfl) ?_
      refine xr_aload_n xi_1_0 rfl ?_
      refine xr_getf xi_1_1 rfl rfl ?_
      refine xr_bipush (z := nI 60) xi_1_4 rfl ?_
      refine xr_ic_lt xi_1_6 (by first | exact tI_n (by omega) | exact tI_d (by omega) | assumption | exact tI_e1 | exact tI_e2 | exact tI_e3 | exact tI_e4) (by first | exact tI_n (by omega) | exact tI_d (by omega) | assumption | exact tI_e1 | exact tI_e2 | exact tI_e3 | exact tI_e4) (fun c_6 => ?_) (fun c_6 => ?_)
      · refine xr_aload_n xi_1_12 rfl ?_
        refine xr_getf xi_1_13 rfl rfl ?_
        refine xr_aload_n xi_1_16 rfl ?_
        refine xr_getf xi_1_17 rfl rfl ?_
        refine xr_iload_n xi_1_20 rfl ?_
        refine xr_iast xi_1_21 rfl (by first | exact tI_n (by first | omega | (simp only [ri]; omega)) | exact tI_dn (by omega) (by omega) | assumption) (by first | omega | (simp only [ri]; omega)) ((show _ = wT fs pr st (un tx ln c) nu ln po sta rea ++ R by unfold wT; rw [← upd_mF]; rfl)) ?_
        refine xr_aload_n xi_1_22 rfl ?_
        refine xr_dup xi_1_23 ?_
        refine xr_getf xi_1_24 rfl rfl ?_
        refine xr_iconst (z := nI 1) xi_1_27 rfl ?_
        refine xr_iadd xi_1_28 (by first | exact nI_add _ _ | exact rfl) ?_
        refine xr_putf xi_1_29 rfl (Nat.le_of_ble_eq_true rfl) (show _ = wT fs pr st (un tx ln c) nu (ln + 1) po sta rea ++ R from rfl) ?_
        refine xr_aload_n xi_1_32 rfl ?_
        refine xr_getf xi_1_33 rfl rfl ?_
        refine xr_iret xi_1_36 (fun h => absurd h (by decide)) ?_
        refine xr_k ?_
        refine xr_iret xi_75_23 (fun h => absurd h (by decide)) ?_
        exact h1 _ c (by omega) (by omega) rfl (by omega) ⟨fs, pr, nu, po, sta, rea, R, rfl, hf, wT_X hX⟩
      · refine xr_ldc (z := xE3) xi_1_9 rfl ?_
        refine xr_iret xi_1_11 (fun h => absurd h (by decide)) ?_
        refine xr_k ?_
        refine xr_iret xi_75_23 (fun h => absurd h (by decide)) ?_
        exact h2 ⟨c, by omega, by omega, rfl⟩ (by omega)
    · refine xr_ldc (z := xE1) xi_75_12 rfl ?_
      refine xr_iret xi_75_14 (fun h => absurd h (by decide)) ?_
      exact h3 (bad (by omega))
theorem ww_clearText (hS : wS H tx ln st Z G) (hQ : ∀ H', wS H' tx 0 st Z G → Q (some (.int (nI ln))) H') : xc L xs 76 [.ref 0] H Q := by
  obtain ⟨fs, pr, nu, po, sta, rea, R, rfl, hf, hX⟩ := hS
  refine xr_aload_n xi_76_0 rfl ?_
  refine xr_getf xi_76_1 rfl rfl ?_
  refine xr_getf xi_76_4 rfl rfl ?_
  refine xr_istore_n xi_76_7 (Nat.le_of_ble_eq_true rfl) rfl ?_
  refine xr_aload_n xi_76_8 rfl ?_
  refine xr_getf xi_76_9 rfl rfl ?_
  refine xr_iconst (z := nI 0) xi_76_12 rfl ?_
  refine xr_putf xi_76_13 rfl (Nat.le_of_ble_eq_true rfl) (show _ = wT fs pr st tx nu 0 po sta rea ++ R from rfl) ?_
  refine xr_iload_n xi_76_16 rfl ?_
  refine xr_iret xi_76_17 (fun h => absurd h (by decide)) ?_
  exact hQ _ ⟨fs, pr, nu, po, sta, rea, R, rfl, hf, wT_X hX⟩
theorem ww_undo (hS : wS H tx ln st Z G) (h1 : st = 0 → Q (some (.int xE2)) H) (h2 : 0 < st → ∀ H', wS H' tx ln (st - 1) Z (fun i => if i < 196 then Z (196 + 196 * (st - 1) + i) else G i) → Q (some (.int (nI (st - 1)))) H') : xc L xs 74 [.ref 0] H Q := by
  obtain ⟨fs, pr, nu, po, sta, rea, R, rfl, hf, hX⟩ := hS
  obtain ⟨q1, q2, q3, q4, q5⟩ := hX
  refine xr_aload_n xi_74_0 rfl ?_
  refine xr_getf xi_74_1 rfl rfl ?_
  refine xr_if_ne xi_74_4 (by first | exact tI_n (by omega) | exact tI_d (by omega) | assumption | exact tI_e1 | exact tI_e2 | exact tI_e3 | exact tI_e4) (fun c_4 => ?_) (fun c_4 => ?_)
  · refine xr_aload_n xi_74_10 rfl ?_
    refine xr_aload_n xi_74_11 rfl ?_
    refine xr_getf xi_74_12 rfl rfl ?_
    refine xr_bipush (z := nI 6) xi_74_15 rfl ?_
    refine xr_iadd xi_74_17 (by first | exact nI_add _ _ | exact rfl) ?_
    refine xr_iconst (z := nI 1) xi_74_18 rfl ?_
    refine xr_isub xi_74_19 ((pk_sub (by omega))) ?_
    refine xr_bipush (z := nI 6) xi_74_20 rfl ?_
    refine xr_irem xi_74_22 (by decide) (by first | exact pk_rem (by omega) (by omega) (by omega) | exact rfl) ?_
    refine xr_putf xi_74_23 rfl (Nat.le_of_ble_eq_true rfl) (show _ = wT fs ((pr + 6 - 1) % 6) st tx nu ln po sta rea ++ R from rfl) ?_
    refine xr_aload_n xi_74_26 rfl ?_
    refine xr_dup xi_74_27 ?_
    refine xr_getf xi_74_28 rfl rfl ?_
    refine xr_iconst (z := nI 1) xi_74_31 rfl ?_
    refine xr_isub xi_74_32 ((pk_sub (by omega))) ?_
    refine xr_putf xi_74_33 rfl (Nat.le_of_ble_eq_true rfl) (show _ = wT fs ((pr + 6 - 1) % 6) (st - 1) tx nu ln po sta rea ++ R from rfl) ?_
    refine xr_aload_n xi_74_36 rfl ?_
    refine xr_getf xi_74_37 rfl rfl ?_
    refine xr_iret xi_74_40 (fun h => absurd h (by decide)) ?_
    refine h2 (by omega) _ ⟨fs, (pr + 6 - 1) % 6, nu, po, sta, rea, R, rfl, hf, ?_, by omega, by omega, fun k hk => ?_, fun d hd => ?_⟩
    · rw [List.length_append] at q1 ⊢
      exact q1
    · obtain ⟨u, hu⟩ := q4 k hk
      exact ⟨u, wV_top rfl rfl hu⟩
    · obtain ⟨u, hu, hr⟩ := q5 (d + 1) (by omega)
      rw [show (pr + 6 - (d + 1)) % 6 = ((pr + 6 - 1) % 6 + 6 - d) % 6 by omega] at hu
      refine ⟨u, wV_top rfl rfl hu, vR.to hr (fun i hi => ?_)⟩
      unfold hG
      rw [if_neg (show ¬ d + 1 = 0 by omega)]
      by_cases d0 : d = 0
      · subst d0
        rw [if_pos rfl]
        exact if_pos hi
      · rw [if_neg d0, show st - 1 - d = st - (d + 1) by omega]
  · refine xr_ldc (z := xE2) xi_74_7 rfl ?_
    refine xr_iret xi_74_9 (fun h => absurd h (by decide)) ?_
    exact h1 (by omega)
end W7
