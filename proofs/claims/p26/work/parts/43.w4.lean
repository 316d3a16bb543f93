/-! the program's reading calls -/
theorem wS_Z {H : xm_H} {tx : Nat → Nat} {ln st : Nat} {Z Z' G : Nat → Nat} (h : wS H tx ln st Z G) (hz : ∀ i, i < 980 → Z' i = Z i) : wS H tx ln st Z' G := by
  obtain ⟨fs, pr, nu, po, sta, rea, R, h1, hf, h2, h3, h4, h5, h6⟩ := h
  refine ⟨fs, pr, nu, po, sta, rea, R, h1, hf, h2, h3, h4, h5, fun d hd => ?_⟩
  obtain ⟨u, hu, hr⟩ := h6 d hd
  refine ⟨u, hu, vR.to hr (fun i hi => ?_)⟩
  unfold hG
  split
  · rfl
  · exact hz _ (by omega)
theorem wX_now {H : xm_H} {pr st : Nat} {Z G : Nat → Nat} (hX : wX H pr st Z G) : ∃ v, wV pr v H ∧ vRt v G := by
  obtain ⟨v, h1, h2⟩ := hX.2.2.2.2 0 (by omega)
  have hp := hX.2.1
  rw [hG_0] at h2
  rw [show (pr + 6 - 0) % 6 = pr by omega] at h1
  exact ⟨v, h1, h2⟩
section W5
variable {L : Nat} {xs : Nat → Int32} {Q : Option Value → xm_H → Prop} {ln st : Nat} {tx Z G : Nat → Nat} {H : xm_H}
theorem ww_found {n : Nat} (hn : n < 2147483648) (hQ : Q (some (.int (if n = 0 then xE4 else dI n))) H) : xc L xs 82 [.int (dI n)] H Q := by
  refine xr_iload_n xi_82_0 rfl ?_
  refine xr_iconst (z := dI 0) xi_82_1 xm_m1 ?_
  refine xr_ic_ne xi_82_2 (by first | exact tI_n (by omega) | exact tI_d (by omega) | assumption | exact tI_e1 | exact tI_e2 | exact tI_e3 | exact tI_e4) (by first | exact tI_n (by omega) | exact tI_d (by omega) | assumption | exact tI_e1 | exact tI_e2 | exact tI_e3 | exact tI_e4) (fun c_2 => ?_) (fun c_2 => ?_)
  · rw [if_neg (by omega)] at hQ
    refine xr_iload_n xi_82_10 rfl ?_
    refine xr_iret xi_82_11 (fun h => absurd h (by decide)) ?_
    exact hQ
  · rw [if_pos (by omega)] at hQ
    refine xr_ldc (z := xE4) xi_82_5 rfl ?_
    refine xr_goto xi_82_7 ?_
    refine xr_iret xi_82_11 (fun h => absurd h (by decide)) ?_
    exact hQ
theorem ww_thingOf {x y : Int32} (hS : wS H tx ln st Z G) (hI : sInv G) (h1 : ∀ t w, t < G 0 → w < 10 → x = nI t → y = nI w → Q (some (.int (qThing G t w))) H) (h2 : (¬ ∃ t w, t < G 0 ∧ w < 10 ∧ x = nI t ∧ y = nI w) → Q (some (.int xE1)) H) : xc L xs 65 [.ref 0, .int x, .int y] H Q := by
  obtain ⟨fs, pr, nu, po, sta, rea, R, rfl, hf, hX⟩ := hS
  obtain ⟨⟨A, Gs, Sp, Ti, Mv, Hd, pin, c, w, f, m⟩, hv, hr⟩ := wX_now hX
  have hr : vR A Gs Sp Ti Mv Hd pin c w f m G := hr
  have hp := hr.pp
  subst hp
  have hc := hI.c
  refine xr_aload_n xi_65_0 rfl ?_
  refine xr_virt xi_65_1 rfl rfl rfl rfl (Nat.le_of_ble_eq_true rfl) (Nat.le_of_ble_eq_true rfl) ?_
  refine ww_now hf hX.2.1 ?_
  refine xr_k ?_
  refine xr_astore_n xi_65_4 (Nat.le_of_ble_eq_true rfl) rfl ?_
  refine xr_aload_n xi_65_5 rfl ?_
  refine xr_iload_n xi_65_6 rfl ?_
  refine xr_virt xi_65_7 rfl rfl (hv.1 0 _ rfl) rfl (Nat.le_of_ble_eq_true rfl) (Nat.le_of_ble_eq_true rfl) ?_
  refine xc_rd (as := [.ref 0, .int x]) hv rfl (wv_came hr hI (fun t ht e => ⟨rfl, ?_⟩) (fun hn => ⟨rfl, ?_⟩))
  · subst e
    have ht30 : t < 30 := by omega
    refine xr_k ?_
    refine xr_if_ne xi_65_10 (by first | exact tI_n (by omega) | exact tI_d (by omega) | assumption | exact tI_e1 | exact tI_e2 | exact tI_e3 | exact tI_e4) (fun c_ => ?_) (fun c_ => by exfalso; omega)
    refine xr_iload_n xi_65_16 rfl ?_
    by_cases hy : 0 ≤ y.toInt ∧ y.toInt < 10
    · obtain ⟨u, hu, rfl⟩ := x_of (n := 10) hy.1 hy.2 (by omega)
      have tie : ∀ s, s < 3 → u = 4 + s → Q (some (.int (if G (ri t (2 + s)) = 0 then xE4 else dI (G (ri t (2 + s)))))) (wT fs pr st tx nu ln po sta rea ++ R) := by
        intro s hs e
        have h3 := h1 t u ht hu rfl rfl
        rw [e, qThing_t hs] at h3
        exact h3
      have : u = 0 ∨ u = 1 ∨ u = 2 ∨ u = 3 ∨ u = 4 ∨ u = 5 ∨ u = 6 ∨ u = 7 ∨ u = 8 ∨ u = 9 := by omega
      rcases this with rfl | rfl | rfl | rfl | rfl | rfl | rfl | rfl | rfl | rfl
      · have h3 := h1 t 0 ht hu rfl rfl
        refine xr_tsw xi_65_17 (by first | exact tI_n (by omega) | exact tI_d (by omega) | assumption | exact tI_e1 | exact tI_e2 | exact tI_e3 | exact tI_e4) (t := 72) (by decide) ?_
        refine xr_aload_n xi_65_72 rfl ?_
        refine xr_iload_n xi_65_73 rfl ?_
        refine xr_virt xi_65_74 rfl rfl (hv.1 0 _ rfl) rfl (Nat.le_of_ble_eq_true rfl) (Nat.le_of_ble_eq_true rfl) ?_
        refine xc_rd (as := [.ref 0, .int (nI t)]) hv rfl (wv_lives hr hI (fun v hl e => ⟨rfl, ?_⟩) (fun hn => ⟨rfl, ?_⟩))
        · have e2 := (nI_inj (by omega) (by have := hI.lt hl; omega)).mp e
          subst e2
          rw [show qThing G t 0 = nI 1 from if_pos (cd_t.mpr hl)] at h3
          refine xr_k ?_
          refine xr_if_eq xi_65_77 (by first | exact tI_n (by omega) | exact tI_d (by omega) | assumption | exact tI_e1 | exact tI_e2 | exact tI_e3 | exact tI_e4) (fun c_ => by exfalso; omega) (fun c_ => ?_)
          refine xr_iconst (z := nI 1) xi_65_80 rfl ?_
          refine xr_goto xi_65_81 ?_
          refine xr_iret xi_65_85 (fun h => absurd h (by decide)) ?_
          exact h3
        · rw [show qThing G t 0 = nI 0 from if_neg (fun q => hn t (cd_t.mp q) rfl)] at h3
          refine xr_k ?_
          refine xr_if_eq xi_65_77 (by first | exact tI_n (by omega) | exact tI_d (by omega) | assumption | exact tI_e1 | exact tI_e2 | exact tI_e3 | exact tI_e4) (fun c_ => ?_) (fun c_ => by exfalso; omega)
          refine xr_iconst (z := nI 0) xi_65_84 rfl ?_
          refine xr_iret xi_65_85 (fun h => absurd h (by decide)) ?_
          exact h3
      · have h3 := h1 t 1 ht hu rfl rfl
        by_cases hl : sLive G t
        · rw [show qThing G t 1 = nI (10 * sHome G t + (G (ri t 0) - 1) % 5) from if_pos (cd_t.mpr hl)] at h3
          have hho := hI.ho ht30
          refine xr_tsw xi_65_17 (by first | exact tI_n (by omega) | exact tI_d (by omega) | assumption | exact tI_e1 | exact tI_e2 | exact tI_e3 | exact tI_e4) (t := 86) (by decide) ?_
          refine xr_aload_n xi_65_86 rfl ?_
          refine xr_iload_n xi_65_87 rfl ?_
          refine xr_virt xi_65_88 rfl rfl (hv.1 0 _ rfl) rfl (Nat.le_of_ble_eq_true rfl) (Nat.le_of_ble_eq_true rfl) ?_
          refine xc_rd (as := [.ref 0, .int (nI t)]) hv rfl (wv_addressOf hr hI hl ⟨rfl, ?_⟩)
          refine xr_k ?_
          rw [← dI_1 (10 * sHome G t + (G (ri t 0) - 1) % 5)]
          refine xr_stat xi_65_91 (by decide) rfl rfl (Nat.le_of_ble_eq_true rfl) (Nat.le_of_ble_eq_true rfl) ?_
          refine ww_found (by omega) ?_
          refine xr_k ?_
          refine xr_iret xi_65_94 (fun h => absurd h (by decide)) ?_
          rw [if_neg (by omega), dI_1]
          exact h3
        · rw [show qThing G t 1 = xE4 from if_neg (fun q => hl (cd_t.mp q))] at h3
          refine xr_tsw xi_65_17 (by first | exact tI_n (by omega) | exact tI_d (by omega) | assumption | exact tI_e1 | exact tI_e2 | exact tI_e3 | exact tI_e4) (t := 86) (by decide) ?_
          refine xr_aload_n xi_65_86 rfl ?_
          refine xr_iload_n xi_65_87 rfl ?_
          refine xr_virt xi_65_88 rfl rfl (hv.1 0 _ rfl) rfl (Nat.le_of_ble_eq_true rfl) (Nat.le_of_ble_eq_true rfl) ?_
          refine xc_rd (as := [.ref 0, .int (nI t)]) hv rfl (wv_addressX hr hI (fun v hv2 e => hl (by rw [(nI_inj (by omega) (by have := hI.lt hv2; omega)).mp e]; exact hv2)) ⟨rfl, ?_⟩)
          refine xr_k ?_
          refine xr_stat xi_65_91 (by decide) rfl rfl (Nat.le_of_ble_eq_true rfl) (Nat.le_of_ble_eq_true rfl) ?_
          refine ww_found (by omega) ?_
          refine xr_k ?_
          refine xr_iret xi_65_94 (fun h => absurd h (by decide)) ?_
          exact h3
      · have h3 := h1 t 2 ht hu rfl rfl
        by_cases hl : sLive G t
        · rw [show qThing G t 2 = dI (sAge G t) from if_pos (cd_t.mpr hl)] at h3
          have hg := hI.g hl
          have hg2 := hI.ag ht30
          refine xr_tsw xi_65_17 (by first | exact tI_n (by omega) | exact tI_d (by omega) | assumption | exact tI_e1 | exact tI_e2 | exact tI_e3 | exact tI_e4) (t := 95) (by decide) ?_
          refine xr_aload_n xi_65_95 rfl ?_
          refine xr_iload_n xi_65_96 rfl ?_
          refine xr_virt xi_65_97 rfl rfl (hv.1 0 _ rfl) rfl (Nat.le_of_ble_eq_true rfl) (Nat.le_of_ble_eq_true rfl) ?_
          refine xc_rd (as := [.ref 0, .int (nI t)]) hv rfl (wv_ageOf hr hI hl ⟨rfl, ?_⟩)
          refine xr_k ?_
          refine xr_stat xi_65_100 (by decide) rfl rfl (Nat.le_of_ble_eq_true rfl) (Nat.le_of_ble_eq_true rfl) ?_
          refine ww_found (by omega) ?_
          refine xr_k ?_
          refine xr_iret xi_65_103 (fun h => absurd h (by decide)) ?_
          rw [if_neg (by omega)]
          exact h3
        · rw [show qThing G t 2 = xE4 from if_neg (fun q => hl (cd_t.mp q))] at h3
          refine xr_tsw xi_65_17 (by first | exact tI_n (by omega) | exact tI_d (by omega) | assumption | exact tI_e1 | exact tI_e2 | exact tI_e3 | exact tI_e4) (t := 95) (by decide) ?_
          refine xr_aload_n xi_65_95 rfl ?_
          refine xr_iload_n xi_65_96 rfl ?_
          refine xr_virt xi_65_97 rfl rfl (hv.1 0 _ rfl) rfl (Nat.le_of_ble_eq_true rfl) (Nat.le_of_ble_eq_true rfl) ?_
          refine xc_rd (as := [.ref 0, .int (nI t)]) hv rfl (wv_ageX hr hI (fun v hv2 e => hl (by rw [(nI_inj (by omega) (by have := hI.lt hv2; omega)).mp e]; exact hv2)) ⟨rfl, ?_⟩)
          refine xr_k ?_
          refine xr_stat xi_65_100 (by decide) rfl rfl (Nat.le_of_ble_eq_true rfl) (Nat.le_of_ble_eq_true rfl) ?_
          refine ww_found (by omega) ?_
          refine xr_k ?_
          refine xr_iret xi_65_103 (fun h => absurd h (by decide)) ?_
          exact h3
      · have h3 := h1 t 3 ht hu rfl rfl
        have hp1 := (hI.p ht30).1
        refine xr_tsw xi_65_17 (by first | exact tI_n (by omega) | exact tI_d (by omega) | assumption | exact tI_e1 | exact tI_e2 | exact tI_e3 | exact tI_e4) (t := 104) (by decide) ?_
        refine xr_aload_n xi_65_104 rfl ?_
        refine xr_getf xi_65_105 (hv.1 0 _ rfl) rfl ?_
        refine xr_iload_n xi_65_108 rfl ?_
        refine xr_stat xi_65_109 (by decide) rfl rfl (Nat.le_of_ble_eq_true rfl) (Nat.le_of_ble_eq_true rfl) ?_
        refine wv_has ht30 (fun q => ?_) (fun q => ?_)
        · rw [show qThing G t 3 = nI 1 from congrArg nI q] at h3
          refine xr_k ?_
          refine xr_if_eq xi_65_112 (by first | exact tI_n (by omega) | exact tI_d (by omega) | assumption | exact tI_e1 | exact tI_e2 | exact tI_e3 | exact tI_e4) (fun c_ => by exfalso; omega) (fun c_ => ?_)
          refine xr_iconst (z := nI 1) xi_65_115 rfl ?_
          refine xr_goto xi_65_116 ?_
          refine xr_iret xi_65_120 (fun h => absurd h (by decide)) ?_
          exact h3
        · rw [show qThing G t 3 = nI 0 from congrArg nI (show G (ri t 1) = 0 by omega)] at h3
          refine xr_k ?_
          refine xr_if_eq xi_65_112 (by first | exact tI_n (by omega) | exact tI_d (by omega) | assumption | exact tI_e1 | exact tI_e2 | exact tI_e3 | exact tI_e4) (fun c_ => ?_) (fun c_ => by exfalso; omega)
          refine xr_iconst (z := nI 0) xi_65_119 rfl ?_
          refine xr_iret xi_65_120 (fun h => absurd h (by decide)) ?_
          exact h3
      · have hg := (hI.t ht30 (show 0 < 3 by omega)).1
        refine xr_tsw xi_65_17 (by first | exact tI_n (by omega) | exact tI_d (by omega) | assumption | exact tI_e1 | exact tI_e2 | exact tI_e3 | exact tI_e4) (t := 121) (by decide) ?_
        refine xr_aload_n xi_65_121 rfl ?_
        refine xr_iload_n xi_65_122 rfl ?_
        refine xr_iload_n xi_65_123 rfl ?_
        refine xr_iconst (z := nI 4) xi_65_124 rfl ?_
        refine xr_isub xi_65_125 ((pk_sub (by omega)).trans (congrArg nI (show 4 - 4 = 0 by omega))) ?_
        refine xr_virt xi_65_126 rfl rfl (hv.1 0 _ rfl) rfl (Nat.le_of_ble_eq_true rfl) (Nat.le_of_ble_eq_true rfl) ?_
        refine xc_rd (as := [.ref 0, .int (nI t), .int (nI 0)]) hv rfl (wv_tiedAt hr hI ht30 (by omega) ⟨rfl, ?_⟩)
        refine xr_k ?_
        refine xr_stat xi_65_129 (by decide) rfl rfl (Nat.le_of_ble_eq_true rfl) (Nat.le_of_ble_eq_true rfl) ?_
        refine ww_found (by omega) ?_
        refine xr_k ?_
        refine xr_iret xi_65_132 (fun h => absurd h (by decide)) ?_
        exact tie 0 (by omega) rfl
      · have hg := (hI.t ht30 (show 1 < 3 by omega)).1
        refine xr_tsw xi_65_17 (by first | exact tI_n (by omega) | exact tI_d (by omega) | assumption | exact tI_e1 | exact tI_e2 | exact tI_e3 | exact tI_e4) (t := 121) (by decide) ?_
        refine xr_aload_n xi_65_121 rfl ?_
        refine xr_iload_n xi_65_122 rfl ?_
        refine xr_iload_n xi_65_123 rfl ?_
        refine xr_iconst (z := nI 4) xi_65_124 rfl ?_
        refine xr_isub xi_65_125 ((pk_sub (by omega)).trans (congrArg nI (show 5 - 4 = 1 by omega))) ?_
        refine xr_virt xi_65_126 rfl rfl (hv.1 0 _ rfl) rfl (Nat.le_of_ble_eq_true rfl) (Nat.le_of_ble_eq_true rfl) ?_
        refine xc_rd (as := [.ref 0, .int (nI t), .int (nI 1)]) hv rfl (wv_tiedAt hr hI ht30 (by omega) ⟨rfl, ?_⟩)
        refine xr_k ?_
        refine xr_stat xi_65_129 (by decide) rfl rfl (Nat.le_of_ble_eq_true rfl) (Nat.le_of_ble_eq_true rfl) ?_
        refine ww_found (by omega) ?_
        refine xr_k ?_
        refine xr_iret xi_65_132 (fun h => absurd h (by decide)) ?_
        exact tie 1 (by omega) rfl
      · have hg := (hI.t ht30 (show 2 < 3 by omega)).1
        refine xr_tsw xi_65_17 (by first | exact tI_n (by omega) | exact tI_d (by omega) | assumption | exact tI_e1 | exact tI_e2 | exact tI_e3 | exact tI_e4) (t := 121) (by decide) ?_
        refine xr_aload_n xi_65_121 rfl ?_
        refine xr_iload_n xi_65_122 rfl ?_
        refine xr_iload_n xi_65_123 rfl ?_
        refine xr_iconst (z := nI 4) xi_65_124 rfl ?_
        refine xr_isub xi_65_125 ((pk_sub (by omega)).trans (congrArg nI (show 6 - 4 = 2 by omega))) ?_
        refine xr_virt xi_65_126 rfl rfl (hv.1 0 _ rfl) rfl (Nat.le_of_ble_eq_true rfl) (Nat.le_of_ble_eq_true rfl) ?_
        refine xc_rd (as := [.ref 0, .int (nI t), .int (nI 2)]) hv rfl (wv_tiedAt hr hI ht30 (by omega) ⟨rfl, ?_⟩)
        refine xr_k ?_
        refine xr_stat xi_65_129 (by decide) rfl rfl (Nat.le_of_ble_eq_true rfl) (Nat.le_of_ble_eq_true rfl) ?_
        refine ww_found (by omega) ?_
        refine xr_k ?_
        refine xr_iret xi_65_132 (fun h => absurd h (by decide)) ?_
        exact tie 2 (by omega) rfl
      · refine xr_tsw xi_65_17 (by first | exact tI_n (by omega) | exact tI_d (by omega) | assumption | exact tI_e1 | exact tI_e2 | exact tI_e3 | exact tI_e4) (t := 133) (by decide) ?_
        refine xr_aload_n xi_65_133 rfl ?_
        refine xr_iload_n xi_65_134 rfl ?_
        refine xr_virt xi_65_135 rfl rfl (hv.1 0 _ rfl) rfl (Nat.le_of_ble_eq_true rfl) (Nat.le_of_ble_eq_true rfl) ?_
        refine xc_rd (as := [.ref 0, .int (nI t)]) hv rfl (wv_handsOn hr hI ht30 ⟨rfl, ?_⟩)
        refine xr_k ?_
        refine xr_iret xi_65_138 (fun h => absurd h (by decide)) ?_
        exact h1 t 7 ht hu rfl rfl
      · refine xr_tsw xi_65_17 (by first | exact tI_n (by omega) | exact tI_d (by omega) | assumption | exact tI_e1 | exact tI_e2 | exact tI_e3 | exact tI_e4) (t := 139) (by decide) ?_
        refine xr_aload_n xi_65_139 rfl ?_
        refine xr_iload_n xi_65_140 rfl ?_
        refine xr_virt xi_65_141 rfl rfl (hv.1 0 _ rfl) rfl (Nat.le_of_ble_eq_true rfl) (Nat.le_of_ble_eq_true rfl) ?_
        refine xc_rd (as := [.ref 0, .int (nI t)]) hv rfl (wv_tiedTo hr hI ht30 ⟨rfl, ?_⟩)
        refine xr_k ?_
        refine xr_iret xi_65_144 (fun h => absurd h (by decide)) ?_
        exact h1 t 8 ht hu rfl rfl
      · refine xr_tsw xi_65_17 (by first | exact tI_n (by omega) | exact tI_d (by omega) | assumption | exact tI_e1 | exact tI_e2 | exact tI_e3 | exact tI_e4) (t := 145) (by decide) ?_
        refine xr_aload_n xi_65_145 rfl ?_
        refine xr_iload_n xi_65_146 rfl ?_
        refine xr_virt xi_65_147 rfl rfl (hv.1 0 _ rfl) rfl (Nat.le_of_ble_eq_true rfl) (Nat.le_of_ble_eq_true rfl) ?_
        refine xc_rd (as := [.ref 0, .int (nI t)]) hv rfl (wv_movesOf hr hI ht ⟨rfl, ?_⟩)
        refine xr_k ?_
        refine xr_iret xi_65_150 (fun h => absurd h (by decide)) ?_
        exact h1 t 9 ht hu rfl rfl
    · refine xr_tsw xi_65_17 rfl (t := 151) (by rw [if_pos (by omega)]; rfl) ?_
      refine xr_ldc (z := xE1) xi_65_151 rfl ?_
      refine xr_iret xi_65_153 (fun h => absurd h (by decide)) ?_
      refine h2 (fun ⟨t', u, _, q2, _, q4⟩ => hy ?_)
      rw [q4, tI_n (by omega)]
      omega
  · refine xr_k ?_
    refine xr_if_ne xi_65_10 (by first | exact tI_n (by omega) | exact tI_d (by omega) | assumption | exact tI_e1 | exact tI_e2 | exact tI_e3 | exact tI_e4) (fun c_ => by exfalso; omega) (fun c_ => ?_)
    refine xr_ldc (z := xE1) xi_65_13 rfl ?_
    refine xr_iret xi_65_15 (fun h => absurd h (by decide)) ?_
    exact h2 (fun ⟨t', u, q1, _, q3, _⟩ => hn t' q1 q3)
theorem ww_houseOf {x y : Int32} (hS : wS H tx ln st Z G) (hI : sInv G) (h1 : ∀ h w, h < 8 → w < 8 → x = nI h → y = nI w → Q (some (.int (qHouse G h w))) H) (h2 : (¬ ∃ h w, h < 8 ∧ w < 8 ∧ x = nI h ∧ y = nI w) → Q (some (.int xE1)) H) : xc L xs 66 [.ref 0, .int x, .int y] H Q := by
  obtain ⟨fs, pr, nu, po, sta, rea, R, rfl, hf, hX⟩ := hS
  obtain ⟨⟨A, Gs, Sp, Ti, Mv, Hd, pin, c, w, f, m⟩, hv, hr⟩ := wX_now hX
  have hr : vR A Gs Sp Ti Mv Hd pin c w f m G := hr
  have hc := hI.c
  have bad : ¬ (0 ≤ x.toInt ∧ x.toInt < 8) → ¬ ∃ h w, h < 8 ∧ w < 8 ∧ x = nI h ∧ y = nI w := fun q ⟨k, u, q1, _, q3, _⟩ => q (by rw [q3, tI_n (by omega)]; omega)
  refine xr_iload_n xi_66_0 rfl ?_
  refine xr_if_lt xi_66_1 (rfl) (fun c_1 => ?_) (fun c_1 => ?_)
  · refine xr_ldc (z := xE1) xi_66_10 rfl ?_
    refine xr_iret xi_66_12 (fun h => absurd h (by decide)) ?_
    exact h2 (bad (by omega))
  · refine xr_iload_n xi_66_4 rfl ?_
    refine xr_bipush (z := nI 8) xi_66_5 rfl ?_
    refine xr_ic_lt xi_66_7 (rfl) (by first | exact tI_n (by omega) | exact tI_d (by omega) | assumption | exact tI_e1 | exact tI_e2 | exact tI_e3 | exact tI_e4) (fun c_7 => ?_) (fun c_7 => ?_)
    · obtain ⟨k, hk, rfl⟩ := x_of (n := 8) c_1 c_7 (by omega)
      refine xr_aload_n xi_66_13 rfl ?_
      refine xr_virt xi_66_14 rfl rfl rfl rfl (Nat.le_of_ble_eq_true rfl) (Nat.le_of_ble_eq_true rfl) ?_
      refine ww_now hf hX.2.1 ?_
      refine xr_k ?_
      refine xr_astore_n xi_66_17 (Nat.le_of_ble_eq_true rfl) rfl ?_
      refine xr_iload_n xi_66_18 rfl ?_
      by_cases hy : 0 ≤ y.toInt ∧ y.toInt < 8
      · obtain ⟨u, hu, rfl⟩ := x_of (n := 8) hy.1 hy.2 (by omega)
        have h3 := h1 k u hk hu rfl rfl
        have : u = 0 ∨ u = 1 ∨ u = 2 ∨ 3 ≤ u := by omega
        rcases this with rfl | rfl | rfl | h3u
        · have ha := hr.a hk
          have ha3 := hI.a hk
          refine xr_tsw xi_66_19 (by first | exact tI_n (by omega) | exact tI_d (by omega) | assumption | exact tI_e1 | exact tI_e2 | exact tI_e3 | exact tI_e4) (t := 64) (by decide) ?_
          refine xr_aload_n xi_66_64 rfl ?_
          refine xr_getf xi_66_65 (hv.1 0 _ rfl) rfl ?_
          refine xr_iload_n xi_66_68 rfl ?_
          refine xr_ialz xi_66_69 (hv.1 1 _ rfl) (by first | exact tI_n (by first | omega | (simp only [ri]; omega)) | exact tI_dn (by omega) (by omega) | assumption) (by first | omega | (simp only [ri]; omega)) (congrArg dI ha) ?_
          refine xr_stat xi_66_70 (by decide) rfl rfl (Nat.le_of_ble_eq_true rfl) (Nat.le_of_ble_eq_true rfl) ?_
          refine ww_found (by omega) ?_
          refine xr_k ?_
          refine xr_iret xi_66_73 (fun h => absurd h (by decide)) ?_
          exact h3
        · refine xr_tsw xi_66_19 (by first | exact tI_n (by omega) | exact tI_d (by omega) | assumption | exact tI_e1 | exact tI_e2 | exact tI_e3 | exact tI_e4) (t := 74) (by decide) ?_
          refine xr_aload_n xi_66_74 rfl ?_
          refine xr_iload_n xi_66_75 rfl ?_
          refine xr_virt xi_66_76 rfl rfl (hv.1 0 _ rfl) rfl (Nat.le_of_ble_eq_true rfl) (Nat.le_of_ble_eq_true rfl) ?_
          refine xc_rd (as := [.ref 0, .int (nI k)]) hv rfl (wv_thingsIn hr hc hk ⟨rfl, ?_⟩)
          refine xr_k ?_
          refine xr_stat xi_66_79 (by decide) rfl rfl (Nat.le_of_ble_eq_true rfl) (Nat.le_of_ble_eq_true rfl) ?_
          refine wj_bc ?_
          refine xr_k ?_
          refine xr_iret xi_66_82 (fun h => absurd h (by decide)) ?_
          exact h3
        · refine xr_tsw xi_66_19 (by first | exact tI_n (by omega) | exact tI_d (by omega) | assumption | exact tI_e1 | exact tI_e2 | exact tI_e3 | exact tI_e4) (t := 83) (by decide) ?_
          refine xr_aload_n xi_66_83 rfl ?_
          refine xr_iload_n xi_66_84 rfl ?_
          refine xr_virt xi_66_85 rfl rfl (hv.1 0 _ rfl) rfl (Nat.le_of_ble_eq_true rfl) (Nat.le_of_ble_eq_true rfl) ?_
          refine xc_rd (as := [.ref 0, .int (nI k)]) hv rfl (wv_thingsIn hr hc hk ⟨rfl, ?_⟩)
          refine xr_k ?_
          refine xr_iret xi_66_88 (fun h => absurd h (by decide)) ?_
          exact h3
        · obtain ⟨q, rfl⟩ : ∃ q, u = q + 3 := ⟨u - 3, by omega⟩
          have e5 : k * 5 + (q + 3) - 3 = 5 * k + q := by omega
          have hg30 := hr.g30 (p := 5 * k + q) (by omega)
          have h3 : Q (some (.int (qAt G (5 * k + q)))) (wT fs pr st tx nu ln po sta rea ++ R) := h3
          have go : xw L xs 66 89 [.ref 0, .int (nI k), .int (nI (q + 3)), .ref (5 + 7 * pr)] [] (wT fs pr st tx nu ln po sta rea ++ R) Q := by
            refine xr_aload_n xi_66_89 rfl ?_
            refine xr_getf xi_66_90 (hv.1 0 _ rfl) rfl ?_
            refine xr_iload_n xi_66_93 rfl ?_
            refine xr_iconst (z := nI 5) xi_66_94 rfl ?_
            refine xr_imul xi_66_95 (by first | exact pk_mul _ _ | exact rfl) ?_
            refine xr_iload_n xi_66_96 rfl ?_
            refine xr_iadd xi_66_97 (by first | exact nI_add _ _ | exact rfl) ?_
            refine xr_iconst (z := nI 3) xi_66_98 rfl ?_
            refine xr_isub xi_66_99 ((pk_sub (by omega)).trans (congrArg nI e5)) ?_
            refine xr_ialz xi_66_100 (hv.1 2 _ rfl) (by first | exact tI_n (by first | omega | (simp only [ri]; omega)) | exact tI_dn (by omega) (by omega) | assumption) (by first | omega | (simp only [ri]; omega)) (show dF Gs (5 * k + q) = dI (Gs (5 * k + q)) from rfl) ?_
            refine xr_stat xi_66_101 (by decide) rfl rfl (Nat.le_of_ble_eq_true rfl) (Nat.le_of_ble_eq_true rfl) ?_
            refine ww_found (by omega) ?_
            refine xr_k ?_
            refine xr_iret xi_66_104 (fun h => absurd h (by decide)) ?_
            cases hg : Gs (5 * k + q) with
            | zero =>
              rw [if_pos rfl, ← qAt_none ((hr.g0 hc (by omega)).mp hg)]
              exact h3
            | succ t =>
              have ht := (hr.g (p := 5 * k + q) (t := t) (by omega) (by omega)).mp hg
              rw [if_neg (by omega), dI_1, ← qAt_some ht.1 ht.2 (fun v hv2 e => by
                have := (hr.g (p := 5 * k + q) (t := v) (by omega) (by omega)).mpr ⟨by omega, e⟩
                omega)]
              exact h3
          have : q = 0 ∨ q = 1 ∨ q = 2 ∨ q = 3 ∨ q = 4 := by omega
          rcases this with rfl | rfl | rfl | rfl | rfl <;> exact xr_tsw xi_66_19 (tI_n (by omega)) (t := 89) (by decide) go
      · refine xr_tsw xi_66_19 rfl (t := 105) (by rw [if_pos (by omega)]; rfl) ?_
        refine xr_ldc (z := xE1) xi_66_105 rfl ?_
        refine xr_iret xi_66_107 (fun h => absurd h (by decide)) ?_
        refine h2 (fun ⟨t', u, _, q2, _, q4⟩ => hy ?_)
        rw [q4, tI_n (by omega)]
        omega
    · refine xr_ldc (z := xE1) xi_66_10 rfl ?_
      refine xr_iret xi_66_12 (fun h => absurd h (by decide)) ?_
      exact h2 (bad (by omega))
theorem ww_handOf {x : Int32} (hS : wS H tx ln st Z G) (hI : sInv G) (h1 : ∀ h, h < 4 → x = nI h → Q (some (.int (qHand G h))) H) (h2 : (∀ h, h < 4 → x ≠ nI h) → Q (some (.int xE1)) H) : xc L xs 67 [.ref 0, .int x] H Q := by
  obtain ⟨fs, pr, nu, po, sta, rea, R, rfl, hf, hX⟩ := hS
  obtain ⟨⟨A, Gs, Sp, Ti, Mv, Hd, pin, c, w, f, m⟩, hv, hr⟩ := wX_now hX
  have hr : vR A Gs Sp Ti Mv Hd pin c w f m G := hr
  have bad : ¬ (0 ≤ x.toInt ∧ x.toInt < 4) → ∀ h, h < 4 → x ≠ nI h := fun q k hk e => q (by rw [e, tI_n (by omega)]; omega)
  refine xr_iload_n xi_67_0 rfl ?_
  refine xr_if_lt xi_67_1 (rfl) (fun c_1 => ?_) (fun c_1 => ?_)
  · refine xr_ldc (z := xE1) xi_67_9 rfl ?_
    refine xr_iret xi_67_11 (fun h => absurd h (by decide)) ?_
    exact h2 (bad (by omega))
  · refine xr_iload_n xi_67_4 rfl ?_
    refine xr_iconst (z := nI 4) xi_67_5 rfl ?_
    refine xr_ic_lt xi_67_6 (rfl) (by first | exact tI_n (by omega) | exact tI_d (by omega) | assumption | exact tI_e1 | exact tI_e2 | exact tI_e3 | exact tI_e4) (fun c_6 => ?_) (fun c_6 => ?_)
    · obtain ⟨k, hk, rfl⟩ := x_of (n := 4) c_1 c_6 (by omega)
      have hh := hr.h hk
      have h30 := (hI.h hk).1
      refine xr_aload_n xi_67_12 rfl ?_
      refine xr_virt xi_67_13 rfl rfl rfl rfl (Nat.le_of_ble_eq_true rfl) (Nat.le_of_ble_eq_true rfl) ?_
      refine ww_now hf hX.2.1 ?_
      refine xr_k ?_
      refine xr_getf xi_67_16 (hv.1 0 _ rfl) rfl ?_
      refine xr_iload_n xi_67_19 rfl ?_
      refine xr_ialz xi_67_20 (hv.1 6 _ rfl) (by first | exact tI_n (by first | omega | (simp only [ri]; omega)) | exact tI_dn (by omega) (by omega) | assumption) (by first | omega | (simp only [ri]; omega)) (congrArg dI hh) ?_
      refine xr_stat xi_67_21 (by decide) rfl rfl (Nat.le_of_ble_eq_true rfl) (Nat.le_of_ble_eq_true rfl) ?_
      refine ww_found (by omega) ?_
      refine xr_k ?_
      refine xr_iret xi_67_24 (fun h => absurd h (by decide)) ?_
      exact h1 k hk rfl
    · refine xr_ldc (z := xE1) xi_67_9 rfl ?_
      refine xr_iret xi_67_11 (fun h => absurd h (by decide)) ?_
      exact h2 (bad (by omega))
end W5
