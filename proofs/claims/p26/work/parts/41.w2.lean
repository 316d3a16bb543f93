/-! the program: the present village, the trial one, and keeping it -/
def rW (q p : Nat) : Nat → Nat := fun i => if i < 7 then rV q i else rV p (i - 7)
theorem fJ_two {q p : Nat} {v v1 : wVals} {H : xm_H} (hqp : q ≠ p) (hJ : wV q v H) (hJ1 : wV p v1 H) : fJ (rW q p) 14 (vHt v ++ (vHt v1).map (fe (7 + ·))) H := by
  refine ⟨fun a e he => ?_, fun a b ha hb e => ?_, rfl⟩
  · have ha : a < 14 := (List.getElem?_eq_some_iff.mp he).1
    have : a = 0 ∨ a = 1 ∨ a = 2 ∨ a = 3 ∨ a = 4 ∨ a = 5 ∨ a = 6 ∨ a = 7 ∨ a = 8 ∨ a = 9 ∨ a = 10 ∨ a = 11 ∨ a = 12 ∨ a = 13 := by omega
    rcases this with rfl | rfl | rfl | rfl | rfl | rfl | rfl | rfl | rfl | rfl | rfl | rfl | rfl | rfl
    · cases he; exact hJ.1 0 _ rfl
    · cases he; exact hJ.1 1 _ rfl
    · cases he; exact hJ.1 2 _ rfl
    · cases he; exact hJ.1 3 _ rfl
    · cases he; exact hJ.1 4 _ rfl
    · cases he; exact hJ.1 5 _ rfl
    · cases he; exact hJ.1 6 _ rfl
    · cases he; exact hJ1.1 0 _ rfl
    · cases he; exact hJ1.1 1 _ rfl
    · cases he; exact hJ1.1 2 _ rfl
    · cases he; exact hJ1.1 3 _ rfl
    · cases he; exact hJ1.1 4 _ rfl
    · cases he; exact hJ1.1 5 _ rfl
    · cases he; exact hJ1.1 6 _ rfl
  · unfold rW rV at e
    split at e <;> split at e <;> omega
theorem fJ_first {q p : Nat} {v v1 : wVals} {H : xm_H} (h : fJ (rW q p) 14 (vHt v ++ (vHt v1).map (fe (7 + ·))) H) : wV q v H := by
  refine ⟨fun a e he => ?_, fun a b ha hb e => by unfold rV at e; omega, rfl⟩
  have ha : a < 7 := (List.getElem?_eq_some_iff.mp he).1
  have : a = 0 ∨ a = 1 ∨ a = 2 ∨ a = 3 ∨ a = 4 ∨ a = 5 ∨ a = 6 := by omega
  rcases this with rfl | rfl | rfl | rfl | rfl | rfl | rfl
  · cases he; exact h.1 0 _ rfl
  · cases he; exact h.1 1 _ rfl
  · cases he; exact h.1 2 _ rfl
  · cases he; exact h.1 3 _ rfl
  · cases he; exact h.1 4 _ rfl
  · cases he; exact h.1 5 _ rfl
  · cases he; exact h.1 6 _ rfl
theorem fJ_second {q p : Nat} {v v1 : wVals} {H : xm_H} (h : fJ (rW q p) 14 (vHt v ++ (vHt v1).map (fe (7 + ·))) H) : wV p v1 H := by
  refine ⟨fun a e he => ?_, fun a b ha hb e => by unfold rV at e; omega, rfl⟩
  have ha : a < 7 := (List.getElem?_eq_some_iff.mp he).1
  have : a = 0 ∨ a = 1 ∨ a = 2 ∨ a = 3 ∨ a = 4 ∨ a = 5 ∨ a = 6 := by omega
  rcases this with rfl | rfl | rfl | rfl | rfl | rfl | rfl
  · cases he; exact h.1 7 _ rfl
  · cases he; exact h.1 8 _ rfl
  · cases he; exact h.1 9 _ rfl
  · cases he; exact h.1 10 _ rfl
  · cases he; exact h.1 11 _ rfl
  · cases he; exact h.1 12 _ rfl
  · cases he; exact h.1 13 _ rfl
theorem wV_top {p : Nat} {v : wVals} {T T' R : xm_H} (hT : T.length = 5) (hT' : T'.length = 5) (h : wV p v (T ++ R)) : wV p v (T' ++ R) := by
  refine ⟨fun a e he => ?_, h.2.1, h.2.2⟩
  have h1 := h.1 a e he
  have hr : 5 ≤ rV p a := by unfold rV; omega
  rw [List.getElem?_append_right (by omega), hT] at h1
  rw [List.getElem?_append_right (by omega), hT']
  exact h1
theorem hG_0 (Z G : Nat → Nat) (st : Nat) : hG Z G st 0 = G := if_pos rfl
theorem vRt_copy {A Gs Sp Ti Mv Hd A1 Gs1 Sp1 Ti1 Mv1 Hd1 G : Nat → Nat} {pin1 : Int32} {c1 w1 f1 m1 : Nat} (h : vR A1 Gs1 Sp1 Ti1 Mv1 Hd1 pin1 c1 w1 f1 m1 G) : vR (fun i => if i < 8 then A1 i else A i) (fun i => if i < 40 then Gs1 i else Gs i) (fun i => if i < 30 then Sp1 i else Sp i) (fun i => if i < 90 then Ti1 i else Ti i) (fun i => if i < 30 then Mv1 i else Mv i) (fun i => if i < 4 then Hd1 i else Hd i) pin1 c1 w1 f1 m1 G := by
  obtain ⟨h1, h2, h3, h4, h5, h6, h7, h8, h9⟩ := h
  refine ⟨fun k hk => ?_, fun t ht => ?_, fun t k ht hk => ?_, fun k hk => ?_, fun t ht => ?_, h6, h7, fun p hp => ?_, fun p t hp ht => ?_⟩
  · dsimp only; rw [if_pos hk]; exact h1 k hk
  · dsimp only; rw [if_pos ht]; exact h2 t ht
  · dsimp only; rw [if_pos (by omega)]; exact h3 t k ht hk
  · dsimp only; rw [if_pos hk]; exact h4 k hk
  · dsimp only; rw [if_pos ht]; exact h5 t ht
  · dsimp only; rw [if_pos hp]; exact h8 p hp
  · dsimp only; rw [if_pos hp]; exact h9 p t hp ht
theorem min4 {st : Nat} (h : st ≤ 4) : (if nI 4 < nI (st + 1) then nI 4 else nI (st + 1)) = nI (min (st + 1) 4) := by
  have : st = 0 ∨ st = 1 ∨ st = 2 ∨ st = 3 ∨ st = 4 := by omega
  rcases this with rfl | rfl | rfl | rfl | rfl <;> decide +kernel
section W3
variable {L : Nat} {xs : Nat → Int32} {Q : Option Value → xm_H → Prop} {fs : Nat → Option Nat} {pr st ln po sta rea : Nat} {tx nu Z G : Nat → Nat} {R : xm_H}
theorem ww_now (hf : wF fs) (hp : pr < 6) (hQ : Q (some (.ref (5 + 7 * pr))) (wT fs pr st tx nu ln po sta rea ++ R)) : xc L xs 79 [.ref 0] (wT fs pr st tx nu ln po sta rea ++ R) Q := by
  refine xr_aload_n xi_79_0 rfl ?_
  refine xr_getf xi_79_1 rfl rfl ?_
  refine xr_aload_n xi_79_4 rfl ?_
  refine xr_getf xi_79_5 rfl rfl ?_
  refine xr_aald xi_79_8 rfl (by first | exact tI_n (by first | omega | (simp only [ri]; omega)) | exact tI_dn (by omega) (by omega) | assumption) (by omega) (hf pr hp) ?_
  refine xr_aret xi_79_9 ?_
  exact hQ
theorem ww_keep {a : Int32} (hp : pr < 6) (hst : st ≤ 4) (h1 : 0 ≤ a.toInt → Q (some (.int a)) (wT fs ((pr + 1) % 6) (min (st + 1) 4) tx nu ln po sta rea ++ R)) (h2 : a.toInt < 0 → Q (some (.int a)) (wT fs pr st tx nu ln po sta rea ++ R)) : xc L xs 81 [.ref 0, .int a] (wT fs pr st tx nu ln po sta rea ++ R) Q := by
  refine xr_iload_n xi_81_0 rfl ?_
  refine xr_if_lt xi_81_1 (rfl) (fun c_1 => ?_) (fun c_1 => ?_)
  · refine xr_iload_n xi_81_31 rfl ?_
    refine xr_iret xi_81_32 (fun h => absurd h (by decide)) ?_
    exact h2 (by omega)
  · refine xr_aload_n xi_81_4 rfl ?_
    refine xr_aload_n xi_81_5 rfl ?_
    refine xr_getf xi_81_6 rfl rfl ?_
    refine xr_iconst (z := nI 1) xi_81_9 rfl ?_
    refine xr_iadd xi_81_10 (by first | exact nI_add _ _ | exact rfl) ?_
    refine xr_bipush (z := nI 6) xi_81_11 rfl ?_
    refine xr_irem xi_81_13 (by decide) (by first | exact pk_rem (by omega) (by omega) (by omega) | exact rfl) ?_
    refine xr_putf xi_81_14 rfl (Nat.le_of_ble_eq_true rfl) (show _ = wT fs ((pr + 1) % 6) st tx nu ln po sta rea ++ R from rfl) ?_
    refine xr_aload_n xi_81_17 rfl ?_
    refine xr_aload_n xi_81_18 rfl ?_
    refine xr_getf xi_81_19 rfl rfl ?_
    refine xr_iconst (z := nI 1) xi_81_22 rfl ?_
    refine xr_iadd xi_81_23 (by first | exact nI_add _ _ | exact rfl) ?_
    refine xr_iconst (z := nI 4) xi_81_24 rfl ?_
    refine xr_min xi_81_25 (Nat.le_of_ble_eq_true rfl) (min4 hst) ?_
    refine xr_putf xi_81_28 rfl (Nat.le_of_ble_eq_true rfl) (show _ = wT fs ((pr + 1) % 6) (min (st + 1) 4) tx nu ln po sta rea ++ R from rfl) ?_
    refine xr_iload_n xi_81_31 rfl ?_
    refine xr_iret xi_81_32 (fun h => absurd h (by decide)) ?_
    exact h1 (by omega)
theorem wX_other {H H' : xm_H} {v : wVals} (hX : wX H pr st Z G) (hv : wV ((pr + 1) % 6) v H') (hO : fO (rV ((pr + 1) % 6)) 7 H H') : wX H' pr st Z G := by
  obtain ⟨h1, h2, h3, h4, h5⟩ := hX
  refine ⟨by rw [hO.1]; exact h1, h2, h3, fun k hk => ?_, fun d hd => ?_⟩
  · by_cases e : k = (pr + 1) % 6
    · exact ⟨v, e ▸ hv⟩
    · obtain ⟨u, hu⟩ := h4 k hk
      exact ⟨u, hu.keep e hO⟩
  · obtain ⟨u, hu, hr⟩ := h5 d hd
    exact ⟨u, hu.keep (by omega) hO, hr⟩
theorem ww_trial (hf : wF fs) (hX : wX (wT fs pr st tx nu ln po sta rea ++ R) pr st Z G) (hQ : ∀ R' v, wX (wT fs pr st tx nu ln po sta rea ++ R') pr st Z G → wV ((pr + 1) % 6) v (wT fs pr st tx nu ln po sta rea ++ R') → vRt v G → Q (some (.ref (5 + 7 * ((pr + 1) % 6)))) (wT fs pr st tx nu ln po sta rea ++ R')) : xc L xs 80 [.ref 0] (wT fs pr st tx nu ln po sta rea ++ R) Q := by
  have hp := hX.2.1
  obtain ⟨v, hv⟩ := hX.2.2.2.1 ((pr + 1) % 6) (by omega)
  obtain ⟨v1, hv1, hr1⟩ := hX.2.2.2.2 0 (by omega)
  rw [hG_0] at hr1
  rw [show (pr + 6 - 0) % 6 = pr by omega] at hv1
  have hqp : (pr + 1) % 6 ≠ pr := by omega
  have hJ := fJ_two hqp hv hv1
  refine xr_aload_n xi_80_0 rfl ?_
  refine xr_getf xi_80_1 rfl rfl ?_
  refine xr_aload_n xi_80_4 rfl ?_
  refine xr_getf xi_80_5 rfl rfl ?_
  refine xr_iconst (z := nI 1) xi_80_8 rfl ?_
  refine xr_iadd xi_80_9 (by first | exact nI_add _ _ | exact rfl) ?_
  refine xr_bipush (z := nI 6) xi_80_10 rfl ?_
  refine xr_irem xi_80_12 (by decide) (by first | exact pk_rem (by omega) (by omega) (by omega) | exact rfl) ?_
  refine xr_aald xi_80_13 rfl (by first | exact tI_n (by first | omega | (simp only [ri]; omega)) | exact tI_dn (by omega) (by omega) | assumption) (by omega) (hf _ (by omega)) ?_
  refine xr_astore_n xi_80_14 (Nat.le_of_ble_eq_true rfl) rfl ?_
  refine xr_aload_n xi_80_15 rfl ?_
  refine xr_aload_n xi_80_16 rfl ?_
  refine xr_virt xi_80_17 rfl rfl rfl rfl (Nat.le_of_ble_eq_true rfl) (Nat.le_of_ble_eq_true rfl) ?_
  refine ww_now hf hp ?_
  refine xr_k ?_
  refine xr_virt xi_80_20 rfl rfl (hv.1 0 _ rfl) rfl (Nat.le_of_ble_eq_true rfl) (Nat.le_of_ble_eq_true rfl) ?_
  obtain ⟨A, Gs, Sp, Ti, Mv, Hd, pin, c, w, f, m⟩ := v
  obtain ⟨A1, Gs1, Sp1, Ti1, Mv1, Hd1, pin1, c1, w1, f1, m1⟩ := v1
  refine xc_frame hJ (as := [.ref 0, .ref 7]) rfl (wv_copy ⟨rfl, fun H' h1 h2 => ?_⟩)
  have h1 : fJ (rW ((pr + 1) % 6) pr) 14 (vHt ((fun i => if i < 8 then A1 i else A i), (fun i => if i < 40 then Gs1 i else Gs i), (fun i => if i < 30 then Sp1 i else Sp i), (fun i => if i < 90 then Ti1 i else Ti i), (fun i => if i < 30 then Mv1 i else Mv i), (fun i => if i < 4 then Hd1 i else Hd i), pin1, c1, w1, f1, m1) ++ (vHt (A1, Gs1, Sp1, Ti1, Mv1, Hd1, pin1, c1, w1, f1, m1)).map (fe (7 + ·))) H' := h1
  have k1 := fJ_first h1
  have k2 := fJ_second h1
  have hO : fO (rV ((pr + 1) % 6)) 7 (wT fs pr st tx nu ln po sta rea ++ R) H' := by
    refine ⟨h2.1, fun b hb => ?_⟩
    by_cases e : ∃ a, a < 7 ∧ rV pr a = b
    · obtain ⟨a, ha, rfl⟩ := e
      have hl : a < (vHt (A1, Gs1, Sp1, Ti1, Mv1, Hd1, pin1, c1, w1, f1, m1)).length := ha
      rw [hv1.1 a _ (List.getElem?_eq_getElem hl), k2.1 a _ (List.getElem?_eq_getElem hl)]
    · refine h2.2 b (fun a ha q => ?_)
      unfold rW at q
      split at q
      · next c => exact hb a c q
      · next c => exact e ⟨a - 7, by have : a < 14 := ha; omega, q⟩
  obtain ⟨R', rfl⟩ := fO_split rfl hO
  refine xr_kv ?_
  refine xr_aload_n xi_80_23 rfl ?_
  refine xr_aret xi_80_24 ?_
  exact hQ R' _ (wX_other hX k1 hO) k1 (vRt_copy hr1)
theorem wS_end {H1 R2 : xm_H} {v : wVals} {z : Int32 × (Nat → Nat)} (hf : wF fs) (hX : wX H1 pr st Z G) (hv : wV ((pr + 1) % 6) v (wT fs pr st tx nu ln po sta rea ++ R2)) (hO : fO (rV ((pr + 1) % 6)) 7 H1 (wT fs pr st tx nu ln po sta rea ++ R2)) (hz : 0 ≤ z.1.toInt → vRt v z.2) (he : ¬ 0 ≤ z.1.toInt → z.2 = G) :
    (0 ≤ z.1.toInt → ∀ st' Z', mPost st Z G z.1 st' Z' → wS (wT fs ((pr + 1) % 6) (min (st + 1) 4) tx nu ln po sta rea ++ R2) tx ln st' Z' z.2) ∧ (z.1.toInt < 0 → ∀ st' Z', mPost st Z G z.1 st' Z' → wS (wT fs pr st tx nu ln po sta rea ++ R2) tx ln st' Z' z.2) := by
  have hX2 := wX_other hX hv hO
  obtain ⟨h1, h2, h3, h4, h5⟩ := hX2
  refine ⟨fun ha st' Z' hm => ?_, fun ha st' Z' hm => ?_⟩
  · obtain ⟨m1, m2, m3⟩ := hm.1 ha
    subst m1
    refine ⟨fs, (pr + 1) % 6, nu, po, sta, rea, R2, rfl, hf, ?_, by omega, by omega, fun k hk => ?_, fun d hd => ?_⟩
    · rw [List.length_append] at h1 ⊢
      exact h1
    · obtain ⟨u, hu⟩ := h4 k hk
      exact ⟨u, wV_top rfl rfl hu⟩
    · by_cases d0 : d = 0
      · subst d0
        rw [hG_0, show ((pr + 1) % 6 + 6 - 0) % 6 = (pr + 1) % 6 by omega]
        exact ⟨v, wV_top rfl rfl hv, hz ha⟩
      · obtain ⟨u, hu, hr⟩ := h5 (d - 1) (by omega)
        rw [show (pr + 6 - (d - 1)) % 6 = ((pr + 1) % 6 + 6 - d) % 6 by omega] at hu
        refine ⟨u, wV_top rfl rfl hu, vR.to hr (fun i hi => ?_)⟩
        unfold hG
        rw [if_neg d0]
        by_cases d1 : d = 1
        · subst d1
          rw [if_pos rfl]
          have := m2 i hi
          rw [← this]
          congr 1
          omega
        · rw [if_neg (by omega)]
          have := m3 (min (st + 1) 4 - d) (by omega) i hi
          rw [this]
          congr 1
          omega
  · obtain ⟨m1, m2⟩ := hm.2 ha
    subst m1
    rw [he (by omega)]
    refine ⟨fs, pr, nu, po, sta, rea, R2, rfl, hf, h1, h2, h3, h4, fun d hd => ?_⟩
    obtain ⟨u, hu, hr⟩ := h5 d hd
    refine ⟨u, hu, vR.to hr (fun i hi => ?_)⟩
    unfold hG
    split
    · rfl
    · exact m2 _ (by omega)
end W3
