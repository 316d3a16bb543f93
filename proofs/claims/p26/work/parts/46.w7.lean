/-! the program's orders -/
def rO (q : Nat) : Nat → Nat := fun i => if i < 7 then rV q i else i - 5
theorem fJ_ord {q pr st ln po sta rea : Nat} {fs : Nat → Option Nat} {tx nu : Nat → Nat} {R : xm_H} {v : wVals} (hv : wV q v (wT fs pr st tx nu ln po sta rea ++ R)) : fJ (rO q) 10 (vHt v ++ oT tx nu ln po sta rea) (wT fs pr st tx nu ln po sta rea ++ R) := by
  refine ⟨fun a e he => ?_, fun a b ha hb e => ?_, rfl⟩
  · have ha : a < 10 := (List.getElem?_eq_some_iff.mp he).1
    have : a = 0 ∨ a = 1 ∨ a = 2 ∨ a = 3 ∨ a = 4 ∨ a = 5 ∨ a = 6 ∨ a = 7 ∨ a = 8 ∨ a = 9 := by omega
    rcases this with rfl | rfl | rfl | rfl | rfl | rfl | rfl | rfl | rfl | rfl
    · cases he; exact hv.1 0 _ rfl
    · cases he; exact hv.1 1 _ rfl
    · cases he; exact hv.1 2 _ rfl
    · cases he; exact hv.1 3 _ rfl
    · cases he; exact hv.1 4 _ rfl
    · cases he; exact hv.1 5 _ rfl
    · cases he; exact hv.1 6 _ rfl
    · cases he; rfl
    · cases he; rfl
    · cases he; rfl
  · unfold rO rV at e
    split at e <;> split at e <;> omega
theorem fJ_ofirst {q ln po sta rea : Nat} {tx nu : Nat → Nat} {v : wVals} {H : xm_H} (h : fJ (rO q) 10 (vHt v ++ oT tx nu ln po sta rea) H) : wV q v H := by
  refine ⟨fun a e he => ?_, fun a b ha hb e => by unfold rV at e; omega, rfl⟩
  have ha : a < 7 := (List.getElem?_eq_some_iff.mp he).1
  have : a = 0 ∨ a = 1 ∨ a = 2 ∨ a = 3 ∨ a = 4 ∨ a = 5 ∨ a = 6 := by omega
  rcases this with rfl | rfl | rfl | rfl | rfl | rfl | rfl
  · cases he; exact h.1 0 _ rfl
  · cases he; exact h.1 1 _ rfl
  · cases he; exact h.1 2 _ rfl
  · cases he; exact h.1 3 _ rfl
  · cases he; exact h.1 4 _ rfl
  · cases he; exact h.1 5 _ rfl
  · cases he; exact h.1 6 _ rfl
theorem fO_ord {q pr st ln po sta rea po' sta' rea' : Nat} {fs : Nat → Option Nat} {tx nu nu' : Nat → Nat} {R H : xm_H} {v : wVals} (h1 : fJ (rO q) 10 (vHt v ++ oT tx nu' ln po' sta' rea') H) (h2 : fO (rO q) 10 (wT fs pr st tx nu ln po sta rea ++ R) H) : ∃ R2, H = wT fs pr st tx nu' ln po' sta' rea' ++ R2 ∧ fO (rV q) 7 (wT fs pr st tx nu' ln po' sta' rea' ++ R) (wT fs pr st tx nu' ln po' sta' rea' ++ R2) := by
  have hlow : ∀ i, i < 5 → H[i]? = (wT fs pr st tx nu' ln po' sta' rea')[i]? := by
    intro i hi
    have : i = 0 ∨ i = 1 ∨ i = 2 ∨ i = 3 ∨ i = 4 := by omega
    rcases this with rfl | rfl | rfl | rfl | rfl
    · exact h2.2 0 (fun a ha e => by unfold rO rV at e; split at e <;> omega)
    · exact h2.2 1 (fun a ha e => by unfold rO rV at e; split at e <;> omega)
    · exact h1.1 7 _ rfl
    · exact h1.1 8 _ rfl
    · exact h1.1 9 _ rfl
  have hlen : H.length = 5 + R.length := by
    rw [h2.1, List.length_append]
    rfl
  have hT : H = wT fs pr st tx nu' ln po' sta' rea' ++ H.drop 5 := by
    conv => lhs; rw [← List.take_append_drop 5 H]
    congr 1
    refine List.ext_getElem? (fun i => ?_)
    by_cases hi : i < 5
    · rw [List.getElem?_take_of_lt hi, hlow i hi]
    · rw [List.getElem?_eq_none (by rw [List.length_take]; omega), List.getElem?_eq_none (by show 5 ≤ i; omega)]
  refine ⟨H.drop 5, hT, ?_⟩
  rw [← hT]
  refine ⟨by rw [hlen, List.length_append]; rfl, fun b hb => ?_⟩
  by_cases hi : b < 5
  · rw [hlow b hi, List.getElem?_append_left (show b < 5 from hi)]
  · rw [h2.2 b (fun a ha e => ?_), List.getElem?_append_right (show 5 ≤ b by omega), List.getElem?_append_right (show 5 ≤ b by omega)]
    · rfl
    · unfold rO at e
      split at e
      · next c => exact hb a c e
      · omega
section W8
variable {L : Nat} {xs : Nat → Int32} {Q : Option Value → xm_H → Prop} {ln st : Nat} {tx Z G : Nat → Nat} {H : xm_H}
theorem ww_runOn {q pr po sta rea : Nat} {fs : Nat → Option Nat} {nu : Nat → Nat} {R : xm_H} {v : wVals} (ht : tOk tx ln) (hv : wV q v (wT fs pr st tx nu ln po sta rea ++ R)) (hr : vRt v G) (hI : sInv G) (hQ : ∀ v' nu' po' sta' cI R2, wV q v' (wT fs pr st tx nu' ln po' sta' (sGo tx ln 61 0 0 G).1 ++ R2) → fO (rV q) 7 (wT fs pr st tx nu' ln po' sta' (sGo tx ln 61 0 0 G).1 ++ R) (wT fs pr st tx nu' ln po' sta' (sGo tx ln 61 0 0 G).1 ++ R2) → ((sGo tx ln 61 0 0 G).1 = 0 → cI = (sGo tx ln 61 0 0 G).2.2.1 ∧ vRt v' (sGo tx ln 61 0 0 G).2.2.2) → ((sGo tx ln 61 0 0 G).1 ≠ 0 → sta' = (sGo tx ln 61 0 0 G).2.1) → Q (some (.int (nI cI))) (wT fs pr st tx nu' ln po' sta' (sGo tx ln 61 0 0 G).1 ++ R2)) : xc L xs 2 [.ref 2, .ref (5 + 7 * q)] (wT fs pr st tx nu ln po sta rea ++ R) Q := by
  refine xc_frame (as := [.ref 7, .ref 0]) (fJ_ord hv) rfl (wo_runOn ht hr hI (fun A Gs Sp Ti Mv Hd pin c w f m nu' po' sta' cI k1 k2 => ⟨rfl, fun H' h1 h2 => ?_⟩))
  have h1 : fJ (rO q) 10 (vHt (A, Gs, Sp, Ti, Mv, Hd, pin, c, w, f, m) ++ oT tx nu' ln po' sta' (sGo tx ln 61 0 0 G).1) H' := h1
  have k3 := fJ_ofirst h1
  obtain ⟨R2, rfl, hO⟩ := fO_ord h1 h2
  exact hQ _ nu' po' sta' cI R2 k3 hO k1 k2
theorem ww_play (hS : wS H tx ln st Z G) (ht : tOk tx ln) (hI : sInv G) (hQ : ∀ H', (∀ st' Z', mPost st Z G (pPlay tx ln G).1 st' Z' → wS H' tx ln st' Z' (pPlay tx ln G).2) → Q (some (.int (pPlay tx ln G).1)) H') : xc L xs 78 [.ref 0] H Q := by
  obtain ⟨fs, pr, nu, po, sta, rea, R, rfl, hf, hX⟩ := hS
  obtain ⟨-, hr3, -, -⟩ := sGo_inv (tx := tx) (ln := ln) 61 0 0 G hI (by omega)
  refine xr_aload_n xi_78_0 rfl ?_
  refine xr_getf xi_78_1 rfl rfl ?_
  refine xr_aload_n xi_78_4 rfl ?_
  refine xr_virt xi_78_5 rfl rfl rfl rfl (Nat.le_of_ble_eq_true rfl) (Nat.le_of_ble_eq_true rfl) ?_
  refine ww_trial hf hX (fun R' v hX' hv hr => ?_)
  refine xr_k ?_
  refine xr_virt xi_78_8 rfl rfl rfl rfl (Nat.le_of_ble_eq_true rfl) (Nat.le_of_ble_eq_true rfl) ?_
  refine ww_runOn ht hv hr hI (fun v' nu' po' sta' cI R2 hv' hO k1 k2 => ?_)
  refine xr_k ?_
  have hX2 : wX (wT fs pr st tx nu' ln po' sta' (sGo tx ln 61 0 0 G).1 ++ R') pr st Z G := wT_X hX'
  by_cases c0 : (sGo tx ln 61 0 0 G).1 = 0
  · have e : pPlay tx ln G = (nI (sGo tx ln 61 0 0 G).2.2.1, (sGo tx ln 61 0 0 G).2.2.2) := if_pos c0
    obtain ⟨rfl, k4⟩ := k1 c0
    obtain ⟨-, -, -, hb⟩ := sGo_inv (tx := tx) (ln := ln) 61 0 0 G hI (by omega)
    have hl := ht.1
    have hE := wS_end (z := (nI (sGo tx ln 61 0 0 G).2.2.1, (sGo tx ln 61 0 0 G).2.2.2)) hf hX2 hv' hO (fun _ => k4) (fun q => absurd (by show 0 ≤ (nI _).toInt; rw [tI_n (by omega)]; omega) q)
    rw [← e] at hE
    refine xr_istore_n xi_78_11 (Nat.le_of_ble_eq_true rfl) rfl ?_
    refine xr_aload_n xi_78_12 rfl ?_
    refine xr_aload_n xi_78_13 rfl ?_
    refine xr_getf xi_78_14 rfl rfl ?_
    refine xr_getf xi_78_17 rfl rfl ?_
    refine xr_if_ne xi_78_20 (by first | exact tI_n (by omega) | exact tI_d (by omega) | assumption | exact tI_e1 | exact tI_e2 | exact tI_e3 | exact tI_e4) (fun c_ => by exfalso; omega) (fun c_ => ?_)
    refine xr_iload_n xi_78_23 rfl ?_
    refine xr_goto xi_78_24 ?_
    refine xr_virt xi_78_29 rfl rfl rfl rfl (Nat.le_of_ble_eq_true rfl) (Nat.le_of_ble_eq_true rfl) ?_
    refine ww_keep hX.2.1 hX.2.2.1 (fun a => ?_) (fun a => ?_)
    · refine xr_k ?_
      refine xr_iret xi_78_32 (fun h => absurd h (by decide)) ?_
      rw [e] at hQ hE
      exact hQ _ (hE.1 a)
    · refine xr_k ?_
      refine xr_iret xi_78_32 (fun h => absurd h (by decide)) ?_
      rw [e] at hQ hE
      exact hQ _ (hE.2 a)
  · have e : pPlay tx ln G = (xE2, G) := if_neg c0
    have hE := wS_end (z := (xE2, G)) hf hX2 hv' hO (fun q => absurd q (by show ¬ 0 ≤ xE2.toInt; rw [tI_e2]; decide)) (fun _ => rfl)
    rw [e] at hQ
    refine xr_istore_n xi_78_11 (Nat.le_of_ble_eq_true rfl) rfl ?_
    refine xr_aload_n xi_78_12 rfl ?_
    refine xr_aload_n xi_78_13 rfl ?_
    refine xr_getf xi_78_14 rfl rfl ?_
    refine xr_getf xi_78_17 rfl rfl ?_
    refine xr_if_ne xi_78_20 (by first | exact tI_n (by omega) | exact tI_d (by omega) | assumption | exact tI_e1 | exact tI_e2 | exact tI_e3 | exact tI_e4) (fun c_ => ?_) (fun c_ => by exfalso; omega)
    refine xr_ldc (z := xE2) xi_78_27 rfl ?_
    refine xr_virt xi_78_29 rfl rfl rfl rfl (Nat.le_of_ble_eq_true rfl) (Nat.le_of_ble_eq_true rfl) ?_
    refine ww_keep hX.2.1 hX.2.2.1 (fun a => ?_) (fun a => ?_)
    · refine xr_k ?_
      refine xr_iret xi_78_32 (fun h => absurd h (by decide)) ?_
      exact hQ _ (hE.1 a)
    · refine xr_k ?_
      refine xr_iret xi_78_32 (fun h => absurd h (by decide)) ?_
      exact hQ _ (hE.2 a)
end W8
