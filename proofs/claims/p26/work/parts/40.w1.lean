/-! the program's heap: six villages, orders; calls on one of them -/
abbrev wVals : Type := (Nat → Nat) × (Nat → Nat) × (Nat → Nat) × (Nat → Nat) × (Nat → Nat) × (Nat → Nat) × Int32 × Nat × Nat × Nat × Nat
def vHt (v : wVals) : xm_H := vH v.1 v.2.1 v.2.2.1 v.2.2.2.1 v.2.2.2.2.1 v.2.2.2.2.2.1 v.2.2.2.2.2.2.1 v.2.2.2.2.2.2.2.1 v.2.2.2.2.2.2.2.2.1 v.2.2.2.2.2.2.2.2.2.1 v.2.2.2.2.2.2.2.2.2.2
def vRt (v : wVals) (G : Nat → Nat) : Prop := vR v.1 v.2.1 v.2.2.1 v.2.2.2.1 v.2.2.2.2.1 v.2.2.2.2.2.1 v.2.2.2.2.2.2.1 v.2.2.2.2.2.2.2.1 v.2.2.2.2.2.2.2.2.1 v.2.2.2.2.2.2.2.2.2.1 v.2.2.2.2.2.2.2.2.2.2 G
def rV (p : Nat) : Nat → Nat := fun i => 5 + 7 * p + i
def wT (fs : Nat → Option Nat) (pr st : Nat) (tx nu : Nat → Nat) (ln po sta rea : Nat) : xm_H := [.inr (.inr (2, [.ref 1, .ref 2, .int (nI pr), .int (nI st)])), .inr (.inl (6, fs)), .inr (.inr (0, [.ref 3, .ref 4, .int (nI ln), .int (nI po), .int (nI sta), .int (nI rea)])), .inl (60, mF tx), .inl (3, mF nu)]
def hG (Z G : Nat → Nat) (st d : Nat) : Nat → Nat := if d = 0 then G else fun i => Z (196 + 196 * (st - d) + i)
/-- a village's cells -/
def wV (p : Nat) (v : wVals) (H : xm_H) : Prop := fJ (rV p) 7 (vHt v) H
def wX (H : xm_H) (pr st : Nat) (Z G : Nat → Nat) : Prop := H.length = 47 ∧ pr < 6 ∧ st ≤ 4 ∧ (∀ k, k < 6 → ∃ v, wV k v H) ∧ ∀ d, d ≤ st → ∃ v, wV ((pr + 6 - d) % 6) v H ∧ vRt v (hG Z G st d)
def wF (fs : Nat → Option Nat) : Prop := ∀ k, k < 6 → fs k = some (5 + 7 * k)
def wS (H : xm_H) (tx : Nat → Nat) (ln st : Nat) (Z G : Nat → Nat) : Prop := ∃ fs pr nu po sta rea R, H = wT fs pr st tx nu ln po sta rea ++ R ∧ wF fs ∧ wX H pr st Z G
theorem wV.keep {p q : Nat} {v : wVals} {H H' : xm_H} (hp : p ≠ q) (h : wV p v H) (hO : fO (rV q) 7 H H') : wV p v H' := by
  refine ⟨fun a e he => ?_, h.2.1, h.2.2⟩
  have ha : a < 7 := by
    have h1 : a < (vHt v).length := (List.getElem?_eq_some_iff.mp he).1
    exact h1
  rw [hO.2 _ (fun b hb e2 => ?_)]
  · exact h.1 a e he
  · unfold rV at e2
    omega
theorem wV.low {p i : Nat} {H H' : xm_H} (hi : i < 5) (hO : fO (rV p) 7 H H') : H'[i]? = H[i]? := hO.2 i (fun a _ e => by unfold rV at e; omega)
theorem fO_split {p : Nat} {T R H' : xm_H} (hT : T.length = 5) (hO : fO (rV p) 7 (T ++ R) H') : ∃ R', H' = T ++ R' := by
  refine ⟨H'.drop 5, ?_⟩
  rw [← List.take_append_drop 5 H']
  rw [List.take_append_drop 5 H']
  conv => lhs; rw [← List.take_append_drop 5 H']
  congr 1
  refine List.ext_getElem? (fun i => ?_)
  by_cases hi : i < 5
  · rw [List.getElem?_take_of_lt hi, wV.low hi hO, List.getElem?_append_left (by omega)]
  · rw [List.getElem?_eq_none (by rw [List.length_take]; omega), List.getElem?_eq_none (by omega)]
theorem fJ_same {ρ : Nat → Nat} {m : Nat} {h H H' : xm_H} (h1 : fJ ρ m h H) (h2 : fJ ρ m h H') (hO : fO ρ m H H') : H' = H := by
  refine List.ext_getElem? (fun i => ?_)
  by_cases hi : ∃ a, a < m ∧ ρ a = i
  · obtain ⟨a, ha, rfl⟩ := hi
    have hl : a < h.length := by rw [h1.2.2]; exact ha
    rw [h1.1 a _ (List.getElem?_eq_getElem hl), h2.1 a _ (List.getElem?_eq_getElem hl)]
  · exact hO.2 i (fun a ha e => hi ⟨a, ha, e⟩)
section W1
variable {L : Nat} {xs : Nat → Int32} {Q : Option Value → xm_H → Prop}
/-- a call that reads a village -/
theorem xc_rd {j p : Nat} {as As : List Value} {v : wVals} {H : xm_H} (hJ : wV p v H) (hA : as.map (fv (rV p)) = As) (hc : xc L xs j as (vHt v) (fun r h' => h' = vHt v ∧ Q (r.map (fv (rV p))) H)) : xc L xs j As H Q := by
  refine xc_frame (h := vHt v) hJ hA (hc.mono (fun r h' hq => ⟨by rw [hq.1], fun H' h1 h2 => ?_⟩))
  rw [hq.1] at h1
  rw [fJ_same hJ h1 h2]
  exact hq.2
/-- a call that changes a village -/
theorem xc_ch {j p : Nat} {as As : List Value} {v : wVals} {H : xm_H} {z : Int32 × (Nat → Nat)} (hJ : wV p v H) (hA : as.map (fv (rV p)) = As) (hQ : ∀ H' v', wV p v' H' → fO (rV p) 7 H H' → (0 ≤ z.1.toInt → vRt v' z.2) → Q (some (.int z.1)) H') (hc : ∀ Q' : Option Value → xm_H → Prop, vC Q' z → xc L xs j as (vHt v) Q') : xc L xs j As H Q := by
  refine xc_frame (h := vHt v) hJ hA (hc _ (fun A Gs Sp Ti Mv Hd pin c w f m hR => ⟨rfl, fun H' h1 h2 => ?_⟩))
  exact hQ H' (A, Gs, Sp, Ti, Mv, Hd, pin, c, w, f, m) h1 h2 hR
end W1
theorem cpy_dF {A B : Nat → Nat} {n : Nat} : va_cpy (dF A) (dF B) 0 0 n = dF (fun i => if i < n then A i else B i) := by
  funext i
  unfold va_cpy dF
  simp only [Nat.zero_le, true_and, Nat.zero_add, Nat.sub_zero]
  split <;> rfl
theorem cpy_mF {A B : Nat → Nat} {n : Nat} : va_cpy (mF A) (mF B) 0 0 n = mF (fun i => if i < n then A i else B i) := by
  funext i
  unfold va_cpy mF
  simp only [Nat.zero_le, true_and, Nat.zero_add, Nat.sub_zero]
  split <;> rfl
section W2
variable {L : Nat} {xs : Nat → Int32} {Q : Option Value → xm_H → Prop}
theorem wv_copy {A Gs Sp Ti Mv Hd A1 Gs1 Sp1 Ti1 Mv1 Hd1 : Nat → Nat} {pin pin1 : Int32} {c w f m c1 w1 f1 m1 : Nat} (hQ : Q none (vH (fun i => if i < 8 then A1 i else A i) (fun i => if i < 40 then Gs1 i else Gs i) (fun i => if i < 30 then Sp1 i else Sp i) (fun i => if i < 90 then Ti1 i else Ti i) (fun i => if i < 30 then Mv1 i else Mv i) (fun i => if i < 4 then Hd1 i else Hd i) pin1 c1 w1 f1 m1 ++ (vH A1 Gs1 Sp1 Ti1 Mv1 Hd1 pin1 c1 w1 f1 m1).map (fe (7 + ·)))) : xc L xs 13 [.ref 0, .ref 7] ((vH A Gs Sp Ti Mv Hd pin c w f m) ++ (vH A1 Gs1 Sp1 Ti1 Mv1 Hd1 pin1 c1 w1 f1 m1).map (fe (7 + ·))) Q := by
  rw [show vH (fun i => if i < 8 then A1 i else A i) (fun i => if i < 40 then Gs1 i else Gs i) (fun i => if i < 30 then Sp1 i else Sp i) (fun i => if i < 90 then Ti1 i else Ti i) (fun i => if i < 30 then Mv1 i else Mv i) (fun i => if i < 4 then Hd1 i else Hd i) pin1 c1 w1 f1 m1 = [.inr (.inr (1, [.ref 1, .ref 2, .ref 3, .ref 4, .ref 5, .ref 6, .int pin1, .int (nI c1), .int (nI w1), .int (nI f1), .int (nI m1)])), .inl (8, va_cpy (dF A1) (dF A) 0 0 8), .inl (40, va_cpy (dF Gs1) (dF Gs) 0 0 40), .inl (30, va_cpy (dF Sp1) (dF Sp) 0 0 30), .inl (90, va_cpy (dF Ti1) (dF Ti) 0 0 90), .inl (30, va_cpy (mF Mv1) (mF Mv) 0 0 30), .inl (4, va_cpy (dF Hd1) (dF Hd) 0 0 4)] by rw [cpy_dF, cpy_dF, cpy_dF, cpy_dF, cpy_mF, cpy_dF]; rfl] at hQ
  refine xr_aload_n xi_13_0 rfl ?_
  refine xr_getf xi_13_1 rfl rfl ?_
  refine xr_iconst (z := nI 0) xi_13_4 rfl ?_
  refine xr_aload_n xi_13_5 rfl ?_
  refine xr_getf xi_13_6 rfl rfl ?_
  refine xr_iconst (z := nI 0) xi_13_9 rfl ?_
  refine xr_bipush (z := nI 8) xi_13_10 rfl ?_
  refine xr_copy xi_13_12 rfl rfl (by first | exact tI_n (by first | omega | (simp only [ri]; omega)) | exact tI_dn (by omega) (by omega) | assumption) (by first | exact tI_n (by first | omega | (simp only [ri]; omega)) | exact tI_dn (by omega) (by omega) | assumption) (by first | exact tI_n (by first | omega | (simp only [ri]; omega)) | exact tI_dn (by omega) (by omega) | assumption) (by omega) (by omega) (Nat.le_of_ble_eq_true rfl) rfl ?_
  refine xr_aload_n xi_13_15 rfl ?_
  refine xr_getf xi_13_16 rfl rfl ?_
  refine xr_iconst (z := nI 0) xi_13_19 rfl ?_
  refine xr_aload_n xi_13_20 rfl ?_
  refine xr_getf xi_13_21 rfl rfl ?_
  refine xr_iconst (z := nI 0) xi_13_24 rfl ?_
  refine xr_bipush (z := nI 40) xi_13_25 rfl ?_
  refine xr_copy xi_13_27 rfl rfl (by first | exact tI_n (by first | omega | (simp only [ri]; omega)) | exact tI_dn (by omega) (by omega) | assumption) (by first | exact tI_n (by first | omega | (simp only [ri]; omega)) | exact tI_dn (by omega) (by omega) | assumption) (by first | exact tI_n (by first | omega | (simp only [ri]; omega)) | exact tI_dn (by omega) (by omega) | assumption) (by omega) (by omega) (Nat.le_of_ble_eq_true rfl) rfl ?_
  refine xr_aload_n xi_13_30 rfl ?_
  refine xr_getf xi_13_31 rfl rfl ?_
  refine xr_iconst (z := nI 0) xi_13_34 rfl ?_
  refine xr_aload_n xi_13_35 rfl ?_
  refine xr_getf xi_13_36 rfl rfl ?_
  refine xr_iconst (z := nI 0) xi_13_39 rfl ?_
  refine xr_bipush (z := nI 30) xi_13_40 rfl ?_
  refine xr_copy xi_13_42 rfl rfl (by first | exact tI_n (by first | omega | (simp only [ri]; omega)) | exact tI_dn (by omega) (by omega) | assumption) (by first | exact tI_n (by first | omega | (simp only [ri]; omega)) | exact tI_dn (by omega) (by omega) | assumption) (by first | exact tI_n (by first | omega | (simp only [ri]; omega)) | exact tI_dn (by omega) (by omega) | assumption) (by omega) (by omega) (Nat.le_of_ble_eq_true rfl) rfl ?_
  refine xr_aload_n xi_13_45 rfl ?_
  refine xr_getf xi_13_46 rfl rfl ?_
  refine xr_iconst (z := nI 0) xi_13_49 rfl ?_
  refine xr_aload_n xi_13_50 rfl ?_
  refine xr_getf xi_13_51 rfl rfl ?_
  refine xr_iconst (z := nI 0) xi_13_54 rfl ?_
  refine xr_bipush (z := nI 90) xi_13_55 rfl ?_
  refine xr_copy xi_13_57 rfl rfl (by first | exact tI_n (by first | omega | (simp only [ri]; omega)) | exact tI_dn (by omega) (by omega) | assumption) (by first | exact tI_n (by first | omega | (simp only [ri]; omega)) | exact tI_dn (by omega) (by omega) | assumption) (by first | exact tI_n (by first | omega | (simp only [ri]; omega)) | exact tI_dn (by omega) (by omega) | assumption) (by omega) (by omega) (Nat.le_of_ble_eq_true rfl) rfl ?_
  refine xr_aload_n xi_13_60 rfl ?_
  refine xr_getf xi_13_61 rfl rfl ?_
  refine xr_iconst (z := nI 0) xi_13_64 rfl ?_
  refine xr_aload_n xi_13_65 rfl ?_
  refine xr_getf xi_13_66 rfl rfl ?_
  refine xr_iconst (z := nI 0) xi_13_69 rfl ?_
  refine xr_bipush (z := nI 30) xi_13_70 rfl ?_
  refine xr_copy xi_13_72 rfl rfl (by first | exact tI_n (by first | omega | (simp only [ri]; omega)) | exact tI_dn (by omega) (by omega) | assumption) (by first | exact tI_n (by first | omega | (simp only [ri]; omega)) | exact tI_dn (by omega) (by omega) | assumption) (by first | exact tI_n (by first | omega | (simp only [ri]; omega)) | exact tI_dn (by omega) (by omega) | assumption) (by omega) (by omega) (Nat.le_of_ble_eq_true rfl) rfl ?_
  refine xr_aload_n xi_13_75 rfl ?_
  refine xr_getf xi_13_76 rfl rfl ?_
  refine xr_iconst (z := nI 0) xi_13_79 rfl ?_
  refine xr_aload_n xi_13_80 rfl ?_
  refine xr_getf xi_13_81 rfl rfl ?_
  refine xr_iconst (z := nI 0) xi_13_84 rfl ?_
  refine xr_iconst (z := nI 4) xi_13_85 rfl ?_
  refine xr_copy xi_13_86 rfl rfl (by first | exact tI_n (by first | omega | (simp only [ri]; omega)) | exact tI_dn (by omega) (by omega) | assumption) (by first | exact tI_n (by first | omega | (simp only [ri]; omega)) | exact tI_dn (by omega) (by omega) | assumption) (by first | exact tI_n (by first | omega | (simp only [ri]; omega)) | exact tI_dn (by omega) (by omega) | assumption) (by omega) (by omega) (Nat.le_of_ble_eq_true rfl) rfl ?_
  refine xr_aload_n xi_13_89 rfl ?_
  refine xr_aload_n xi_13_90 rfl ?_
  refine xr_getf xi_13_91 rfl rfl ?_
  refine xr_putf xi_13_94 rfl (Nat.le_of_ble_eq_true rfl) rfl ?_
  refine xr_aload_n xi_13_97 rfl ?_
  refine xr_aload_n xi_13_98 rfl ?_
  refine xr_getf xi_13_99 rfl rfl ?_
  refine xr_putf xi_13_102 rfl (Nat.le_of_ble_eq_true rfl) rfl ?_
  refine xr_aload_n xi_13_105 rfl ?_
  refine xr_aload_n xi_13_106 rfl ?_
  refine xr_getf xi_13_107 rfl rfl ?_
  refine xr_putf xi_13_110 rfl (Nat.le_of_ble_eq_true rfl) rfl ?_
  refine xr_aload_n xi_13_113 rfl ?_
  refine xr_aload_n xi_13_114 rfl ?_
  refine xr_getf xi_13_115 rfl rfl ?_
  refine xr_putf xi_13_118 rfl (Nat.le_of_ble_eq_true rfl) rfl ?_
  refine xr_aload_n xi_13_121 rfl ?_
  refine xr_aload_n xi_13_122 rfl ?_
  refine xr_getf xi_13_123 rfl rfl ?_
  refine xr_putf xi_13_126 rfl (Nat.le_of_ble_eq_true rfl) rfl ?_
  refine xr_ret xi_13_129 ?_
  exact hQ
end W2
