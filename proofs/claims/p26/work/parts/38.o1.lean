/-! the orders: reading them -/
theorem fv_id {u : Value} : fv id u = u := by cases u <;> rfl
theorem fvs_id {l : List Value} : l.map (fv id) = l := by
  rw [show fv id = id from funext (fun u => fv_id), List.map_id]
theorem fe_id {e : xm_E} : fe id e = e := by
  obtain q | ⟨n, g⟩ | ⟨ci, fs⟩ := e
  · rfl
  · show Sum.inr (Sum.inl (n, fun i => (g i).map id)) = _
    simp only [Option.map_id_fun, id]
  · show Sum.inr (Sum.inr (ci, fs.map (fv id))) = _
    rw [fvs_id]
/-- a call on a heap's first cells -/
theorem xc_app {L : Nat} {xs : Nat → Int32} {j : Nat} {as : List Value} {h O : xm_H} {Q : Option Value → xm_H → Prop} (hc : xc L xs j as h (fun r h' => h'.length = h.length ∧ Q r (h' ++ O))) : xc L xs j as (h ++ O) Q := by
  have hJ : fJ id h.length h (h ++ O) := by
    refine ⟨fun a e he => ?_, fun a b _ _ q => q, rfl⟩
    have ha : a < h.length := (List.getElem?_eq_some_iff.mp he).1
    rw [fe_id]
    show (h ++ O)[a]? = some e
    rw [List.getElem?_append_left ha]
    exact he
  refine xc_frame hJ fvs_id (hc.mono (fun r h' hq => ⟨hq.1, fun H' h1 h2 => ?_⟩))
  have e : H' = h' ++ O := by
    have hl : H'.length = h.length + O.length := by rw [h2.1, List.length_append]
    refine List.ext_getElem? (fun i => ?_)
    by_cases hi : i < h.length
    · have hi2 : i < h'.length := by rw [hq.1]; exact hi
      have h3 := h1.1 i _ (List.getElem?_eq_getElem hi2)
      rw [fe_id] at h3
      rw [List.getElem?_append_left hi2, List.getElem?_eq_getElem hi2]
      exact h3
    · rw [h2.2 i (fun a ha q => hi (by rw [← q]; exact ha)), List.getElem?_append_right (by omega), List.getElem?_append_right (by rw [hq.1]; omega), hq.1]
  subst e
  have er : r.map (fv id) = r := by
    cases r with
    | none => rfl
    | some u => exact congrArg some fv_id
  rw [er]
  exact hq.2
def oT (tx nu : Nat → Nat) (ln po sta rea : Nat) : xm_H := [.inr (.inr (0, [.ref 8, .ref 9, .int (nI ln), .int (nI po), .int (nI sta), .int (nI rea)])), .inl (60, mF tx), .inl (3, mF nu)]
def oC (tx : Nat → Nat) (ln p : Nat) : Nat := if p < ln then tx p + 1 else 0
theorem oC_tC {tx : Nat → Nat} {ln p : Nat} (c : Nat) (hc : 0 < c) : tC tx ln p = c ↔ oC tx ln p = c + 1 := by
  unfold tC oC
  split <;> omega
theorem oC_le {tx : Nat → Nat} {ln : Nat} (h : tOk tx ln) (p : Nat) : oC tx ln p ≤ 127 := by
  unfold oC
  split
  · next hp => have := (h.2 p hp).2; omega
  · omega
theorem oC_dg {tx : Nat → Nat} {ln p : Nat} : sDg tx ln p ↔ 49 ≤ oC tx ln p ∧ oC tx ln p ≤ 58 := by
  unfold sDg tC oC
  split <;> omega
theorem oC_t {tx : Nat → Nat} {ln p : Nat} (h : 0 < oC tx ln p) : tC tx ln p + 1 = oC tx ln p := by
  unfold oC at *
  unfold tC
  split
  · next q => rfl
  · next q => rw [if_neg q] at h; omega
section O1
variable {L : Nat} {xs : Nat → Int32} {Q : Option Value → xm_H → Prop} {A Gs Sp Ti Mv Hd G : Nat → Nat} {pin : Int32} {c w f m : Nat}
variable {tx nu : Nat → Nat} {ln po sta rea : Nat}
theorem wo_peek (ht : tOk tx ln) (hp : po < 2147483648) (hQ : Q (some (.int (dI (oC tx ln po)))) (vH A Gs Sp Ti Mv Hd pin c w f m ++ oT tx nu ln po sta rea)) : xc L xs 6 [.ref 7] (vH A Gs Sp Ti Mv Hd pin c w f m ++ oT tx nu ln po sta rea) Q := by
  have hl := ht.1
  refine xr_aload_n xi_6_0 rfl ?_
  refine xr_getf xi_6_1 rfl rfl ?_
  refine xr_if_lt xi_6_4 (by first | exact tI_n (by omega) | exact tI_d (by omega) | assumption | exact tI_e1 | exact tI_e2 | exact tI_e3 | exact tI_e4) (fun c_ => by exfalso; omega) (fun c_ => ?_)
  refine xr_aload_n xi_6_7 rfl ?_
  refine xr_getf xi_6_8 rfl rfl ?_
  refine xr_aload_n xi_6_11 rfl ?_
  refine xr_getf xi_6_12 rfl rfl ?_
  refine xr_ic_ge xi_6_15 (by first | exact tI_n (by omega) | exact tI_d (by omega) | assumption | exact tI_e1 | exact tI_e2 | exact tI_e3 | exact tI_e4) (by first | exact tI_n (by omega) | exact tI_d (by omega) | assumption | exact tI_e1 | exact tI_e2 | exact tI_e3 | exact tI_e4) (fun c_15 => ?_) (fun c_15 => ?_)
  · have e : oC tx ln po = 0 := if_neg (by omega)
    rw [e] at hQ
    refine xr_iconst (z := dI 0) xi_6_39 xm_m1 ?_
    refine xr_iret xi_6_40 (fun h => absurd h (by decide)) ?_
    exact hQ
  · have e : oC tx ln po = tx po + 1 := if_pos (by omega)
    rw [e, dI_1] at hQ
    refine xr_aload_n xi_6_18 rfl ?_
    refine xr_getf xi_6_19 rfl rfl ?_
    refine xr_bipush (z := nI 60) xi_6_22 rfl ?_
    refine xr_ic_ge xi_6_24 (by first | exact tI_n (by omega) | exact tI_d (by omega) | assumption | exact tI_e1 | exact tI_e2 | exact tI_e3 | exact tI_e4) (by first | exact tI_n (by omega) | exact tI_d (by omega) | assumption | exact tI_e1 | exact tI_e2 | exact tI_e3 | exact tI_e4) (fun c_ => by exfalso; omega) (fun c_ => ?_)
    refine xr_aload_n xi_6_27 rfl ?_
    refine xr_getf xi_6_28 rfl rfl ?_
    refine xr_aload_n xi_6_31 rfl ?_
    refine xr_getf xi_6_32 rfl rfl ?_
    refine xr_ialz xi_6_35 rfl (by first | exact tI_n (by first | omega | (simp only [ri]; omega)) | exact tI_dn (by omega) (by omega) | assumption) (by first | omega | (simp only [ri]; omega)) (by first | exact dF_at _ _ | exact mF_at _ _ | exact rfl) ?_
    refine xr_goto xi_6_36 ?_
    refine xr_iret xi_6_40 (fun h => absurd h (by decide)) ?_
    exact hQ
theorem wo_skip {c0 : Nat} (ht : tOk tx ln) (hp : po < 2147483647) (hc : c0 < 2147483648) (hc1 : 0 < c0) (h1 : tC tx ln po = c0 → Q (some (.int (nI 1))) ((vH A Gs Sp Ti Mv Hd pin c w f m) ++ oT tx nu ln (po + 1) sta rea)) (h2 : tC tx ln po ≠ c0 → Q (some (.int (nI 0))) (vH A Gs Sp Ti Mv Hd pin c w f m ++ oT tx nu ln po sta rea)) : xc L xs 7 [.ref 7, .int (nI c0)] (vH A Gs Sp Ti Mv Hd pin c w f m ++ oT tx nu ln po sta rea) Q := by
  have hle := oC_le ht po
  have hi := oC_tC (tx := tx) (ln := ln) (p := po) c0 hc1
  refine xr_aload_n xi_7_0 rfl ?_
  refine xr_virt xi_7_1 rfl rfl rfl rfl (Nat.le_of_ble_eq_true rfl) (Nat.le_of_ble_eq_true rfl) ?_
  refine wo_peek ht (by omega) ?_
  refine xr_k ?_
  refine xr_iload_n xi_7_4 rfl ?_
  refine xr_ic_eq xi_7_5 (by first | exact tI_n (by omega) | exact tI_d (by omega) | assumption | exact tI_e1 | exact tI_e2 | exact tI_e3 | exact tI_e4) (by first | exact tI_n (by omega) | exact tI_d (by omega) | assumption | exact tI_e1 | exact tI_e2 | exact tI_e3 | exact tI_e4) (fun c_5 => ?_) (fun c_5 => ?_)
  · refine xr_aload_n xi_7_10 rfl ?_
    refine xr_dup xi_7_11 ?_
    refine xr_getf xi_7_12 rfl rfl ?_
    refine xr_iconst (z := nI 1) xi_7_15 rfl ?_
    refine xr_iadd xi_7_16 (by first | exact nI_add _ _ | exact rfl) ?_
    refine xr_putf xi_7_17 rfl (Nat.le_of_ble_eq_true rfl) (show _ = (vH A Gs Sp Ti Mv Hd pin c w f m) ++ oT tx nu ln (po + 1) sta rea from rfl) ?_
    refine xr_iconst (z := nI 1) xi_7_20 rfl ?_
    refine xr_iret xi_7_21 (fun _ => (by first | exact Or.inl rfl | exact Or.inr rfl | assumption)) ?_
    exact h1 (hi.mpr (by omega))
  · refine xr_iconst (z := nI 0) xi_7_8 rfl ?_
    refine xr_iret xi_7_9 (fun _ => (by first | exact Or.inl rfl | exact Or.inr rfl | assumption)) ?_
    exact h2 (fun q => by have := hi.mp q; omega)
theorem wo_isDigit {hp : xm_H} {n : Nat} (hn : n < 1000) (h1 : 49 ≤ n ∧ n ≤ 58 → Q (some (.int (nI 1))) hp) (h2 : ¬ (49 ≤ n ∧ n ≤ 58) → Q (some (.int (nI 0))) hp) : xc L xs 8 [.int (dI n)] hp Q := by
  refine xr_iload_n xi_8_0 rfl ?_
  refine xr_bipush (z := nI 48) xi_8_1 rfl ?_
  refine xr_ic_lt xi_8_3 (by first | exact tI_n (by omega) | exact tI_d (by omega) | assumption | exact tI_e1 | exact tI_e2 | exact tI_e3 | exact tI_e4) (by first | exact tI_n (by omega) | exact tI_d (by omega) | assumption | exact tI_e1 | exact tI_e2 | exact tI_e3 | exact tI_e4) (fun c_3 => ?_) (fun c_3 => ?_)
  · refine xr_iconst (z := nI 0) xi_8_16 rfl ?_
    refine xr_iret xi_8_17 (fun _ => (by first | exact Or.inl rfl | exact Or.inr rfl | assumption)) ?_
    exact h2 (by omega)
  · refine xr_iload_n xi_8_6 rfl ?_
    refine xr_bipush (z := nI 57) xi_8_7 rfl ?_
    refine xr_ic_gt xi_8_9 (by first | exact tI_n (by omega) | exact tI_d (by omega) | assumption | exact tI_e1 | exact tI_e2 | exact tI_e3 | exact tI_e4) (by first | exact tI_n (by omega) | exact tI_d (by omega) | assumption | exact tI_e1 | exact tI_e2 | exact tI_e3 | exact tI_e4) (fun c_9 => ?_) (fun c_9 => ?_)
    · refine xr_iconst (z := nI 0) xi_8_16 rfl ?_
      refine xr_iret xi_8_17 (fun _ => (by first | exact Or.inl rfl | exact Or.inr rfl | assumption)) ?_
      exact h2 (by omega)
    · refine xr_iconst (z := nI 1) xi_8_12 rfl ?_
      refine xr_goto xi_8_13 ?_
      refine xr_iret xi_8_17 (fun _ => (by first | exact Or.inl rfl | exact Or.inr rfl | assumption)) ?_
      exact h1 (by omega)
theorem wo_number (ht : tOk tx ln) (hp : po < 2147483600) (h1 : ∀ v p', sNum tx ln po = some (v, p') → Q (some (.int (nI v))) ((vH A Gs Sp Ti Mv Hd pin c w f m) ++ oT tx nu ln p' sta rea)) (h2 : sNum tx ln po = none → Q (some (.int (dI 0))) (vH A Gs Sp Ti Mv Hd pin c w f m ++ oT tx nu ln po sta rea)) : xc L xs 5 [.ref 7] (vH A Gs Sp Ti Mv Hd pin c w f m ++ oT tx nu ln po sta rea) Q := by
  have hle := oC_le ht po
  have hle1 := oC_le ht (po + 1)
  have hd := oC_dg (tx := tx) (ln := ln) (p := po)
  have hd1 := oC_dg (tx := tx) (ln := ln) (p := po + 1)
  refine xr_aload_n xi_5_0 rfl ?_
  refine xr_virt xi_5_1 rfl rfl rfl rfl (Nat.le_of_ble_eq_true rfl) (Nat.le_of_ble_eq_true rfl) ?_
  refine wo_peek ht (by omega) ?_
  refine xr_k ?_
  refine xr_stat xi_5_4 (by decide) rfl rfl (Nat.le_of_ble_eq_true rfl) (Nat.le_of_ble_eq_true rfl) ?_
  refine wo_isDigit (by omega) (fun q => ?_) (fun q => ?_)
  · have ht0 := oC_t (tx := tx) (ln := ln) (p := po) (by omega)
    have g1 := hd.mpr q
    refine xr_k ?_
    refine xr_if_ne xi_5_7 (by first | exact tI_n (by omega) | exact tI_d (by omega) | assumption | exact tI_e1 | exact tI_e2 | exact tI_e3 | exact tI_e4) (fun c_ => ?_) (fun c_ => by exfalso; omega)
    refine xr_aload_n xi_5_12 rfl ?_
    refine xr_virt xi_5_13 rfl rfl rfl rfl (Nat.le_of_ble_eq_true rfl) (Nat.le_of_ble_eq_true rfl) ?_
    refine wo_peek ht (by omega) ?_
    refine xr_k ?_
    refine xr_bipush (z := nI 48) xi_5_16 rfl ?_
    refine xr_isub xi_5_18 ((congrArg (· - nI 48) (dI_pos (show 0 < oC tx ln po by omega))).trans ((pk_sub (by omega)).trans (congrArg nI (show oC tx ln po - 1 - 48 = tC tx ln po - 48 by omega)))) ?_
    refine xr_istore_n xi_5_19 (Nat.le_of_ble_eq_true rfl) rfl ?_
    refine xr_aload_n xi_5_20 rfl ?_
    refine xr_dup xi_5_21 ?_
    refine xr_getf xi_5_22 rfl rfl ?_
    refine xr_iconst (z := nI 1) xi_5_25 rfl ?_
    refine xr_iadd xi_5_26 (by first | exact nI_add _ _ | exact rfl) ?_
    refine xr_putf xi_5_27 rfl (Nat.le_of_ble_eq_true rfl) (show _ = (vH A Gs Sp Ti Mv Hd pin c w f m) ++ oT tx nu ln (po + 1) sta rea from rfl) ?_
    refine xr_aload_n xi_5_30 rfl ?_
    refine xr_virt xi_5_31 rfl rfl rfl rfl (Nat.le_of_ble_eq_true rfl) (Nat.le_of_ble_eq_true rfl) ?_
    refine wo_peek ht (by omega) ?_
    refine xr_k ?_
    refine xr_stat xi_5_34 (by decide) rfl rfl (Nat.le_of_ble_eq_true rfl) (Nat.le_of_ble_eq_true rfl) ?_
    refine wo_isDigit (by omega) (fun q2 => ?_) (fun q2 => ?_)
    · have ht1 := oC_t (tx := tx) (ln := ln) (p := po + 1) (by omega)
      have g2 := hd1.mpr q2
      have hs : sNum tx ln po = some (10 * (tC tx ln po - 48) + (tC tx ln (po + 1) - 48), po + 2) := by
        unfold sNum
        rw [if_pos (cd_t.mpr g1), if_pos (cd_t.mpr g2)]
      refine xr_k ?_
      refine xr_if_eq xi_5_37 (by first | exact tI_n (by omega) | exact tI_d (by omega) | assumption | exact tI_e1 | exact tI_e2 | exact tI_e3 | exact tI_e4) (fun c_ => by exfalso; omega) (fun c_ => ?_)
      refine xr_bipush (z := nI 10) xi_5_40 rfl ?_
      refine xr_iload_n xi_5_42 rfl ?_
      refine xr_imul xi_5_43 (by first | exact pk_mul _ _ | exact rfl) ?_
      refine xr_aload_n xi_5_44 rfl ?_
      refine xr_virt xi_5_45 rfl rfl rfl rfl (Nat.le_of_ble_eq_true rfl) (Nat.le_of_ble_eq_true rfl) ?_
      refine wo_peek ht (by omega) ?_
      refine xr_k ?_
      refine xr_iadd xi_5_48 ((congrArg (nI (10 * (tC tx ln po - 48)) + ·) (dI_pos (show 0 < oC tx ln (po + 1) by omega))).trans (nI_add _ _)) ?_
      refine xr_bipush (z := nI 48) xi_5_49 rfl ?_
      refine xr_isub xi_5_51 ((pk_sub (by omega)).trans (congrArg nI (show 10 * (tC tx ln po - 48) + (oC tx ln (po + 1) - 1) - 48 = 10 * (tC tx ln po - 48) + (tC tx ln (po + 1) - 48) by omega))) ?_
      refine xr_istore_n xi_5_52 (Nat.le_of_ble_eq_true rfl) rfl ?_
      refine xr_aload_n xi_5_53 rfl ?_
      refine xr_dup xi_5_54 ?_
      refine xr_getf xi_5_55 rfl rfl ?_
      refine xr_iconst (z := nI 1) xi_5_58 rfl ?_
      refine xr_iadd xi_5_59 (by first | exact nI_add _ _ | exact rfl) ?_
      refine xr_putf xi_5_60 rfl (Nat.le_of_ble_eq_true rfl) (show _ = (vH A Gs Sp Ti Mv Hd pin c w f m) ++ oT tx nu ln (po + 1 + 1) sta rea from rfl) ?_
      refine xr_iload_n xi_5_63 rfl ?_
      refine xr_iret xi_5_64 (fun h => absurd h (by decide)) ?_
      exact h1 _ _ hs
    · have hs : sNum tx ln po = some (tC tx ln po - 48, po + 1) := by
        unfold sNum
        rw [if_pos (cd_t.mpr g1), if_neg (fun z => q2 (hd1.mp (cd_t.mp z)))]
      refine xr_k ?_
      refine xr_if_eq xi_5_37 (by first | exact tI_n (by omega) | exact tI_d (by omega) | assumption | exact tI_e1 | exact tI_e2 | exact tI_e3 | exact tI_e4) (fun c_ => ?_) (fun c_ => by exfalso; omega)
      refine xr_iload_n xi_5_63 rfl ?_
      refine xr_iret xi_5_64 (fun h => absurd h (by decide)) ?_
      exact h1 _ _ hs
  · have hs : sNum tx ln po = none := by
      unfold sNum
      rw [if_neg (fun z => q (hd.mp (cd_t.mp z)))]
    refine xr_k ?_
    refine xr_if_ne xi_5_7 (by first | exact tI_n (by omega) | exact tI_d (by omega) | assumption | exact tI_e1 | exact tI_e2 | exact tI_e3 | exact tI_e4) (fun c_ => by exfalso; omega) (fun c_ => ?_)
    refine xr_iconst (z := dI 0) xi_5_10 xm_m1 ?_
    refine xr_iret xi_5_11 (fun h => absurd h (by decide)) ?_
    exact h2 hs
theorem wo_numbersOf {hp : xm_H} {c0 : Nat} (hc : c0 < 2147483648) (h1 : ∀ w, sWant c0 = some w → Q (some (.int (nI w))) hp) (h2 : sWant c0 = none → Q (some (.int (dI 0))) hp) : xc L xs 4 [.int (nI c0)] hp Q := by
  by_cases c1 : c0 = 110
  · subst c1
    refine xr_iload_n xi_4_0 rfl ?_
    refine xr_tsw xi_4_1 (by first | exact tI_n (by omega) | exact tI_d (by omega) | assumption | exact tI_e1 | exact tI_e2 | exact tI_e3 | exact tI_e4) (t := 88) (by decide) ?_
    refine xr_iconst (z := nI 0) xi_4_88 rfl ?_
    refine xr_iret xi_4_89 (fun h => absurd h (by decide)) ?_
    exact h1 0 rfl
  by_cases c2 : c0 = 102
  · subst c2
    refine xr_iload_n xi_4_0 rfl ?_
    refine xr_tsw xi_4_1 (by first | exact tI_n (by omega) | exact tI_d (by omega) | assumption | exact tI_e1 | exact tI_e2 | exact tI_e3 | exact tI_e4) (t := 88) (by decide) ?_
    refine xr_iconst (z := nI 0) xi_4_88 rfl ?_
    refine xr_iret xi_4_89 (fun h => absurd h (by decide)) ?_
    exact h1 0 rfl
  by_cases c3 : c0 = 108
  · subst c3
    refine xr_iload_n xi_4_0 rfl ?_
    refine xr_tsw xi_4_1 (by first | exact tI_n (by omega) | exact tI_d (by omega) | assumption | exact tI_e1 | exact tI_e2 | exact tI_e3 | exact tI_e4) (t := 90) (by decide) ?_
    refine xr_iconst (z := nI 1) xi_4_90 rfl ?_
    refine xr_iret xi_4_91 (fun h => absurd h (by decide)) ?_
    exact h1 1 rfl
  by_cases c4 : c0 = 112
  · subst c4
    refine xr_iload_n xi_4_0 rfl ?_
    refine xr_tsw xi_4_1 (by first | exact tI_n (by omega) | exact tI_d (by omega) | assumption | exact tI_e1 | exact tI_e2 | exact tI_e3 | exact tI_e4) (t := 90) (by decide) ?_
    refine xr_iconst (z := nI 1) xi_4_90 rfl ?_
    refine xr_iret xi_4_91 (fun h => absurd h (by decide)) ?_
    exact h1 1 rfl
  by_cases c5 : c0 = 119
  · subst c5
    refine xr_iload_n xi_4_0 rfl ?_
    refine xr_tsw xi_4_1 (by first | exact tI_n (by omega) | exact tI_d (by omega) | assumption | exact tI_e1 | exact tI_e2 | exact tI_e3 | exact tI_e4) (t := 90) (by decide) ?_
    refine xr_iconst (z := nI 1) xi_4_90 rfl ?_
    refine xr_iret xi_4_91 (fun h => absurd h (by decide)) ?_
    exact h1 1 rfl
  by_cases c6 : c0 = 104
  · subst c6
    refine xr_iload_n xi_4_0 rfl ?_
    refine xr_tsw xi_4_1 (by first | exact tI_n (by omega) | exact tI_d (by omega) | assumption | exact tI_e1 | exact tI_e2 | exact tI_e3 | exact tI_e4) (t := 92) (by decide) ?_
    refine xr_iconst (z := nI 2) xi_4_92 rfl ?_
    refine xr_iret xi_4_93 (fun h => absurd h (by decide)) ?_
    exact h1 2 rfl
  by_cases c7 : c0 = 117
  · subst c7
    refine xr_iload_n xi_4_0 rfl ?_
    refine xr_tsw xi_4_1 (by first | exact tI_n (by omega) | exact tI_d (by omega) | assumption | exact tI_e1 | exact tI_e2 | exact tI_e3 | exact tI_e4) (t := 92) (by decide) ?_
    refine xr_iconst (z := nI 2) xi_4_92 rfl ?_
    refine xr_iret xi_4_93 (fun h => absurd h (by decide)) ?_
    exact h1 2 rfl
  by_cases c8 : c0 = 115
  · subst c8
    refine xr_iload_n xi_4_0 rfl ?_
    refine xr_tsw xi_4_1 (by first | exact tI_n (by omega) | exact tI_d (by omega) | assumption | exact tI_e1 | exact tI_e2 | exact tI_e3 | exact tI_e4) (t := 94) (by decide) ?_
    refine xr_iconst (z := nI 3) xi_4_94 rfl ?_
    refine xr_iret xi_4_95 (fun h => absurd h (by decide)) ?_
    exact h1 3 rfl
  have hn : sWant c0 = none := by
    unfold sWant
    rw [if_neg (by omega), if_neg (by omega), if_neg (by omega), if_neg c8]
  have fin : xw L xs 4 96 [.int (nI c0)] [] hp Q := by
    refine xr_iconst (z := dI 0) xi_4_96 xm_m1 ?_
    refine xr_iret xi_4_97 (fun h => absurd h (by decide)) ?_
    exact h2 hn
  refine xr_iload_n xi_4_0 rfl ?_
  by_cases d : c0 < 102 ∨ 119 < c0
  · exact xr_tsw xi_4_1 (tI_n hc) (t := 96) (by rw [if_pos (by omega)]; rfl) fin
  · have : c0 = 103 ∨ c0 = 105 ∨ c0 = 106 ∨ c0 = 107 ∨ c0 = 109 ∨ c0 = 111 ∨ c0 = 113 ∨ c0 = 114 ∨ c0 = 116 ∨ c0 = 118 := by omega
    rcases this with rfl | rfl | rfl | rfl | rfl | rfl | rfl | rfl | rfl | rfl <;> exact xr_tsw xi_4_1 (tI_n (by omega)) (t := 96) (by decide) fin
theorem wo_reasonOf {hp : xm_H} {a : Int32} (h1 : 0 ≤ a.toInt → Q (some (.int (nI 0))) hp) (h2 : a.toInt = -1000001 → Q (some (.int (nI 2))) hp) (h3 : ¬ 0 ≤ a.toInt → ¬ a.toInt = -1000001 → Q (some (.int (nI 3))) hp) : xc L xs 10 [.int a] hp Q := by
  refine xr_iload_n xi_10_0 rfl ?_
  refine xr_if_lt xi_10_1 (rfl) (fun c_1 => ?_) (fun c_1 => ?_)
  · refine xr_iload_n xi_10_6 rfl ?_
    refine xr_ldc (z := xE1) xi_10_7 rfl ?_
    refine xr_ic_ne xi_10_9 (rfl) (by first | exact tI_n (by omega) | exact tI_d (by omega) | assumption | exact tI_e1 | exact tI_e2 | exact tI_e3 | exact tI_e4) (fun c_9 => ?_) (fun c_9 => ?_)
    · refine xr_iconst (z := nI 3) xi_10_16 rfl ?_
      refine xr_iret xi_10_17 (fun h => absurd h (by decide)) ?_
      exact h3 (by omega) (by omega)
    · refine xr_iconst (z := nI 2) xi_10_12 rfl ?_
      refine xr_goto xi_10_13 ?_
      refine xr_iret xi_10_17 (fun h => absurd h (by decide)) ?_
      exact h2 (by omega)
  · refine xr_iconst (z := nI 0) xi_10_4 rfl ?_
    refine xr_iret xi_10_5 (fun h => absurd h (by decide)) ?_
    exact h1 (by omega)
end O1
