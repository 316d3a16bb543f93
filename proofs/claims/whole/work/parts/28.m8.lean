theorem un_un (G : Nat → Nat) (k x z : Nat) : un (un G k x) k z = un G k z := by
  funext i
  unfold un
  split <;> rfl
theorem mJ_congr {st ln po le fa re od : Nat} {tx ag nu be Z G G' : Nat → Nat} (h : ∀ i, i < 196 → G' i = G i) : mJ st tx ln ag po le nu fa re od be Z G' = mJ st tx ln ag po le nu fa re od be Z G := by
  have e : jn G' Z = jn G Z := by
    funext i
    unfold jn
    split
    · next q => exact h i q
    · rfl
  unfold mJ
  rw [e]
section M8
variable {L : Nat} {xs : Nat → Int32} {Q : Option Value → xm_H → Prop} {st ln po le fa re od : Nat} {tx ag nu be Z G : Nat → Nat}
theorem mJ_nu (k x : Nat) : ((mJ st tx ln ag po le nu fa re od be Z G)).set 4 (.inl (3, upd (mF nu) k (nI x))) = mJ st tx ln ag po le (un nu k x) fa re od be Z G := by
  rw [mF_upd]
  rfl
theorem mJ_be (k x : Nat) : ((mJ st tx ln ag po le nu fa re od be Z G)).set 5 (.inl (196, upd (mF be) k (nI x))) = mJ st tx ln ag po le nu fa re od (un be k x) Z G := by
  rw [mF_upd]
  rfl
theorem mJ_tx (k x : Nat) : ((mJ st tx ln ag po le nu fa re od be Z G)).set 2 (.inl (60, upd (mF tx) k (nI x))) = mJ st (un tx k x) ln ag po le nu fa re od be Z G := by
  rw [mF_upd]
  rfl
theorem wm_type {x : Int32} (ht : tOk tx ln) (h1 : ∀ c, 32 ≤ c → c ≤ 126 → x = nI c → ln < 60 → Q (some (.int (nI (ln + 1)))) (mJ st (un tx ln c) (ln + 1) ag po le nu fa re od be Z G)) (h2 : (∃ c, 32 ≤ c ∧ c ≤ 126 ∧ x = nI c) → ln = 60 → Q (some (.int xE3)) (mJ st tx ln ag po le nu fa re od be Z G)) (h3 : (¬ ∃ c, 32 ≤ c ∧ c ≤ 126 ∧ x = nI c) → Q (some (.int xE1)) (mJ st tx ln ag po le nu fa re od be Z G)) : xc L xs 152 [.ref 0, .int x] (mJ st tx ln ag po le nu fa re od be Z G) Q := by
  have hl := ht.1
  refine xr_iload_n xi_152_0 rfl ?_
  refine xr_bipush (z := nI 32) xi_152_1 rfl ?_
  refine xr_bipush (z := nI 126) xi_152_3 rfl ?_
  refine xr_stat xi_152_5 (by decide) rfl rfl (Nat.le_of_ble_eq_true rfl) (Nat.le_of_ble_eq_true rfl) ?_
  refine wm_in rfl (tI_n (by omega)) (tI_n (by omega)) (fun h => ?_) (fun h => ?_)
  · obtain ⟨c, hc, rfl⟩ := x_of (x := x) (n := 127) (by omega) (by omega) (by omega)
    rw [tI_n (by omega)] at h
    refine xr_k ?_
    refine xr_if_ne xi_152_8 (by first | exact tI_n (by omega) | exact tI_d (by omega) | assumption | exact tI_e1 | exact tI_e2 | exact tI_e3 | exact tI_e4) (fun c_ => ?_) (fun c_ => by exfalso; omega)
    refine xr_aload_n xi_152_14 rfl ?_
    refine xr_getf xi_152_15 rfl rfl ?_
    refine xr_bipush (z := nI 60) xi_152_18 rfl ?_
    refine xr_ic_ne xi_152_20 (by first | exact tI_n (by omega) | exact tI_d (by omega) | assumption | exact tI_e1 | exact tI_e2 | exact tI_e3 | exact tI_e4) (by first | exact tI_n (by omega) | exact tI_d (by omega) | assumption | exact tI_e1 | exact tI_e2 | exact tI_e3 | exact tI_e4) (fun c_20 => ?_) (fun c_20 => ?_)
    · refine xr_aload_n xi_152_26 rfl ?_
      refine xr_getf xi_152_27 rfl rfl ?_
      refine xr_aload_n xi_152_30 rfl ?_
      refine xr_getf xi_152_31 rfl rfl ?_
      refine xr_iload_n xi_152_34 rfl ?_
      refine xr_iast xi_152_35 rfl (by first | exact tI_n (by first | omega | (simp only [ri]; omega)) | exact tI_dn (by omega) (by omega) | assumption) (by first | omega | (simp only [ri]; omega)) (mJ_tx _ _) ?_
      refine xr_aload_n xi_152_36 rfl ?_
      refine xr_dup xi_152_37 ?_
      refine xr_getf xi_152_38 rfl rfl ?_
      refine xr_iconst (z := nI 1) xi_152_41 rfl ?_
      refine xr_iadd xi_152_42 (by first | exact nI_add _ _ | exact rfl) ?_
      refine xr_putf xi_152_43 rfl (Nat.le_of_ble_eq_true rfl) rfl ?_
      refine xr_aload_n xi_152_46 rfl ?_
      refine xr_getf xi_152_47 rfl rfl ?_
      refine xr_iret xi_152_50 (fun h => absurd h (by decide)) ?_
      exact h1 c (by omega) (by omega) rfl (by omega)
    · refine xr_ldc (z := xE3) xi_152_23 rfl ?_
      refine xr_iret xi_152_25 (fun h => absurd h (by decide)) ?_
      exact h2 ⟨c, by omega, by omega, rfl⟩ (by omega)
  · refine xr_k ?_
    refine xr_if_ne xi_152_8 (by first | exact tI_n (by omega) | exact tI_d (by omega) | assumption | exact tI_e1 | exact tI_e2 | exact tI_e3 | exact tI_e4) (fun c_ => by exfalso; omega) (fun c_ => ?_)
    refine xr_ldc (z := xE1) xi_152_11 rfl ?_
    refine xr_iret xi_152_13 (fun h => absurd h (by decide)) ?_
    refine h3 (fun ⟨c, q1, q2, q3⟩ => h ?_)
    rw [q3, tI_n (by omega)]
    omega
theorem wm_clearText (hQ : Q (some (.int (nI ln))) (mJ st tx 0 ag po le nu fa re od be Z G)) : xc L xs 153 [.ref 0] (mJ st tx ln ag po le nu fa re od be Z G) Q := by
  refine xr_aload_n xi_153_0 rfl ?_
  refine xr_getf xi_153_1 rfl rfl ?_
  refine xr_istore_n xi_153_4 (Nat.le_of_ble_eq_true rfl) rfl ?_
  refine xr_aload_n xi_153_5 rfl ?_
  refine xr_iconst (z := nI 0) xi_153_6 rfl ?_
  refine xr_putf xi_153_7 rfl (Nat.le_of_ble_eq_true rfl) rfl ?_
  refine xr_iload_n xi_153_10 rfl ?_
  refine xr_iret xi_153_11 (fun h => absurd h (by decide)) ?_
  exact hQ
theorem wm_code (ht : tOk tx ln) (hp : po < 2147483648) (hQ : Q (some (.int (nI (tC tx ln po)))) (mJ st tx ln ag po le nu fa re od be Z G)) : xc L xs 154 [.ref 0] (mJ st tx ln ag po le nu fa re od be Z G) Q := by
  have hl := ht.1
  refine xr_aload_n xi_154_0 rfl ?_
  refine xr_getf xi_154_1 rfl rfl ?_
  refine xr_aload_n xi_154_4 rfl ?_
  refine xr_getf xi_154_5 rfl rfl ?_
  refine xr_ic_ge xi_154_8 (by first | exact tI_n (by omega) | exact tI_d (by omega) | assumption | exact tI_e1 | exact tI_e2 | exact tI_e3 | exact tI_e4) (by first | exact tI_n (by omega) | exact tI_d (by omega) | assumption | exact tI_e1 | exact tI_e2 | exact tI_e3 | exact tI_e4) (fun c_8 => ?_) (fun c_8 => ?_)
  · have e : tC tx ln po = 0 := if_neg (by omega)
    rw [e] at hQ
    refine xr_iconst (z := nI 0) xi_154_23 rfl ?_
    refine xr_iret xi_154_24 (fun h => absurd h (by decide)) ?_
    exact hQ
  · have e : tC tx ln po = tx po := if_pos (by omega)
    rw [e] at hQ
    refine xr_aload_n xi_154_11 rfl ?_
    refine xr_getf xi_154_12 rfl rfl ?_
    refine xr_aload_n xi_154_15 rfl ?_
    refine xr_getf xi_154_16 rfl rfl ?_
    refine xr_ialz xi_154_19 rfl (by first | exact tI_n (by first | omega | (simp only [ri]; omega)) | exact tI_dn (by omega) (by omega) | assumption) (by first | omega | (simp only [ri]; omega)) (by first | exact mj_lo (by first | omega | (simp only [ri]; omega)) | exact mF_at _ _ | exact rfl) ?_
    refine xr_goto xi_154_20 ?_
    refine xr_iret xi_154_24 (fun h => absurd h (by decide)) ?_
    exact hQ
theorem wm_sign {c : Nat} (ht : tOk tx ln) (hp : po < 2147483647) (hc : c < 2147483648) (h1 : tC tx ln po = c → Q (some (.int (nI 1))) (mJ st tx ln ag (po + 1) le nu fa re od be Z G)) (h2 : tC tx ln po ≠ c → Q (some (.int (nI 0))) (mJ st tx ln ag po le nu fa re od be Z G)) : xc L xs 155 [.ref 0, .int (nI c)] (mJ st tx ln ag po le nu fa re od be Z G) Q := by
  have hle := tC_le ht po
  refine xr_aload_n xi_155_0 rfl ?_
  refine xr_virt xi_155_1 rfl rfl rfl rfl (Nat.le_of_ble_eq_true rfl) (Nat.le_of_ble_eq_true rfl) ?_
  refine wm_code ht (by omega) ?_
  refine xr_k ?_
  refine xr_iload_n xi_155_4 rfl ?_
  refine xr_ic_ne xi_155_5 (by first | exact tI_n (by omega) | exact tI_d (by omega) | assumption | exact tI_e1 | exact tI_e2 | exact tI_e3 | exact tI_e4) (by first | exact tI_n (by omega) | exact tI_d (by omega) | assumption | exact tI_e1 | exact tI_e2 | exact tI_e3 | exact tI_e4) (fun c_5 => ?_) (fun c_5 => ?_)
  · refine xr_iconst (z := nI 0) xi_155_12 rfl ?_
    refine xr_istore_n xi_155_13 (Nat.le_of_ble_eq_true rfl) rfl ?_
    refine xr_aload_n xi_155_14 rfl ?_
    refine xr_dup xi_155_15 ?_
    refine xr_getf xi_155_16 rfl rfl ?_
    refine xr_iload_n xi_155_19 rfl ?_
    refine xr_if_eq xi_155_20 (by first | exact tI_n (by omega) | exact tI_d (by omega) | assumption | exact tI_e1 | exact tI_e2 | exact tI_e3 | exact tI_e4) (fun c_ => ?_) (fun c_ => by exfalso; omega)
    refine xr_iconst (z := nI 0) xi_155_27 rfl ?_
    refine xr_iadd xi_155_28 (by first | exact nI_add _ _ | exact rfl) ?_
    refine xr_putf xi_155_29 rfl (Nat.le_of_ble_eq_true rfl) rfl ?_
    refine xr_iload_n xi_155_32 rfl ?_
    refine xr_iret xi_155_33 (fun _ => (by first | exact Or.inl rfl | exact Or.inr rfl | assumption)) ?_
    exact h2 (by omega)
  · refine xr_iconst (z := nI 1) xi_155_8 rfl ?_
    refine xr_goto xi_155_9 ?_
    refine xr_istore_n xi_155_13 (Nat.le_of_ble_eq_true rfl) rfl ?_
    refine xr_aload_n xi_155_14 rfl ?_
    refine xr_dup xi_155_15 ?_
    refine xr_getf xi_155_16 rfl rfl ?_
    refine xr_iload_n xi_155_19 rfl ?_
    refine xr_if_eq xi_155_20 (by first | exact tI_n (by omega) | exact tI_d (by omega) | assumption | exact tI_e1 | exact tI_e2 | exact tI_e3 | exact tI_e4) (fun c_ => by exfalso; omega) (fun c_ => ?_)
    refine xr_iconst (z := nI 1) xi_155_23 rfl ?_
    refine xr_goto xi_155_24 ?_
    refine xr_iadd xi_155_28 (by first | exact nI_add _ _ | exact rfl) ?_
    refine xr_putf xi_155_29 rfl (Nat.le_of_ble_eq_true rfl) rfl ?_
    refine xr_iload_n xi_155_32 rfl ?_
    refine xr_iret xi_155_33 (fun _ => (by first | exact Or.inl rfl | exact Or.inr rfl | assumption)) ?_
    exact h1 (by omega)
theorem wm_number {j : Nat} (ht : tOk tx ln) (hp : po < 2147483600) (hj : j < 3) (h1 : ∀ v p', sNum tx ln po = some (v, p') → Q (some (.int (nI 1))) (mJ st tx ln ag p' le (un nu j v) fa re od be Z G)) (h2 : sNum tx ln po = none → Q (some (.int (nI 0))) (mJ st tx ln ag po le (un nu j 0) fa re od be Z G)) : xc L xs 156 [.ref 0, .int (nI j)] (mJ st tx ln ag po le nu fa re od be Z G) Q := by
  have hle := tC_le ht po
  have hle1 := tC_le ht (po + 1)
  have hle2 := tC_le ht (po + 1 + 1)
  refine xr_iconst (z := nI 0) xi_156_0 rfl ?_
  refine xr_istore_n xi_156_1 (Nat.le_of_ble_eq_true rfl) rfl ?_
  refine xr_aload_n xi_156_2 rfl ?_
  refine xr_getf xi_156_3 rfl rfl ?_
  refine xr_iload_n xi_156_6 rfl ?_
  refine xr_iconst (z := nI 0) xi_156_7 rfl ?_
  refine xr_iast xi_156_8 rfl (by first | exact tI_n (by first | omega | (simp only [ri]; omega)) | exact tI_dn (by omega) (by omega) | assumption) (by first | omega | (simp only [ri]; omega)) (mJ_nu _ _) ?_
  refine xr_aload_n xi_156_9 rfl ?_
  refine xr_virt xi_156_10 rfl rfl rfl rfl (Nat.le_of_ble_eq_true rfl) (Nat.le_of_ble_eq_true rfl) ?_
  refine wm_code ht (by omega) ?_
  refine xr_k ?_
  refine xr_bipush (z := nI 48) xi_156_13 rfl ?_
  refine xr_bipush (z := nI 57) xi_156_15 rfl ?_
  refine xr_stat xi_156_17 (by decide) rfl rfl (Nat.le_of_ble_eq_true rfl) (Nat.le_of_ble_eq_true rfl) ?_
  refine wm_in (tI_n (by omega)) (tI_n (by omega)) (tI_n (by omega)) (fun d1 => ?_) (fun d1 => ?_)
  · have g1 : sDg tx ln po := ⟨by omega, by omega⟩
    have e1 : un (un nu j 0) j (tC tx ln po - 48) = un nu j (tC tx ln po - 48) := un_un _ _ _ _
    have z1 : un nu j 0 j = 0 := un_s _ _ _
    have z2 : un nu j (tC tx ln po - 48) j = tC tx ln po - 48 := un_s _ _ _
    refine xr_k ?_
    refine xr_if_eq xi_156_20 (by first | exact tI_n (by omega) | exact tI_d (by omega) | assumption | exact tI_e1 | exact tI_e2 | exact tI_e3 | exact tI_e4) (fun c_ => by exfalso; omega) (fun c_ => ?_)
    refine xr_iload_n xi_156_23 rfl ?_
    refine xr_iconst (z := nI 2) xi_156_24 rfl ?_
    refine xr_ic_ge xi_156_25 (by first | exact tI_n (by omega) | exact tI_d (by omega) | assumption | exact tI_e1 | exact tI_e2 | exact tI_e3 | exact tI_e4) (by first | exact tI_n (by omega) | exact tI_d (by omega) | assumption | exact tI_e1 | exact tI_e2 | exact tI_e3 | exact tI_e4) (fun c_ => by exfalso; omega) (fun c_ => ?_)
    refine xr_aload_n xi_156_28 rfl ?_
    refine xr_getf xi_156_29 rfl rfl ?_
    refine xr_iload_n xi_156_32 rfl ?_
    refine xr_bipush (z := nI 10) xi_156_33 rfl ?_
    refine xr_aload_n xi_156_35 rfl ?_
    refine xr_getf xi_156_36 rfl rfl ?_
    refine xr_iload_n xi_156_39 rfl ?_
    refine xr_ialz xi_156_40 rfl (by first | exact tI_n (by first | omega | (simp only [ri]; omega)) | exact tI_dn (by omega) (by omega) | assumption) (by first | omega | (simp only [ri]; omega)) ((show _ = nI _ from rfl).trans (congrArg nI z1)) ?_
    refine xr_imul xi_156_41 (by first | exact pk_mul _ _ | exact rfl) ?_
    refine xr_aload_n xi_156_42 rfl ?_
    refine xr_virt xi_156_43 rfl rfl rfl rfl (Nat.le_of_ble_eq_true rfl) (Nat.le_of_ble_eq_true rfl) ?_
    refine wm_code ht (by omega) ?_
    refine xr_k ?_
    refine xr_iadd xi_156_46 (by first | exact nI_add _ _ | exact rfl) ?_
    refine xr_bipush (z := nI 48) xi_156_47 rfl ?_
    refine xr_isub xi_156_49 ((pk_sub (by omega)).trans (congrArg nI (show 10 * 0 + tC tx ln po - 48 = tC tx ln po - 48 by omega))) ?_
    refine xr_iast xi_156_50 rfl (by first | exact tI_n (by first | omega | (simp only [ri]; omega)) | exact tI_dn (by omega) (by omega) | assumption) (by first | omega | (simp only [ri]; omega)) ((mJ_nu _ _).trans (congrArg (fun nu => mJ st tx ln ag po le nu fa re od be Z G) e1)) ?_
    refine xr_aload_n xi_156_51 rfl ?_
    refine xr_dup xi_156_52 ?_
    refine xr_getf xi_156_53 rfl rfl ?_
    refine xr_iconst (z := nI 1) xi_156_56 rfl ?_
    refine xr_iadd xi_156_57 (by first | exact nI_add _ _ | exact rfl) ?_
    refine xr_putf xi_156_58 rfl (Nat.le_of_ble_eq_true rfl) rfl ?_
    refine xr_iinc xi_156_61 rfl (by first | exact nI_1 _ | exact rfl) rfl ?_
    refine xr_goto xi_156_64 ?_
    refine xr_aload_n xi_156_9 rfl ?_
    refine xr_virt xi_156_10 rfl rfl rfl rfl (Nat.le_of_ble_eq_true rfl) (Nat.le_of_ble_eq_true rfl) ?_
    refine wm_code (po := po + 1) ht (by omega) ?_
    refine xr_k ?_
    refine xr_bipush (z := nI 48) xi_156_13 rfl ?_
    refine xr_bipush (z := nI 57) xi_156_15 rfl ?_
    refine xr_stat xi_156_17 (by decide) rfl rfl (Nat.le_of_ble_eq_true rfl) (Nat.le_of_ble_eq_true rfl) ?_
    refine wm_in (tI_n (by omega)) (tI_n (by omega)) (tI_n (by omega)) (fun d2 => ?_) (fun d2 => ?_)
    · have g2 : sDg tx ln (po + 1) := ⟨by omega, by omega⟩
      have hs : sNum tx ln po = some (10 * (tC tx ln po - 48) + (tC tx ln (po + 1) - 48), po + 2) := by
        unfold sNum
        rw [if_pos (cd_t.mpr g1), if_pos (cd_t.mpr g2)]
      have e2 : un (un nu j (tC tx ln po - 48)) j (10 * (tC tx ln po - 48) + (tC tx ln (po + 1) - 48)) = un nu j (10 * (tC tx ln po - 48) + (tC tx ln (po + 1) - 48)) := un_un _ _ _ _
      refine xr_k ?_
      refine xr_if_eq xi_156_20 (by first | exact tI_n (by omega) | exact tI_d (by omega) | assumption | exact tI_e1 | exact tI_e2 | exact tI_e3 | exact tI_e4) (fun c_ => by exfalso; omega) (fun c_ => ?_)
      refine xr_iload_n xi_156_23 rfl ?_
      refine xr_iconst (z := nI 2) xi_156_24 rfl ?_
      refine xr_ic_ge xi_156_25 (by first | exact tI_n (by omega) | exact tI_d (by omega) | assumption | exact tI_e1 | exact tI_e2 | exact tI_e3 | exact tI_e4) (by first | exact tI_n (by omega) | exact tI_d (by omega) | assumption | exact tI_e1 | exact tI_e2 | exact tI_e3 | exact tI_e4) (fun c_ => by exfalso; omega) (fun c_ => ?_)
      refine xr_aload_n xi_156_28 rfl ?_
      refine xr_getf xi_156_29 rfl rfl ?_
      refine xr_iload_n xi_156_32 rfl ?_
      refine xr_bipush (z := nI 10) xi_156_33 rfl ?_
      refine xr_aload_n xi_156_35 rfl ?_
      refine xr_getf xi_156_36 rfl rfl ?_
      refine xr_iload_n xi_156_39 rfl ?_
      refine xr_ialz xi_156_40 rfl (by first | exact tI_n (by first | omega | (simp only [ri]; omega)) | exact tI_dn (by omega) (by omega) | assumption) (by first | omega | (simp only [ri]; omega)) ((show _ = nI _ from rfl).trans (congrArg nI z2)) ?_
      refine xr_imul xi_156_41 (by first | exact pk_mul _ _ | exact rfl) ?_
      refine xr_aload_n xi_156_42 rfl ?_
      refine xr_virt xi_156_43 rfl rfl rfl rfl (Nat.le_of_ble_eq_true rfl) (Nat.le_of_ble_eq_true rfl) ?_
      refine wm_code (po := po + 1) ht (by omega) ?_
      refine xr_k ?_
      refine xr_iadd xi_156_46 (by first | exact nI_add _ _ | exact rfl) ?_
      refine xr_bipush (z := nI 48) xi_156_47 rfl ?_
      refine xr_isub xi_156_49 ((pk_sub (by omega)).trans (congrArg nI (show 10 * (tC tx ln po - 48) + tC tx ln (po + 1) - 48 = 10 * (tC tx ln po - 48) + (tC tx ln (po + 1) - 48) by omega))) ?_
      refine xr_iast xi_156_50 rfl (by first | exact tI_n (by first | omega | (simp only [ri]; omega)) | exact tI_dn (by omega) (by omega) | assumption) (by first | omega | (simp only [ri]; omega)) ((mJ_nu (po := po + 1) _ _).trans (congrArg (fun nu => mJ st tx ln ag (po + 1) le nu fa re od be Z G) e2)) ?_
      refine xr_aload_n xi_156_51 rfl ?_
      refine xr_dup xi_156_52 ?_
      refine xr_getf xi_156_53 rfl rfl ?_
      refine xr_iconst (z := nI 1) xi_156_56 rfl ?_
      refine xr_iadd xi_156_57 (by first | exact nI_add _ _ | exact rfl) ?_
      refine xr_putf xi_156_58 rfl (Nat.le_of_ble_eq_true rfl) rfl ?_
      refine xr_iinc xi_156_61 rfl (by first | exact nI_1 _ | exact rfl) rfl ?_
      refine xr_goto xi_156_64 ?_
      refine xr_aload_n xi_156_9 rfl ?_
      refine xr_virt xi_156_10 rfl rfl rfl rfl (Nat.le_of_ble_eq_true rfl) (Nat.le_of_ble_eq_true rfl) ?_
      refine wm_code (po := po + 1 + 1) ht (by omega) ?_
      refine xr_k ?_
      refine xr_bipush (z := nI 48) xi_156_13 rfl ?_
      refine xr_bipush (z := nI 57) xi_156_15 rfl ?_
      refine xr_stat xi_156_17 (by decide) rfl rfl (Nat.le_of_ble_eq_true rfl) (Nat.le_of_ble_eq_true rfl) ?_
      refine wm_in (tI_n (by omega)) (tI_n (by omega)) (tI_n (by omega)) (fun d3 => ?_) (fun d3 => ?_)
      · refine xr_k ?_
        refine xr_if_eq xi_156_20 (by first | exact tI_n (by omega) | exact tI_d (by omega) | assumption | exact tI_e1 | exact tI_e2 | exact tI_e3 | exact tI_e4) (fun c_ => by exfalso; omega) (fun c_ => ?_)
        refine xr_iload_n xi_156_23 rfl ?_
        refine xr_iconst (z := nI 2) xi_156_24 rfl ?_
        refine xr_ic_ge xi_156_25 (by first | exact tI_n (by omega) | exact tI_d (by omega) | assumption | exact tI_e1 | exact tI_e2 | exact tI_e3 | exact tI_e4) (by first | exact tI_n (by omega) | exact tI_d (by omega) | assumption | exact tI_e1 | exact tI_e2 | exact tI_e3 | exact tI_e4) (fun c_ => ?_) (fun c_ => by exfalso; omega)
        refine xr_iload_n xi_156_67 rfl ?_
        refine xr_if_le xi_156_68 (by first | exact tI_n (by omega) | exact tI_d (by omega) | assumption | exact tI_e1 | exact tI_e2 | exact tI_e3 | exact tI_e4) (fun c_ => by exfalso; omega) (fun c_ => ?_)
        refine xr_iconst (z := nI 1) xi_156_71 rfl ?_
        refine xr_goto xi_156_72 ?_
        refine xr_iret xi_156_76 (fun _ => (by first | exact Or.inl rfl | exact Or.inr rfl | assumption)) ?_
        exact h1 _ _ hs
      · refine xr_k ?_
        refine xr_if_eq xi_156_20 (by first | exact tI_n (by omega) | exact tI_d (by omega) | assumption | exact tI_e1 | exact tI_e2 | exact tI_e3 | exact tI_e4) (fun c_ => ?_) (fun c_ => by exfalso; omega)
        refine xr_iload_n xi_156_67 rfl ?_
        refine xr_if_le xi_156_68 (by first | exact tI_n (by omega) | exact tI_d (by omega) | assumption | exact tI_e1 | exact tI_e2 | exact tI_e3 | exact tI_e4) (fun c_ => by exfalso; omega) (fun c_ => ?_)
        refine xr_iconst (z := nI 1) xi_156_71 rfl ?_
        refine xr_goto xi_156_72 ?_
        refine xr_iret xi_156_76 (fun _ => (by first | exact Or.inl rfl | exact Or.inr rfl | assumption)) ?_
        exact h1 _ _ hs
    · have hs : sNum tx ln po = some (tC tx ln po - 48, po + 1) := by
        unfold sNum
        rw [if_pos (cd_t.mpr g1), if_neg (fun q => by have := cd_t.mp q; unfold sDg at this; omega)]
      refine xr_k ?_
      refine xr_if_eq xi_156_20 (by first | exact tI_n (by omega) | exact tI_d (by omega) | assumption | exact tI_e1 | exact tI_e2 | exact tI_e3 | exact tI_e4) (fun c_ => ?_) (fun c_ => by exfalso; omega)
      refine xr_iload_n xi_156_67 rfl ?_
      refine xr_if_le xi_156_68 (by first | exact tI_n (by omega) | exact tI_d (by omega) | assumption | exact tI_e1 | exact tI_e2 | exact tI_e3 | exact tI_e4) (fun c_ => by exfalso; omega) (fun c_ => ?_)
      refine xr_iconst (z := nI 1) xi_156_71 rfl ?_
      refine xr_goto xi_156_72 ?_
      refine xr_iret xi_156_76 (fun _ => (by first | exact Or.inl rfl | exact Or.inr rfl | assumption)) ?_
      exact h1 _ _ hs
  · have hs : sNum tx ln po = none := by
      unfold sNum
      rw [if_neg (fun q => by have := cd_t.mp q; unfold sDg at this; omega)]
    refine xr_k ?_
    refine xr_if_eq xi_156_20 (by first | exact tI_n (by omega) | exact tI_d (by omega) | assumption | exact tI_e1 | exact tI_e2 | exact tI_e3 | exact tI_e4) (fun c_ => ?_) (fun c_ => by exfalso; omega)
    refine xr_iload_n xi_156_67 rfl ?_
    refine xr_if_le xi_156_68 (by first | exact tI_n (by omega) | exact tI_d (by omega) | assumption | exact tI_e1 | exact tI_e2 | exact tI_e3 | exact tI_e4) (fun c_ => ?_) (fun c_ => by exfalso; omega)
    refine xr_iconst (z := nI 0) xi_156_75 rfl ?_
    refine xr_iret xi_156_76 (fun _ => (by first | exact Or.inl rfl | exact Or.inr rfl | assumption)) ?_
    exact h2 hs
theorem wm_numbersOf {hp : xm_H} {c : Nat} (hc : c < 2147483648) (h1 : ∀ w, sWant c = some w → Q (some (.int (nI w))) hp) (h2 : sWant c = none → Q (some (.int (dI 0))) hp) : xc L xs 157 [.int (nI c)] hp Q := by
  by_cases c1 : c = 110
  · subst c1
    refine xr_iload_n xi_157_0 rfl ?_
    refine xr_bipush (z := nI 110) xi_157_1 rfl ?_
    refine xr_ic_eq xi_157_3 (by first | exact tI_n (by omega) | exact tI_d (by omega) | assumption | exact tI_e1 | exact tI_e2 | exact tI_e3 | exact tI_e4) (by first | exact tI_n (by omega) | exact tI_d (by omega) | assumption | exact tI_e1 | exact tI_e2 | exact tI_e3 | exact tI_e4) (fun c_ => ?_) (fun c_ => by exfalso; omega)
    refine xr_iconst (z := nI 0) xi_157_12 rfl ?_
    refine xr_goto xi_157_13 ?_
    refine xr_iret xi_157_65 (fun h => absurd h (by decide)) ?_
    exact h1 0 rfl
  by_cases c2 : c = 102
  · subst c2
    refine xr_iload_n xi_157_0 rfl ?_
    refine xr_bipush (z := nI 110) xi_157_1 rfl ?_
    refine xr_ic_eq xi_157_3 (by first | exact tI_n (by omega) | exact tI_d (by omega) | assumption | exact tI_e1 | exact tI_e2 | exact tI_e3 | exact tI_e4) (by first | exact tI_n (by omega) | exact tI_d (by omega) | assumption | exact tI_e1 | exact tI_e2 | exact tI_e3 | exact tI_e4) (fun c_ => by exfalso; omega) (fun c_ => ?_)
    refine xr_iload_n xi_157_6 rfl ?_
    refine xr_bipush (z := nI 102) xi_157_7 rfl ?_
    refine xr_ic_ne xi_157_9 (by first | exact tI_n (by omega) | exact tI_d (by omega) | assumption | exact tI_e1 | exact tI_e2 | exact tI_e3 | exact tI_e4) (by first | exact tI_n (by omega) | exact tI_d (by omega) | assumption | exact tI_e1 | exact tI_e2 | exact tI_e3 | exact tI_e4) (fun c_ => by exfalso; omega) (fun c_ => ?_)
    refine xr_iconst (z := nI 0) xi_157_12 rfl ?_
    refine xr_goto xi_157_13 ?_
    refine xr_iret xi_157_65 (fun h => absurd h (by decide)) ?_
    exact h1 0 rfl
  by_cases c3 : c = 108
  · subst c3
    refine xr_iload_n xi_157_0 rfl ?_
    refine xr_bipush (z := nI 110) xi_157_1 rfl ?_
    refine xr_ic_eq xi_157_3 (by first | exact tI_n (by omega) | exact tI_d (by omega) | assumption | exact tI_e1 | exact tI_e2 | exact tI_e3 | exact tI_e4) (by first | exact tI_n (by omega) | exact tI_d (by omega) | assumption | exact tI_e1 | exact tI_e2 | exact tI_e3 | exact tI_e4) (fun c_ => by exfalso; omega) (fun c_ => ?_)
    refine xr_iload_n xi_157_6 rfl ?_
    refine xr_bipush (z := nI 102) xi_157_7 rfl ?_
    refine xr_ic_ne xi_157_9 (by first | exact tI_n (by omega) | exact tI_d (by omega) | assumption | exact tI_e1 | exact tI_e2 | exact tI_e3 | exact tI_e4) (by first | exact tI_n (by omega) | exact tI_d (by omega) | assumption | exact tI_e1 | exact tI_e2 | exact tI_e3 | exact tI_e4) (fun c_ => ?_) (fun c_ => by exfalso; omega)
    refine xr_iload_n xi_157_16 rfl ?_
    refine xr_bipush (z := nI 108) xi_157_17 rfl ?_
    refine xr_ic_eq xi_157_19 (by first | exact tI_n (by omega) | exact tI_d (by omega) | assumption | exact tI_e1 | exact tI_e2 | exact tI_e3 | exact tI_e4) (by first | exact tI_n (by omega) | exact tI_d (by omega) | assumption | exact tI_e1 | exact tI_e2 | exact tI_e3 | exact tI_e4) (fun c_ => ?_) (fun c_ => by exfalso; omega)
    refine xr_iconst (z := nI 1) xi_157_34 rfl ?_
    refine xr_goto xi_157_35 ?_
    refine xr_iret xi_157_65 (fun h => absurd h (by decide)) ?_
    exact h1 1 rfl
  by_cases c4 : c = 112
  · subst c4
    refine xr_iload_n xi_157_0 rfl ?_
    refine xr_bipush (z := nI 110) xi_157_1 rfl ?_
    refine xr_ic_eq xi_157_3 (by first | exact tI_n (by omega) | exact tI_d (by omega) | assumption | exact tI_e1 | exact tI_e2 | exact tI_e3 | exact tI_e4) (by first | exact tI_n (by omega) | exact tI_d (by omega) | assumption | exact tI_e1 | exact tI_e2 | exact tI_e3 | exact tI_e4) (fun c_ => by exfalso; omega) (fun c_ => ?_)
    refine xr_iload_n xi_157_6 rfl ?_
    refine xr_bipush (z := nI 102) xi_157_7 rfl ?_
    refine xr_ic_ne xi_157_9 (by first | exact tI_n (by omega) | exact tI_d (by omega) | assumption | exact tI_e1 | exact tI_e2 | exact tI_e3 | exact tI_e4) (by first | exact tI_n (by omega) | exact tI_d (by omega) | assumption | exact tI_e1 | exact tI_e2 | exact tI_e3 | exact tI_e4) (fun c_ => ?_) (fun c_ => by exfalso; omega)
    refine xr_iload_n xi_157_16 rfl ?_
    refine xr_bipush (z := nI 108) xi_157_17 rfl ?_
    refine xr_ic_eq xi_157_19 (by first | exact tI_n (by omega) | exact tI_d (by omega) | assumption | exact tI_e1 | exact tI_e2 | exact tI_e3 | exact tI_e4) (by first | exact tI_n (by omega) | exact tI_d (by omega) | assumption | exact tI_e1 | exact tI_e2 | exact tI_e3 | exact tI_e4) (fun c_ => by exfalso; omega) (fun c_ => ?_)
    refine xr_iload_n xi_157_22 rfl ?_
    refine xr_bipush (z := nI 112) xi_157_23 rfl ?_
    refine xr_ic_eq xi_157_25 (by first | exact tI_n (by omega) | exact tI_d (by omega) | assumption | exact tI_e1 | exact tI_e2 | exact tI_e3 | exact tI_e4) (by first | exact tI_n (by omega) | exact tI_d (by omega) | assumption | exact tI_e1 | exact tI_e2 | exact tI_e3 | exact tI_e4) (fun c_ => ?_) (fun c_ => by exfalso; omega)
    refine xr_iconst (z := nI 1) xi_157_34 rfl ?_
    refine xr_goto xi_157_35 ?_
    refine xr_iret xi_157_65 (fun h => absurd h (by decide)) ?_
    exact h1 1 rfl
  by_cases c5 : c = 119
  · subst c5
    refine xr_iload_n xi_157_0 rfl ?_
    refine xr_bipush (z := nI 110) xi_157_1 rfl ?_
    refine xr_ic_eq xi_157_3 (by first | exact tI_n (by omega) | exact tI_d (by omega) | assumption | exact tI_e1 | exact tI_e2 | exact tI_e3 | exact tI_e4) (by first | exact tI_n (by omega) | exact tI_d (by omega) | assumption | exact tI_e1 | exact tI_e2 | exact tI_e3 | exact tI_e4) (fun c_ => by exfalso; omega) (fun c_ => ?_)
    refine xr_iload_n xi_157_6 rfl ?_
    refine xr_bipush (z := nI 102) xi_157_7 rfl ?_
    refine xr_ic_ne xi_157_9 (by first | exact tI_n (by omega) | exact tI_d (by omega) | assumption | exact tI_e1 | exact tI_e2 | exact tI_e3 | exact tI_e4) (by first | exact tI_n (by omega) | exact tI_d (by omega) | assumption | exact tI_e1 | exact tI_e2 | exact tI_e3 | exact tI_e4) (fun c_ => ?_) (fun c_ => by exfalso; omega)
    refine xr_iload_n xi_157_16 rfl ?_
    refine xr_bipush (z := nI 108) xi_157_17 rfl ?_
    refine xr_ic_eq xi_157_19 (by first | exact tI_n (by omega) | exact tI_d (by omega) | assumption | exact tI_e1 | exact tI_e2 | exact tI_e3 | exact tI_e4) (by first | exact tI_n (by omega) | exact tI_d (by omega) | assumption | exact tI_e1 | exact tI_e2 | exact tI_e3 | exact tI_e4) (fun c_ => by exfalso; omega) (fun c_ => ?_)
    refine xr_iload_n xi_157_22 rfl ?_
    refine xr_bipush (z := nI 112) xi_157_23 rfl ?_
    refine xr_ic_eq xi_157_25 (by first | exact tI_n (by omega) | exact tI_d (by omega) | assumption | exact tI_e1 | exact tI_e2 | exact tI_e3 | exact tI_e4) (by first | exact tI_n (by omega) | exact tI_d (by omega) | assumption | exact tI_e1 | exact tI_e2 | exact tI_e3 | exact tI_e4) (fun c_ => by exfalso; omega) (fun c_ => ?_)
    refine xr_iload_n xi_157_28 rfl ?_
    refine xr_bipush (z := nI 119) xi_157_29 rfl ?_
    refine xr_ic_ne xi_157_31 (by first | exact tI_n (by omega) | exact tI_d (by omega) | assumption | exact tI_e1 | exact tI_e2 | exact tI_e3 | exact tI_e4) (by first | exact tI_n (by omega) | exact tI_d (by omega) | assumption | exact tI_e1 | exact tI_e2 | exact tI_e3 | exact tI_e4) (fun c_ => by exfalso; omega) (fun c_ => ?_)
    refine xr_iconst (z := nI 1) xi_157_34 rfl ?_
    refine xr_goto xi_157_35 ?_
    refine xr_iret xi_157_65 (fun h => absurd h (by decide)) ?_
    exact h1 1 rfl
  by_cases c6 : c = 104
  · subst c6
    refine xr_iload_n xi_157_0 rfl ?_
    refine xr_bipush (z := nI 110) xi_157_1 rfl ?_
    refine xr_ic_eq xi_157_3 (by first | exact tI_n (by omega) | exact tI_d (by omega) | assumption | exact tI_e1 | exact tI_e2 | exact tI_e3 | exact tI_e4) (by first | exact tI_n (by omega) | exact tI_d (by omega) | assumption | exact tI_e1 | exact tI_e2 | exact tI_e3 | exact tI_e4) (fun c_ => by exfalso; omega) (fun c_ => ?_)
    refine xr_iload_n xi_157_6 rfl ?_
    refine xr_bipush (z := nI 102) xi_157_7 rfl ?_
    refine xr_ic_ne xi_157_9 (by first | exact tI_n (by omega) | exact tI_d (by omega) | assumption | exact tI_e1 | exact tI_e2 | exact tI_e3 | exact tI_e4) (by first | exact tI_n (by omega) | exact tI_d (by omega) | assumption | exact tI_e1 | exact tI_e2 | exact tI_e3 | exact tI_e4) (fun c_ => ?_) (fun c_ => by exfalso; omega)
    refine xr_iload_n xi_157_16 rfl ?_
    refine xr_bipush (z := nI 108) xi_157_17 rfl ?_
    refine xr_ic_eq xi_157_19 (by first | exact tI_n (by omega) | exact tI_d (by omega) | assumption | exact tI_e1 | exact tI_e2 | exact tI_e3 | exact tI_e4) (by first | exact tI_n (by omega) | exact tI_d (by omega) | assumption | exact tI_e1 | exact tI_e2 | exact tI_e3 | exact tI_e4) (fun c_ => by exfalso; omega) (fun c_ => ?_)
    refine xr_iload_n xi_157_22 rfl ?_
    refine xr_bipush (z := nI 112) xi_157_23 rfl ?_
    refine xr_ic_eq xi_157_25 (by first | exact tI_n (by omega) | exact tI_d (by omega) | assumption | exact tI_e1 | exact tI_e2 | exact tI_e3 | exact tI_e4) (by first | exact tI_n (by omega) | exact tI_d (by omega) | assumption | exact tI_e1 | exact tI_e2 | exact tI_e3 | exact tI_e4) (fun c_ => by exfalso; omega) (fun c_ => ?_)
    refine xr_iload_n xi_157_28 rfl ?_
    refine xr_bipush (z := nI 119) xi_157_29 rfl ?_
    refine xr_ic_ne xi_157_31 (by first | exact tI_n (by omega) | exact tI_d (by omega) | assumption | exact tI_e1 | exact tI_e2 | exact tI_e3 | exact tI_e4) (by first | exact tI_n (by omega) | exact tI_d (by omega) | assumption | exact tI_e1 | exact tI_e2 | exact tI_e3 | exact tI_e4) (fun c_ => ?_) (fun c_ => by exfalso; omega)
    refine xr_iload_n xi_157_38 rfl ?_
    refine xr_bipush (z := nI 104) xi_157_39 rfl ?_
    refine xr_ic_eq xi_157_41 (by first | exact tI_n (by omega) | exact tI_d (by omega) | assumption | exact tI_e1 | exact tI_e2 | exact tI_e3 | exact tI_e4) (by first | exact tI_n (by omega) | exact tI_d (by omega) | assumption | exact tI_e1 | exact tI_e2 | exact tI_e3 | exact tI_e4) (fun c_ => ?_) (fun c_ => by exfalso; omega)
    refine xr_iconst (z := nI 2) xi_157_50 rfl ?_
    refine xr_goto xi_157_51 ?_
    refine xr_iret xi_157_65 (fun h => absurd h (by decide)) ?_
    exact h1 2 rfl
  by_cases c7 : c = 117
  · subst c7
    refine xr_iload_n xi_157_0 rfl ?_
    refine xr_bipush (z := nI 110) xi_157_1 rfl ?_
    refine xr_ic_eq xi_157_3 (by first | exact tI_n (by omega) | exact tI_d (by omega) | assumption | exact tI_e1 | exact tI_e2 | exact tI_e3 | exact tI_e4) (by first | exact tI_n (by omega) | exact tI_d (by omega) | assumption | exact tI_e1 | exact tI_e2 | exact tI_e3 | exact tI_e4) (fun c_ => by exfalso; omega) (fun c_ => ?_)
    refine xr_iload_n xi_157_6 rfl ?_
    refine xr_bipush (z := nI 102) xi_157_7 rfl ?_
    refine xr_ic_ne xi_157_9 (by first | exact tI_n (by omega) | exact tI_d (by omega) | assumption | exact tI_e1 | exact tI_e2 | exact tI_e3 | exact tI_e4) (by first | exact tI_n (by omega) | exact tI_d (by omega) | assumption | exact tI_e1 | exact tI_e2 | exact tI_e3 | exact tI_e4) (fun c_ => ?_) (fun c_ => by exfalso; omega)
    refine xr_iload_n xi_157_16 rfl ?_
    refine xr_bipush (z := nI 108) xi_157_17 rfl ?_
    refine xr_ic_eq xi_157_19 (by first | exact tI_n (by omega) | exact tI_d (by omega) | assumption | exact tI_e1 | exact tI_e2 | exact tI_e3 | exact tI_e4) (by first | exact tI_n (by omega) | exact tI_d (by omega) | assumption | exact tI_e1 | exact tI_e2 | exact tI_e3 | exact tI_e4) (fun c_ => by exfalso; omega) (fun c_ => ?_)
    refine xr_iload_n xi_157_22 rfl ?_
    refine xr_bipush (z := nI 112) xi_157_23 rfl ?_
    refine xr_ic_eq xi_157_25 (by first | exact tI_n (by omega) | exact tI_d (by omega) | assumption | exact tI_e1 | exact tI_e2 | exact tI_e3 | exact tI_e4) (by first | exact tI_n (by omega) | exact tI_d (by omega) | assumption | exact tI_e1 | exact tI_e2 | exact tI_e3 | exact tI_e4) (fun c_ => by exfalso; omega) (fun c_ => ?_)
    refine xr_iload_n xi_157_28 rfl ?_
    refine xr_bipush (z := nI 119) xi_157_29 rfl ?_
    refine xr_ic_ne xi_157_31 (by first | exact tI_n (by omega) | exact tI_d (by omega) | assumption | exact tI_e1 | exact tI_e2 | exact tI_e3 | exact tI_e4) (by first | exact tI_n (by omega) | exact tI_d (by omega) | assumption | exact tI_e1 | exact tI_e2 | exact tI_e3 | exact tI_e4) (fun c_ => ?_) (fun c_ => by exfalso; omega)
    refine xr_iload_n xi_157_38 rfl ?_
    refine xr_bipush (z := nI 104) xi_157_39 rfl ?_
    refine xr_ic_eq xi_157_41 (by first | exact tI_n (by omega) | exact tI_d (by omega) | assumption | exact tI_e1 | exact tI_e2 | exact tI_e3 | exact tI_e4) (by first | exact tI_n (by omega) | exact tI_d (by omega) | assumption | exact tI_e1 | exact tI_e2 | exact tI_e3 | exact tI_e4) (fun c_ => by exfalso; omega) (fun c_ => ?_)
    refine xr_iload_n xi_157_44 rfl ?_
    refine xr_bipush (z := nI 117) xi_157_45 rfl ?_
    refine xr_ic_ne xi_157_47 (by first | exact tI_n (by omega) | exact tI_d (by omega) | assumption | exact tI_e1 | exact tI_e2 | exact tI_e3 | exact tI_e4) (by first | exact tI_n (by omega) | exact tI_d (by omega) | assumption | exact tI_e1 | exact tI_e2 | exact tI_e3 | exact tI_e4) (fun c_ => by exfalso; omega) (fun c_ => ?_)
    refine xr_iconst (z := nI 2) xi_157_50 rfl ?_
    refine xr_goto xi_157_51 ?_
    refine xr_iret xi_157_65 (fun h => absurd h (by decide)) ?_
    exact h1 2 rfl
  by_cases c8 : c = 115
  · subst c8
    refine xr_iload_n xi_157_0 rfl ?_
    refine xr_bipush (z := nI 110) xi_157_1 rfl ?_
    refine xr_ic_eq xi_157_3 (by first | exact tI_n (by omega) | exact tI_d (by omega) | assumption | exact tI_e1 | exact tI_e2 | exact tI_e3 | exact tI_e4) (by first | exact tI_n (by omega) | exact tI_d (by omega) | assumption | exact tI_e1 | exact tI_e2 | exact tI_e3 | exact tI_e4) (fun c_ => by exfalso; omega) (fun c_ => ?_)
    refine xr_iload_n xi_157_6 rfl ?_
    refine xr_bipush (z := nI 102) xi_157_7 rfl ?_
    refine xr_ic_ne xi_157_9 (by first | exact tI_n (by omega) | exact tI_d (by omega) | assumption | exact tI_e1 | exact tI_e2 | exact tI_e3 | exact tI_e4) (by first | exact tI_n (by omega) | exact tI_d (by omega) | assumption | exact tI_e1 | exact tI_e2 | exact tI_e3 | exact tI_e4) (fun c_ => ?_) (fun c_ => by exfalso; omega)
    refine xr_iload_n xi_157_16 rfl ?_
    refine xr_bipush (z := nI 108) xi_157_17 rfl ?_
    refine xr_ic_eq xi_157_19 (by first | exact tI_n (by omega) | exact tI_d (by omega) | assumption | exact tI_e1 | exact tI_e2 | exact tI_e3 | exact tI_e4) (by first | exact tI_n (by omega) | exact tI_d (by omega) | assumption | exact tI_e1 | exact tI_e2 | exact tI_e3 | exact tI_e4) (fun c_ => by exfalso; omega) (fun c_ => ?_)
    refine xr_iload_n xi_157_22 rfl ?_
    refine xr_bipush (z := nI 112) xi_157_23 rfl ?_
    refine xr_ic_eq xi_157_25 (by first | exact tI_n (by omega) | exact tI_d (by omega) | assumption | exact tI_e1 | exact tI_e2 | exact tI_e3 | exact tI_e4) (by first | exact tI_n (by omega) | exact tI_d (by omega) | assumption | exact tI_e1 | exact tI_e2 | exact tI_e3 | exact tI_e4) (fun c_ => by exfalso; omega) (fun c_ => ?_)
    refine xr_iload_n xi_157_28 rfl ?_
    refine xr_bipush (z := nI 119) xi_157_29 rfl ?_
    refine xr_ic_ne xi_157_31 (by first | exact tI_n (by omega) | exact tI_d (by omega) | assumption | exact tI_e1 | exact tI_e2 | exact tI_e3 | exact tI_e4) (by first | exact tI_n (by omega) | exact tI_d (by omega) | assumption | exact tI_e1 | exact tI_e2 | exact tI_e3 | exact tI_e4) (fun c_ => ?_) (fun c_ => by exfalso; omega)
    refine xr_iload_n xi_157_38 rfl ?_
    refine xr_bipush (z := nI 104) xi_157_39 rfl ?_
    refine xr_ic_eq xi_157_41 (by first | exact tI_n (by omega) | exact tI_d (by omega) | assumption | exact tI_e1 | exact tI_e2 | exact tI_e3 | exact tI_e4) (by first | exact tI_n (by omega) | exact tI_d (by omega) | assumption | exact tI_e1 | exact tI_e2 | exact tI_e3 | exact tI_e4) (fun c_ => by exfalso; omega) (fun c_ => ?_)
    refine xr_iload_n xi_157_44 rfl ?_
    refine xr_bipush (z := nI 117) xi_157_45 rfl ?_
    refine xr_ic_ne xi_157_47 (by first | exact tI_n (by omega) | exact tI_d (by omega) | assumption | exact tI_e1 | exact tI_e2 | exact tI_e3 | exact tI_e4) (by first | exact tI_n (by omega) | exact tI_d (by omega) | assumption | exact tI_e1 | exact tI_e2 | exact tI_e3 | exact tI_e4) (fun c_ => ?_) (fun c_ => by exfalso; omega)
    refine xr_iload_n xi_157_54 rfl ?_
    refine xr_bipush (z := nI 115) xi_157_55 rfl ?_
    refine xr_ic_ne xi_157_57 (by first | exact tI_n (by omega) | exact tI_d (by omega) | assumption | exact tI_e1 | exact tI_e2 | exact tI_e3 | exact tI_e4) (by first | exact tI_n (by omega) | exact tI_d (by omega) | assumption | exact tI_e1 | exact tI_e2 | exact tI_e3 | exact tI_e4) (fun c_ => by exfalso; omega) (fun c_ => ?_)
    refine xr_iconst (z := nI 3) xi_157_60 rfl ?_
    refine xr_goto xi_157_61 ?_
    refine xr_iret xi_157_65 (fun h => absurd h (by decide)) ?_
    exact h1 3 rfl
  refine xr_iload_n xi_157_0 rfl ?_
  refine xr_bipush (z := nI 110) xi_157_1 rfl ?_
  refine xr_ic_eq xi_157_3 (by first | exact tI_n (by omega) | exact tI_d (by omega) | assumption | exact tI_e1 | exact tI_e2 | exact tI_e3 | exact tI_e4) (by first | exact tI_n (by omega) | exact tI_d (by omega) | assumption | exact tI_e1 | exact tI_e2 | exact tI_e3 | exact tI_e4) (fun c_ => by exfalso; omega) (fun c_ => ?_)
  refine xr_iload_n xi_157_6 rfl ?_
  refine xr_bipush (z := nI 102) xi_157_7 rfl ?_
  refine xr_ic_ne xi_157_9 (by first | exact tI_n (by omega) | exact tI_d (by omega) | assumption | exact tI_e1 | exact tI_e2 | exact tI_e3 | exact tI_e4) (by first | exact tI_n (by omega) | exact tI_d (by omega) | assumption | exact tI_e1 | exact tI_e2 | exact tI_e3 | exact tI_e4) (fun c_ => ?_) (fun c_ => by exfalso; omega)
  refine xr_iload_n xi_157_16 rfl ?_
  refine xr_bipush (z := nI 108) xi_157_17 rfl ?_
  refine xr_ic_eq xi_157_19 (by first | exact tI_n (by omega) | exact tI_d (by omega) | assumption | exact tI_e1 | exact tI_e2 | exact tI_e3 | exact tI_e4) (by first | exact tI_n (by omega) | exact tI_d (by omega) | assumption | exact tI_e1 | exact tI_e2 | exact tI_e3 | exact tI_e4) (fun c_ => by exfalso; omega) (fun c_ => ?_)
  refine xr_iload_n xi_157_22 rfl ?_
  refine xr_bipush (z := nI 112) xi_157_23 rfl ?_
  refine xr_ic_eq xi_157_25 (by first | exact tI_n (by omega) | exact tI_d (by omega) | assumption | exact tI_e1 | exact tI_e2 | exact tI_e3 | exact tI_e4) (by first | exact tI_n (by omega) | exact tI_d (by omega) | assumption | exact tI_e1 | exact tI_e2 | exact tI_e3 | exact tI_e4) (fun c_ => by exfalso; omega) (fun c_ => ?_)
  refine xr_iload_n xi_157_28 rfl ?_
  refine xr_bipush (z := nI 119) xi_157_29 rfl ?_
  refine xr_ic_ne xi_157_31 (by first | exact tI_n (by omega) | exact tI_d (by omega) | assumption | exact tI_e1 | exact tI_e2 | exact tI_e3 | exact tI_e4) (by first | exact tI_n (by omega) | exact tI_d (by omega) | assumption | exact tI_e1 | exact tI_e2 | exact tI_e3 | exact tI_e4) (fun c_ => ?_) (fun c_ => by exfalso; omega)
  refine xr_iload_n xi_157_38 rfl ?_
  refine xr_bipush (z := nI 104) xi_157_39 rfl ?_
  refine xr_ic_eq xi_157_41 (by first | exact tI_n (by omega) | exact tI_d (by omega) | assumption | exact tI_e1 | exact tI_e2 | exact tI_e3 | exact tI_e4) (by first | exact tI_n (by omega) | exact tI_d (by omega) | assumption | exact tI_e1 | exact tI_e2 | exact tI_e3 | exact tI_e4) (fun c_ => by exfalso; omega) (fun c_ => ?_)
  refine xr_iload_n xi_157_44 rfl ?_
  refine xr_bipush (z := nI 117) xi_157_45 rfl ?_
  refine xr_ic_ne xi_157_47 (by first | exact tI_n (by omega) | exact tI_d (by omega) | assumption | exact tI_e1 | exact tI_e2 | exact tI_e3 | exact tI_e4) (by first | exact tI_n (by omega) | exact tI_d (by omega) | assumption | exact tI_e1 | exact tI_e2 | exact tI_e3 | exact tI_e4) (fun c_ => ?_) (fun c_ => by exfalso; omega)
  refine xr_iload_n xi_157_54 rfl ?_
  refine xr_bipush (z := nI 115) xi_157_55 rfl ?_
  refine xr_ic_ne xi_157_57 (by first | exact tI_n (by omega) | exact tI_d (by omega) | assumption | exact tI_e1 | exact tI_e2 | exact tI_e3 | exact tI_e4) (by first | exact tI_n (by omega) | exact tI_d (by omega) | assumption | exact tI_e1 | exact tI_e2 | exact tI_e3 | exact tI_e4) (fun c_ => ?_) (fun c_ => by exfalso; omega)
  refine xr_iconst (z := dI 0) xi_157_64 xm_m1 ?_
  refine xr_iret xi_157_65 (fun h => absurd h (by decide)) ?_
  refine h2 ?_
  unfold sWant
  rw [if_neg (by omega), if_neg (by omega), if_neg (by omega), if_neg c8]
def mg (ns nu : Nat → Nat) (k : Nat) : Nat → Nat := fun i => if i < k then ns i else nu i
theorem mg_s (ns nu : Nat → Nat) (k v : Nat) : un (mg ns nu k) k v = mg (un ns k v) nu (k + 1) := by
  funext i
  unfold un mg
  by_cases e : i = k
  · subst e
    simp
  · rw [if_neg e]
    by_cases c : i < k
    · rw [if_pos c, if_pos (by omega)]
      simp [e]
    · rw [if_neg c, if_neg (by omega)]
theorem wm_readsOrder (ht : tOk tx ln) (hp : po ≤ ln) (h1 : ∀ w ns p' nu', sOrd tx ln po = some (tC tx ln po, ns, p') → sWant (tC tx ln po) = some w → (∀ i, i < w → nu' i = ns i) → Q (some (.int (nI 1))) (mJ st tx ln ag p' (tC tx ln po) nu' fa re od be Z G)) (h2 : ∀ p' nu', p' < 1000 → sOrd tx ln po = none → Q (some (.int (nI 0))) (mJ st tx ln ag p' (tC tx ln po) nu' fa re od be Z G)) : xc L xs 158 [.ref 0] (mJ st tx ln ag po le nu fa re od be Z G) Q := by
  have hl := ht.1
  have hle := tC_le ht po
  -- a text that is not of the form
  have fail : ∀ d w k p nu', k + d = w → w ≤ 4 → p < 1000 → sOrd tx ln po = none → xw L xs 158 46 [.ref 0, .int (nI w), .int (nI 0), .int (nI k)] [] (mJ st tx ln ag p (tC tx ln po) nu' fa re od be Z G) Q := by
    intro d w k p nu' hk hw hpb hn
    by_cases c : k < w
    · refine xr_iload_n xi_158_46 rfl ?_
      refine xr_iload_n xi_158_47 rfl ?_
      refine xr_ic_ge xi_158_48 (by first | exact tI_n (by omega) | exact tI_d (by omega) | assumption | exact tI_e1 | exact tI_e2 | exact tI_e3 | exact tI_e4) (by first | exact tI_n (by omega) | exact tI_d (by omega) | assumption | exact tI_e1 | exact tI_e2 | exact tI_e3 | exact tI_e4) (fun c_ => by exfalso; omega) (fun c_ => ?_)
      refine xr_iload_n xi_158_51 rfl ?_
      refine xr_if_eq xi_158_52 (by first | exact tI_n (by omega) | exact tI_d (by omega) | assumption | exact tI_e1 | exact tI_e2 | exact tI_e3 | exact tI_e4) (fun c_ => ?_) (fun c_ => by exfalso; omega)
      refine xr_iload_n xi_158_88 rfl ?_
      refine xr_if_eq xi_158_89 (by first | exact tI_n (by omega) | exact tI_d (by omega) | assumption | exact tI_e1 | exact tI_e2 | exact tI_e3 | exact tI_e4) (fun c_ => ?_) (fun c_ => by exfalso; omega)
      refine xr_iconst (z := nI 0) xi_158_105 rfl ?_
      refine xr_iret xi_158_106 (fun _ => (by first | exact Or.inl rfl | exact Or.inr rfl | assumption)) ?_
      exact h2 p nu' hpb hn
    · refine xr_iload_n xi_158_46 rfl ?_
      refine xr_iload_n xi_158_47 rfl ?_
      refine xr_ic_ge xi_158_48 (by first | exact tI_n (by omega) | exact tI_d (by omega) | assumption | exact tI_e1 | exact tI_e2 | exact tI_e3 | exact tI_e4) (by first | exact tI_n (by omega) | exact tI_d (by omega) | assumption | exact tI_e1 | exact tI_e2 | exact tI_e3 | exact tI_e4) (fun c_ => ?_) (fun c_ => by exfalso; omega)
      refine xr_iload_n xi_158_88 rfl ?_
      refine xr_if_eq xi_158_89 (by first | exact tI_n (by omega) | exact tI_d (by omega) | assumption | exact tI_e1 | exact tI_e2 | exact tI_e3 | exact tI_e4) (fun c_ => ?_) (fun c_ => by exfalso; omega)
      refine xr_iconst (z := nI 0) xi_158_105 rfl ?_
      refine xr_iret xi_158_106 (fun _ => (by first | exact Or.inl rfl | exact Or.inr rfl | assumption)) ?_
      exact h2 p nu' hpb hn
  refine xr_aload_n xi_158_0 rfl ?_
  refine xr_aload_n xi_158_1 rfl ?_
  refine xr_virt xi_158_2 rfl rfl rfl rfl (Nat.le_of_ble_eq_true rfl) (Nat.le_of_ble_eq_true rfl) ?_
  refine wm_code ht (by omega) ?_
  refine xr_k ?_
  refine xr_putf xi_158_5 rfl (Nat.le_of_ble_eq_true rfl) rfl ?_
  refine xr_aload_n xi_158_8 rfl ?_
  refine xr_getf xi_158_9 rfl rfl ?_
  refine xr_stat xi_158_12 (by decide) rfl rfl (Nat.le_of_ble_eq_true rfl) (Nat.le_of_ble_eq_true rfl) ?_
  refine wm_numbersOf (by omega) (fun w hw => ?_) (fun hw => ?_)
  · have hw4 : w ≤ 3 := by
      unfold sWant at hw
      split at hw
      · cases hw; omega
      · split at hw
        · cases hw; omega
        · split at hw
          · cases hw; omega
          · split at hw
            · cases hw; omega
            · cases hw
    have key : ∀ m k p ns, k + m = w → p ≤ ln + 3 * k + 1 → sArgs tx ln m k p ns = sArgs tx ln w 0 (po + 1) (fun _ => 0) → xw L xs 158 46 [.ref 0, .int (nI w), .int (nI 1), .int (nI k)] [] (mJ st tx ln ag p (tC tx ln po) (mg ns nu k) fa re od be Z G) Q := by
      intro m
      induction m with
      | zero =>
        intro k p ns hk hp2 hs
        have e : k = w := by omega
        subst e
        refine xr_iload_n xi_158_46 rfl ?_
        refine xr_iload_n xi_158_47 rfl ?_
        refine xr_ic_ge xi_158_48 (by first | exact tI_n (by omega) | exact tI_d (by omega) | assumption | exact tI_e1 | exact tI_e2 | exact tI_e3 | exact tI_e4) (by first | exact tI_n (by omega) | exact tI_d (by omega) | assumption | exact tI_e1 | exact tI_e2 | exact tI_e3 | exact tI_e4) (fun c_ => ?_) (fun c_ => by exfalso; omega)
        refine xr_iload_n xi_158_88 rfl ?_
        refine xr_if_eq xi_158_89 (by first | exact tI_n (by omega) | exact tI_d (by omega) | assumption | exact tI_e1 | exact tI_e2 | exact tI_e3 | exact tI_e4) (fun c_ => by exfalso; omega) (fun c_ => ?_)
        refine xr_aload_n xi_158_92 rfl ?_
        refine xr_bipush (z := nI 59) xi_158_93 rfl ?_
        refine xr_virt xi_158_95 rfl rfl rfl rfl (Nat.le_of_ble_eq_true rfl) (Nat.le_of_ble_eq_true rfl) ?_
        refine wm_sign (po := p) ht (by omega) (by omega) (fun hc => ?_) (fun hc => ?_)
        · refine xr_k ?_
          refine xr_if_eq xi_158_98 (by first | exact tI_n (by omega) | exact tI_d (by omega) | assumption | exact tI_e1 | exact tI_e2 | exact tI_e3 | exact tI_e4) (fun c_ => by exfalso; omega) (fun c_ => ?_)
          refine xr_iconst (z := nI 1) xi_158_101 rfl ?_
          refine xr_goto xi_158_102 ?_
          refine xr_iret xi_158_106 (fun _ => (by first | exact Or.inl rfl | exact Or.inr rfl | assumption)) ?_
          refine h1 k ns (p + 1) _ ?_ hw (fun i hi => if_pos hi)
          unfold sOrd
          rw [hw]
          dsimp only
          rw [← hs]
          simp only [sArgs, sSig, if_pos hc]
        · refine xr_k ?_
          refine xr_if_eq xi_158_98 (by first | exact tI_n (by omega) | exact tI_d (by omega) | assumption | exact tI_e1 | exact tI_e2 | exact tI_e3 | exact tI_e4) (fun c_ => ?_) (fun c_ => by exfalso; omega)
          refine xr_iconst (z := nI 0) xi_158_105 rfl ?_
          refine xr_iret xi_158_106 (fun _ => (by first | exact Or.inl rfl | exact Or.inr rfl | assumption)) ?_
          refine h2 p _ (by omega) ?_
          unfold sOrd
          rw [hw]
          dsimp only
          rw [← hs]
          simp only [sArgs, sSig, if_neg hc]
      | succ m ih =>
        intro k p ns hk hp2 hs
        have hnone : sArgs tx ln (m + 1) k p ns = none → sOrd tx ln po = none := by
          intro q
          unfold sOrd
          rw [hw]
          dsimp only
          rw [← hs, q]
        have num : ∀ p1, (if k = 0 then some p else sSig tx ln 44 p) = some p1 → p1 ≤ ln + 3 * k + 2 → xw L xs 158 68 [.ref 0, .int (nI w), .int (nI 1), .int (nI k)] [] (mJ st tx ln ag p1 (tC tx ln po) (mg ns nu k) fa re od be Z G) Q := by
          intro p1 hp1 hpl
          refine xr_aload_n xi_158_68 rfl ?_
          refine xr_iload_n xi_158_69 rfl ?_
          refine xr_virt xi_158_70 rfl rfl rfl rfl (Nat.le_of_ble_eq_true rfl) (Nat.le_of_ble_eq_true rfl) ?_
          refine wm_number (po := p1) ht (by omega) (by omega) (fun v p2 hn => ?_) (fun hn => ?_)
          · have hnl := sNum_le hn
            rw [mg_s]
            refine xr_k ?_
            refine xr_if_eq xi_158_73 (by first | exact tI_n (by omega) | exact tI_d (by omega) | assumption | exact tI_e1 | exact tI_e2 | exact tI_e3 | exact tI_e4) (fun c_ => by exfalso; omega) (fun c_ => ?_)
            refine xr_iconst (z := nI 1) xi_158_76 rfl ?_
            refine xr_goto xi_158_77 ?_
            refine xr_istore_n xi_158_81 (Nat.le_of_ble_eq_true rfl) rfl ?_
            refine xr_iinc xi_158_82 rfl (by first | exact nI_1 _ | exact rfl) rfl ?_
            refine xr_goto xi_158_85 ?_
            refine ih (k + 1) p2 (un ns k v) (by omega) (by omega) (hs ▸ ?_)
            simp only [sArgs, hp1, hn]
          · refine xr_k ?_
            refine xr_if_eq xi_158_73 (by first | exact tI_n (by omega) | exact tI_d (by omega) | assumption | exact tI_e1 | exact tI_e2 | exact tI_e3 | exact tI_e4) (fun c_ => ?_) (fun c_ => by exfalso; omega)
            refine xr_iconst (z := nI 0) xi_158_80 rfl ?_
            refine xr_istore_n xi_158_81 (Nat.le_of_ble_eq_true rfl) rfl ?_
            refine xr_iinc xi_158_82 rfl (by first | exact nI_1 _ | exact rfl) rfl ?_
            refine xr_goto xi_158_85 ?_
            refine fail m w (k + 1) p1 _ (by omega) (by omega) (by omega) (hnone ?_)
            simp only [sArgs, hp1, hn]
        by_cases hk0 : k = 0
        · subst hk0
          refine xr_iload_n xi_158_46 rfl ?_
          refine xr_iload_n xi_158_47 rfl ?_
          refine xr_ic_ge xi_158_48 (by first | exact tI_n (by omega) | exact tI_d (by omega) | assumption | exact tI_e1 | exact tI_e2 | exact tI_e3 | exact tI_e4) (by first | exact tI_n (by omega) | exact tI_d (by omega) | assumption | exact tI_e1 | exact tI_e2 | exact tI_e3 | exact tI_e4) (fun c_ => by exfalso; omega) (fun c_ => ?_)
          refine xr_iload_n xi_158_51 rfl ?_
          refine xr_if_eq xi_158_52 (by first | exact tI_n (by omega) | exact tI_d (by omega) | assumption | exact tI_e1 | exact tI_e2 | exact tI_e3 | exact tI_e4) (fun c_ => by exfalso; omega) (fun c_ => ?_)
          refine xr_iload_n xi_158_55 rfl ?_
          refine xr_if_eq xi_158_56 (by first | exact tI_n (by omega) | exact tI_d (by omega) | assumption | exact tI_e1 | exact tI_e2 | exact tI_e3 | exact tI_e4) (fun c_ => ?_) (fun c_ => by exfalso; omega)
          exact num p rfl (by omega)
        · refine xr_iload_n xi_158_46 rfl ?_
          refine xr_iload_n xi_158_47 rfl ?_
          refine xr_ic_ge xi_158_48 (by first | exact tI_n (by omega) | exact tI_d (by omega) | assumption | exact tI_e1 | exact tI_e2 | exact tI_e3 | exact tI_e4) (by first | exact tI_n (by omega) | exact tI_d (by omega) | assumption | exact tI_e1 | exact tI_e2 | exact tI_e3 | exact tI_e4) (fun c_ => by exfalso; omega) (fun c_ => ?_)
          refine xr_iload_n xi_158_51 rfl ?_
          refine xr_if_eq xi_158_52 (by first | exact tI_n (by omega) | exact tI_d (by omega) | assumption | exact tI_e1 | exact tI_e2 | exact tI_e3 | exact tI_e4) (fun c_ => by exfalso; omega) (fun c_ => ?_)
          refine xr_iload_n xi_158_55 rfl ?_
          refine xr_if_eq xi_158_56 (by first | exact tI_n (by omega) | exact tI_d (by omega) | assumption | exact tI_e1 | exact tI_e2 | exact tI_e3 | exact tI_e4) (fun c_ => by exfalso; omega) (fun c_ => ?_)
          refine xr_aload_n xi_158_59 rfl ?_
          refine xr_bipush (z := nI 44) xi_158_60 rfl ?_
          refine xr_virt xi_158_62 rfl rfl rfl rfl (Nat.le_of_ble_eq_true rfl) (Nat.le_of_ble_eq_true rfl) ?_
          refine wm_sign (po := p) ht (by omega) (by omega) (fun hc => ?_) (fun hc => ?_)
          · refine xr_k ?_
            refine xr_if_eq xi_158_65 (by first | exact tI_n (by omega) | exact tI_d (by omega) | assumption | exact tI_e1 | exact tI_e2 | exact tI_e3 | exact tI_e4) (fun c_ => by exfalso; omega) (fun c_ => ?_)
            exact num (p + 1) (by rw [if_neg hk0]; unfold sSig; rw [if_pos hc]) (by omega)
          · refine xr_k ?_
            refine xr_if_eq xi_158_65 (by first | exact tI_n (by omega) | exact tI_d (by omega) | assumption | exact tI_e1 | exact tI_e2 | exact tI_e3 | exact tI_e4) (fun c_ => ?_) (fun c_ => by exfalso; omega)
            refine xr_iconst (z := nI 0) xi_158_80 rfl ?_
            refine xr_istore_n xi_158_81 (Nat.le_of_ble_eq_true rfl) rfl ?_
            refine xr_iinc xi_158_82 rfl (by first | exact nI_1 _ | exact rfl) rfl ?_
            refine xr_goto xi_158_85 ?_
            refine fail m w (k + 1) p _ (by omega) (by omega) (by omega) (hnone ?_)
            simp only [sArgs, if_neg hk0, sSig, if_neg hc]
    refine xr_k ?_
    refine xr_istore_n xi_158_15 (Nat.le_of_ble_eq_true rfl) rfl ?_
    refine xr_aload_n xi_158_16 rfl ?_
    refine xr_dup xi_158_17 ?_
    refine xr_getf xi_158_18 rfl rfl ?_
    refine xr_iload_n xi_158_21 rfl ?_
    refine xr_if_ge xi_158_22 (by first | exact tI_n (by omega) | exact tI_d (by omega) | assumption | exact tI_e1 | exact tI_e2 | exact tI_e3 | exact tI_e4) (fun c_ => ?_) (fun c_ => by exfalso; omega)
    refine xr_iconst (z := nI 1) xi_158_29 rfl ?_
    refine xr_iadd xi_158_30 (by first | exact nI_add _ _ | exact rfl) ?_
    refine xr_putf xi_158_31 rfl (Nat.le_of_ble_eq_true rfl) rfl ?_
    refine xr_iload_n xi_158_34 rfl ?_
    refine xr_if_lt xi_158_35 (by first | exact tI_n (by omega) | exact tI_d (by omega) | assumption | exact tI_e1 | exact tI_e2 | exact tI_e3 | exact tI_e4) (fun c_ => by exfalso; omega) (fun c_ => ?_)
    refine xr_iconst (z := nI 1) xi_158_38 rfl ?_
    refine xr_goto xi_158_39 ?_
    refine xr_istore_n xi_158_43 (Nat.le_of_ble_eq_true rfl) rfl ?_
    refine xr_iconst (z := nI 0) xi_158_44 rfl ?_
    refine xr_istore_n xi_158_45 (Nat.le_of_ble_eq_true rfl) rfl ?_
    have h0 := key w 0 (po + 1) (fun _ => 0) (by omega) (by omega) rfl
    have e : mg (fun _ => 0) nu 0 = nu := by
      funext i
      unfold mg
      rw [if_neg (by omega)]
    rw [e] at h0
    exact h0
  · refine xr_k ?_
    refine xr_istore_n xi_158_15 (Nat.le_of_ble_eq_true rfl) rfl ?_
    refine xr_aload_n xi_158_16 rfl ?_
    refine xr_dup xi_158_17 ?_
    refine xr_getf xi_158_18 rfl rfl ?_
    refine xr_iload_n xi_158_21 rfl ?_
    refine xr_if_ge xi_158_22 (by first | exact tI_n (by omega) | exact tI_d (by omega) | assumption | exact tI_e1 | exact tI_e2 | exact tI_e3 | exact tI_e4) (fun c_ => by exfalso; omega) (fun c_ => ?_)
    refine xr_iconst (z := nI 0) xi_158_25 rfl ?_
    refine xr_goto xi_158_26 ?_
    refine xr_iadd xi_158_30 (by first | exact nI_add _ _ | exact rfl) ?_
    refine xr_putf xi_158_31 rfl (Nat.le_of_ble_eq_true rfl) rfl ?_
    refine xr_iload_n xi_158_34 rfl ?_
    refine xr_if_lt xi_158_35 (by first | exact tI_n (by omega) | exact tI_d (by omega) | assumption | exact tI_e1 | exact tI_e2 | exact tI_e3 | exact tI_e4) (fun c_ => ?_) (fun c_ => by exfalso; omega)
    refine xr_iconst (z := nI 0) xi_158_42 rfl ?_
    refine xr_istore_n xi_158_43 (Nat.le_of_ble_eq_true rfl) rfl ?_
    refine xr_iconst (z := nI 0) xi_158_44 rfl ?_
    refine xr_istore_n xi_158_45 (Nat.le_of_ble_eq_true rfl) rfl ?_
    refine xr_iload_n xi_158_46 rfl ?_
    refine xr_iload_n xi_158_47 rfl ?_
    refine xr_ic_ge xi_158_48 (by first | exact tI_n (by omega) | exact tI_d (by omega) | assumption | exact tI_e1 | exact tI_e2 | exact tI_e3 | exact tI_e4) (by first | exact tI_n (by omega) | exact tI_d (by omega) | assumption | exact tI_e1 | exact tI_e2 | exact tI_e3 | exact tI_e4) (fun c_ => ?_) (fun c_ => by exfalso; omega)
    refine xr_iload_n xi_158_88 rfl ?_
    refine xr_if_eq xi_158_89 (by first | exact tI_n (by omega) | exact tI_d (by omega) | assumption | exact tI_e1 | exact tI_e2 | exact tI_e3 | exact tI_e4) (fun c_ => ?_) (fun c_ => by exfalso; omega)
    refine xr_iconst (z := nI 0) xi_158_105 rfl ?_
    refine xr_iret xi_158_106 (fun _ => (by first | exact Or.inl rfl | exact Or.inr rfl | assumption)) ?_
    refine h2 po nu (by omega) ?_
    unfold sOrd
    rw [hw]
theorem no_c {n : Nat} (h : n < 2147483648) : (if 0 ≤ (nI n).toInt then nI 0 else nI n) = nI 0 := if_pos (by rw [tI_n h]; omega)
theorem no_1 : (if 0 ≤ xE1.toInt then nI 0 else xE1) = xE1 := if_neg (by rw [tI_e1]; omega)
theorem no_2 : (if 0 ≤ xE2.toInt then nI 0 else xE2) = xE2 := if_neg (by rw [tI_e2]; omega)
theorem no_3 : (if 0 ≤ xE3.toInt then nI 0 else xE3) = xE3 := if_neg (by rw [tI_e3]; omega)
theorem sWant_in {le w : Nat} (h : sWant le = some w) : le = 110 ∨ le = 104 ∨ le = 108 ∨ le = 115 ∨ le = 117 ∨ le = 112 ∨ le = 119 ∨ le = 102 := by
  unfold sWant at h
  split at h
  · omega
  · split at h
    · omega
    · split at h
      · omega
      · split at h
        · omega
        · cases h
theorem sDo_110 {G ns : Nat → Nat} : sDo G 110 ns = pThing G := if_pos rfl
theorem sDo_104 {G ns : Nat → Nat} : sDo G 104 ns = pHold G (nI (ns 0)) (nI (ns 1)) := by unfold sDo; rw [if_neg (by decide), if_pos rfl]
theorem sDo_108 {G ns : Nat → Nat} : sDo G 108 ns = pRelease G (nI (ns 0)) := by unfold sDo; rw [if_neg (by decide), if_neg (by decide), if_pos rfl]
theorem sDo_115 {G ns : Nat → Nat} : sDo G 115 ns = pTie G (nI (ns 0)) (nI (ns 1)) (nI (ns 2)) := by unfold sDo; rw [if_neg (by decide), if_neg (by decide), if_neg (by decide), if_pos rfl]
theorem sDo_117 {G ns : Nat → Nat} : sDo G 117 ns = pLoosen G (nI (ns 0)) (nI (ns 1)) := by unfold sDo; rw [if_neg (by decide), if_neg (by decide), if_neg (by decide), if_neg (by decide), if_pos rfl]
theorem sDo_112 {G ns : Nat → Nat} : sDo G 112 ns = pPin G (nI (ns 0)) 1 := by unfold sDo; rw [if_neg (by decide), if_neg (by decide), if_neg (by decide), if_neg (by decide), if_neg (by decide), if_pos rfl]
theorem sDo_119 {G ns : Nat → Nat} : sDo G 119 ns = pWinter G (nI (ns 0)) := by unfold sDo; rw [if_neg (by decide), if_neg (by decide), if_neg (by decide), if_neg (by decide), if_neg (by decide), if_neg (by decide), if_pos rfl]
theorem sDo_102 {G ns : Nat → Nat} : sDo G 102 ns = pFull G := by unfold sDo; rw [if_neg (by decide), if_neg (by decide), if_neg (by decide), if_neg (by decide), if_neg (by decide), if_neg (by decide), if_neg (by decide)]
theorem wm_noOrder {w : Nat} (hI : sInv G) (hw : sWant le = some w) (h : ∀ ag' Z', (∀ i, i < 980 → Z' i = Z i) → Q (some (.int (if 0 ≤ (sDo G le nu).1.toInt then nI 0 else (sDo G le nu).1))) (mJ st tx ln ag' po le nu fa re od be Z' G)) : xc L xs 159 [.ref 0] (mJ st tx ln ag po le nu fa re od be Z G) Q := by
  have hc := hI.c
  have hz : ∀ i, i < 980 → Z i = Z i := fun _ _ => rfl
  rcases sWant_in hw with rfl | rfl | rfl | rfl | rfl | rfl | rfl | rfl
  · have e : sDo G 110 nu = pThing G := sDo_110
    rw [e] at h
    refine xr_aload_n xi_159_0 rfl ?_
    refine xr_getf xi_159_1 rfl rfl ?_
    refine xr_iconst (z := nI 0) xi_159_4 rfl ?_
    refine xr_ialz xi_159_5 rfl (by first | exact tI_n (by first | omega | (simp only [ri]; omega)) | exact tI_dn (by omega) (by omega) | assumption) (by first | omega | (simp only [ri]; omega)) (by first | exact mj_lo (by first | omega | (simp only [ri]; omega)) | exact mF_at _ _ | exact rfl) ?_
    refine xr_istore_n xi_159_6 (Nat.le_of_ble_eq_true rfl) rfl ?_
    refine xr_aload_n xi_159_7 rfl ?_
    refine xr_getf xi_159_8 rfl rfl ?_
    refine xr_iconst (z := nI 1) xi_159_11 rfl ?_
    refine xr_ialz xi_159_12 rfl (by first | exact tI_n (by first | omega | (simp only [ri]; omega)) | exact tI_dn (by omega) (by omega) | assumption) (by first | omega | (simp only [ri]; omega)) (by first | exact mj_lo (by first | omega | (simp only [ri]; omega)) | exact mF_at _ _ | exact rfl) ?_
    refine xr_istore_n xi_159_13 (Nat.le_of_ble_eq_true rfl) rfl ?_
    refine xr_aload_n xi_159_14 rfl ?_
    refine xr_getf xi_159_15 rfl rfl ?_
    refine xr_tsw xi_159_18 (by first | exact tI_n (by omega) | exact tI_d (by omega) | assumption | exact tI_e1 | exact tI_e2 | exact tI_e3 | exact tI_e4) (t := 96) (by decide) ?_
    refine xr_aload_n xi_159_96 rfl ?_
    refine xr_virt xi_159_97 rfl rfl rfl rfl (Nat.le_of_ble_eq_true rfl) (Nat.le_of_ble_eq_true rfl) ?_
    refine wm_noThing hI (fun Z' hz hr => ?_) (fun Z' hz hr h30 => ?_) (fun Z' hz hr h30 => ?_)
    · refine xr_k ?_
      refine xr_iret xi_159_100 (fun h => absurd h (by decide)) ?_
      rw [pThing_2 hr, no_2] at h
      exact h _ _ hz
    · refine xr_k ?_
      refine xr_iret xi_159_100 (fun h => absurd h (by decide)) ?_
      rw [pThing_3 hr h30, no_3] at h
      exact h _ _ hz
    · refine xr_k ?_
      refine xr_iret xi_159_100 (fun h => absurd h (by decide)) ?_
      cases hr2 : sRoom G 1 with
      | none => exact absurd hr2 hr
      | some q =>
        obtain ⟨p, G1⟩ := q
        rw [pThing_0 hr2 h30, no_c (by omega)] at h
        exact h _ _ hz
  · have e : sDo G 104 nu = pHold G (nI (nu 0)) (nI (nu 1)) := sDo_104
    rw [e] at h
    refine xr_aload_n xi_159_0 rfl ?_
    refine xr_getf xi_159_1 rfl rfl ?_
    refine xr_iconst (z := nI 0) xi_159_4 rfl ?_
    refine xr_ialz xi_159_5 rfl (by first | exact tI_n (by first | omega | (simp only [ri]; omega)) | exact tI_dn (by omega) (by omega) | assumption) (by first | omega | (simp only [ri]; omega)) (by first | exact mj_lo (by first | omega | (simp only [ri]; omega)) | exact mF_at _ _ | exact rfl) ?_
    refine xr_istore_n xi_159_6 (Nat.le_of_ble_eq_true rfl) rfl ?_
    refine xr_aload_n xi_159_7 rfl ?_
    refine xr_getf xi_159_8 rfl rfl ?_
    refine xr_iconst (z := nI 1) xi_159_11 rfl ?_
    refine xr_ialz xi_159_12 rfl (by first | exact tI_n (by first | omega | (simp only [ri]; omega)) | exact tI_dn (by omega) (by omega) | assumption) (by first | omega | (simp only [ri]; omega)) (by first | exact mj_lo (by first | omega | (simp only [ri]; omega)) | exact mF_at _ _ | exact rfl) ?_
    refine xr_istore_n xi_159_13 (Nat.le_of_ble_eq_true rfl) rfl ?_
    refine xr_aload_n xi_159_14 rfl ?_
    refine xr_getf xi_159_15 rfl rfl ?_
    refine xr_tsw xi_159_18 (by first | exact tI_n (by omega) | exact tI_d (by omega) | assumption | exact tI_e1 | exact tI_e2 | exact tI_e3 | exact tI_e4) (t := 101) (by decide) ?_
    refine xr_aload_n xi_159_101 rfl ?_
    refine xr_iload_n xi_159_102 rfl ?_
    refine xr_iload_n xi_159_103 rfl ?_
    refine xr_virt xi_159_104 rfl rfl rfl rfl (Nat.le_of_ble_eq_true rfl) (Nat.le_of_ble_eq_true rfl) ?_
    refine wm_noHold hI (fun a t ha ht e1 e2 => ?_) (fun hn => ?_)
    · refine xr_k ?_
      refine xr_iret xi_159_107 (fun h => absurd h (by decide)) ?_
      rw [e1, e2, pHold_0 hI ha ht, no_c (by have := cnt_le (fun k => 0 < un G (12 + a) (t + 1) (12 + k)) 4; omega)] at h
      exact h _ _ hz
    · refine xr_k ?_
      refine xr_iret xi_159_107 (fun h => absurd h (by decide)) ?_
      rw [pHold_1 hn, no_1] at h
      exact h _ _ hz
  · have e : sDo G 108 nu = pRelease G (nI (nu 0)) := sDo_108
    rw [e] at h
    refine xr_aload_n xi_159_0 rfl ?_
    refine xr_getf xi_159_1 rfl rfl ?_
    refine xr_iconst (z := nI 0) xi_159_4 rfl ?_
    refine xr_ialz xi_159_5 rfl (by first | exact tI_n (by first | omega | (simp only [ri]; omega)) | exact tI_dn (by omega) (by omega) | assumption) (by first | omega | (simp only [ri]; omega)) (by first | exact mj_lo (by first | omega | (simp only [ri]; omega)) | exact mF_at _ _ | exact rfl) ?_
    refine xr_istore_n xi_159_6 (Nat.le_of_ble_eq_true rfl) rfl ?_
    refine xr_aload_n xi_159_7 rfl ?_
    refine xr_getf xi_159_8 rfl rfl ?_
    refine xr_iconst (z := nI 1) xi_159_11 rfl ?_
    refine xr_ialz xi_159_12 rfl (by first | exact tI_n (by first | omega | (simp only [ri]; omega)) | exact tI_dn (by omega) (by omega) | assumption) (by first | omega | (simp only [ri]; omega)) (by first | exact mj_lo (by first | omega | (simp only [ri]; omega)) | exact mF_at _ _ | exact rfl) ?_
    refine xr_istore_n xi_159_13 (Nat.le_of_ble_eq_true rfl) rfl ?_
    refine xr_aload_n xi_159_14 rfl ?_
    refine xr_getf xi_159_15 rfl rfl ?_
    refine xr_tsw xi_159_18 (by first | exact tI_n (by omega) | exact tI_d (by omega) | assumption | exact tI_e1 | exact tI_e2 | exact tI_e3 | exact tI_e4) (t := 108) (by decide) ?_
    refine xr_aload_n xi_159_108 rfl ?_
    refine xr_iload_n xi_159_109 rfl ?_
    refine xr_virt xi_159_110 rfl rfl rfl rfl (Nat.le_of_ble_eq_true rfl) (Nat.le_of_ble_eq_true rfl) ?_
    refine wm_noRelease hI (fun a ha e1 h0 => ?_) (fun a ha e1 h0 => ?_) (fun hn => ?_)
    · refine xr_k ?_
      refine xr_iret xi_159_113 (fun h => absurd h (by decide)) ?_
      rw [e1, pRelease_0 ha h0, no_c (by have := (hI.h ha).1; omega)] at h
      exact h _ _ hz
    · refine xr_k ?_
      refine xr_iret xi_159_113 (fun h => absurd h (by decide)) ?_
      rw [e1, pRelease_2 ha h0, no_2] at h
      exact h _ _ hz
    · refine xr_k ?_
      refine xr_iret xi_159_113 (fun h => absurd h (by decide)) ?_
      rw [pRelease_1 hn, no_1] at h
      exact h _ _ hz
  · have e : sDo G 115 nu = pTie G (nI (nu 0)) (nI (nu 1)) (nI (nu 2)) := sDo_115
    rw [e] at h
    refine xr_aload_n xi_159_0 rfl ?_
    refine xr_getf xi_159_1 rfl rfl ?_
    refine xr_iconst (z := nI 0) xi_159_4 rfl ?_
    refine xr_ialz xi_159_5 rfl (by first | exact tI_n (by first | omega | (simp only [ri]; omega)) | exact tI_dn (by omega) (by omega) | assumption) (by first | omega | (simp only [ri]; omega)) (by first | exact mj_lo (by first | omega | (simp only [ri]; omega)) | exact mF_at _ _ | exact rfl) ?_
    refine xr_istore_n xi_159_6 (Nat.le_of_ble_eq_true rfl) rfl ?_
    refine xr_aload_n xi_159_7 rfl ?_
    refine xr_getf xi_159_8 rfl rfl ?_
    refine xr_iconst (z := nI 1) xi_159_11 rfl ?_
    refine xr_ialz xi_159_12 rfl (by first | exact tI_n (by first | omega | (simp only [ri]; omega)) | exact tI_dn (by omega) (by omega) | assumption) (by first | omega | (simp only [ri]; omega)) (by first | exact mj_lo (by first | omega | (simp only [ri]; omega)) | exact mF_at _ _ | exact rfl) ?_
    refine xr_istore_n xi_159_13 (Nat.le_of_ble_eq_true rfl) rfl ?_
    refine xr_aload_n xi_159_14 rfl ?_
    refine xr_getf xi_159_15 rfl rfl ?_
    refine xr_tsw xi_159_18 (by first | exact tI_n (by omega) | exact tI_d (by omega) | assumption | exact tI_e1 | exact tI_e2 | exact tI_e3 | exact tI_e4) (t := 114) (by decide) ?_
    refine xr_aload_n xi_159_114 rfl ?_
    refine xr_iload_n xi_159_115 rfl ?_
    refine xr_iload_n xi_159_116 rfl ?_
    refine xr_aload_n xi_159_117 rfl ?_
    refine xr_getf xi_159_118 rfl rfl ?_
    refine xr_iconst (z := nI 2) xi_159_121 rfl ?_
    refine xr_ialz xi_159_122 rfl (by first | exact tI_n (by first | omega | (simp only [ri]; omega)) | exact tI_dn (by omega) (by omega) | assumption) (by first | omega | (simp only [ri]; omega)) (by first | exact mj_lo (by first | omega | (simp only [ri]; omega)) | exact mF_at _ _ | exact rfl) ?_
    refine xr_virt xi_159_123 rfl rfl rfl rfl (Nat.le_of_ble_eq_true rfl) (Nat.le_of_ble_eq_true rfl) ?_
    refine wm_noTie hI (fun t s u ht hs hu e1 e2 e3 => ?_) (fun hn => ?_)
    · refine xr_k ?_
      refine xr_iret xi_159_126 (fun h => absurd h (by decide)) ?_
      rw [e1, e2, e3, pTie_0 hI ht hs hu] at h
      by_cases c : sAge G u < sAge G t
      · rw [if_pos c, no_c (by omega)] at h
        exact h _ _ hz
      · rw [if_neg c, no_c (by omega)] at h
        exact h _ _ hz
    · refine xr_k ?_
      refine xr_iret xi_159_126 (fun h => absurd h (by decide)) ?_
      rw [pTie_1 hn, no_1] at h
      exact h _ _ hz
  · have e : sDo G 117 nu = pLoosen G (nI (nu 0)) (nI (nu 1)) := sDo_117
    rw [e] at h
    refine xr_aload_n xi_159_0 rfl ?_
    refine xr_getf xi_159_1 rfl rfl ?_
    refine xr_iconst (z := nI 0) xi_159_4 rfl ?_
    refine xr_ialz xi_159_5 rfl (by first | exact tI_n (by first | omega | (simp only [ri]; omega)) | exact tI_dn (by omega) (by omega) | assumption) (by first | omega | (simp only [ri]; omega)) (by first | exact mj_lo (by first | omega | (simp only [ri]; omega)) | exact mF_at _ _ | exact rfl) ?_
    refine xr_istore_n xi_159_6 (Nat.le_of_ble_eq_true rfl) rfl ?_
    refine xr_aload_n xi_159_7 rfl ?_
    refine xr_getf xi_159_8 rfl rfl ?_
    refine xr_iconst (z := nI 1) xi_159_11 rfl ?_
    refine xr_ialz xi_159_12 rfl (by first | exact tI_n (by first | omega | (simp only [ri]; omega)) | exact tI_dn (by omega) (by omega) | assumption) (by first | omega | (simp only [ri]; omega)) (by first | exact mj_lo (by first | omega | (simp only [ri]; omega)) | exact mF_at _ _ | exact rfl) ?_
    refine xr_istore_n xi_159_13 (Nat.le_of_ble_eq_true rfl) rfl ?_
    refine xr_aload_n xi_159_14 rfl ?_
    refine xr_getf xi_159_15 rfl rfl ?_
    refine xr_tsw xi_159_18 (by first | exact tI_n (by omega) | exact tI_d (by omega) | assumption | exact tI_e1 | exact tI_e2 | exact tI_e3 | exact tI_e4) (t := 127) (by decide) ?_
    refine xr_aload_n xi_159_127 rfl ?_
    refine xr_iload_n xi_159_128 rfl ?_
    refine xr_iload_n xi_159_129 rfl ?_
    refine xr_virt xi_159_130 rfl rfl rfl rfl (Nat.le_of_ble_eq_true rfl) (Nat.le_of_ble_eq_true rfl) ?_
    refine wm_noLoosen hI (fun t s ht hs e1 e2 h0 => ?_) (fun t s ht hs e1 e2 h0 => ?_) (fun hn => ?_)
    · refine xr_k ?_
      refine xr_iret xi_159_133 (fun h => absurd h (by decide)) ?_
      rw [e1, e2, pLoosen_0 hI ht hs h0, no_c (by have := (hI.t (hI.lt ht) hs).1; omega)] at h
      exact h _ _ hz
    · refine xr_k ?_
      refine xr_iret xi_159_133 (fun h => absurd h (by decide)) ?_
      rw [e1, e2, pLoosen_2 hI ht hs h0, no_2] at h
      exact h _ _ hz
    · refine xr_k ?_
      refine xr_iret xi_159_133 (fun h => absurd h (by decide)) ?_
      rw [pLoosen_1 hn, no_1] at h
      exact h _ _ hz
  · have e : sDo G 112 nu = pPin G (nI (nu 0)) 1 := sDo_112
    rw [e] at h
    refine xr_aload_n xi_159_0 rfl ?_
    refine xr_getf xi_159_1 rfl rfl ?_
    refine xr_iconst (z := nI 0) xi_159_4 rfl ?_
    refine xr_ialz xi_159_5 rfl (by first | exact tI_n (by first | omega | (simp only [ri]; omega)) | exact tI_dn (by omega) (by omega) | assumption) (by first | omega | (simp only [ri]; omega)) (by first | exact mj_lo (by first | omega | (simp only [ri]; omega)) | exact mF_at _ _ | exact rfl) ?_
    refine xr_istore_n xi_159_6 (Nat.le_of_ble_eq_true rfl) rfl ?_
    refine xr_aload_n xi_159_7 rfl ?_
    refine xr_getf xi_159_8 rfl rfl ?_
    refine xr_iconst (z := nI 1) xi_159_11 rfl ?_
    refine xr_ialz xi_159_12 rfl (by first | exact tI_n (by first | omega | (simp only [ri]; omega)) | exact tI_dn (by omega) (by omega) | assumption) (by first | omega | (simp only [ri]; omega)) (by first | exact mj_lo (by first | omega | (simp only [ri]; omega)) | exact mF_at _ _ | exact rfl) ?_
    refine xr_istore_n xi_159_13 (Nat.le_of_ble_eq_true rfl) rfl ?_
    refine xr_aload_n xi_159_14 rfl ?_
    refine xr_getf xi_159_15 rfl rfl ?_
    refine xr_tsw xi_159_18 (by first | exact tI_n (by omega) | exact tI_d (by omega) | assumption | exact tI_e1 | exact tI_e2 | exact tI_e3 | exact tI_e4) (t := 134) (by decide) ?_
    refine xr_aload_n xi_159_134 rfl ?_
    refine xr_iload_n xi_159_135 rfl ?_
    refine xr_iconst (z := nI 1) xi_159_136 rfl ?_
    refine xr_virt xi_159_137 rfl rfl rfl rfl (Nat.le_of_ble_eq_true rfl) (Nat.le_of_ble_eq_true rfl) ?_
    refine wm_noPin (by omega) hI (fun t ht e1 h0 => ?_) (fun t ht e1 h0 => ?_) (fun hn => ?_)
    · refine xr_k ?_
      refine xr_iret xi_159_140 (fun h => absurd h (by decide)) ?_
      rw [e1, pPin_0 hI ht h0, no_c (by have := cnt_le (sPin (un G (ri t 1) 1)) 30; omega)] at h
      exact h _ _ hz
    · refine xr_k ?_
      refine xr_iret xi_159_140 (fun h => absurd h (by decide)) ?_
      rw [e1, pPin_2 hI ht h0, no_2] at h
      exact h _ _ hz
    · refine xr_k ?_
      refine xr_iret xi_159_140 (fun h => absurd h (by decide)) ?_
      rw [pPin_1 hn, no_1] at h
      exact h _ _ hz
  · have e : sDo G 119 nu = pWinter G (nI (nu 0)) := sDo_119
    rw [e] at h
    refine xr_aload_n xi_159_0 rfl ?_
    refine xr_getf xi_159_1 rfl rfl ?_
    refine xr_iconst (z := nI 0) xi_159_4 rfl ?_
    refine xr_ialz xi_159_5 rfl (by first | exact tI_n (by first | omega | (simp only [ri]; omega)) | exact tI_dn (by omega) (by omega) | assumption) (by first | omega | (simp only [ri]; omega)) (by first | exact mj_lo (by first | omega | (simp only [ri]; omega)) | exact mF_at _ _ | exact rfl) ?_
    refine xr_istore_n xi_159_6 (Nat.le_of_ble_eq_true rfl) rfl ?_
    refine xr_aload_n xi_159_7 rfl ?_
    refine xr_getf xi_159_8 rfl rfl ?_
    refine xr_iconst (z := nI 1) xi_159_11 rfl ?_
    refine xr_ialz xi_159_12 rfl (by first | exact tI_n (by first | omega | (simp only [ri]; omega)) | exact tI_dn (by omega) (by omega) | assumption) (by first | omega | (simp only [ri]; omega)) (by first | exact mj_lo (by first | omega | (simp only [ri]; omega)) | exact mF_at _ _ | exact rfl) ?_
    refine xr_istore_n xi_159_13 (Nat.le_of_ble_eq_true rfl) rfl ?_
    refine xr_aload_n xi_159_14 rfl ?_
    refine xr_getf xi_159_15 rfl rfl ?_
    refine xr_tsw xi_159_18 (by first | exact tI_n (by omega) | exact tI_d (by omega) | assumption | exact tI_e1 | exact tI_e2 | exact tI_e3 | exact tI_e4) (t := 141) (by decide) ?_
    refine xr_aload_n xi_159_141 rfl ?_
    refine xr_iload_n xi_159_142 rfl ?_
    refine xr_virt xi_159_143 rfl rfl rfl rfl (Nat.le_of_ble_eq_true rfl) (Nat.le_of_ble_eq_true rfl) ?_
    refine wm_noWinter hI (fun a Z' ag' ha e1 hz hs => ?_) (fun a Z' ag' ha e1 hz hs => ?_) (fun hn => ?_)
    · refine xr_k ?_
      refine xr_iret xi_159_146 (fun h => absurd h (by decide)) ?_
      cases hw2 : sWin G a with
      | none => exact absurd hw2 hs
      | some G' =>
        rw [e1, pWinter_0 ha hw2, no_c (by have := cnt_le (sGone G a) 30; omega)] at h
        exact h _ _ hz
    · refine xr_k ?_
      refine xr_iret xi_159_146 (fun h => absurd h (by decide)) ?_
      rw [e1, pWinter_2 ha hs, no_2] at h
      exact h _ _ hz
    · refine xr_k ?_
      refine xr_iret xi_159_146 (fun h => absurd h (by decide)) ?_
      rw [pWinter_1 hn, no_1] at h
      exact h _ _ hz
  · have e : sDo G 102 nu = pFull G := sDo_102
    rw [e] at h
    refine xr_aload_n xi_159_0 rfl ?_
    refine xr_getf xi_159_1 rfl rfl ?_
    refine xr_iconst (z := nI 0) xi_159_4 rfl ?_
    refine xr_ialz xi_159_5 rfl (by first | exact tI_n (by first | omega | (simp only [ri]; omega)) | exact tI_dn (by omega) (by omega) | assumption) (by first | omega | (simp only [ri]; omega)) (by first | exact mj_lo (by first | omega | (simp only [ri]; omega)) | exact mF_at _ _ | exact rfl) ?_
    refine xr_istore_n xi_159_6 (Nat.le_of_ble_eq_true rfl) rfl ?_
    refine xr_aload_n xi_159_7 rfl ?_
    refine xr_getf xi_159_8 rfl rfl ?_
    refine xr_iconst (z := nI 1) xi_159_11 rfl ?_
    refine xr_ialz xi_159_12 rfl (by first | exact tI_n (by first | omega | (simp only [ri]; omega)) | exact tI_dn (by omega) (by omega) | assumption) (by first | omega | (simp only [ri]; omega)) (by first | exact mj_lo (by first | omega | (simp only [ri]; omega)) | exact mF_at _ _ | exact rfl) ?_
    refine xr_istore_n xi_159_13 (Nat.le_of_ble_eq_true rfl) rfl ?_
    refine xr_aload_n xi_159_14 rfl ?_
    refine xr_getf xi_159_15 rfl rfl ?_
    refine xr_tsw xi_159_18 (by first | exact tI_n (by omega) | exact tI_d (by omega) | assumption | exact tI_e1 | exact tI_e2 | exact tI_e3 | exact tI_e4) (t := 147) (by decide) ?_
    refine xr_iconst (z := nI 0) xi_159_147 rfl ?_
    refine xr_iret xi_159_148 (fun h => absurd h (by decide)) ?_
    have e2 : (if 0 ≤ (pFull G).1.toInt then nI 0 else (pFull G).1) = nI 0 := no_c (by have := cnt_le (sForg G) 30; omega)
    rw [e2] at h
    exact h _ _ hz
theorem wm_doOrder {w : Nat} (hI : sInv G) (hw : sWant le = some w) (ha0 : 0 ≤ (sDo G le nu).1.toInt) (h : ∀ ag', Q none (mJ st tx ln ag' po le nu fa re od be Z (sDo G le nu).2)) : xc L xs 160 [.ref 0] (mJ st tx ln ag po le nu fa re od be Z G) Q := by
  have hc := hI.c
  have n1 : ¬ 0 ≤ xE1.toInt := by rw [tI_e1]; omega
  have n2 : ¬ 0 ≤ xE2.toInt := by rw [tI_e2]; omega
  have n3 : ¬ 0 ≤ xE3.toInt := by rw [tI_e3]; omega
  rcases sWant_in hw with rfl | rfl | rfl | rfl | rfl | rfl | rfl | rfl
  · have e : sDo G 110 nu = pThing G := sDo_110
    rw [e] at h ha0
    cases hr : sRoom G 1 with
    | none => rw [pThing_2 hr] at ha0; exact absurd ha0 n2
    | some q =>
      obtain ⟨p, G1⟩ := q
      by_cases h30 : G 0 = 30
      · rw [pThing_3 (by rw [hr]; exact fun q => by cases q) h30] at ha0
        exact absurd ha0 n3
      · rw [pThing_0 hr (by omega)] at h
        refine xr_aload_n xi_160_0 rfl ?_
        refine xr_getf xi_160_1 rfl rfl ?_
        refine xr_iconst (z := nI 0) xi_160_4 rfl ?_
        refine xr_ialz xi_160_5 rfl (by first | exact tI_n (by first | omega | (simp only [ri]; omega)) | exact tI_dn (by omega) (by omega) | assumption) (by first | omega | (simp only [ri]; omega)) (by first | exact mj_lo (by first | omega | (simp only [ri]; omega)) | exact mF_at _ _ | exact rfl) ?_
        refine xr_istore_n xi_160_6 (Nat.le_of_ble_eq_true rfl) rfl ?_
        refine xr_aload_n xi_160_7 rfl ?_
        refine xr_getf xi_160_8 rfl rfl ?_
        refine xr_iconst (z := nI 1) xi_160_11 rfl ?_
        refine xr_ialz xi_160_12 rfl (by first | exact tI_n (by first | omega | (simp only [ri]; omega)) | exact tI_dn (by omega) (by omega) | assumption) (by first | omega | (simp only [ri]; omega)) (by first | exact mj_lo (by first | omega | (simp only [ri]; omega)) | exact mF_at _ _ | exact rfl) ?_
        refine xr_istore_n xi_160_13 (Nat.le_of_ble_eq_true rfl) rfl ?_
        refine xr_aload_n xi_160_14 rfl ?_
        refine xr_getf xi_160_15 rfl rfl ?_
        refine xr_tsw xi_160_18 (by first | exact tI_n (by omega) | exact tI_d (by omega) | assumption | exact tI_e1 | exact tI_e2 | exact tI_e3 | exact tI_e4) (t := 96) (by decide) ?_
        refine xr_aload_n xi_160_96 rfl ?_
        refine xr_virt xi_160_97 rfl rfl rfl rfl (Nat.le_of_ble_eq_true rfl) (Nat.le_of_ble_eq_true rfl) ?_
        refine wm_doThing hI (by omega) hr ?_
        refine xr_k ?_
        refine xr_pop xi_160_100 ?_
        refine xr_goto xi_160_101 ?_
        refine xr_ret xi_160_173 ?_
        exact h _
  · have e : sDo G 104 nu = pHold G (nI (nu 0)) (nI (nu 1)) := sDo_104
    rw [e] at h ha0
    by_cases hx : ∃ h t, h < 4 ∧ sLive G t ∧ nI (nu 0) = nI h ∧ nI (nu 1) = nI t
    · obtain ⟨a, t, ha, ht, e1, e2⟩ := hx
      rw [e1, e2, pHold_0 hI ha ht] at h
      refine xr_aload_n xi_160_0 rfl ?_
      refine xr_getf xi_160_1 rfl rfl ?_
      refine xr_iconst (z := nI 0) xi_160_4 rfl ?_
      refine xr_ialz xi_160_5 rfl (by first | exact tI_n (by first | omega | (simp only [ri]; omega)) | exact tI_dn (by omega) (by omega) | assumption) (by first | omega | (simp only [ri]; omega)) (by first | exact mj_lo (by first | omega | (simp only [ri]; omega)) | exact mF_at _ _ | exact rfl) ?_
      refine xr_istore_n xi_160_6 (Nat.le_of_ble_eq_true rfl) rfl ?_
      refine xr_aload_n xi_160_7 rfl ?_
      refine xr_getf xi_160_8 rfl rfl ?_
      refine xr_iconst (z := nI 1) xi_160_11 rfl ?_
      refine xr_ialz xi_160_12 rfl (by first | exact tI_n (by first | omega | (simp only [ri]; omega)) | exact tI_dn (by omega) (by omega) | assumption) (by first | omega | (simp only [ri]; omega)) (by first | exact mj_lo (by first | omega | (simp only [ri]; omega)) | exact mF_at _ _ | exact rfl) ?_
      refine xr_istore_n xi_160_13 (Nat.le_of_ble_eq_true rfl) rfl ?_
      refine xr_aload_n xi_160_14 rfl ?_
      refine xr_getf xi_160_15 rfl rfl ?_
      refine xr_tsw xi_160_18 (by first | exact tI_n (by omega) | exact tI_d (by omega) | assumption | exact tI_e1 | exact tI_e2 | exact tI_e3 | exact tI_e4) (t := 104) (by decide) ?_
      refine xr_aload_n xi_160_104 rfl ?_
      refine xr_iload_n xi_160_105 rfl ?_
      refine xr_iload_n xi_160_106 rfl ?_
      rw [e1, e2]
      refine xr_virt xi_160_107 rfl rfl rfl rfl (Nat.le_of_ble_eq_true rfl) (Nat.le_of_ble_eq_true rfl) ?_
      refine wm_doHold ha (hI.lt ht) hI ?_
      refine xr_k ?_
      refine xr_pop xi_160_110 ?_
      refine xr_goto xi_160_111 ?_
      refine xr_ret xi_160_173 ?_
      exact h _
    · rw [pHold_1 hx] at ha0
      exact absurd ha0 n1
  · have e : sDo G 108 nu = pRelease G (nI (nu 0)) := sDo_108
    rw [e] at h ha0
    by_cases hx : ∃ h, h < 4 ∧ nI (nu 0) = nI h
    · obtain ⟨a, ha, e1⟩ := hx
      rw [e1] at h ha0
      by_cases h0 : G (12 + a) = 0
      · rw [pRelease_2 ha h0] at ha0
        exact absurd ha0 n2
      · rw [pRelease_0 ha (by omega)] at h
        refine xr_aload_n xi_160_0 rfl ?_
        refine xr_getf xi_160_1 rfl rfl ?_
        refine xr_iconst (z := nI 0) xi_160_4 rfl ?_
        refine xr_ialz xi_160_5 rfl (by first | exact tI_n (by first | omega | (simp only [ri]; omega)) | exact tI_dn (by omega) (by omega) | assumption) (by first | omega | (simp only [ri]; omega)) (by first | exact mj_lo (by first | omega | (simp only [ri]; omega)) | exact mF_at _ _ | exact rfl) ?_
        refine xr_istore_n xi_160_6 (Nat.le_of_ble_eq_true rfl) rfl ?_
        refine xr_aload_n xi_160_7 rfl ?_
        refine xr_getf xi_160_8 rfl rfl ?_
        refine xr_iconst (z := nI 1) xi_160_11 rfl ?_
        refine xr_ialz xi_160_12 rfl (by first | exact tI_n (by first | omega | (simp only [ri]; omega)) | exact tI_dn (by omega) (by omega) | assumption) (by first | omega | (simp only [ri]; omega)) (by first | exact mj_lo (by first | omega | (simp only [ri]; omega)) | exact mF_at _ _ | exact rfl) ?_
        refine xr_istore_n xi_160_13 (Nat.le_of_ble_eq_true rfl) rfl ?_
        refine xr_aload_n xi_160_14 rfl ?_
        refine xr_getf xi_160_15 rfl rfl ?_
        refine xr_tsw xi_160_18 (by first | exact tI_n (by omega) | exact tI_d (by omega) | assumption | exact tI_e1 | exact tI_e2 | exact tI_e3 | exact tI_e4) (t := 114) (by decide) ?_
        refine xr_aload_n xi_160_114 rfl ?_
        refine xr_iload_n xi_160_115 rfl ?_
        rw [e1]
        refine xr_virt xi_160_116 rfl rfl rfl rfl (Nat.le_of_ble_eq_true rfl) (Nat.le_of_ble_eq_true rfl) ?_
        refine wm_doRelease ha ?_
        refine xr_k ?_
        refine xr_pop xi_160_119 ?_
        refine xr_goto xi_160_120 ?_
        refine xr_ret xi_160_173 ?_
        exact h _
    · rw [pRelease_1 (fun a ha e1 => hx ⟨a, ha, e1⟩)] at ha0
      exact absurd ha0 n1
  · have e : sDo G 115 nu = pTie G (nI (nu 0)) (nI (nu 1)) (nI (nu 2)) := sDo_115
    rw [e] at h ha0
    by_cases hx : ∃ t s u, sLive G t ∧ s < 3 ∧ sLive G u ∧ nI (nu 0) = nI t ∧ nI (nu 1) = nI s ∧ nI (nu 2) = nI u
    · obtain ⟨t, s, u, ht, hs, hu, e1, e2, e3⟩ := hx
      rw [e1, e2, e3, pTie_0 hI ht hs hu] at h
      refine xr_aload_n xi_160_0 rfl ?_
      refine xr_getf xi_160_1 rfl rfl ?_
      refine xr_iconst (z := nI 0) xi_160_4 rfl ?_
      refine xr_ialz xi_160_5 rfl (by first | exact tI_n (by first | omega | (simp only [ri]; omega)) | exact tI_dn (by omega) (by omega) | assumption) (by first | omega | (simp only [ri]; omega)) (by first | exact mj_lo (by first | omega | (simp only [ri]; omega)) | exact mF_at _ _ | exact rfl) ?_
      refine xr_istore_n xi_160_6 (Nat.le_of_ble_eq_true rfl) rfl ?_
      refine xr_aload_n xi_160_7 rfl ?_
      refine xr_getf xi_160_8 rfl rfl ?_
      refine xr_iconst (z := nI 1) xi_160_11 rfl ?_
      refine xr_ialz xi_160_12 rfl (by first | exact tI_n (by first | omega | (simp only [ri]; omega)) | exact tI_dn (by omega) (by omega) | assumption) (by first | omega | (simp only [ri]; omega)) (by first | exact mj_lo (by first | omega | (simp only [ri]; omega)) | exact mF_at _ _ | exact rfl) ?_
      refine xr_istore_n xi_160_13 (Nat.le_of_ble_eq_true rfl) rfl ?_
      refine xr_aload_n xi_160_14 rfl ?_
      refine xr_getf xi_160_15 rfl rfl ?_
      refine xr_tsw xi_160_18 (by first | exact tI_n (by omega) | exact tI_d (by omega) | assumption | exact tI_e1 | exact tI_e2 | exact tI_e3 | exact tI_e4) (t := 123) (by decide) ?_
      refine xr_aload_n xi_160_123 rfl ?_
      refine xr_iload_n xi_160_124 rfl ?_
      refine xr_iload_n xi_160_125 rfl ?_
      refine xr_aload_n xi_160_126 rfl ?_
      refine xr_getf xi_160_127 rfl rfl ?_
      refine xr_iconst (z := nI 2) xi_160_130 rfl ?_
      refine xr_ialz xi_160_131 rfl (by first | exact tI_n (by first | omega | (simp only [ri]; omega)) | exact tI_dn (by omega) (by omega) | assumption) (by first | omega | (simp only [ri]; omega)) (by first | exact mj_lo (by first | omega | (simp only [ri]; omega)) | exact mF_at _ _ | exact rfl) ?_
      rw [e1, e2, e3]
      refine xr_virt xi_160_132 rfl rfl rfl rfl (Nat.le_of_ble_eq_true rfl) (Nat.le_of_ble_eq_true rfl) ?_
      refine wm_doTie hI ht hs hu (fun c => ?_) (fun c => ?_)
      · refine xr_k ?_
        refine xr_pop xi_160_135 ?_
        refine xr_goto xi_160_136 ?_
        refine xr_ret xi_160_173 ?_
        exact h _
      · refine xr_k ?_
        refine xr_pop xi_160_135 ?_
        refine xr_goto xi_160_136 ?_
        refine xr_ret xi_160_173 ?_
        exact h _
    · rw [pTie_1 hx] at ha0
      exact absurd ha0 n1
  · have e : sDo G 117 nu = pLoosen G (nI (nu 0)) (nI (nu 1)) := sDo_117
    rw [e] at h ha0
    by_cases hx : ∃ t s, sLive G t ∧ s < 3 ∧ nI (nu 0) = nI t ∧ nI (nu 1) = nI s
    · obtain ⟨t, s, ht, hs, e1, e2⟩ := hx
      rw [e1, e2] at h ha0
      by_cases h0 : G (ri t (2 + s)) = 0
      · rw [pLoosen_2 hI ht hs h0] at ha0
        exact absurd ha0 n2
      · rw [pLoosen_0 hI ht hs (by omega)] at h
        refine xr_aload_n xi_160_0 rfl ?_
        refine xr_getf xi_160_1 rfl rfl ?_
        refine xr_iconst (z := nI 0) xi_160_4 rfl ?_
        refine xr_ialz xi_160_5 rfl (by first | exact tI_n (by first | omega | (simp only [ri]; omega)) | exact tI_dn (by omega) (by omega) | assumption) (by first | omega | (simp only [ri]; omega)) (by first | exact mj_lo (by first | omega | (simp only [ri]; omega)) | exact mF_at _ _ | exact rfl) ?_
        refine xr_istore_n xi_160_6 (Nat.le_of_ble_eq_true rfl) rfl ?_
        refine xr_aload_n xi_160_7 rfl ?_
        refine xr_getf xi_160_8 rfl rfl ?_
        refine xr_iconst (z := nI 1) xi_160_11 rfl ?_
        refine xr_ialz xi_160_12 rfl (by first | exact tI_n (by first | omega | (simp only [ri]; omega)) | exact tI_dn (by omega) (by omega) | assumption) (by first | omega | (simp only [ri]; omega)) (by first | exact mj_lo (by first | omega | (simp only [ri]; omega)) | exact mF_at _ _ | exact rfl) ?_
        refine xr_istore_n xi_160_13 (Nat.le_of_ble_eq_true rfl) rfl ?_
        refine xr_aload_n xi_160_14 rfl ?_
        refine xr_getf xi_160_15 rfl rfl ?_
        refine xr_tsw xi_160_18 (by first | exact tI_n (by omega) | exact tI_d (by omega) | assumption | exact tI_e1 | exact tI_e2 | exact tI_e3 | exact tI_e4) (t := 139) (by decide) ?_
        refine xr_aload_n xi_160_139 rfl ?_
        refine xr_iload_n xi_160_140 rfl ?_
        refine xr_iload_n xi_160_141 rfl ?_
        rw [e1, e2]
        refine xr_virt xi_160_142 rfl rfl rfl rfl (Nat.le_of_ble_eq_true rfl) (Nat.le_of_ble_eq_true rfl) ?_
        refine wm_doLoosen (hI.lt ht) hs ?_
        refine xr_k ?_
        refine xr_pop xi_160_145 ?_
        refine xr_goto xi_160_146 ?_
        refine xr_ret xi_160_173 ?_
        exact h _
    · rw [pLoosen_1 hx] at ha0
      exact absurd ha0 n1
  · have e : sDo G 112 nu = pPin G (nI (nu 0)) 1 := sDo_112
    rw [e] at h ha0
    by_cases hx : ∃ t, sLive G t ∧ nI (nu 0) = nI t
    · obtain ⟨t, ht, e1⟩ := hx
      rw [e1] at h ha0
      by_cases h0 : G (ri t 1) = 1
      · rw [pPin_2 hI ht h0] at ha0
        exact absurd ha0 n2
      · rw [pPin_0 hI ht h0] at h
        refine xr_aload_n xi_160_0 rfl ?_
        refine xr_getf xi_160_1 rfl rfl ?_
        refine xr_iconst (z := nI 0) xi_160_4 rfl ?_
        refine xr_ialz xi_160_5 rfl (by first | exact tI_n (by first | omega | (simp only [ri]; omega)) | exact tI_dn (by omega) (by omega) | assumption) (by first | omega | (simp only [ri]; omega)) (by first | exact mj_lo (by first | omega | (simp only [ri]; omega)) | exact mF_at _ _ | exact rfl) ?_
        refine xr_istore_n xi_160_6 (Nat.le_of_ble_eq_true rfl) rfl ?_
        refine xr_aload_n xi_160_7 rfl ?_
        refine xr_getf xi_160_8 rfl rfl ?_
        refine xr_iconst (z := nI 1) xi_160_11 rfl ?_
        refine xr_ialz xi_160_12 rfl (by first | exact tI_n (by first | omega | (simp only [ri]; omega)) | exact tI_dn (by omega) (by omega) | assumption) (by first | omega | (simp only [ri]; omega)) (by first | exact mj_lo (by first | omega | (simp only [ri]; omega)) | exact mF_at _ _ | exact rfl) ?_
        refine xr_istore_n xi_160_13 (Nat.le_of_ble_eq_true rfl) rfl ?_
        refine xr_aload_n xi_160_14 rfl ?_
        refine xr_getf xi_160_15 rfl rfl ?_
        refine xr_tsw xi_160_18 (by first | exact tI_n (by omega) | exact tI_d (by omega) | assumption | exact tI_e1 | exact tI_e2 | exact tI_e3 | exact tI_e4) (t := 149) (by decide) ?_
        refine xr_aload_n xi_160_149 rfl ?_
        refine xr_iload_n xi_160_150 rfl ?_
        refine xr_iconst (z := nI 1) xi_160_151 rfl ?_
        rw [e1]
        refine xr_virt xi_160_152 rfl rfl rfl rfl (Nat.le_of_ble_eq_true rfl) (Nat.le_of_ble_eq_true rfl) ?_
        refine wm_doPin hI ht (by omega) ?_
        refine xr_k ?_
        refine xr_pop xi_160_155 ?_
        refine xr_goto xi_160_156 ?_
        refine xr_ret xi_160_173 ?_
        exact h _
    · rw [pPin_1 (fun a ha e1 => hx ⟨a, ha, e1⟩)] at ha0
      exact absurd ha0 n1
  · have e : sDo G 119 nu = pWinter G (nI (nu 0)) := sDo_119
    rw [e] at h ha0
    by_cases hx : ∃ a, a < 2 ∧ nI (nu 0) = nI a
    · obtain ⟨a, ha, e1⟩ := hx
      rw [e1] at h ha0
      cases hw2 : sWin G a with
      | none => rw [pWinter_2 ha hw2] at ha0; exact absurd ha0 n2
      | some G' =>
        rw [pWinter_0 ha hw2] at h
        refine xr_aload_n xi_160_0 rfl ?_
        refine xr_getf xi_160_1 rfl rfl ?_
        refine xr_iconst (z := nI 0) xi_160_4 rfl ?_
        refine xr_ialz xi_160_5 rfl (by first | exact tI_n (by first | omega | (simp only [ri]; omega)) | exact tI_dn (by omega) (by omega) | assumption) (by first | omega | (simp only [ri]; omega)) (by first | exact mj_lo (by first | omega | (simp only [ri]; omega)) | exact mF_at _ _ | exact rfl) ?_
        refine xr_istore_n xi_160_6 (Nat.le_of_ble_eq_true rfl) rfl ?_
        refine xr_aload_n xi_160_7 rfl ?_
        refine xr_getf xi_160_8 rfl rfl ?_
        refine xr_iconst (z := nI 1) xi_160_11 rfl ?_
        refine xr_ialz xi_160_12 rfl (by first | exact tI_n (by first | omega | (simp only [ri]; omega)) | exact tI_dn (by omega) (by omega) | assumption) (by first | omega | (simp only [ri]; omega)) (by first | exact mj_lo (by first | omega | (simp only [ri]; omega)) | exact mF_at _ _ | exact rfl) ?_
        refine xr_istore_n xi_160_13 (Nat.le_of_ble_eq_true rfl) rfl ?_
        refine xr_aload_n xi_160_14 rfl ?_
        refine xr_getf xi_160_15 rfl rfl ?_
        refine xr_tsw xi_160_18 (by first | exact tI_n (by omega) | exact tI_d (by omega) | assumption | exact tI_e1 | exact tI_e2 | exact tI_e3 | exact tI_e4) (t := 159) (by decide) ?_
        refine xr_aload_n xi_160_159 rfl ?_
        refine xr_iload_n xi_160_160 rfl ?_
        rw [e1]
        refine xr_virt xi_160_161 rfl rfl rfl rfl (Nat.le_of_ble_eq_true rfl) (Nat.le_of_ble_eq_true rfl) ?_
        refine wm_comes ha hI (fun G'' hg _ => ?_) (fun hg => ?_)
        · rw [hw2] at hg
          cases hg
          refine xr_k ?_
          refine xr_pop xi_160_164 ?_
          refine xr_goto xi_160_165 ?_
          refine xr_ret xi_160_173 ?_
          exact h _
        · rw [hw2] at hg
          cases hg
    · rw [pWinter_1 (fun a ha e1 => hx ⟨a, ha, e1⟩)] at ha0
      exact absurd ha0 n1
  · have e : sDo G 102 nu = pFull G := sDo_102
    rw [e] at h ha0
    refine xr_aload_n xi_160_0 rfl ?_
    refine xr_getf xi_160_1 rfl rfl ?_
    refine xr_iconst (z := nI 0) xi_160_4 rfl ?_
    refine xr_ialz xi_160_5 rfl (by first | exact tI_n (by first | omega | (simp only [ri]; omega)) | exact tI_dn (by omega) (by omega) | assumption) (by first | omega | (simp only [ri]; omega)) (by first | exact mj_lo (by first | omega | (simp only [ri]; omega)) | exact mF_at _ _ | exact rfl) ?_
    refine xr_istore_n xi_160_6 (Nat.le_of_ble_eq_true rfl) rfl ?_
    refine xr_aload_n xi_160_7 rfl ?_
    refine xr_getf xi_160_8 rfl rfl ?_
    refine xr_iconst (z := nI 1) xi_160_11 rfl ?_
    refine xr_ialz xi_160_12 rfl (by first | exact tI_n (by first | omega | (simp only [ri]; omega)) | exact tI_dn (by omega) (by omega) | assumption) (by first | omega | (simp only [ri]; omega)) (by first | exact mj_lo (by first | omega | (simp only [ri]; omega)) | exact mF_at _ _ | exact rfl) ?_
    refine xr_istore_n xi_160_13 (Nat.le_of_ble_eq_true rfl) rfl ?_
    refine xr_aload_n xi_160_14 rfl ?_
    refine xr_getf xi_160_15 rfl rfl ?_
    refine xr_tsw xi_160_18 (by first | exact tI_n (by omega) | exact tI_d (by omega) | assumption | exact tI_e1 | exact tI_e2 | exact tI_e3 | exact tI_e4) (t := 168) (by decide) ?_
    refine xr_aload_n xi_160_168 rfl ?_
    refine xr_virt xi_160_169 rfl rfl rfl rfl (Nat.le_of_ble_eq_true rfl) (Nat.le_of_ble_eq_true rfl) ?_
    refine wm_doFull hI ?_
    refine xr_k ?_
    refine xr_pop xi_160_172 ?_
    refine xr_ret xi_160_173 ?_
    exact h _
end M8
