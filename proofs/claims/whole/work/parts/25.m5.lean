section M5
variable {L : Nat} {xs : Nat → Int32} {Q : Option Value → xm_H → Prop} {st ln po le fa re od : Nat} {tx ag nu be Z G : Nat → Nat}
theorem jn_back {G G' Z' : Nat → Nat} {b : Nat} (h1 : ∀ i, i < 196 → Z' (b + i) = G i) (h2 : ∀ i, 196 ≤ i → G' i = G i) : (fun i => if i < 196 then Z' (b + i) else G' i) = G := by
  funext i
  split
  · next h => exact h1 i h
  · next h => exact h2 i (by omega)
theorem wm_canCome {a : Nat} (ha : a < 2) (hI : sInv G) (h1 : ∀ Z', (∀ i, i < 980 → Z' i = Z i) → sWin G a ≠ none → Q (some (.int (nI 1))) (mJ st tx ln (agC G ag 8) po le nu fa re od be Z' G)) (h2 : ∀ Z', (∀ i, i < 980 → Z' i = Z i) → sWin G a = none → Q (some (.int (nI 0))) (mJ st tx ln (agC G ag 8) po le nu fa re od be Z' G)) : xc L xs 131 [.ref 0, .int (nI a)] (mJ st tx ln ag po le nu fa re od be Z G) Q := by
  refine xr_aload_n xi_131_0 rfl ?_
  refine xr_iconst (z := nI 0) xi_131_1 rfl ?_
  refine xr_sipush (z := nI 980) xi_131_2 rfl ?_
  refine xr_virt xi_131_5 rfl rfl rfl rfl (Nat.le_of_ble_eq_true rfl) (Nat.le_of_ble_eq_true rfl) ?_
  refine wm_copyOut (by omega) (by omega) (fun Z' hz1 hz2 => ?_)
  refine xr_kv ?_
  refine xr_aload_n xi_131_8 rfl ?_
  refine xr_iload_n xi_131_9 rfl ?_
  refine xr_virt xi_131_10 rfl rfl rfl rfl (Nat.le_of_ble_eq_true rfl) (Nat.le_of_ble_eq_true rfl) ?_
  refine wm_comes ha hI (fun G' hg hh => ?_) (fun hg G' hh => ?_)
  · refine xr_k ?_
    refine xr_istore_n xi_131_13 (Nat.le_of_ble_eq_true rfl) rfl ?_
    refine xr_aload_n xi_131_14 rfl ?_
    refine xr_sipush (z := nI 980) xi_131_15 rfl ?_
    refine xr_iconst (z := nI 0) xi_131_18 rfl ?_
    refine xr_virt xi_131_19 rfl rfl rfl rfl (Nat.le_of_ble_eq_true rfl) (Nat.le_of_ble_eq_true rfl) ?_
    refine wm_copyIn (by omega) (by omega) ?_
    refine xr_kv ?_
    refine xr_iload_n xi_131_22 rfl ?_
    refine xr_iret xi_131_23 (fun _ => (by first | exact Or.inl rfl | exact Or.inr rfl | assumption)) ?_
    rw [jn_back hz1 hh]
    exact h1 Z' (fun i hi => hz2 i (by omega)) (by rw [hg]; exact fun q => by cases q)
  · refine xr_k ?_
    refine xr_istore_n xi_131_13 (Nat.le_of_ble_eq_true rfl) rfl ?_
    refine xr_aload_n xi_131_14 rfl ?_
    refine xr_sipush (z := nI 980) xi_131_15 rfl ?_
    refine xr_iconst (z := nI 0) xi_131_18 rfl ?_
    refine xr_virt xi_131_19 rfl rfl rfl rfl (Nat.le_of_ble_eq_true rfl) (Nat.le_of_ble_eq_true rfl) ?_
    refine wm_copyIn (by omega) (by omega) ?_
    refine xr_kv ?_
    refine xr_iload_n xi_131_22 rfl ?_
    refine xr_iret xi_131_23 (fun _ => (by first | exact Or.inl rfl | exact Or.inr rfl | assumption)) ?_
    rw [jn_back hz1 hh]
    exact h2 Z' (fun i hi => hz2 i (by omega)) hg
theorem wm_noWinter {x : Int32} (hI : sInv G) (h1 : ∀ a Z' ag', a < 2 → x = nI a → (∀ i, i < 980 → Z' i = Z i) → sWin G a ≠ none → Q (some (.int (nI 0))) (mJ st tx ln ag' po le nu fa re od be Z' G)) (h2 : ∀ a Z' ag', a < 2 → x = nI a → (∀ i, i < 980 → Z' i = Z i) → sWin G a = none → Q (some (.int xE2)) (mJ st tx ln ag' po le nu fa re od be Z' G)) (h3 : (∀ a, a < 2 → x ≠ nI a) → Q (some (.int xE1)) (mJ st tx ln ag po le nu fa re od be Z G)) : xc L xs 133 [.ref 0, .int x] (mJ st tx ln ag po le nu fa re od be Z G) Q := by
  refine xr_iload_n xi_133_0 rfl ?_
  refine xr_stat xi_133_1 (by decide) rfl rfl (Nat.le_of_ble_eq_true rfl) (Nat.le_of_ble_eq_true rfl) ?_
  refine wm_isYoung (fun a ha e => ?_) (fun hn => ?_)
  · subst e
    refine xr_k ?_
    refine xr_if_ne xi_133_4 (by first | exact tI_n (by omega) | exact tI_d (by omega) | assumption | exact tI_e1 | exact tI_e2 | exact tI_e3 | exact tI_e4) (fun c_ => ?_) (fun c_ => by exfalso; omega)
    refine xr_aload_n xi_133_12 rfl ?_
    refine xr_iload_n xi_133_13 rfl ?_
    refine xr_virt xi_133_14 rfl rfl rfl rfl (Nat.le_of_ble_eq_true rfl) (Nat.le_of_ble_eq_true rfl) ?_
    refine wm_canCome ha hI (fun Z' hz hw => ?_) (fun Z' hz hw => ?_)
    · refine xr_k ?_
      refine xr_if_eq xi_133_17 (by first | exact tI_n (by omega) | exact tI_d (by omega) | assumption | exact tI_e1 | exact tI_e2 | exact tI_e3 | exact tI_e4) (fun c_ => by exfalso; omega) (fun c_ => ?_)
      refine xr_iconst (z := nI 0) xi_133_20 rfl ?_
      refine xr_goto xi_133_21 ?_
      refine xr_iret xi_133_26 (fun h => absurd h (by decide)) ?_
      exact h1 a Z' _ ha rfl hz hw
    · refine xr_k ?_
      refine xr_if_eq xi_133_17 (by first | exact tI_n (by omega) | exact tI_d (by omega) | assumption | exact tI_e1 | exact tI_e2 | exact tI_e3 | exact tI_e4) (fun c_ => ?_) (fun c_ => by exfalso; omega)
      refine xr_ldc (z := xE2) xi_133_24 rfl ?_
      refine xr_iret xi_133_26 (fun h => absurd h (by decide)) ?_
      exact h2 a Z' _ ha rfl hz hw
  · refine xr_k ?_
    refine xr_if_ne xi_133_4 (by first | exact tI_n (by omega) | exact tI_d (by omega) | assumption | exact tI_e1 | exact tI_e2 | exact tI_e3 | exact tI_e4) (fun c_ => by exfalso; omega) (fun c_ => ?_)
    refine xr_ldc (z := xE1) xi_133_7 rfl ?_
    refine xr_goto xi_133_9 ?_
    refine xr_iret xi_133_26 (fun h => absurd h (by decide)) ?_
    exact h3 hn
theorem wm_noThing (hI : sInv G) (h1 : ∀ Z', (∀ i, i < 980 → Z' i = Z i) → sRoom G 1 = none → Q (some (.int xE2)) (mJ st tx ln ag po le nu fa re od be Z' G)) (h2 : ∀ Z', (∀ i, i < 980 → Z' i = Z i) → sRoom G 1 ≠ none → G 0 = 30 → Q (some (.int xE3)) (mJ st tx ln ag po le nu fa re od be Z' G)) (h3 : ∀ Z', (∀ i, i < 980 → Z' i = Z i) → sRoom G 1 ≠ none → G 0 < 30 → Q (some (.int (nI 0))) (mJ st tx ln ag po le nu fa re od be Z' G)) : xc L xs 102 [.ref 0] (mJ st tx ln ag po le nu fa re od be Z G) Q := by
  have hc := hI.c
  refine xr_aload_n xi_102_0 rfl ?_
  refine xr_iconst (z := nI 0) xi_102_1 rfl ?_
  refine xr_sipush (z := nI 980) xi_102_2 rfl ?_
  refine xr_virt xi_102_5 rfl rfl rfl rfl (Nat.le_of_ble_eq_true rfl) (Nat.le_of_ble_eq_true rfl) ?_
  refine wm_copyOut (by omega) (by omega) (fun Z' hz1 hz2 => ?_)
  refine xr_kv ?_
  refine xr_aload_n xi_102_8 rfl ?_
  refine xr_iconst (z := nI 0) xi_102_9 rfl ?_
  refine xr_virt xi_102_10 rfl rfl rfl rfl (Nat.le_of_ble_eq_true rfl) (Nat.le_of_ble_eq_true rfl) ?_
  refine wm_room (b := 0) hc (fun t ht => hI.l ht) (fun h hh => hI.a hh) (by omega) (fun p G' hr hp => ?_) (fun hr => ?_)
  · refine xr_k ?_
    refine xr_ldc (z := xE4) xi_102_13 rfl ?_
    refine xr_ic_eq xi_102_15 (by first | exact tI_n (by omega) | exact tI_d (by omega) | assumption | exact tI_e1 | exact tI_e2 | exact tI_e3 | exact tI_e4) (by first | exact tI_n (by omega) | exact tI_d (by omega) | assumption | exact tI_e1 | exact tI_e2 | exact tI_e3 | exact tI_e4) (fun c_ => by exfalso; omega) (fun c_ => ?_)
    refine xr_iconst (z := nI 1) xi_102_18 rfl ?_
    refine xr_goto xi_102_19 ?_
    refine xr_istore_n xi_102_23 (Nat.le_of_ble_eq_true rfl) rfl ?_
    refine xr_aload_n xi_102_24 rfl ?_
    refine xr_sipush (z := nI 980) xi_102_25 rfl ?_
    refine xr_iconst (z := nI 0) xi_102_28 rfl ?_
    refine xr_virt xi_102_29 rfl rfl rfl rfl (Nat.le_of_ble_eq_true rfl) (Nat.le_of_ble_eq_true rfl) ?_
    refine wm_copyIn (by omega) (by omega) ?_
    refine xr_kv ?_
    rw [jn_back hz1 (fun i hi => sRoom_hi hr (by omega))]
    refine xr_iload_n xi_102_32 rfl ?_
    refine xr_if_ne xi_102_33 (by first | exact tI_n (by omega) | exact tI_d (by omega) | assumption | exact tI_e1 | exact tI_e2 | exact tI_e3 | exact tI_e4) (fun c_ => ?_) (fun c_ => by exfalso; omega)
    refine xr_aload_n xi_102_41 rfl ?_
    refine xr_getf xi_102_42 rfl rfl ?_
    refine xr_iconst (z := nI 0) xi_102_45 rfl ?_
    refine xr_ialz xi_102_46 rfl (by first | exact tI_n (by first | omega | (simp only [ri]; omega)) | exact tI_dn (by omega) (by omega) | assumption) (by first | omega | (simp only [ri]; omega)) (by first | exact mj_lo (by first | omega | (simp only [ri]; omega)) | exact mF_at _ _ | exact rfl) ?_
    refine xr_bipush (z := nI 30) xi_102_47 rfl ?_
    refine xr_ic_ne xi_102_49 (by first | exact tI_n (by omega) | exact tI_d (by omega) | assumption | exact tI_e1 | exact tI_e2 | exact tI_e3 | exact tI_e4) (by first | exact tI_n (by omega) | exact tI_d (by omega) | assumption | exact tI_e1 | exact tI_e2 | exact tI_e3 | exact tI_e4) (fun c_49 => ?_) (fun c_49 => ?_)
    · refine xr_iconst (z := nI 0) xi_102_57 rfl ?_
      refine xr_iret xi_102_58 (fun h => absurd h (by decide)) ?_
      exact h3 Z' (fun i hi => hz2 i (by omega)) (by rw [hr]; exact fun q => by cases q) (by omega)
    · refine xr_ldc (z := xE3) xi_102_52 rfl ?_
      refine xr_goto xi_102_54 ?_
      refine xr_iret xi_102_58 (fun h => absurd h (by decide)) ?_
      exact h2 Z' (fun i hi => hz2 i (by omega)) (by rw [hr]; exact fun q => by cases q) (by omega)
  · refine xr_k ?_
    refine xr_ldc (z := xE4) xi_102_13 rfl ?_
    refine xr_ic_eq xi_102_15 (by first | exact tI_n (by omega) | exact tI_d (by omega) | assumption | exact tI_e1 | exact tI_e2 | exact tI_e3 | exact tI_e4) (by first | exact tI_n (by omega) | exact tI_d (by omega) | assumption | exact tI_e1 | exact tI_e2 | exact tI_e3 | exact tI_e4) (fun c_ => ?_) (fun c_ => by exfalso; omega)
    refine xr_iconst (z := nI 0) xi_102_22 rfl ?_
    refine xr_istore_n xi_102_23 (Nat.le_of_ble_eq_true rfl) rfl ?_
    refine xr_aload_n xi_102_24 rfl ?_
    refine xr_sipush (z := nI 980) xi_102_25 rfl ?_
    refine xr_iconst (z := nI 0) xi_102_28 rfl ?_
    refine xr_virt xi_102_29 rfl rfl rfl rfl (Nat.le_of_ble_eq_true rfl) (Nat.le_of_ble_eq_true rfl) ?_
    refine wm_copyIn (by omega) (by omega) ?_
    refine xr_kv ?_
    rw [jn_back hz1 (fun i hi => rfl)]
    refine xr_iload_n xi_102_32 rfl ?_
    refine xr_if_ne xi_102_33 (by first | exact tI_n (by omega) | exact tI_d (by omega) | assumption | exact tI_e1 | exact tI_e2 | exact tI_e3 | exact tI_e4) (fun c_ => by exfalso; omega) (fun c_ => ?_)
    refine xr_ldc (z := xE2) xi_102_36 rfl ?_
    refine xr_goto xi_102_38 ?_
    refine xr_iret xi_102_58 (fun h => absurd h (by decide)) ?_
    exact h1 Z' (fun i hi => hz2 i (by omega)) hr
theorem wm_doThing {p : Nat} {G1 : Nat → Nat} (hI : sInv G) (hc : G 0 < 30) (hr : sRoom G 1 = some (p, G1)) (hQ : Q (some (.int (nI (G 0)))) (mJ st tx ln ag po le nu fa re od be Z (sNew G G1 p))) : xc L xs 103 [.ref 0] (mJ st tx ln ag po le nu fa re od be Z G) Q := by
  have hi2 : ∀ i, 12 ≤ i ∨ i < 4 → G1 i = G i := fun i hi => sRoom_hi hr hi
  have key : ∀ d i, i + d = 6 → xw L xs 103 15 [.ref 0, .int (nI (G 0)), .int (nI p), .int (nI i)] [] (mJ st tx ln ag po le nu fa re od be Z G1) Q := by
    intro d
    induction d with
    | zero =>
      intro i hi
      refine xr_iload_n xi_103_15 rfl ?_
      refine xr_bipush (z := nI 6) xi_103_16 rfl ?_
      refine xr_ic_ge xi_103_18 (by first | exact tI_n (by omega) | exact tI_d (by omega) | assumption | exact tI_e1 | exact tI_e2 | exact tI_e3 | exact tI_e4) (by first | exact tI_n (by omega) | exact tI_d (by omega) | assumption | exact tI_e1 | exact tI_e2 | exact tI_e3 | exact tI_e4) (fun c_ => ?_) (fun c_ => by exfalso; omega)
      refine xr_aload_n xi_103_38 rfl ?_
      refine xr_getf xi_103_39 rfl rfl ?_
      refine xr_iload_n xi_103_42 rfl ?_
      refine xr_iconst (z := nI 0) xi_103_43 rfl ?_
      refine xr_stat xi_103_44 (by decide) rfl rfl (Nat.le_of_ble_eq_true rfl) (Nat.le_of_ble_eq_true rfl) ?_
      refine wm_of ?_
      refine xr_k ?_
      refine xr_iload_n xi_103_47 rfl ?_
      refine xr_iconst (z := nI 1) xi_103_48 rfl ?_
      refine xr_iadd xi_103_49 (by first | exact nI_add _ _ | exact rfl) ?_
      refine xr_iast xi_103_50 rfl (by first | exact tI_n (by first | omega | (simp only [ri]; omega)) | exact tI_dn (by omega) (by omega) | assumption) (by first | omega | (simp only [ri]; omega)) (mH_row _ (by simp only [ri]; omega)) ?_
      refine xr_aload_n xi_103_51 rfl ?_
      refine xr_getf xi_103_52 rfl rfl ?_
      refine xr_iconst (z := nI 0) xi_103_55 rfl ?_
      refine xr_dup2 xi_103_56 ?_
      refine xr_ialz xi_103_57 rfl (by first | exact tI_n (by first | omega | (simp only [ri]; omega)) | exact tI_dn (by omega) (by omega) | assumption) (by first | omega | (simp only [ri]; omega)) (by first | exact mj_lo (by first | omega | (simp only [ri]; omega)) | exact mF_at _ _ | exact rfl) ?_
      refine xr_iconst (z := nI 1) xi_103_58 rfl ?_
      refine xr_iadd xi_103_59 (by first | exact nI_add _ _ | exact rfl) ?_
      refine xr_iast xi_103_60 rfl (by first | exact tI_n (by first | omega | (simp only [ri]; omega)) | exact tI_dn (by omega) (by omega) | assumption) (by first | omega | (simp only [ri]; omega)) (mH_row _ (by omega)) ?_
      refine xr_iload_n xi_103_61 rfl ?_
      refine xr_iret xi_103_62 (fun h => absurd h (by decide)) ?_
      have e0 : un G1 (ri (G 0) 0) (p + 1) 0 = G 0 := by rw [un_n (by unfold ri; omega), hi2 0 (by omega)]
      rw [e0]
      exact hQ
    | succ d ih =>
      intro i hi
      have e0 : G1 (ri (G 0) i) = 0 := by rw [hi2 _ (by unfold ri; omega)]; exact hI.z hc (by omega) (Nat.le_refl _)
      refine xr_iload_n xi_103_15 rfl ?_
      refine xr_bipush (z := nI 6) xi_103_16 rfl ?_
      refine xr_ic_ge xi_103_18 (by first | exact tI_n (by omega) | exact tI_d (by omega) | assumption | exact tI_e1 | exact tI_e2 | exact tI_e3 | exact tI_e4) (by first | exact tI_n (by omega) | exact tI_d (by omega) | assumption | exact tI_e1 | exact tI_e2 | exact tI_e3 | exact tI_e4) (fun c_ => by exfalso; omega) (fun c_ => ?_)
      refine xr_aload_n xi_103_21 rfl ?_
      refine xr_getf xi_103_22 rfl rfl ?_
      refine xr_iload_n xi_103_25 rfl ?_
      refine xr_iload_n xi_103_26 rfl ?_
      refine xr_stat xi_103_27 (by decide) rfl rfl (Nat.le_of_ble_eq_true rfl) (Nat.le_of_ble_eq_true rfl) ?_
      refine wm_of ?_
      refine xr_k ?_
      refine xr_iconst (z := nI 0) xi_103_30 rfl ?_
      refine xr_iast xi_103_31 rfl (by first | exact tI_n (by first | omega | (simp only [ri]; omega)) | exact tI_dn (by omega) (by omega) | assumption) (by first | omega | (simp only [ri]; omega)) ((mH_row _ (by simp only [ri]; omega)).trans (congrArg (fun G => mJ st tx ln ag po le nu fa re od be Z G) (un_id e0))) ?_
      refine xr_iinc xi_103_32 rfl (by first | exact nI_1 _ | exact rfl) rfl ?_
      refine xr_goto xi_103_35 ?_
      exact ih (i + 1) (by omega)
  refine xr_aload_n xi_103_0 rfl ?_
  refine xr_getf xi_103_1 rfl rfl ?_
  refine xr_iconst (z := nI 0) xi_103_4 rfl ?_
  refine xr_ialz xi_103_5 rfl (by first | exact tI_n (by first | omega | (simp only [ri]; omega)) | exact tI_dn (by omega) (by omega) | assumption) (by first | omega | (simp only [ri]; omega)) (by first | exact mj_lo (by first | omega | (simp only [ri]; omega)) | exact mF_at _ _ | exact rfl) ?_
  refine xr_istore_n xi_103_6 (Nat.le_of_ble_eq_true rfl) rfl ?_
  refine xr_aload_n xi_103_7 rfl ?_
  refine xr_iconst (z := nI 0) xi_103_8 rfl ?_
  refine xr_virt xi_103_9 rfl rfl rfl rfl (Nat.le_of_ble_eq_true rfl) (Nat.le_of_ble_eq_true rfl) ?_
  refine wm_room (b := 0) (by omega) (fun t ht => hI.l ht) (fun h hh => hI.a hh) (by omega) (fun p' G' hr' hp => ?_) (fun hr' => ?_)
  · rw [hr] at hr'
    cases hr'
    refine xr_k ?_
    refine xr_istore_n xi_103_12 (Nat.le_of_ble_eq_true rfl) rfl ?_
    refine xr_iconst (z := nI 0) xi_103_13 rfl ?_
    refine xr_istore_n xi_103_14 (Nat.le_of_ble_eq_true rfl) rfl ?_
    exact key 6 0 (by omega)
  · rw [hr] at hr'
    cases hr'
theorem wm_noHold {x z : Int32} (hI : sInv G) (h1 : ∀ h t, h < 4 → sLive G t → x = nI h → z = nI t → Q (some (.int (nI 0))) (mJ st tx ln ag po le nu fa re od be Z G)) (h2 : (¬ ∃ h t, h < 4 ∧ sLive G t ∧ x = nI h ∧ z = nI t) → Q (some (.int xE1)) (mJ st tx ln ag po le nu fa re od be Z G)) : xc L xs 105 [.ref 0, .int x, .int z] (mJ st tx ln ag po le nu fa re od be Z G) Q := by
  refine xr_iload_n xi_105_0 rfl ?_
  refine xr_stat xi_105_1 (by decide) rfl rfl (Nat.le_of_ble_eq_true rfl) (Nat.le_of_ble_eq_true rfl) ?_
  refine wm_isHand (fun h hh e => ?_) (fun hn => ?_)
  · refine xr_k ?_
    refine xr_if_eq xi_105_4 (by first | exact tI_n (by omega) | exact tI_d (by omega) | assumption | exact tI_e1 | exact tI_e2 | exact tI_e3 | exact tI_e4) (fun c_ => by exfalso; omega) (fun c_ => ?_)
    refine xr_aload_n xi_105_7 rfl ?_
    refine xr_iload_n xi_105_8 rfl ?_
    refine xr_virt xi_105_9 rfl rfl rfl rfl (Nat.le_of_ble_eq_true rfl) (Nat.le_of_ble_eq_true rfl) ?_
    refine wm_isThing hI (fun t ht e2 => ?_) (fun hn => ?_)
    · refine xr_k ?_
      refine xr_if_eq xi_105_12 (by first | exact tI_n (by omega) | exact tI_d (by omega) | assumption | exact tI_e1 | exact tI_e2 | exact tI_e3 | exact tI_e4) (fun c_ => by exfalso; omega) (fun c_ => ?_)
      refine xr_iconst (z := nI 0) xi_105_15 rfl ?_
      refine xr_goto xi_105_16 ?_
      refine xr_iret xi_105_21 (fun h => absurd h (by decide)) ?_
      exact h1 h t hh ht e e2
    · refine xr_k ?_
      refine xr_if_eq xi_105_12 (by first | exact tI_n (by omega) | exact tI_d (by omega) | assumption | exact tI_e1 | exact tI_e2 | exact tI_e3 | exact tI_e4) (fun c_ => ?_) (fun c_ => by exfalso; omega)
      refine xr_ldc (z := xE1) xi_105_19 rfl ?_
      refine xr_iret xi_105_21 (fun h => absurd h (by decide)) ?_
      exact h2 (fun ⟨h, t, _, q2, _, q4⟩ => hn t q2 q4)
  · refine xr_k ?_
    refine xr_if_eq xi_105_4 (by first | exact tI_n (by omega) | exact tI_d (by omega) | assumption | exact tI_e1 | exact tI_e2 | exact tI_e3 | exact tI_e4) (fun c_ => ?_) (fun c_ => by exfalso; omega)
    refine xr_ldc (z := xE1) xi_105_19 rfl ?_
    refine xr_iret xi_105_21 (fun h => absurd h (by decide)) ?_
    exact h2 (fun ⟨h, t, q1, _, q3, _⟩ => hn h q1 q3)
theorem wm_doHold {h t : Nat} (hh : h < 4) (ht : t < 30) (hI : sInv G) (hQ : Q (some (.int (nI (cnt (fun k => 0 < un G (12 + h) (t + 1) (12 + k)) 4)))) (mJ st tx ln ag po le nu fa re od be Z (un G (12 + h) (t + 1)))) : xc L xs 106 [.ref 0, .int (nI h), .int (nI t)] (mJ st tx ln ag po le nu fa re od be Z G) Q := by
  have key : ∀ d i, i + d = 4 → xw L xs 106 17 [.ref 0, .int (nI h), .int (nI t), .int (nI (cnt (fun k => 0 < un G (12 + h) (t + 1) (12 + k)) i)), .int (nI i)] [] (mJ st tx ln ag po le nu fa re od be Z (un G (12 + h) (t + 1))) Q := by
    intro d
    induction d with
    | zero =>
      intro i hi
      have e : i = 4 := by omega
      subst e
      refine xr_iload xi_106_17 rfl ?_
      refine xr_iconst (z := nI 4) xi_106_19 rfl ?_
      refine xr_ic_ge xi_106_20 (by first | exact tI_n (by omega) | exact tI_d (by omega) | assumption | exact tI_e1 | exact tI_e2 | exact tI_e3 | exact tI_e4) (by first | exact tI_n (by omega) | exact tI_d (by omega) | assumption | exact tI_e1 | exact tI_e2 | exact tI_e3 | exact tI_e4) (fun c_ => ?_) (fun c_ => by exfalso; omega)
      refine xr_iload_n xi_106_50 rfl ?_
      refine xr_iret xi_106_51 (fun h => absurd h (by decide)) ?_
      exact hQ
    | succ d ih =>
      intro i hi
      have hz : un G (12 + h) (t + 1) (12 + i) ≤ 30 := by
        unfold un
        split
        · omega
        · exact (hI.h (by omega)).1
      refine xr_iload xi_106_17 rfl ?_
      refine xr_iconst (z := nI 4) xi_106_19 rfl ?_
      refine xr_ic_ge xi_106_20 (by first | exact tI_n (by omega) | exact tI_d (by omega) | assumption | exact tI_e1 | exact tI_e2 | exact tI_e3 | exact tI_e4) (by first | exact tI_n (by omega) | exact tI_d (by omega) | assumption | exact tI_e1 | exact tI_e2 | exact tI_e3 | exact tI_e4) (fun c_ => by exfalso; omega) (fun c_ => ?_)
      refine xr_iload_n xi_106_23 rfl ?_
      refine xr_aload_n xi_106_24 rfl ?_
      refine xr_getf xi_106_25 rfl rfl ?_
      refine xr_bipush (z := nI 12) xi_106_28 rfl ?_
      refine xr_iload xi_106_30 rfl ?_
      refine xr_iadd xi_106_32 (by first | exact nI_add _ _ | exact rfl) ?_
      refine xr_ialz xi_106_33 rfl (by first | exact tI_n (by first | omega | (simp only [ri]; omega)) | exact tI_dn (by omega) (by omega) | assumption) (by first | omega | (simp only [ri]; omega)) (by first | exact mj_lo (by first | omega | (simp only [ri]; omega)) | exact mF_at _ _ | exact rfl) ?_
      refine xr_if_le xi_106_34 (by first | exact tI_n (by omega) | exact tI_d (by omega) | assumption | exact tI_e1 | exact tI_e2 | exact tI_e3 | exact tI_e4) (fun c_34 => ?_) (fun c_34 => ?_)
      · refine xr_iconst (z := nI 0) xi_106_41 rfl ?_
        refine xr_iadd xi_106_42 (cnt_s0 (by omega)) ?_
        refine xr_istore_n xi_106_43 (Nat.le_of_ble_eq_true rfl) rfl ?_
        refine xr_iinc xi_106_44 rfl (by first | exact nI_1 _ | exact rfl) rfl ?_
        refine xr_goto xi_106_47 ?_
        exact ih (i + 1) (by omega)
      · refine xr_iconst (z := nI 1) xi_106_37 rfl ?_
        refine xr_goto xi_106_38 ?_
        refine xr_iadd xi_106_42 (cnt_s1 (by omega)) ?_
        refine xr_istore_n xi_106_43 (Nat.le_of_ble_eq_true rfl) rfl ?_
        refine xr_iinc xi_106_44 rfl (by first | exact nI_1 _ | exact rfl) rfl ?_
        refine xr_goto xi_106_47 ?_
        exact ih (i + 1) (by omega)
  refine xr_aload_n xi_106_0 rfl ?_
  refine xr_getf xi_106_1 rfl rfl ?_
  refine xr_bipush (z := nI 12) xi_106_4 rfl ?_
  refine xr_iload_n xi_106_6 rfl ?_
  refine xr_iadd xi_106_7 (by first | exact nI_add _ _ | exact rfl) ?_
  refine xr_iload_n xi_106_8 rfl ?_
  refine xr_iconst (z := nI 1) xi_106_9 rfl ?_
  refine xr_iadd xi_106_10 (by first | exact nI_add _ _ | exact rfl) ?_
  refine xr_iast xi_106_11 rfl (by first | exact tI_n (by first | omega | (simp only [ri]; omega)) | exact tI_dn (by omega) (by omega) | assumption) (by first | omega | (simp only [ri]; omega)) (mH_row _ (by omega)) ?_
  refine xr_iconst (z := nI 0) xi_106_12 rfl ?_
  refine xr_istore_n xi_106_13 (Nat.le_of_ble_eq_true rfl) rfl ?_
  refine xr_iconst (z := nI 0) xi_106_14 rfl ?_
  refine xr_istore xi_106_15 (Nat.le_of_ble_eq_true rfl) rfl ?_
  exact key 4 0 (by omega)
theorem wm_noRelease {x : Int32} (hI : sInv G) (h1 : ∀ h, h < 4 → x = nI h → 0 < G (12 + h) → Q (some (.int (nI 0))) (mJ st tx ln ag po le nu fa re od be Z G)) (h2 : ∀ h, h < 4 → x = nI h → G (12 + h) = 0 → Q (some (.int xE2)) (mJ st tx ln ag po le nu fa re od be Z G)) (h3 : (∀ h, h < 4 → x ≠ nI h) → Q (some (.int xE1)) (mJ st tx ln ag po le nu fa re od be Z G)) : xc L xs 108 [.ref 0, .int x] (mJ st tx ln ag po le nu fa re od be Z G) Q := by
  refine xr_iload_n xi_108_0 rfl ?_
  refine xr_stat xi_108_1 (by decide) rfl rfl (Nat.le_of_ble_eq_true rfl) (Nat.le_of_ble_eq_true rfl) ?_
  refine wm_isHand (fun h hh e => ?_) (fun hn => ?_)
  · subst e
    have hz := (hI.h hh).1
    refine xr_k ?_
    refine xr_if_ne xi_108_4 (by first | exact tI_n (by omega) | exact tI_d (by omega) | assumption | exact tI_e1 | exact tI_e2 | exact tI_e3 | exact tI_e4) (fun c_ => ?_) (fun c_ => by exfalso; omega)
    refine xr_aload_n xi_108_12 rfl ?_
    refine xr_getf xi_108_13 rfl rfl ?_
    refine xr_bipush (z := nI 12) xi_108_16 rfl ?_
    refine xr_iload_n xi_108_18 rfl ?_
    refine xr_iadd xi_108_19 (by first | exact nI_add _ _ | exact rfl) ?_
    refine xr_ialz xi_108_20 rfl (by first | exact tI_n (by first | omega | (simp only [ri]; omega)) | exact tI_dn (by omega) (by omega) | assumption) (by first | omega | (simp only [ri]; omega)) (by first | exact mj_lo (by first | omega | (simp only [ri]; omega)) | exact mF_at _ _ | exact rfl) ?_
    refine xr_if_ne xi_108_21 (by first | exact tI_n (by omega) | exact tI_d (by omega) | assumption | exact tI_e1 | exact tI_e2 | exact tI_e3 | exact tI_e4) (fun c_21 => ?_) (fun c_21 => ?_)
    · refine xr_iconst (z := nI 0) xi_108_29 rfl ?_
      refine xr_iret xi_108_30 (fun h => absurd h (by decide)) ?_
      exact h1 h hh rfl (by omega)
    · refine xr_ldc (z := xE2) xi_108_24 rfl ?_
      refine xr_goto xi_108_26 ?_
      refine xr_iret xi_108_30 (fun h => absurd h (by decide)) ?_
      exact h2 h hh rfl (by omega)
  · refine xr_k ?_
    refine xr_if_ne xi_108_4 (by first | exact tI_n (by omega) | exact tI_d (by omega) | assumption | exact tI_e1 | exact tI_e2 | exact tI_e3 | exact tI_e4) (fun c_ => by exfalso; omega) (fun c_ => ?_)
    refine xr_ldc (z := xE1) xi_108_7 rfl ?_
    refine xr_goto xi_108_9 ?_
    refine xr_iret xi_108_30 (fun h => absurd h (by decide)) ?_
    exact h3 hn
theorem wm_doRelease {h : Nat} (hh : h < 4) (hQ : Q (some (.int (dI (G (12 + h))))) (mJ st tx ln ag po le nu fa re od be Z (un G (12 + h) 0))) : xc L xs 109 [.ref 0, .int (nI h)] (mJ st tx ln ag po le nu fa re od be Z G) Q := by
  refine xr_aload_n xi_109_0 rfl ?_
  refine xr_getf xi_109_1 rfl rfl ?_
  refine xr_bipush (z := nI 12) xi_109_4 rfl ?_
  refine xr_iload_n xi_109_6 rfl ?_
  refine xr_iadd xi_109_7 (by first | exact nI_add _ _ | exact rfl) ?_
  refine xr_ialz xi_109_8 rfl (by first | exact tI_n (by first | omega | (simp only [ri]; omega)) | exact tI_dn (by omega) (by omega) | assumption) (by first | omega | (simp only [ri]; omega)) (by first | exact mj_lo (by first | omega | (simp only [ri]; omega)) | exact mF_at _ _ | exact rfl) ?_
  refine xr_iconst (z := nI 1) xi_109_9 rfl ?_
  refine xr_isub xi_109_10 (nI_d _) ?_
  refine xr_istore_n xi_109_11 (Nat.le_of_ble_eq_true rfl) rfl ?_
  refine xr_aload_n xi_109_12 rfl ?_
  refine xr_getf xi_109_13 rfl rfl ?_
  refine xr_bipush (z := nI 12) xi_109_16 rfl ?_
  refine xr_iload_n xi_109_18 rfl ?_
  refine xr_iadd xi_109_19 (by first | exact nI_add _ _ | exact rfl) ?_
  refine xr_iconst (z := nI 0) xi_109_20 rfl ?_
  refine xr_iast xi_109_21 rfl (by first | exact tI_n (by first | omega | (simp only [ri]; omega)) | exact tI_dn (by omega) (by omega) | assumption) (by first | omega | (simp only [ri]; omega)) (mH_row _ (by omega)) ?_
  refine xr_iload_n xi_109_22 rfl ?_
  refine xr_iret xi_109_23 (fun h => absurd h (by decide)) ?_
  exact hQ
theorem wm_noTie {x y z : Int32} (hI : sInv G) (h1 : ∀ t s u, sLive G t → s < 3 → sLive G u → x = nI t → y = nI s → z = nI u → Q (some (.int (nI 0))) (mJ st tx ln ag po le nu fa re od be Z G)) (h2 : (¬ ∃ t s u, sLive G t ∧ s < 3 ∧ sLive G u ∧ x = nI t ∧ y = nI s ∧ z = nI u) → Q (some (.int xE1)) (mJ st tx ln ag po le nu fa re od be Z G)) : xc L xs 111 [.ref 0, .int x, .int y, .int z] (mJ st tx ln ag po le nu fa re od be Z G) Q := by
  refine xr_aload_n xi_111_0 rfl ?_
  refine xr_iload_n xi_111_1 rfl ?_
  refine xr_virt xi_111_2 rfl rfl rfl rfl (Nat.le_of_ble_eq_true rfl) (Nat.le_of_ble_eq_true rfl) ?_
  refine wm_isThing hI (fun t ht e => ?_) (fun hn => ?_)
  · refine xr_k ?_
    refine xr_if_eq xi_111_5 (by first | exact tI_n (by omega) | exact tI_d (by omega) | assumption | exact tI_e1 | exact tI_e2 | exact tI_e3 | exact tI_e4) (fun c_ => by exfalso; omega) (fun c_ => ?_)
    refine xr_iload_n xi_111_8 rfl ?_
    refine xr_stat xi_111_9 (by decide) rfl rfl (Nat.le_of_ble_eq_true rfl) (Nat.le_of_ble_eq_true rfl) ?_
    refine wm_isString (fun s hs e2 => ?_) (fun hn => ?_)
    · refine xr_k ?_
      refine xr_if_eq xi_111_12 (by first | exact tI_n (by omega) | exact tI_d (by omega) | assumption | exact tI_e1 | exact tI_e2 | exact tI_e3 | exact tI_e4) (fun c_ => by exfalso; omega) (fun c_ => ?_)
      refine xr_aload_n xi_111_15 rfl ?_
      refine xr_iload_n xi_111_16 rfl ?_
      refine xr_virt xi_111_17 rfl rfl rfl rfl (Nat.le_of_ble_eq_true rfl) (Nat.le_of_ble_eq_true rfl) ?_
      refine wm_isThing hI (fun u hu e3 => ?_) (fun hn => ?_)
      · refine xr_k ?_
        refine xr_if_eq xi_111_20 (by first | exact tI_n (by omega) | exact tI_d (by omega) | assumption | exact tI_e1 | exact tI_e2 | exact tI_e3 | exact tI_e4) (fun c_ => by exfalso; omega) (fun c_ => ?_)
        refine xr_iconst (z := nI 0) xi_111_23 rfl ?_
        refine xr_goto xi_111_24 ?_
        refine xr_iret xi_111_29 (fun h => absurd h (by decide)) ?_
        exact h1 t s u ht hs hu e e2 e3
      · refine xr_k ?_
        refine xr_if_eq xi_111_20 (by first | exact tI_n (by omega) | exact tI_d (by omega) | assumption | exact tI_e1 | exact tI_e2 | exact tI_e3 | exact tI_e4) (fun c_ => ?_) (fun c_ => by exfalso; omega)
        refine xr_ldc (z := xE1) xi_111_27 rfl ?_
        refine xr_iret xi_111_29 (fun h => absurd h (by decide)) ?_
        exact h2 (fun ⟨t, s, u, _, _, q3, _, _, q6⟩ => hn u q3 q6)
    · refine xr_k ?_
      refine xr_if_eq xi_111_12 (by first | exact tI_n (by omega) | exact tI_d (by omega) | assumption | exact tI_e1 | exact tI_e2 | exact tI_e3 | exact tI_e4) (fun c_ => ?_) (fun c_ => by exfalso; omega)
      refine xr_ldc (z := xE1) xi_111_27 rfl ?_
      refine xr_iret xi_111_29 (fun h => absurd h (by decide)) ?_
      exact h2 (fun ⟨t, s, u, _, q2, _, _, q5, _⟩ => hn s q2 q5)
  · refine xr_k ?_
    refine xr_if_eq xi_111_5 (by first | exact tI_n (by omega) | exact tI_d (by omega) | assumption | exact tI_e1 | exact tI_e2 | exact tI_e3 | exact tI_e4) (fun c_ => ?_) (fun c_ => by exfalso; omega)
    refine xr_ldc (z := xE1) xi_111_27 rfl ?_
    refine xr_iret xi_111_29 (fun h => absurd h (by decide)) ?_
    exact h2 (fun ⟨t, s, u, q1, _, _, q4, _, _⟩ => hn t q1 q4)
theorem wm_doTie {t s u : Nat} (hI : sInv G) (ht : sLive G t) (hs : s < 3) (hu : sLive G u) (h1 : sAge G u < sAge G t → Q (some (.int (nI 1))) (mJ st tx ln ag po le nu fa re od be Z (un G (ri t (2 + s)) (u + 1)))) (h2 : ¬ sAge G u < sAge G t → Q (some (.int (nI 0))) (mJ st tx ln ag po le nu fa re od be Z (un G (ri t (2 + s)) (u + 1)))) : xc L xs 112 [.ref 0, .int (nI t), .int (nI s), .int (nI u)] (mJ st tx ln ag po le nu fa re od be Z G) Q := by
  have ht3 := hI.lt ht
  have hu3 := hI.lt hu
  have hgt := hI.ag ht3
  have hgu := hI.ag hu3
  have e0 : ∀ v, un G (ri t (2 + s)) (u + 1) (ri v 0) = G (ri v 0) := fun v => un_n (by unfold ri; omega)
  have eh : ∀ v, sHome (un G (ri t (2 + s)) (u + 1)) v = sHome G v := fun v => by unfold sHome; rw [e0]
  have ea : ∀ v, v < 30 → sAge (un G (ri t (2 + s)) (u + 1)) v = sAge G v := fun v hv => by
    unfold sAge
    rw [eh, un_n (by have := hI.ho hv; unfold ri; omega)]
  have key : ∀ v, sLive G v → ∀ Q', Q' (some (.int (dI (sAge G v)))) (mJ st tx ln ag po le nu fa re od be Z (un G (ri t (2 + s)) (u + 1))) → xc L xs 96 [.ref 0, .int (nI v)] (mJ st tx ln ag po le nu fa re od be Z (un G (ri t (2 + s)) (u + 1))) Q' := by
    intro v hv Q' hQ'
    have hv3 := hI.lt hv
    have hho := hI.ho hv3
    rw [← ea v hv3] at hQ'
    rw [← eh v] at hho
    refine xr_aload_n xi_96_0 rfl ?_
    refine xr_getf xi_96_1 rfl rfl ?_
    refine xr_iconst (z := nI 4) xi_96_4 rfl ?_
    refine xr_aload_n xi_96_5 rfl ?_
    refine xr_iload_n xi_96_6 rfl ?_
    refine xr_virt xi_96_7 rfl rfl rfl rfl (Nat.le_of_ble_eq_true rfl) (Nat.le_of_ble_eq_true rfl) ?_
    refine wm_homeR hv3 (by rw [e0]; exact hv.2) (by rw [e0]; exact hI.l hv3) ?_
    refine xr_k ?_
    refine xr_iadd xi_96_10 (by first | exact nI_add _ _ | exact rfl) ?_
    refine xr_ialz xi_96_11 rfl (by first | exact tI_n (by first | omega | (simp only [ri]; omega)) | exact tI_dn (by omega) (by omega) | assumption) (by first | omega | (simp only [ri]; omega)) (by first | exact mj_lo (by first | omega | (simp only [ri]; omega)) | exact mF_at _ _ | exact rfl) ?_
    refine xr_iconst (z := nI 1) xi_96_12 rfl ?_
    refine xr_isub xi_96_13 (nI_d _) ?_
    refine xr_iret xi_96_14 (fun h => absurd h (by decide)) ?_
    exact hQ'
  refine xr_aload_n xi_112_0 rfl ?_
  refine xr_getf xi_112_1 rfl rfl ?_
  refine xr_iload_n xi_112_4 rfl ?_
  refine xr_iconst (z := nI 2) xi_112_5 rfl ?_
  refine xr_iload_n xi_112_6 rfl ?_
  refine xr_iadd xi_112_7 (by first | exact nI_add _ _ | exact rfl) ?_
  refine xr_stat xi_112_8 (by decide) rfl rfl (Nat.le_of_ble_eq_true rfl) (Nat.le_of_ble_eq_true rfl) ?_
  refine wm_of ?_
  refine xr_k ?_
  refine xr_iload_n xi_112_11 rfl ?_
  refine xr_iconst (z := nI 1) xi_112_12 rfl ?_
  refine xr_iadd xi_112_13 (by first | exact nI_add _ _ | exact rfl) ?_
  refine xr_iast xi_112_14 rfl (by first | exact tI_n (by first | omega | (simp only [ri]; omega)) | exact tI_dn (by omega) (by omega) | assumption) (by first | omega | (simp only [ri]; omega)) (mH_row _ (by simp only [ri]; omega)) ?_
  refine xr_aload_n xi_112_15 rfl ?_
  refine xr_iload_n xi_112_16 rfl ?_
  refine xr_virt xi_112_17 rfl rfl rfl rfl (Nat.le_of_ble_eq_true rfl) (Nat.le_of_ble_eq_true rfl) ?_
  refine key u hu _ ?_
  refine xr_k ?_
  refine xr_aload_n xi_112_20 rfl ?_
  refine xr_iload_n xi_112_21 rfl ?_
  refine xr_virt xi_112_22 rfl rfl rfl rfl (Nat.le_of_ble_eq_true rfl) (Nat.le_of_ble_eq_true rfl) ?_
  refine key t ht _ ?_
  refine xr_k ?_
  refine xr_ic_ge xi_112_25 (by first | exact tI_n (by omega) | exact tI_d (by omega) | assumption | exact tI_e1 | exact tI_e2 | exact tI_e3 | exact tI_e4) (by first | exact tI_n (by omega) | exact tI_d (by omega) | assumption | exact tI_e1 | exact tI_e2 | exact tI_e3 | exact tI_e4) (fun c_25 => ?_) (fun c_25 => ?_)
  · refine xr_iconst (z := nI 0) xi_112_32 rfl ?_
    refine xr_iret xi_112_33 (fun h => absurd h (by decide)) ?_
    exact h2 (by omega)
  · refine xr_iconst (z := nI 1) xi_112_28 rfl ?_
    refine xr_goto xi_112_29 ?_
    refine xr_iret xi_112_33 (fun h => absurd h (by decide)) ?_
    exact h1 (by omega)
theorem wm_noLoosen {x y : Int32} (hI : sInv G) (h1 : ∀ t s, sLive G t → s < 3 → x = nI t → y = nI s → 0 < G (ri t (2 + s)) → Q (some (.int (nI 0))) (mJ st tx ln ag po le nu fa re od be Z G)) (h2 : ∀ t s, sLive G t → s < 3 → x = nI t → y = nI s → G (ri t (2 + s)) = 0 → Q (some (.int xE2)) (mJ st tx ln ag po le nu fa re od be Z G)) (h3 : (¬ ∃ t s, sLive G t ∧ s < 3 ∧ x = nI t ∧ y = nI s) → Q (some (.int xE1)) (mJ st tx ln ag po le nu fa re od be Z G)) : xc L xs 114 [.ref 0, .int x, .int y] (mJ st tx ln ag po le nu fa re od be Z G) Q := by
  refine xr_aload_n xi_114_0 rfl ?_
  refine xr_iload_n xi_114_1 rfl ?_
  refine xr_virt xi_114_2 rfl rfl rfl rfl (Nat.le_of_ble_eq_true rfl) (Nat.le_of_ble_eq_true rfl) ?_
  refine wm_isThing hI (fun t ht e => ?_) (fun hn => ?_)
  · have ht3 := hI.lt ht
    refine xr_k ?_
    refine xr_if_eq xi_114_5 (by first | exact tI_n (by omega) | exact tI_d (by omega) | assumption | exact tI_e1 | exact tI_e2 | exact tI_e3 | exact tI_e4) (fun c_ => by exfalso; omega) (fun c_ => ?_)
    refine xr_iload_n xi_114_8 rfl ?_
    refine xr_stat xi_114_9 (by decide) rfl rfl (Nat.le_of_ble_eq_true rfl) (Nat.le_of_ble_eq_true rfl) ?_
    refine wm_isString (fun s hs e2 => ?_) (fun hn => ?_)
    · have hz := (hI.t ht3 hs).1
      subst e
      subst e2
      refine xr_k ?_
      refine xr_if_ne xi_114_12 (by first | exact tI_n (by omega) | exact tI_d (by omega) | assumption | exact tI_e1 | exact tI_e2 | exact tI_e3 | exact tI_e4) (fun c_ => ?_) (fun c_ => by exfalso; omega)
      refine xr_aload_n xi_114_20 rfl ?_
      refine xr_getf xi_114_21 rfl rfl ?_
      refine xr_iload_n xi_114_24 rfl ?_
      refine xr_iconst (z := nI 2) xi_114_25 rfl ?_
      refine xr_iload_n xi_114_26 rfl ?_
      refine xr_iadd xi_114_27 (by first | exact nI_add _ _ | exact rfl) ?_
      refine xr_stat xi_114_28 (by decide) rfl rfl (Nat.le_of_ble_eq_true rfl) (Nat.le_of_ble_eq_true rfl) ?_
      refine wm_of ?_
      refine xr_k ?_
      refine xr_ialz xi_114_31 rfl (by first | exact tI_n (by first | omega | (simp only [ri]; omega)) | exact tI_dn (by omega) (by omega) | assumption) (by first | omega | (simp only [ri]; omega)) (by first | exact mj_lo (by first | omega | (simp only [ri]; omega)) | exact mF_at _ _ | exact rfl) ?_
      refine xr_if_ne xi_114_32 (by first | exact tI_n (by omega) | exact tI_d (by omega) | assumption | exact tI_e1 | exact tI_e2 | exact tI_e3 | exact tI_e4) (fun c_32 => ?_) (fun c_32 => ?_)
      · refine xr_iconst (z := nI 0) xi_114_40 rfl ?_
        refine xr_iret xi_114_41 (fun h => absurd h (by decide)) ?_
        exact h1 t s ht hs rfl rfl (by omega)
      · refine xr_ldc (z := xE2) xi_114_35 rfl ?_
        refine xr_goto xi_114_37 ?_
        refine xr_iret xi_114_41 (fun h => absurd h (by decide)) ?_
        exact h2 t s ht hs rfl rfl (by omega)
    · refine xr_k ?_
      refine xr_if_ne xi_114_12 (by first | exact tI_n (by omega) | exact tI_d (by omega) | assumption | exact tI_e1 | exact tI_e2 | exact tI_e3 | exact tI_e4) (fun c_ => by exfalso; omega) (fun c_ => ?_)
      refine xr_ldc (z := xE1) xi_114_15 rfl ?_
      refine xr_goto xi_114_17 ?_
      refine xr_iret xi_114_41 (fun h => absurd h (by decide)) ?_
      exact h3 (fun ⟨t, s, _, q2, _, q5⟩ => hn s q2 q5)
  · refine xr_k ?_
    refine xr_if_eq xi_114_5 (by first | exact tI_n (by omega) | exact tI_d (by omega) | assumption | exact tI_e1 | exact tI_e2 | exact tI_e3 | exact tI_e4) (fun c_ => ?_) (fun c_ => by exfalso; omega)
    refine xr_ldc (z := xE1) xi_114_15 rfl ?_
    refine xr_goto xi_114_17 ?_
    refine xr_iret xi_114_41 (fun h => absurd h (by decide)) ?_
    exact h3 (fun ⟨t, s, q1, _, q4, _⟩ => hn t q1 q4)
theorem wm_doLoosen {t s : Nat} (ht : t < 30) (hs : s < 3) (hQ : Q (some (.int (dI (G (ri t (2 + s)))))) (mJ st tx ln ag po le nu fa re od be Z (un G (ri t (2 + s)) 0))) : xc L xs 115 [.ref 0, .int (nI t), .int (nI s)] (mJ st tx ln ag po le nu fa re od be Z G) Q := by
  refine xr_aload_n xi_115_0 rfl ?_
  refine xr_getf xi_115_1 rfl rfl ?_
  refine xr_iload_n xi_115_4 rfl ?_
  refine xr_iconst (z := nI 2) xi_115_5 rfl ?_
  refine xr_iload_n xi_115_6 rfl ?_
  refine xr_iadd xi_115_7 (by first | exact nI_add _ _ | exact rfl) ?_
  refine xr_stat xi_115_8 (by decide) rfl rfl (Nat.le_of_ble_eq_true rfl) (Nat.le_of_ble_eq_true rfl) ?_
  refine wm_of ?_
  refine xr_k ?_
  refine xr_ialz xi_115_11 rfl (by first | exact tI_n (by first | omega | (simp only [ri]; omega)) | exact tI_dn (by omega) (by omega) | assumption) (by first | omega | (simp only [ri]; omega)) (by first | exact mj_lo (by first | omega | (simp only [ri]; omega)) | exact mF_at _ _ | exact rfl) ?_
  refine xr_iconst (z := nI 1) xi_115_12 rfl ?_
  refine xr_isub xi_115_13 (nI_d _) ?_
  refine xr_istore_n xi_115_14 (Nat.le_of_ble_eq_true rfl) rfl ?_
  refine xr_aload_n xi_115_15 rfl ?_
  refine xr_getf xi_115_16 rfl rfl ?_
  refine xr_iload_n xi_115_19 rfl ?_
  refine xr_iconst (z := nI 2) xi_115_20 rfl ?_
  refine xr_iload_n xi_115_21 rfl ?_
  refine xr_iadd xi_115_22 (by first | exact nI_add _ _ | exact rfl) ?_
  refine xr_stat xi_115_23 (by decide) rfl rfl (Nat.le_of_ble_eq_true rfl) (Nat.le_of_ble_eq_true rfl) ?_
  refine wm_of ?_
  refine xr_k ?_
  refine xr_iconst (z := nI 0) xi_115_26 rfl ?_
  refine xr_iast xi_115_27 rfl (by first | exact tI_n (by first | omega | (simp only [ri]; omega)) | exact tI_dn (by omega) (by omega) | assumption) (by first | omega | (simp only [ri]; omega)) (mH_row _ (by simp only [ri]; omega)) ?_
  refine xr_iload_n xi_115_28 rfl ?_
  refine xr_iret xi_115_29 (fun h => absurd h (by decide)) ?_
  exact hQ
theorem wm_noPin {x : Int32} {b : Nat} (hb : b < 2) (hI : sInv G) (h1 : ∀ t, sLive G t → x = nI t → G (ri t 1) ≠ b → Q (some (.int (nI 0))) (mJ st tx ln ag po le nu fa re od be Z G)) (h2 : ∀ t, sLive G t → x = nI t → G (ri t 1) = b → Q (some (.int xE2)) (mJ st tx ln ag po le nu fa re od be Z G)) (h3 : (∀ t, sLive G t → x ≠ nI t) → Q (some (.int xE1)) (mJ st tx ln ag po le nu fa re od be Z G)) : xc L xs 118 [.ref 0, .int x, .int (nI b)] (mJ st tx ln ag po le nu fa re od be Z G) Q := by
  refine xr_aload_n xi_118_0 rfl ?_
  refine xr_iload_n xi_118_1 rfl ?_
  refine xr_virt xi_118_2 rfl rfl rfl rfl (Nat.le_of_ble_eq_true rfl) (Nat.le_of_ble_eq_true rfl) ?_
  refine wm_isThing hI (fun t ht e => ?_) (fun hn => ?_)
  · have ht3 := hI.lt ht
    have hz := (hI.p ht3).1
    subst e
    refine xr_k ?_
    refine xr_if_ne xi_118_5 (by first | exact tI_n (by omega) | exact tI_d (by omega) | assumption | exact tI_e1 | exact tI_e2 | exact tI_e3 | exact tI_e4) (fun c_ => ?_) (fun c_ => by exfalso; omega)
    refine xr_aload_n xi_118_13 rfl ?_
    refine xr_getf xi_118_14 rfl rfl ?_
    refine xr_iload_n xi_118_17 rfl ?_
    refine xr_iconst (z := nI 1) xi_118_18 rfl ?_
    refine xr_stat xi_118_19 (by decide) rfl rfl (Nat.le_of_ble_eq_true rfl) (Nat.le_of_ble_eq_true rfl) ?_
    refine wm_of ?_
    refine xr_k ?_
    refine xr_ialz xi_118_22 rfl (by first | exact tI_n (by first | omega | (simp only [ri]; omega)) | exact tI_dn (by omega) (by omega) | assumption) (by first | omega | (simp only [ri]; omega)) (by first | exact mj_lo (by first | omega | (simp only [ri]; omega)) | exact mF_at _ _ | exact rfl) ?_
    refine xr_iload_n xi_118_23 rfl ?_
    refine xr_ic_ne xi_118_24 (by first | exact tI_n (by omega) | exact tI_d (by omega) | assumption | exact tI_e1 | exact tI_e2 | exact tI_e3 | exact tI_e4) (by first | exact tI_n (by omega) | exact tI_d (by omega) | assumption | exact tI_e1 | exact tI_e2 | exact tI_e3 | exact tI_e4) (fun c_24 => ?_) (fun c_24 => ?_)
    · refine xr_iconst (z := nI 0) xi_118_32 rfl ?_
      refine xr_iret xi_118_33 (fun h => absurd h (by decide)) ?_
      exact h1 t ht rfl (by omega)
    · refine xr_ldc (z := xE2) xi_118_27 rfl ?_
      refine xr_goto xi_118_29 ?_
      refine xr_iret xi_118_33 (fun h => absurd h (by decide)) ?_
      exact h2 t ht rfl (by omega)
  · refine xr_k ?_
    refine xr_if_ne xi_118_5 (by first | exact tI_n (by omega) | exact tI_d (by omega) | assumption | exact tI_e1 | exact tI_e2 | exact tI_e3 | exact tI_e4) (fun c_ => by exfalso; omega) (fun c_ => ?_)
    refine xr_ldc (z := xE1) xi_118_8 rfl ?_
    refine xr_goto xi_118_10 ?_
    refine xr_iret xi_118_33 (fun h => absurd h (by decide)) ?_
    exact h3 hn
end M5
