section M6
variable {L : Nat} {xs : Nat → Int32} {Q : Option Value → xm_H → Prop} {st ln po le fa re od : Nat} {tx ag nu be Z G : Nat → Nat}
theorem wm_doPin {t b : Nat} (hI : sInv G) (ht : sLive G t) (hb : b ≤ 1) (hQ : Q (some (.int (nI (cnt (sPin (un G (ri t 1) b)) 30)))) (mJ st tx ln ag po le nu fa re od be Z (un G (ri t 1) b))) : xc L xs 119 [.ref 0, .int (nI t), .int (nI b)] (mJ st tx ln ag po le nu fa re od be Z G) Q := by
  have ht3 := hI.lt ht
  refine xr_aload_n xi_119_0 rfl ?_
  refine xr_getf xi_119_1 rfl rfl ?_
  refine xr_iload_n xi_119_4 rfl ?_
  refine xr_iconst (z := nI 1) xi_119_5 rfl ?_
  refine xr_stat xi_119_6 (by decide) rfl rfl (Nat.le_of_ble_eq_true rfl) (Nat.le_of_ble_eq_true rfl) ?_
  refine wm_of ?_
  refine xr_k ?_
  refine xr_iload_n xi_119_9 rfl ?_
  refine xr_iast xi_119_10 rfl (by first | exact tI_n (by first | omega | (simp only [ri]; omega)) | exact tI_dn (by omega) (by omega) | assumption) (by first | omega | (simp only [ri]; omega)) (mH_row _ (by simp only [ri]; omega)) ?_
  refine xr_aload_n xi_119_11 rfl ?_
  refine xr_virt xi_119_12 rfl rfl rfl rfl (Nat.le_of_ble_eq_true rfl) (Nat.le_of_ble_eq_true rfl) ?_
  refine wm_pinned (sInv_pin hI ht hb).1 ?_
  refine xr_k ?_
  refine xr_stat xi_119_15 (by decide) rfl rfl (Nat.le_of_ble_eq_true rfl) (Nat.le_of_ble_eq_true rfl) ?_
  refine wm_bits ?_
  refine xr_k ?_
  refine xr_iret xi_119_18 (fun h => absurd h (by decide)) ?_
  exact hQ
theorem wm_doFull (hI : sInv G) (hQ : Q (some (.int (nI (cnt (sForg G) 30)))) (mJ st tx ln ag po le nu fa re od be Z (sFull G))) : xc L xs 135 [.ref 0] (mJ st tx ln ag po le nu fa re od be Z G) Q := by
  refine xr_aload_n xi_135_0 rfl ?_
  refine xr_virt xi_135_1 rfl rfl rfl rfl (Nat.le_of_ble_eq_true rfl) (Nat.le_of_ble_eq_true rfl) ?_
  refine wm_all hI ?_
  refine xr_k ?_
  refine xr_aload_n xi_135_4 rfl ?_
  refine xr_virt xi_135_5 rfl rfl rfl rfl (Nat.le_of_ble_eq_true rfl) (Nat.le_of_ble_eq_true rfl) ?_
  refine wm_neededOf hI ?_
  refine xr_k ?_
  refine xr_iconst (z := dI 0) xi_135_8 xm_m1 ?_
  refine xr_ixor xi_135_9 rfl ?_
  refine xr_iand xi_135_10 (mk_andn _ _) ?_
  refine xr_istore_n xi_135_11 (Nat.le_of_ble_eq_true rfl) rfl ?_
  refine xr_aload_n xi_135_12 rfl ?_
  refine xr_iload_n xi_135_13 rfl ?_
  refine xr_virt xi_135_14 rfl rfl rfl rfl (Nat.le_of_ble_eq_true rfl) (Nat.le_of_ble_eq_true rfl) ?_
  refine wm_lose (P := sForg G) hI.c (fun t ht => hI.l ht) ?_
  refine xr_kv ?_
  refine xr_aload_n xi_135_17 rfl ?_
  refine xr_getf xi_135_18 rfl rfl ?_
  refine xr_iconst (z := nI 2) xi_135_21 rfl ?_
  refine xr_dup2 xi_135_22 ?_
  refine xr_ialz xi_135_23 rfl (by first | exact tI_n (by first | omega | (simp only [ri]; omega)) | exact tI_dn (by omega) (by omega) | assumption) (by first | omega | (simp only [ri]; omega)) (by first | exact mj_lo (by first | omega | (simp only [ri]; omega)) | exact mF_at _ _ | exact rfl) ?_
  refine xr_iconst (z := nI 1) xi_135_24 rfl ?_
  refine xr_iadd xi_135_25 (by first | exact nI_add _ _ | exact rfl) ?_
  refine xr_iast xi_135_26 rfl (by first | exact tI_n (by first | omega | (simp only [ri]; omega)) | exact tI_dn (by omega) (by omega) | assumption) (by first | omega | (simp only [ri]; omega)) (mH_row _ (by omega)) ?_
  refine xr_iload_n xi_135_27 rfl ?_
  refine xr_stat xi_135_28 (by decide) rfl rfl (Nat.le_of_ble_eq_true rfl) (Nat.le_of_ble_eq_true rfl) ?_
  refine wm_bits ?_
  refine xr_k ?_
  refine xr_iret xi_135_31 (fun h => absurd h (by decide)) ?_
  exact hQ
theorem mJ_st (x : Nat) : ((mJ st tx ln ag po le nu fa re od be Z G)).set 0 (.inr (.inr (3, ([.ref 1, .int (nI st), .ref 2, .int (nI ln), .ref 3, .int (nI po), .int (nI le), .ref 4, .int (nI fa), .int (nI re), .int (nI od), .ref 5] : List Value).set 1 (.int (nI x))))) = mJ x tx ln ag po le nu fa re od be Z G := rfl
theorem wm_record (hst : st ≤ 4) (hQ : ∀ st' Z', hrec st Z G st' Z' → Q none (mJ st' tx ln ag po le nu fa re od be Z' G)) : xc L xs 93 [.ref 0, .int (nI 0)] (mJ st tx ln ag po le nu fa re od be Z G) Q := by
  by_cases h4 : st = 4
  · subst h4
    refine xr_aload_n xi_93_0 rfl ?_
    refine xr_getf xi_93_1 rfl rfl ?_
    refine xr_iconst (z := nI 4) xi_93_4 rfl ?_
    refine xr_ic_ne xi_93_5 (by first | exact tI_n (by omega) | exact tI_d (by omega) | assumption | exact tI_e1 | exact tI_e2 | exact tI_e3 | exact tI_e4) (by first | exact tI_n (by omega) | exact tI_d (by omega) | assumption | exact tI_e1 | exact tI_e2 | exact tI_e3 | exact tI_e4) (fun c_ => by exfalso; omega) (fun c_ => ?_)
    refine xr_iconst (z := nI 1) xi_93_8 rfl ?_
    refine xr_istore_n xi_93_9 (Nat.le_of_ble_eq_true rfl) rfl ?_
    refine xr_iload_n xi_93_10 rfl ?_
    refine xr_iconst (z := nI 4) xi_93_11 rfl ?_
    refine xr_ic_ge xi_93_12 (by first | exact tI_n (by omega) | exact tI_d (by omega) | assumption | exact tI_e1 | exact tI_e2 | exact tI_e3 | exact tI_e4) (by first | exact tI_n (by omega) | exact tI_d (by omega) | assumption | exact tI_e1 | exact tI_e2 | exact tI_e3 | exact tI_e4) (fun c_ => by exfalso; omega) (fun c_ => ?_)
    refine xr_aload_n xi_93_15 rfl ?_
    refine xr_sipush (z := nI 196) xi_93_16 rfl ?_
    refine xr_sipush (z := nI 196) xi_93_19 rfl ?_
    refine xr_iload_n xi_93_22 rfl ?_
    refine xr_imul xi_93_23 (by first | exact pk_mul _ _ | exact rfl) ?_
    refine xr_iadd xi_93_24 (by first | exact nI_add _ _ | exact rfl) ?_
    refine xr_sipush (z := nI 196) xi_93_25 rfl ?_
    refine xr_iload_n xi_93_28 rfl ?_
    refine xr_imul xi_93_29 (by first | exact pk_mul _ _ | exact rfl) ?_
    refine xr_virt xi_93_30 rfl rfl rfl rfl (Nat.le_of_ble_eq_true rfl) (Nat.le_of_ble_eq_true rfl) ?_
    refine wm_copyZ (a := 392) (b := 196) (by omega) (by omega) (by omega) (by omega) (by omega) ?_
    refine xr_kv ?_
    refine xr_iinc xi_93_33 rfl (by first | exact nI_1 _ | exact rfl) rfl ?_
    refine xr_goto xi_93_36 ?_
    refine xr_iload_n xi_93_10 rfl ?_
    refine xr_iconst (z := nI 4) xi_93_11 rfl ?_
    refine xr_ic_ge xi_93_12 (by first | exact tI_n (by omega) | exact tI_d (by omega) | assumption | exact tI_e1 | exact tI_e2 | exact tI_e3 | exact tI_e4) (by first | exact tI_n (by omega) | exact tI_d (by omega) | assumption | exact tI_e1 | exact tI_e2 | exact tI_e3 | exact tI_e4) (fun c_ => by exfalso; omega) (fun c_ => ?_)
    refine xr_aload_n xi_93_15 rfl ?_
    refine xr_sipush (z := nI 196) xi_93_16 rfl ?_
    refine xr_sipush (z := nI 196) xi_93_19 rfl ?_
    refine xr_iload_n xi_93_22 rfl ?_
    refine xr_imul xi_93_23 (by first | exact pk_mul _ _ | exact rfl) ?_
    refine xr_iadd xi_93_24 (by first | exact nI_add _ _ | exact rfl) ?_
    refine xr_sipush (z := nI 196) xi_93_25 rfl ?_
    refine xr_iload_n xi_93_28 rfl ?_
    refine xr_imul xi_93_29 (by first | exact pk_mul _ _ | exact rfl) ?_
    refine xr_virt xi_93_30 rfl rfl rfl rfl (Nat.le_of_ble_eq_true rfl) (Nat.le_of_ble_eq_true rfl) ?_
    refine wm_copyZ (a := 588) (b := 392) (by omega) (by omega) (by omega) (by omega) (by omega) ?_
    refine xr_kv ?_
    refine xr_iinc xi_93_33 rfl (by first | exact nI_1 _ | exact rfl) rfl ?_
    refine xr_goto xi_93_36 ?_
    refine xr_iload_n xi_93_10 rfl ?_
    refine xr_iconst (z := nI 4) xi_93_11 rfl ?_
    refine xr_ic_ge xi_93_12 (by first | exact tI_n (by omega) | exact tI_d (by omega) | assumption | exact tI_e1 | exact tI_e2 | exact tI_e3 | exact tI_e4) (by first | exact tI_n (by omega) | exact tI_d (by omega) | assumption | exact tI_e1 | exact tI_e2 | exact tI_e3 | exact tI_e4) (fun c_ => by exfalso; omega) (fun c_ => ?_)
    refine xr_aload_n xi_93_15 rfl ?_
    refine xr_sipush (z := nI 196) xi_93_16 rfl ?_
    refine xr_sipush (z := nI 196) xi_93_19 rfl ?_
    refine xr_iload_n xi_93_22 rfl ?_
    refine xr_imul xi_93_23 (by first | exact pk_mul _ _ | exact rfl) ?_
    refine xr_iadd xi_93_24 (by first | exact nI_add _ _ | exact rfl) ?_
    refine xr_sipush (z := nI 196) xi_93_25 rfl ?_
    refine xr_iload_n xi_93_28 rfl ?_
    refine xr_imul xi_93_29 (by first | exact pk_mul _ _ | exact rfl) ?_
    refine xr_virt xi_93_30 rfl rfl rfl rfl (Nat.le_of_ble_eq_true rfl) (Nat.le_of_ble_eq_true rfl) ?_
    refine wm_copyZ (a := 784) (b := 588) (by omega) (by omega) (by omega) (by omega) (by omega) ?_
    refine xr_kv ?_
    refine xr_iinc xi_93_33 rfl (by first | exact nI_1 _ | exact rfl) rfl ?_
    refine xr_goto xi_93_36 ?_
    refine xr_iload_n xi_93_10 rfl ?_
    refine xr_iconst (z := nI 4) xi_93_11 rfl ?_
    refine xr_ic_ge xi_93_12 (by first | exact tI_n (by omega) | exact tI_d (by omega) | assumption | exact tI_e1 | exact tI_e2 | exact tI_e3 | exact tI_e4) (by first | exact tI_n (by omega) | exact tI_d (by omega) | assumption | exact tI_e1 | exact tI_e2 | exact tI_e3 | exact tI_e4) (fun c_ => ?_) (fun c_ => by exfalso; omega)
    refine xr_aload_n xi_93_39 rfl ?_
    refine xr_dup xi_93_40 ?_
    refine xr_getf xi_93_41 rfl rfl ?_
    refine xr_iconst (z := nI 1) xi_93_44 rfl ?_
    refine xr_isub xi_93_45 (by first | exact pk_sub (by omega) | exact nI_d _ | exact rfl) ?_
    refine xr_putf xi_93_46 rfl (Nat.le_of_ble_eq_true rfl) rfl ?_
    refine xr_aload_n xi_93_49 rfl ?_
    refine xr_iload_n xi_93_50 rfl ?_
    refine xr_sipush (z := nI 196) xi_93_51 rfl ?_
    refine xr_sipush (z := nI 196) xi_93_54 rfl ?_
    refine xr_aload_n xi_93_57 rfl ?_
    refine xr_getf xi_93_58 rfl rfl ?_
    refine xr_imul xi_93_61 (by first | exact pk_mul _ _ | exact rfl) ?_
    refine xr_iadd xi_93_62 (by first | exact nI_add _ _ | exact rfl) ?_
    refine xr_virt xi_93_63 rfl rfl rfl rfl (Nat.le_of_ble_eq_true rfl) (Nat.le_of_ble_eq_true rfl) ?_
    refine wm_copyOut (b := 784) (by omega) (by omega) (fun Z' hz1 hz2 => ?_)
    refine xr_kv ?_
    refine xr_aload_n xi_93_66 rfl ?_
    refine xr_dup xi_93_67 ?_
    refine xr_getf xi_93_68 rfl rfl ?_
    refine xr_iconst (z := nI 1) xi_93_71 rfl ?_
    refine xr_iadd xi_93_72 (by first | exact nI_add _ _ | exact rfl) ?_
    refine xr_putf xi_93_73 rfl (Nat.le_of_ble_eq_true rfl) rfl ?_
    refine xr_ret xi_93_76 ?_
    refine hQ 4 Z' ⟨rfl, fun i hi => hz1 i hi, fun s hs i hi => ?_⟩
    rw [hz2 _ (by omega)]
    unfold cpN
    have hs3 : s = 0 ∨ s = 1 ∨ s = 2 := by omega
    rcases hs3 with rfl | rfl | rfl
    · rw [if_neg (by omega), if_neg (by omega), if_pos (by omega)]
      exact congrArg Z (by omega)
    · rw [if_neg (by omega), if_pos (by omega), if_neg (by omega)]
      exact congrArg Z (by omega)
    · rw [if_pos (by omega), if_neg (by omega), if_neg (by omega)]
      exact congrArg Z (by omega)
  · refine xr_aload_n xi_93_0 rfl ?_
    refine xr_getf xi_93_1 rfl rfl ?_
    refine xr_iconst (z := nI 4) xi_93_4 rfl ?_
    refine xr_ic_ne xi_93_5 (by first | exact tI_n (by omega) | exact tI_d (by omega) | assumption | exact tI_e1 | exact tI_e2 | exact tI_e3 | exact tI_e4) (by first | exact tI_n (by omega) | exact tI_d (by omega) | assumption | exact tI_e1 | exact tI_e2 | exact tI_e3 | exact tI_e4) (fun c_ => ?_) (fun c_ => by exfalso; omega)
    refine xr_aload_n xi_93_49 rfl ?_
    refine xr_iload_n xi_93_50 rfl ?_
    refine xr_sipush (z := nI 196) xi_93_51 rfl ?_
    refine xr_sipush (z := nI 196) xi_93_54 rfl ?_
    refine xr_aload_n xi_93_57 rfl ?_
    refine xr_getf xi_93_58 rfl rfl ?_
    refine xr_imul xi_93_61 (by first | exact pk_mul _ _ | exact rfl) ?_
    refine xr_iadd xi_93_62 (by first | exact nI_add _ _ | exact rfl) ?_
    refine xr_virt xi_93_63 rfl rfl rfl rfl (Nat.le_of_ble_eq_true rfl) (Nat.le_of_ble_eq_true rfl) ?_
    refine wm_copyOut (b := 196 + 196 * st) (by omega) (by omega) (fun Z' hz1 hz2 => ?_)
    refine xr_kv ?_
    refine xr_aload_n xi_93_66 rfl ?_
    refine xr_dup xi_93_67 ?_
    refine xr_getf xi_93_68 rfl rfl ?_
    refine xr_iconst (z := nI 1) xi_93_71 rfl ?_
    refine xr_iadd xi_93_72 (by first | exact nI_add _ _ | exact rfl) ?_
    refine xr_putf xi_93_73 rfl (Nat.le_of_ble_eq_true rfl) rfl ?_
    refine xr_ret xi_93_76 ?_
    refine hQ (st + 1) Z' ⟨by omega, fun i hi => ?_, fun s hs i hi => ?_⟩
    · rw [← hz1 i hi]
      congr 1
      omega
    · rw [hz2 _ (by omega)]
      congr 1
      omega
theorem wm_undo (hst : st ≤ 4) (h1 : st = 0 → Q (some (.int xE2)) (mJ st tx ln ag po le nu fa re od be Z G)) (h2 : 0 < st → Q (some (.int (nI (st - 1)))) (mJ (st - 1) tx ln ag po le nu fa re od be Z (fun i => if i < 196 then Z (196 + 196 * (st - 1) + i) else G i))) : xc L xs 94 [.ref 0] (mJ st tx ln ag po le nu fa re od be Z G) Q := by
  refine xr_aload_n xi_94_0 rfl ?_
  refine xr_getf xi_94_1 rfl rfl ?_
  refine xr_if_ne xi_94_4 (by first | exact tI_n (by omega) | exact tI_d (by omega) | assumption | exact tI_e1 | exact tI_e2 | exact tI_e3 | exact tI_e4) (fun c_4 => ?_) (fun c_4 => ?_)
  · refine xr_aload_n xi_94_10 rfl ?_
    refine xr_dup xi_94_11 ?_
    refine xr_getf xi_94_12 rfl rfl ?_
    refine xr_iconst (z := nI 1) xi_94_15 rfl ?_
    refine xr_isub xi_94_16 (by first | exact pk_sub (by omega) | exact nI_d _ | exact rfl) ?_
    refine xr_putf xi_94_17 rfl (Nat.le_of_ble_eq_true rfl) rfl ?_
    refine xr_aload_n xi_94_20 rfl ?_
    refine xr_sipush (z := nI 196) xi_94_21 rfl ?_
    refine xr_sipush (z := nI 196) xi_94_24 rfl ?_
    refine xr_aload_n xi_94_27 rfl ?_
    refine xr_getf xi_94_28 rfl rfl ?_
    refine xr_imul xi_94_31 (by first | exact pk_mul _ _ | exact rfl) ?_
    refine xr_iadd xi_94_32 (by first | exact nI_add _ _ | exact rfl) ?_
    refine xr_iconst (z := nI 0) xi_94_33 rfl ?_
    refine xr_virt xi_94_34 rfl rfl rfl rfl (Nat.le_of_ble_eq_true rfl) (Nat.le_of_ble_eq_true rfl) ?_
    refine wm_copyIn (a := 196 + 196 * (st - 1)) (by omega) (by omega) ?_
    refine xr_kv ?_
    refine xr_aload_n xi_94_37 rfl ?_
    refine xr_getf xi_94_38 rfl rfl ?_
    refine xr_iret xi_94_41 (fun h => absurd h (by decide)) ?_
    exact h2 (by omega)
  · refine xr_ldc (z := xE2) xi_94_7 rfl ?_
    refine xr_iret xi_94_9 (fun h => absurd h (by decide)) ?_
    exact h1 (by omega)
theorem wm_thing (hI : sInv G) (hst : st ≤ 4) (h : ∀ st' ag' Z', mPost st Z G (pThing G).1 st' Z' → Q (some (.int (pThing G).1)) (mJ st' tx ln ag' po le nu fa re od be Z' (pThing G).2)) : xc L xs 104 [.ref 0] (mJ st tx ln ag po le nu fa re od be Z G) Q := by
  have hc := hI.c
  refine xr_aload_n xi_104_0 rfl ?_
  refine xr_virt xi_104_1 rfl rfl rfl rfl (Nat.le_of_ble_eq_true rfl) (Nat.le_of_ble_eq_true rfl) ?_
  refine wm_noThing hI (fun Z' hz hr => ?_) (fun Z' hz hr h30 => ?_) (fun Z' hz hr h30 => ?_)
  · refine xr_k ?_
    rw [pThing_2 hr] at h
    refine xr_istore_n xi_104_4 (Nat.le_of_ble_eq_true rfl) rfl ?_
    refine xr_iload_n xi_104_5 rfl ?_
    refine xr_if_eq xi_104_6 (by first | exact tI_n (by omega) | exact tI_d (by omega) | assumption | exact tI_e1 | exact tI_e2 | exact tI_e3 | exact tI_e4) (fun c_ => by exfalso; omega) (fun c_ => ?_)
    refine xr_iload_n xi_104_9 rfl ?_
    refine xr_iret xi_104_10 (fun h => absurd h (by decide)) ?_
    exact h st _ Z' (mPost_e (by rw [tI_e2]; omega) hz)
  · refine xr_k ?_
    rw [pThing_3 hr h30] at h
    refine xr_istore_n xi_104_4 (Nat.le_of_ble_eq_true rfl) rfl ?_
    refine xr_iload_n xi_104_5 rfl ?_
    refine xr_if_eq xi_104_6 (by first | exact tI_n (by omega) | exact tI_d (by omega) | assumption | exact tI_e1 | exact tI_e2 | exact tI_e3 | exact tI_e4) (fun c_ => by exfalso; omega) (fun c_ => ?_)
    refine xr_iload_n xi_104_9 rfl ?_
    refine xr_iret xi_104_10 (fun h => absurd h (by decide)) ?_
    exact h st _ Z' (mPost_e (by rw [tI_e3]; omega) hz)
  · refine xr_k ?_
    cases hr2 : sRoom G 1 with
    | none => exact absurd hr2 hr
    | some q =>
      obtain ⟨p, G1⟩ := q
      rw [pThing_0 hr2 h30] at h
      refine xr_istore_n xi_104_4 (Nat.le_of_ble_eq_true rfl) rfl ?_
      refine xr_iload_n xi_104_5 rfl ?_
      refine xr_if_eq xi_104_6 (by first | exact tI_n (by omega) | exact tI_d (by omega) | assumption | exact tI_e1 | exact tI_e2 | exact tI_e3 | exact tI_e4) (fun c_ => ?_) (fun c_ => by exfalso; omega)
      refine xr_aload_n xi_104_11 rfl ?_
      refine xr_iconst (z := nI 0) xi_104_12 rfl ?_
      refine xr_virt xi_104_13 rfl rfl rfl rfl (Nat.le_of_ble_eq_true rfl) (Nat.le_of_ble_eq_true rfl) ?_
      refine wm_record hst (fun st' Z'' hz2 => ?_)
      refine xr_kv ?_
      refine xr_aload_n xi_104_16 rfl ?_
      refine xr_virt xi_104_17 rfl rfl rfl rfl (Nat.le_of_ble_eq_true rfl) (Nat.le_of_ble_eq_true rfl) ?_
      refine wm_doThing hI h30 hr2 ?_
      refine xr_k ?_
      refine xr_iret xi_104_20 (fun h => absurd h (by decide)) ?_
      exact h st' _ Z'' (mPost_c (by omega) (hrec_congr hst hz2 hz))
theorem wm_hold {x y : Int32} (hI : sInv G) (hst : st ≤ 4) (h : ∀ st' ag' Z', mPost st Z G (pHold G x y).1 st' Z' → Q (some (.int (pHold G x y).1)) (mJ st' tx ln ag' po le nu fa re od be Z' (pHold G x y).2)) : xc L xs 107 [.ref 0, .int x, .int y] (mJ st tx ln ag po le nu fa re od be Z G) Q := by
  refine xr_aload_n xi_107_0 rfl ?_
  refine xr_iload_n xi_107_1 rfl ?_
  refine xr_iload_n xi_107_2 rfl ?_
  refine xr_virt xi_107_3 rfl rfl rfl rfl (Nat.le_of_ble_eq_true rfl) (Nat.le_of_ble_eq_true rfl) ?_
  refine wm_noHold hI (fun a t ha ht e1 e2 => ?_) (fun hn => ?_)
  · subst e1
    subst e2
    rw [pHold_0 hI ha ht] at h
    refine xr_k ?_
    refine xr_istore_n xi_107_6 (Nat.le_of_ble_eq_true rfl) rfl ?_
    refine xr_iload_n xi_107_7 rfl ?_
    refine xr_if_eq xi_107_8 (by first | exact tI_n (by omega) | exact tI_d (by omega) | assumption | exact tI_e1 | exact tI_e2 | exact tI_e3 | exact tI_e4) (fun c_ => ?_) (fun c_ => by exfalso; omega)
    refine xr_aload_n xi_107_13 rfl ?_
    refine xr_iconst (z := nI 0) xi_107_14 rfl ?_
    refine xr_virt xi_107_15 rfl rfl rfl rfl (Nat.le_of_ble_eq_true rfl) (Nat.le_of_ble_eq_true rfl) ?_
    refine wm_record hst (fun st' Z'' hz2 => ?_)
    refine xr_kv ?_
    refine xr_aload_n xi_107_18 rfl ?_
    refine xr_iload_n xi_107_19 rfl ?_
    refine xr_iload_n xi_107_20 rfl ?_
    refine xr_virt xi_107_21 rfl rfl rfl rfl (Nat.le_of_ble_eq_true rfl) (Nat.le_of_ble_eq_true rfl) ?_
    refine wm_doHold ha (hI.lt ht) hI ?_
    refine xr_k ?_
    refine xr_iret xi_107_24 (fun h => absurd h (by decide)) ?_
    exact h st' _ Z'' (mPost_c (by have := cnt_le (fun k => 0 < un G (12 + a) (t + 1) (12 + k)) 4; omega) hz2)
  · rw [pHold_1 hn] at h
    refine xr_k ?_
    refine xr_istore_n xi_107_6 (Nat.le_of_ble_eq_true rfl) rfl ?_
    refine xr_iload_n xi_107_7 rfl ?_
    refine xr_if_eq xi_107_8 (by first | exact tI_n (by omega) | exact tI_d (by omega) | assumption | exact tI_e1 | exact tI_e2 | exact tI_e3 | exact tI_e4) (fun c_ => by exfalso; omega) (fun c_ => ?_)
    refine xr_iload_n xi_107_11 rfl ?_
    refine xr_iret xi_107_12 (fun h => absurd h (by decide)) ?_
    exact h st _ Z (mPost_e (by rw [tI_e1]; omega) (fun _ _ => rfl))
theorem wm_release {x : Int32} (hI : sInv G) (hst : st ≤ 4) (h : ∀ st' ag' Z', mPost st Z G (pRelease G x).1 st' Z' → Q (some (.int (pRelease G x).1)) (mJ st' tx ln ag' po le nu fa re od be Z' (pRelease G x).2)) : xc L xs 110 [.ref 0, .int x] (mJ st tx ln ag po le nu fa re od be Z G) Q := by
  refine xr_aload_n xi_110_0 rfl ?_
  refine xr_iload_n xi_110_1 rfl ?_
  refine xr_virt xi_110_2 rfl rfl rfl rfl (Nat.le_of_ble_eq_true rfl) (Nat.le_of_ble_eq_true rfl) ?_
  refine wm_noRelease hI (fun a ha e1 h0 => ?_) (fun a ha e1 h0 => ?_) (fun hn => ?_)
  · subst e1
    have h30 := (hI.h ha).1
    rw [pRelease_0 ha h0, ← dI_pos h0] at h
    refine xr_k ?_
    refine xr_istore_n xi_110_5 (Nat.le_of_ble_eq_true rfl) rfl ?_
    refine xr_iload_n xi_110_6 rfl ?_
    refine xr_if_eq xi_110_7 (by first | exact tI_n (by omega) | exact tI_d (by omega) | assumption | exact tI_e1 | exact tI_e2 | exact tI_e3 | exact tI_e4) (fun c_ => ?_) (fun c_ => by exfalso; omega)
    refine xr_aload_n xi_110_12 rfl ?_
    refine xr_iconst (z := nI 0) xi_110_13 rfl ?_
    refine xr_virt xi_110_14 rfl rfl rfl rfl (Nat.le_of_ble_eq_true rfl) (Nat.le_of_ble_eq_true rfl) ?_
    refine wm_record hst (fun st' Z'' hz2 => ?_)
    refine xr_kv ?_
    refine xr_aload_n xi_110_17 rfl ?_
    refine xr_iload_n xi_110_18 rfl ?_
    refine xr_virt xi_110_19 rfl rfl rfl rfl (Nat.le_of_ble_eq_true rfl) (Nat.le_of_ble_eq_true rfl) ?_
    refine wm_doRelease ha ?_
    refine xr_k ?_
    refine xr_iret xi_110_22 (fun h => absurd h (by decide)) ?_
    exact h st' _ Z'' (by rw [dI_pos h0]; exact mPost_c (by omega) hz2)
  · subst e1
    rw [pRelease_2 ha h0] at h
    refine xr_k ?_
    refine xr_istore_n xi_110_5 (Nat.le_of_ble_eq_true rfl) rfl ?_
    refine xr_iload_n xi_110_6 rfl ?_
    refine xr_if_eq xi_110_7 (by first | exact tI_n (by omega) | exact tI_d (by omega) | assumption | exact tI_e1 | exact tI_e2 | exact tI_e3 | exact tI_e4) (fun c_ => by exfalso; omega) (fun c_ => ?_)
    refine xr_iload_n xi_110_10 rfl ?_
    refine xr_iret xi_110_11 (fun h => absurd h (by decide)) ?_
    exact h st _ Z (mPost_e (by rw [tI_e2]; omega) (fun _ _ => rfl))
  · rw [pRelease_1 hn] at h
    refine xr_k ?_
    refine xr_istore_n xi_110_5 (Nat.le_of_ble_eq_true rfl) rfl ?_
    refine xr_iload_n xi_110_6 rfl ?_
    refine xr_if_eq xi_110_7 (by first | exact tI_n (by omega) | exact tI_d (by omega) | assumption | exact tI_e1 | exact tI_e2 | exact tI_e3 | exact tI_e4) (fun c_ => by exfalso; omega) (fun c_ => ?_)
    refine xr_iload_n xi_110_10 rfl ?_
    refine xr_iret xi_110_11 (fun h => absurd h (by decide)) ?_
    exact h st _ Z (mPost_e (by rw [tI_e1]; omega) (fun _ _ => rfl))
theorem wm_tie {x y z : Int32} (hI : sInv G) (hst : st ≤ 4) (h : ∀ st' ag' Z', mPost st Z G (pTie G x y z).1 st' Z' → Q (some (.int (pTie G x y z).1)) (mJ st' tx ln ag' po le nu fa re od be Z' (pTie G x y z).2)) : xc L xs 113 [.ref 0, .int x, .int y, .int z] (mJ st tx ln ag po le nu fa re od be Z G) Q := by
  refine xr_aload_n xi_113_0 rfl ?_
  refine xr_iload_n xi_113_1 rfl ?_
  refine xr_iload_n xi_113_2 rfl ?_
  refine xr_iload_n xi_113_3 rfl ?_
  refine xr_virt xi_113_4 rfl rfl rfl rfl (Nat.le_of_ble_eq_true rfl) (Nat.le_of_ble_eq_true rfl) ?_
  refine wm_noTie hI (fun t s u ht hs hu e1 e2 e3 => ?_) (fun hn => ?_)
  · subst e1
    subst e2
    subst e3
    rw [pTie_0 hI ht hs hu] at h
    refine xr_k ?_
    refine xr_istore xi_113_7 (Nat.le_of_ble_eq_true rfl) rfl ?_
    refine xr_iload xi_113_9 rfl ?_
    refine xr_if_eq xi_113_11 (by first | exact tI_n (by omega) | exact tI_d (by omega) | assumption | exact tI_e1 | exact tI_e2 | exact tI_e3 | exact tI_e4) (fun c_ => ?_) (fun c_ => by exfalso; omega)
    refine xr_aload_n xi_113_17 rfl ?_
    refine xr_iconst (z := nI 0) xi_113_18 rfl ?_
    refine xr_virt xi_113_19 rfl rfl rfl rfl (Nat.le_of_ble_eq_true rfl) (Nat.le_of_ble_eq_true rfl) ?_
    refine wm_record hst (fun st' Z'' hz2 => ?_)
    refine xr_kv ?_
    refine xr_aload_n xi_113_22 rfl ?_
    refine xr_iload_n xi_113_23 rfl ?_
    refine xr_iload_n xi_113_24 rfl ?_
    refine xr_iload_n xi_113_25 rfl ?_
    refine xr_virt xi_113_26 rfl rfl rfl rfl (Nat.le_of_ble_eq_true rfl) (Nat.le_of_ble_eq_true rfl) ?_
    refine wm_doTie hI ht hs hu (fun c => ?_) (fun c => ?_)
    · refine xr_k ?_
      refine xr_iret xi_113_29 (fun h => absurd h (by decide)) ?_
      rw [if_pos c] at h
      exact h st' _ Z'' (mPost_c (by omega) hz2)
    · refine xr_k ?_
      refine xr_iret xi_113_29 (fun h => absurd h (by decide)) ?_
      rw [if_neg c] at h
      exact h st' _ Z'' (mPost_c (by omega) hz2)
  · rw [pTie_1 hn] at h
    refine xr_k ?_
    refine xr_istore xi_113_7 (Nat.le_of_ble_eq_true rfl) rfl ?_
    refine xr_iload xi_113_9 rfl ?_
    refine xr_if_eq xi_113_11 (by first | exact tI_n (by omega) | exact tI_d (by omega) | assumption | exact tI_e1 | exact tI_e2 | exact tI_e3 | exact tI_e4) (fun c_ => by exfalso; omega) (fun c_ => ?_)
    refine xr_iload xi_113_14 rfl ?_
    refine xr_iret xi_113_16 (fun h => absurd h (by decide)) ?_
    exact h st _ Z (mPost_e (by rw [tI_e1]; omega) (fun _ _ => rfl))
theorem wm_loosen {x y : Int32} (hI : sInv G) (hst : st ≤ 4) (h : ∀ st' ag' Z', mPost st Z G (pLoosen G x y).1 st' Z' → Q (some (.int (pLoosen G x y).1)) (mJ st' tx ln ag' po le nu fa re od be Z' (pLoosen G x y).2)) : xc L xs 116 [.ref 0, .int x, .int y] (mJ st tx ln ag po le nu fa re od be Z G) Q := by
  refine xr_aload_n xi_116_0 rfl ?_
  refine xr_iload_n xi_116_1 rfl ?_
  refine xr_iload_n xi_116_2 rfl ?_
  refine xr_virt xi_116_3 rfl rfl rfl rfl (Nat.le_of_ble_eq_true rfl) (Nat.le_of_ble_eq_true rfl) ?_
  refine wm_noLoosen hI (fun t s ht hs e1 e2 h0 => ?_) (fun t s ht hs e1 e2 h0 => ?_) (fun hn => ?_)
  · subst e1
    subst e2
    have ht3 := hI.lt ht
    have h30 := (hI.t ht3 hs).1
    rw [pLoosen_0 hI ht hs h0, ← dI_pos h0] at h
    refine xr_k ?_
    refine xr_istore_n xi_116_6 (Nat.le_of_ble_eq_true rfl) rfl ?_
    refine xr_iload_n xi_116_7 rfl ?_
    refine xr_if_eq xi_116_8 (by first | exact tI_n (by omega) | exact tI_d (by omega) | assumption | exact tI_e1 | exact tI_e2 | exact tI_e3 | exact tI_e4) (fun c_ => ?_) (fun c_ => by exfalso; omega)
    refine xr_aload_n xi_116_13 rfl ?_
    refine xr_iconst (z := nI 0) xi_116_14 rfl ?_
    refine xr_virt xi_116_15 rfl rfl rfl rfl (Nat.le_of_ble_eq_true rfl) (Nat.le_of_ble_eq_true rfl) ?_
    refine wm_record hst (fun st' Z'' hz2 => ?_)
    refine xr_kv ?_
    refine xr_aload_n xi_116_18 rfl ?_
    refine xr_iload_n xi_116_19 rfl ?_
    refine xr_iload_n xi_116_20 rfl ?_
    refine xr_virt xi_116_21 rfl rfl rfl rfl (Nat.le_of_ble_eq_true rfl) (Nat.le_of_ble_eq_true rfl) ?_
    refine wm_doLoosen ht3 hs ?_
    refine xr_k ?_
    refine xr_iret xi_116_24 (fun h => absurd h (by decide)) ?_
    exact h st' _ Z'' (by rw [dI_pos h0]; exact mPost_c (by omega) hz2)
  · subst e1
    subst e2
    rw [pLoosen_2 hI ht hs h0] at h
    refine xr_k ?_
    refine xr_istore_n xi_116_6 (Nat.le_of_ble_eq_true rfl) rfl ?_
    refine xr_iload_n xi_116_7 rfl ?_
    refine xr_if_eq xi_116_8 (by first | exact tI_n (by omega) | exact tI_d (by omega) | assumption | exact tI_e1 | exact tI_e2 | exact tI_e3 | exact tI_e4) (fun c_ => by exfalso; omega) (fun c_ => ?_)
    refine xr_iload_n xi_116_11 rfl ?_
    refine xr_iret xi_116_12 (fun h => absurd h (by decide)) ?_
    exact h st _ Z (mPost_e (by rw [tI_e2]; omega) (fun _ _ => rfl))
  · rw [pLoosen_1 hn] at h
    refine xr_k ?_
    refine xr_istore_n xi_116_6 (Nat.le_of_ble_eq_true rfl) rfl ?_
    refine xr_iload_n xi_116_7 rfl ?_
    refine xr_if_eq xi_116_8 (by first | exact tI_n (by omega) | exact tI_d (by omega) | assumption | exact tI_e1 | exact tI_e2 | exact tI_e3 | exact tI_e4) (fun c_ => by exfalso; omega) (fun c_ => ?_)
    refine xr_iload_n xi_116_11 rfl ?_
    refine xr_iret xi_116_12 (fun h => absurd h (by decide)) ?_
    exact h st _ Z (mPost_e (by rw [tI_e1]; omega) (fun _ _ => rfl))
theorem wm_pin {x : Int32} (hI : sInv G) (hst : st ≤ 4) (h : ∀ st' ag' Z', mPost st Z G (pPin G x 1).1 st' Z' → Q (some (.int (pPin G x 1).1)) (mJ st' tx ln ag' po le nu fa re od be Z' (pPin G x 1).2)) : xc L xs 120 [.ref 0, .int x] (mJ st tx ln ag po le nu fa re od be Z G) Q := by
  refine xr_aload_n xi_120_0 rfl ?_
  refine xr_iload_n xi_120_1 rfl ?_
  refine xr_iconst (z := nI 1) xi_120_2 rfl ?_
  refine xr_virt xi_120_3 rfl rfl rfl rfl (Nat.le_of_ble_eq_true rfl) (Nat.le_of_ble_eq_true rfl) ?_
  refine wm_noPin (by omega) hI (fun t ht e h0 => ?_) (fun t ht e h0 => ?_) (fun hn => ?_)
  · subst e
    rw [pPin_0 hI ht h0] at h
    refine xr_k ?_
    refine xr_istore_n xi_120_6 (Nat.le_of_ble_eq_true rfl) rfl ?_
    refine xr_iload_n xi_120_7 rfl ?_
    refine xr_if_eq xi_120_8 (by first | exact tI_n (by omega) | exact tI_d (by omega) | assumption | exact tI_e1 | exact tI_e2 | exact tI_e3 | exact tI_e4) (fun c_ => ?_) (fun c_ => by exfalso; omega)
    refine xr_aload_n xi_120_13 rfl ?_
    refine xr_iconst (z := nI 0) xi_120_14 rfl ?_
    refine xr_virt xi_120_15 rfl rfl rfl rfl (Nat.le_of_ble_eq_true rfl) (Nat.le_of_ble_eq_true rfl) ?_
    refine wm_record hst (fun st' Z'' hz2 => ?_)
    refine xr_kv ?_
    refine xr_aload_n xi_120_18 rfl ?_
    refine xr_iload_n xi_120_19 rfl ?_
    refine xr_iconst (z := nI 1) xi_120_20 rfl ?_
    refine xr_virt xi_120_21 rfl rfl rfl rfl (Nat.le_of_ble_eq_true rfl) (Nat.le_of_ble_eq_true rfl) ?_
    refine wm_doPin hI ht (by omega) ?_
    refine xr_k ?_
    refine xr_iret xi_120_24 (fun h => absurd h (by decide)) ?_
    exact h st' _ Z'' (mPost_c (by have := cnt_le (sPin (un G (ri t 1) 1)) 30; omega) hz2)
  · subst e
    rw [pPin_2 hI ht h0] at h
    refine xr_k ?_
    refine xr_istore_n xi_120_6 (Nat.le_of_ble_eq_true rfl) rfl ?_
    refine xr_iload_n xi_120_7 rfl ?_
    refine xr_if_eq xi_120_8 (by first | exact tI_n (by omega) | exact tI_d (by omega) | assumption | exact tI_e1 | exact tI_e2 | exact tI_e3 | exact tI_e4) (fun c_ => by exfalso; omega) (fun c_ => ?_)
    refine xr_iload_n xi_120_11 rfl ?_
    refine xr_iret xi_120_12 (fun h => absurd h (by decide)) ?_
    exact h st _ Z (mPost_e (by rw [tI_e2]; omega) (fun _ _ => rfl))
  · rw [pPin_1 hn] at h
    refine xr_k ?_
    refine xr_istore_n xi_120_6 (Nat.le_of_ble_eq_true rfl) rfl ?_
    refine xr_iload_n xi_120_7 rfl ?_
    refine xr_if_eq xi_120_8 (by first | exact tI_n (by omega) | exact tI_d (by omega) | assumption | exact tI_e1 | exact tI_e2 | exact tI_e3 | exact tI_e4) (fun c_ => by exfalso; omega) (fun c_ => ?_)
    refine xr_iload_n xi_120_11 rfl ?_
    refine xr_iret xi_120_12 (fun h => absurd h (by decide)) ?_
    exact h st _ Z (mPost_e (by rw [tI_e1]; omega) (fun _ _ => rfl))
theorem wm_unpin {x : Int32} (hI : sInv G) (hst : st ≤ 4) (h : ∀ st' ag' Z', mPost st Z G (pPin G x 0).1 st' Z' → Q (some (.int (pPin G x 0).1)) (mJ st' tx ln ag' po le nu fa re od be Z' (pPin G x 0).2)) : xc L xs 121 [.ref 0, .int x] (mJ st tx ln ag po le nu fa re od be Z G) Q := by
  refine xr_aload_n xi_121_0 rfl ?_
  refine xr_iload_n xi_121_1 rfl ?_
  refine xr_iconst (z := nI 0) xi_121_2 rfl ?_
  refine xr_virt xi_121_3 rfl rfl rfl rfl (Nat.le_of_ble_eq_true rfl) (Nat.le_of_ble_eq_true rfl) ?_
  refine wm_noPin (by omega) hI (fun t ht e h0 => ?_) (fun t ht e h0 => ?_) (fun hn => ?_)
  · subst e
    rw [pPin_0 hI ht h0] at h
    refine xr_k ?_
    refine xr_istore_n xi_121_6 (Nat.le_of_ble_eq_true rfl) rfl ?_
    refine xr_iload_n xi_121_7 rfl ?_
    refine xr_if_eq xi_121_8 (by first | exact tI_n (by omega) | exact tI_d (by omega) | assumption | exact tI_e1 | exact tI_e2 | exact tI_e3 | exact tI_e4) (fun c_ => ?_) (fun c_ => by exfalso; omega)
    refine xr_aload_n xi_121_13 rfl ?_
    refine xr_iconst (z := nI 0) xi_121_14 rfl ?_
    refine xr_virt xi_121_15 rfl rfl rfl rfl (Nat.le_of_ble_eq_true rfl) (Nat.le_of_ble_eq_true rfl) ?_
    refine wm_record hst (fun st' Z'' hz2 => ?_)
    refine xr_kv ?_
    refine xr_aload_n xi_121_18 rfl ?_
    refine xr_iload_n xi_121_19 rfl ?_
    refine xr_iconst (z := nI 0) xi_121_20 rfl ?_
    refine xr_virt xi_121_21 rfl rfl rfl rfl (Nat.le_of_ble_eq_true rfl) (Nat.le_of_ble_eq_true rfl) ?_
    refine wm_doPin hI ht (by omega) ?_
    refine xr_k ?_
    refine xr_iret xi_121_24 (fun h => absurd h (by decide)) ?_
    exact h st' _ Z'' (mPost_c (by have := cnt_le (sPin (un G (ri t 1) 0)) 30; omega) hz2)
  · subst e
    rw [pPin_2 hI ht h0] at h
    refine xr_k ?_
    refine xr_istore_n xi_121_6 (Nat.le_of_ble_eq_true rfl) rfl ?_
    refine xr_iload_n xi_121_7 rfl ?_
    refine xr_if_eq xi_121_8 (by first | exact tI_n (by omega) | exact tI_d (by omega) | assumption | exact tI_e1 | exact tI_e2 | exact tI_e3 | exact tI_e4) (fun c_ => by exfalso; omega) (fun c_ => ?_)
    refine xr_iload_n xi_121_11 rfl ?_
    refine xr_iret xi_121_12 (fun h => absurd h (by decide)) ?_
    exact h st _ Z (mPost_e (by rw [tI_e2]; omega) (fun _ _ => rfl))
  · rw [pPin_1 hn] at h
    refine xr_k ?_
    refine xr_istore_n xi_121_6 (Nat.le_of_ble_eq_true rfl) rfl ?_
    refine xr_iload_n xi_121_7 rfl ?_
    refine xr_if_eq xi_121_8 (by first | exact tI_n (by omega) | exact tI_d (by omega) | assumption | exact tI_e1 | exact tI_e2 | exact tI_e3 | exact tI_e4) (fun c_ => by exfalso; omega) (fun c_ => ?_)
    refine xr_iload_n xi_121_11 rfl ?_
    refine xr_iret xi_121_12 (fun h => absurd h (by decide)) ?_
    exact h st _ Z (mPost_e (by rw [tI_e1]; omega) (fun _ _ => rfl))
theorem wm_winter {x : Int32} (hI : sInv G) (hst : st ≤ 4) (h : ∀ st' ag' Z', mPost st Z G (pWinter G x).1 st' Z' → Q (some (.int (pWinter G x).1)) (mJ st' tx ln ag' po le nu fa re od be Z' (pWinter G x).2)) : xc L xs 134 [.ref 0, .int x] (mJ st tx ln ag po le nu fa re od be Z G) Q := by
  refine xr_aload_n xi_134_0 rfl ?_
  refine xr_iload_n xi_134_1 rfl ?_
  refine xr_virt xi_134_2 rfl rfl rfl rfl (Nat.le_of_ble_eq_true rfl) (Nat.le_of_ble_eq_true rfl) ?_
  refine wm_noWinter hI (fun a Z' ag' ha e hz hw => ?_) (fun a Z' ag' ha e hz hw => ?_) (fun hn => ?_)
  · subst e
    cases hw2 : sWin G a with
    | none => exact absurd hw2 hw
    | some G' =>
      rw [pWinter_0 ha hw2] at h
      obtain ⟨hI', hl', -⟩ := sWin_inv hI ha hw2
      refine xr_k ?_
      refine xr_istore_n xi_134_5 (Nat.le_of_ble_eq_true rfl) rfl ?_
      refine xr_iload_n xi_134_6 rfl ?_
      refine xr_if_eq xi_134_7 (by first | exact tI_n (by omega) | exact tI_d (by omega) | assumption | exact tI_e1 | exact tI_e2 | exact tI_e3 | exact tI_e4) (fun c_ => ?_) (fun c_ => by exfalso; omega)
      refine xr_aload_n xi_134_12 rfl ?_
      refine xr_iconst (z := nI 0) xi_134_13 rfl ?_
      refine xr_virt xi_134_14 rfl rfl rfl rfl (Nat.le_of_ble_eq_true rfl) (Nat.le_of_ble_eq_true rfl) ?_
      refine wm_record hst (fun st' Z'' hz2 => ?_)
      refine xr_kv ?_
      refine xr_aload_n xi_134_17 rfl ?_
      refine xr_virt xi_134_18 rfl rfl rfl rfl (Nat.le_of_ble_eq_true rfl) (Nat.le_of_ble_eq_true rfl) ?_
      refine wm_all hI ?_
      refine xr_k ?_
      refine xr_stat xi_134_21 (by decide) rfl rfl (Nat.le_of_ble_eq_true rfl) (Nat.le_of_ble_eq_true rfl) ?_
      refine wm_bits ?_
      refine xr_k ?_
      refine xr_istore_n xi_134_24 (Nat.le_of_ble_eq_true rfl) rfl ?_
      refine xr_aload_n xi_134_25 rfl ?_
      refine xr_iload_n xi_134_26 rfl ?_
      refine xr_virt xi_134_27 rfl rfl rfl rfl (Nat.le_of_ble_eq_true rfl) (Nat.le_of_ble_eq_true rfl) ?_
      refine wm_comes ha hI (fun G'' hg hh => ?_) (fun hg => ?_)
      · rw [hw2] at hg
        cases hg
        have hgl : ∀ t, t < 30 → sGone G a t → sAll G t := fun t _ q => (sAll_l hI).mpr q.1.1
        have e1 : cnt (sAll G') 30 = cnt (fun t => sAll G t ∧ ¬ sGone G a t) 30 := cnt_congr 30 (fun t _ => by rw [sAll_l hI', hl', sAll_l hI])
        have e2 := cnt_sub 30 hgl
        refine xr_k ?_
        refine xr_pop xi_134_30 ?_
        refine xr_iload_n xi_134_31 rfl ?_
        refine xr_aload_n xi_134_32 rfl ?_
        refine xr_virt xi_134_33 rfl rfl rfl rfl (Nat.le_of_ble_eq_true rfl) (Nat.le_of_ble_eq_true rfl) ?_
        refine wm_all hI' ?_
        refine xr_k ?_
        refine xr_stat xi_134_36 (by decide) rfl rfl (Nat.le_of_ble_eq_true rfl) (Nat.le_of_ble_eq_true rfl) ?_
        refine wm_bits ?_
        refine xr_k ?_
        refine xr_isub xi_134_39 ((pk_sub (by omega)).trans (congrArg nI (show cnt (sAll G) 30 - cnt (sAll G') 30 = cnt (sGone G a) 30 by omega))) ?_
        refine xr_iret xi_134_40 (fun h => absurd h (by decide)) ?_
        exact h st' _ Z'' (mPost_c (by have := cnt_le (sGone G a) 30; omega) (hrec_congr hst hz2 hz))
      · rw [hw2] at hg
        cases hg
  · subst e
    rw [pWinter_2 ha hw] at h
    refine xr_k ?_
    refine xr_istore_n xi_134_5 (Nat.le_of_ble_eq_true rfl) rfl ?_
    refine xr_iload_n xi_134_6 rfl ?_
    refine xr_if_eq xi_134_7 (by first | exact tI_n (by omega) | exact tI_d (by omega) | assumption | exact tI_e1 | exact tI_e2 | exact tI_e3 | exact tI_e4) (fun c_ => by exfalso; omega) (fun c_ => ?_)
    refine xr_iload_n xi_134_10 rfl ?_
    refine xr_iret xi_134_11 (fun h => absurd h (by decide)) ?_
    exact h st _ Z' (mPost_e (by rw [tI_e2]; omega) hz)
  · rw [pWinter_1 hn] at h
    refine xr_k ?_
    refine xr_istore_n xi_134_5 (Nat.le_of_ble_eq_true rfl) rfl ?_
    refine xr_iload_n xi_134_6 rfl ?_
    refine xr_if_eq xi_134_7 (by first | exact tI_n (by omega) | exact tI_d (by omega) | assumption | exact tI_e1 | exact tI_e2 | exact tI_e3 | exact tI_e4) (fun c_ => by exfalso; omega) (fun c_ => ?_)
    refine xr_iload_n xi_134_10 rfl ?_
    refine xr_iret xi_134_11 (fun h => absurd h (by decide)) ?_
    exact h st _ Z (mPost_e (by rw [tI_e1]; omega) (fun _ _ => rfl))
theorem wm_full (hI : sInv G) (hst : st ≤ 4) (h : ∀ st' ag' Z', mPost st Z G (pFull G).1 st' Z' → Q (some (.int (pFull G).1)) (mJ st' tx ln ag' po le nu fa re od be Z' (pFull G).2)) : xc L xs 136 [.ref 0] (mJ st tx ln ag po le nu fa re od be Z G) Q := by
  refine xr_aload_n xi_136_0 rfl ?_
  refine xr_iconst (z := nI 0) xi_136_1 rfl ?_
  refine xr_virt xi_136_2 rfl rfl rfl rfl (Nat.le_of_ble_eq_true rfl) (Nat.le_of_ble_eq_true rfl) ?_
  refine wm_record hst (fun st' Z'' hz2 => ?_)
  refine xr_kv ?_
  refine xr_aload_n xi_136_5 rfl ?_
  refine xr_virt xi_136_6 rfl rfl rfl rfl (Nat.le_of_ble_eq_true rfl) (Nat.le_of_ble_eq_true rfl) ?_
  refine wm_doFull hI ?_
  refine xr_k ?_
  refine xr_iret xi_136_9 (fun h => absurd h (by decide)) ?_
  exact h st' _ Z'' (mPost_c (by have := cnt_le (sForg G) 30; omega) hz2)
end M6
