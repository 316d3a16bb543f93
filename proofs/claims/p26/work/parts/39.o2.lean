/-! the orders: carrying them out -/
def oP (tx : Nat → Nat) (ln : Nat) (Q : Option Value → xm_H → Prop) (S : Nat × Nat × Nat × (Nat → Nat)) : Prop := ∀ A Gs Sp Ti Mv Hd pin c w f m nu po sta cI, (S.1 = 0 → cI = S.2.2.1 ∧ vR A Gs Sp Ti Mv Hd pin c w f m S.2.2.2) → (S.1 ≠ 0 → sta = S.2.1) → Q (some (.int (nI cI))) ((vH A Gs Sp Ti Mv Hd pin c w f m) ++ oT tx nu ln po sta S.1)
section O2
variable {L : Nat} {xs : Nat → Int32} {Q : Option Value → xm_H → Prop} {A Gs Sp Ti Mv Hd G : Nat → Nat} {pin : Int32} {c w f m : Nat}
variable {tx nu : Nat → Nat} {ln po sta rea : Nat}
theorem wo_readOrder (ht : tOk tx ln) (hp : po < ln) (h1 : ∀ v ns p' nu', sOrd tx ln po = some (tC tx ln po, ns, p') → sWant (tC tx ln po) = some v → (∀ i, i < v → nu' i = ns i) → Q (some (.int (nI 1))) ((vH A Gs Sp Ti Mv Hd pin c w f m) ++ oT tx nu' ln p' sta rea)) (h2 : ∀ p' nu', p' < 1000 → sOrd tx ln po = none → Q (some (.int (nI 0))) ((vH A Gs Sp Ti Mv Hd pin c w f m) ++ oT tx nu' ln p' sta rea)) : xc L xs 3 [.ref 7, .int (nI (tC tx ln po))] (vH A Gs Sp Ti Mv Hd pin c w f m ++ oT tx nu ln po sta rea) Q := by
  have hl := ht.1
  have hle := tC_le ht po
  refine xr_iload_n xi_3_0 rfl ?_
  refine xr_stat xi_3_1 (by decide) rfl rfl (Nat.le_of_ble_eq_true rfl) (Nat.le_of_ble_eq_true rfl) ?_
  refine wo_numbersOf (by omega) (fun v hw => ?_) (fun hw => ?_)
  · have hw4 : v ≤ 3 := by
      unfold sWant at hw
      split at hw
      · cases hw; omega
      · split at hw
        · cases hw; omega
        · split at hw
          · cases hw; omega
          · split at hw
            · cases hw; omega
            · cases hw
    have key : ∀ d k p ns x4, k + d = v → p ≤ ln + 3 * k + 1 → sArgs tx ln d k p ns = sArgs tx ln v 0 (po + 1) (fun _ => 0) → xw L xs 3 24 [.ref 7, .int (nI (tC tx ln po)), .int (nI v), .int (nI k), x4] [] ((vH A Gs Sp Ti Mv Hd pin c w f m) ++ oT tx (mg ns nu k) ln p sta rea) Q := by
      intro d
      induction d with
      | zero =>
        intro k p ns x4 hk hp2 hs
        have e : k = v := by omega
        subst e
        refine xr_iload_n xi_3_24 rfl ?_
        refine xr_iload_n xi_3_25 rfl ?_
        refine xr_ic_ge xi_3_26 (by first | exact tI_n (by omega) | exact tI_d (by omega) | assumption | exact tI_e1 | exact tI_e2 | exact tI_e3 | exact tI_e4) (by first | exact tI_n (by omega) | exact tI_d (by omega) | assumption | exact tI_e1 | exact tI_e2 | exact tI_e3 | exact tI_e4) (fun c_ => ?_) (fun c_ => by exfalso; omega)
        refine xr_aload_n xi_3_77 rfl ?_
        refine xr_bipush (z := nI 59) xi_3_78 rfl ?_
        refine xr_virt xi_3_80 rfl rfl rfl rfl (Nat.le_of_ble_eq_true rfl) (Nat.le_of_ble_eq_true rfl) ?_
        refine wo_skip ht (by omega) (by omega) (by omega) (fun hc => ?_) (fun hc => ?_)
        · refine xr_k ?_
          refine xr_iret xi_3_83 (fun _ => (by first | exact Or.inl rfl | exact Or.inr rfl | assumption)) ?_
          refine h1 k ns (p + 1) _ ?_ hw (fun i hi => if_pos hi)
          unfold sOrd
          rw [hw]
          dsimp only
          rw [← hs]
          simp only [sArgs, sSig, if_pos hc]
        · refine xr_k ?_
          refine xr_iret xi_3_83 (fun _ => (by first | exact Or.inl rfl | exact Or.inr rfl | assumption)) ?_
          refine h2 p _ (by omega) ?_
          unfold sOrd
          rw [hw]
          dsimp only
          rw [← hs]
          simp only [sArgs, sSig, if_neg hc]
      | succ d ih =>
        intro k p ns x4 hk hp2 hs
        have hnone : sArgs tx ln (d + 1) k p ns = none → sOrd tx ln po = none := by
          intro q
          unfold sOrd
          rw [hw]
          dsimp only
          rw [← hs, q]
        have num : ∀ p1, (if k = 0 then some p else sSig tx ln 44 p) = some p1 → p1 ≤ ln + 3 * k + 2 → xw L xs 3 49 [.ref 7, .int (nI (tC tx ln po)), .int (nI v), .int (nI k), x4] [] ((vH A Gs Sp Ti Mv Hd pin c w f m) ++ oT tx (mg ns nu k) ln p1 sta rea) Q := by
          intro p1 hp1 hpl
          refine xr_aload_n xi_3_49 rfl ?_
          refine xr_virt xi_3_50 rfl rfl rfl rfl (Nat.le_of_ble_eq_true rfl) (Nat.le_of_ble_eq_true rfl) ?_
          refine wo_number ht (by omega) (fun z p2 hn => ?_) (fun hn => ?_)
          · have hnl := sNum_le hn
            have e : mF (un (mg ns nu k) k z) = mF (mg (un ns k z) nu (k + 1)) := congrArg mF (mg_s ns nu k z)
            refine xr_k ?_
            refine xr_istore xi_3_53 (Nat.le_of_ble_eq_true rfl) rfl ?_
            refine xr_iload xi_3_55 rfl ?_
            refine xr_iconst (z := dI 0) xi_3_57 xm_m1 ?_
            refine xr_ic_ne xi_3_58 (by first | exact tI_n (by omega) | exact tI_d (by omega) | assumption | exact tI_e1 | exact tI_e2 | exact tI_e3 | exact tI_e4) (by first | exact tI_n (by omega) | exact tI_d (by omega) | assumption | exact tI_e1 | exact tI_e2 | exact tI_e3 | exact tI_e4) (fun c_ => ?_) (fun c_ => by exfalso; omega)
            refine xr_aload_n xi_3_63 rfl ?_
            refine xr_getf xi_3_64 rfl rfl ?_
            refine xr_iload_n xi_3_67 rfl ?_
            refine xr_iload xi_3_68 rfl ?_
            refine xr_iast xi_3_70 rfl (by first | exact tI_n (by first | omega | (simp only [ri]; omega)) | exact tI_dn (by omega) (by omega) | assumption) (by first | omega | (simp only [ri]; omega)) ((show _ = (vH A Gs Sp Ti Mv Hd pin c w f m) ++ oT tx (mg (un ns k z) nu (k + 1)) ln p2 sta rea by unfold oT; rw [← e, ← upd_mF]; rfl)) ?_
            refine xr_iinc xi_3_71 rfl (by first | exact nI_1 _ | exact rfl) rfl ?_
            refine xr_goto xi_3_74 ?_
            refine ih (k + 1) p2 (un ns k z) _ (by omega) (by omega) (hs ▸ ?_)
            simp only [sArgs, hp1, hn]
          · refine xr_k ?_
            refine xr_istore xi_3_53 (Nat.le_of_ble_eq_true rfl) rfl ?_
            refine xr_iload xi_3_55 rfl ?_
            refine xr_iconst (z := dI 0) xi_3_57 xm_m1 ?_
            refine xr_ic_ne xi_3_58 (by first | exact tI_n (by omega) | exact tI_d (by omega) | assumption | exact tI_e1 | exact tI_e2 | exact tI_e3 | exact tI_e4) (by first | exact tI_n (by omega) | exact tI_d (by omega) | assumption | exact tI_e1 | exact tI_e2 | exact tI_e3 | exact tI_e4) (fun c_ => by exfalso; omega) (fun c_ => ?_)
            refine xr_iconst (z := nI 0) xi_3_61 rfl ?_
            refine xr_iret xi_3_62 (fun _ => (by first | exact Or.inl rfl | exact Or.inr rfl | assumption)) ?_
            refine h2 p1 _ (by omega) (hnone ?_)
            simp only [sArgs, hp1, hn]
        by_cases hk0 : k = 0
        · subst hk0
          refine xr_iload_n xi_3_24 rfl ?_
          refine xr_iload_n xi_3_25 rfl ?_
          refine xr_ic_ge xi_3_26 (by first | exact tI_n (by omega) | exact tI_d (by omega) | assumption | exact tI_e1 | exact tI_e2 | exact tI_e3 | exact tI_e4) (by first | exact tI_n (by omega) | exact tI_d (by omega) | assumption | exact tI_e1 | exact tI_e2 | exact tI_e3 | exact tI_e4) (fun c_ => by exfalso; omega) (fun c_ => ?_)
          refine xr_iload_n xi_3_29 rfl ?_
          refine xr_iconst (z := nI 3) xi_3_30 rfl ?_
          refine xr_ic_ge xi_3_31 (by first | exact tI_n (by omega) | exact tI_d (by omega) | assumption | exact tI_e1 | exact tI_e2 | exact tI_e3 | exact tI_e4) (by first | exact tI_n (by omega) | exact tI_d (by omega) | assumption | exact tI_e1 | exact tI_e2 | exact tI_e3 | exact tI_e4) (fun c_ => by exfalso; omega) (fun c_ => ?_)
          refine xr_iload_n xi_3_34 rfl ?_
          refine xr_if_le xi_3_35 (by first | exact tI_n (by omega) | exact tI_d (by omega) | assumption | exact tI_e1 | exact tI_e2 | exact tI_e3 | exact tI_e4) (fun c_ => ?_) (fun c_ => by exfalso; omega)
          exact num p rfl (by omega)
        · refine xr_iload_n xi_3_24 rfl ?_
          refine xr_iload_n xi_3_25 rfl ?_
          refine xr_ic_ge xi_3_26 (by first | exact tI_n (by omega) | exact tI_d (by omega) | assumption | exact tI_e1 | exact tI_e2 | exact tI_e3 | exact tI_e4) (by first | exact tI_n (by omega) | exact tI_d (by omega) | assumption | exact tI_e1 | exact tI_e2 | exact tI_e3 | exact tI_e4) (fun c_ => by exfalso; omega) (fun c_ => ?_)
          refine xr_iload_n xi_3_29 rfl ?_
          refine xr_iconst (z := nI 3) xi_3_30 rfl ?_
          refine xr_ic_ge xi_3_31 (by first | exact tI_n (by omega) | exact tI_d (by omega) | assumption | exact tI_e1 | exact tI_e2 | exact tI_e3 | exact tI_e4) (by first | exact tI_n (by omega) | exact tI_d (by omega) | assumption | exact tI_e1 | exact tI_e2 | exact tI_e3 | exact tI_e4) (fun c_ => by exfalso; omega) (fun c_ => ?_)
          refine xr_iload_n xi_3_34 rfl ?_
          refine xr_if_le xi_3_35 (by first | exact tI_n (by omega) | exact tI_d (by omega) | assumption | exact tI_e1 | exact tI_e2 | exact tI_e3 | exact tI_e4) (fun c_ => by exfalso; omega) (fun c_ => ?_)
          refine xr_aload_n xi_3_38 rfl ?_
          refine xr_bipush (z := nI 44) xi_3_39 rfl ?_
          refine xr_virt xi_3_41 rfl rfl rfl rfl (Nat.le_of_ble_eq_true rfl) (Nat.le_of_ble_eq_true rfl) ?_
          refine wo_skip ht (by omega) (by omega) (by omega) (fun hc => ?_) (fun hc => ?_)
          · refine xr_k ?_
            refine xr_if_ne xi_3_44 (by first | exact tI_n (by omega) | exact tI_d (by omega) | assumption | exact tI_e1 | exact tI_e2 | exact tI_e3 | exact tI_e4) (fun c_ => ?_) (fun c_ => by exfalso; omega)
            exact num (p + 1) (by rw [if_neg hk0]; unfold sSig; rw [if_pos hc]) (by omega)
          · refine xr_k ?_
            refine xr_if_ne xi_3_44 (by first | exact tI_n (by omega) | exact tI_d (by omega) | assumption | exact tI_e1 | exact tI_e2 | exact tI_e3 | exact tI_e4) (fun c_ => by exfalso; omega) (fun c_ => ?_)
            refine xr_iconst (z := nI 0) xi_3_47 rfl ?_
            refine xr_iret xi_3_48 (fun _ => (by first | exact Or.inl rfl | exact Or.inr rfl | assumption)) ?_
            refine h2 p _ (by omega) (hnone ?_)
            simp only [sArgs, if_neg hk0, sSig, if_neg hc]
    refine xr_k ?_
    refine xr_istore_n xi_3_4 (Nat.le_of_ble_eq_true rfl) rfl ?_
    refine xr_iload_n xi_3_5 rfl ?_
    refine xr_iconst (z := dI 0) xi_3_6 xm_m1 ?_
    refine xr_ic_ne xi_3_7 (by first | exact tI_n (by omega) | exact tI_d (by omega) | assumption | exact tI_e1 | exact tI_e2 | exact tI_e3 | exact tI_e4) (by first | exact tI_n (by omega) | exact tI_d (by omega) | assumption | exact tI_e1 | exact tI_e2 | exact tI_e3 | exact tI_e4) (fun c_ => ?_) (fun c_ => by exfalso; omega)
    refine xr_aload_n xi_3_12 rfl ?_
    refine xr_dup xi_3_13 ?_
    refine xr_getf xi_3_14 rfl rfl ?_
    refine xr_iconst (z := nI 1) xi_3_17 rfl ?_
    refine xr_iadd xi_3_18 (by first | exact nI_add _ _ | exact rfl) ?_
    refine xr_putf xi_3_19 rfl (Nat.le_of_ble_eq_true rfl) (show _ = (vH A Gs Sp Ti Mv Hd pin c w f m) ++ oT tx nu ln (po + 1) sta rea from rfl) ?_
    refine xr_iconst (z := nI 0) xi_3_22 rfl ?_
    refine xr_istore_n xi_3_23 (Nat.le_of_ble_eq_true rfl) rfl ?_
    have h0 := key v 0 (po + 1) (fun _ => 0) .null (by omega) (by omega) rfl
    have e : mg (fun _ => 0) nu 0 = nu := by
      funext i
      unfold mg
      rw [if_neg (by omega)]
    rw [e] at h0
    exact h0
  · refine xr_k ?_
    refine xr_istore_n xi_3_4 (Nat.le_of_ble_eq_true rfl) rfl ?_
    refine xr_iload_n xi_3_5 rfl ?_
    refine xr_iconst (z := dI 0) xi_3_6 xm_m1 ?_
    refine xr_ic_ne xi_3_7 (by first | exact tI_n (by omega) | exact tI_d (by omega) | assumption | exact tI_e1 | exact tI_e2 | exact tI_e3 | exact tI_e4) (by first | exact tI_n (by omega) | exact tI_d (by omega) | assumption | exact tI_e1 | exact tI_e2 | exact tI_e3 | exact tI_e4) (fun c_ => by exfalso; omega) (fun c_ => ?_)
    refine xr_iconst (z := nI 0) xi_3_10 rfl ?_
    refine xr_iret xi_3_11 (fun _ => (by first | exact Or.inl rfl | exact Or.inr rfl | assumption)) ?_
    refine h2 po nu (by omega) ?_
    unfold sOrd
    rw [hw]
theorem wo_carryOut {le v : Nat} (hR : vR A Gs Sp Ti Mv Hd pin c w f m G) (hI : sInv G) (hw : sWant le = some v) (hQ : ∀ A Gs Sp Ti Mv Hd pin c w f m, (0 ≤ (sDo G le nu).1.toInt → vR A Gs Sp Ti Mv Hd pin c w f m (sDo G le nu).2) → Q (some (.int (sDo G le nu).1)) (vH A Gs Sp Ti Mv Hd pin c w f m ++ oT tx nu ln po sta rea)) : xc L xs 9 [.ref 7, .ref 0, .int (nI le)] (vH A Gs Sp Ti Mv Hd pin c w f m ++ oT tx nu ln po sta rea) Q := by
  rcases sWant_in hw with rfl | rfl | rfl | rfl | rfl | rfl | rfl | rfl
  · rw [sDo_110] at hQ
    refine xr_iload_n xi_9_0 rfl ?_
    refine xr_tsw xi_9_1 (by first | exact tI_n (by omega) | exact tI_d (by omega) | assumption | exact tI_e1 | exact tI_e2 | exact tI_e3 | exact tI_e4) (t := 80) (by decide) ?_
    refine xr_aload_n xi_9_80 rfl ?_
    refine xr_virt xi_9_81 rfl rfl rfl rfl (Nat.le_of_ble_eq_true rfl) (Nat.le_of_ble_eq_true rfl) ?_
    refine xc_app (wv_welcome hR hI (fun A Gs Sp Ti Mv Hd pin c w f m hR => ⟨rfl, ?_⟩))
    refine xr_k ?_
    refine xr_iret xi_9_84 (fun h => absurd h (by decide)) ?_
    exact hQ _ _ _ _ _ _ _ _ _ _ _ hR
  · rw [sDo_104] at hQ
    refine xr_iload_n xi_9_0 rfl ?_
    refine xr_tsw xi_9_1 (by first | exact tI_n (by omega) | exact tI_d (by omega) | assumption | exact tI_e1 | exact tI_e2 | exact tI_e3 | exact tI_e4) (t := 85) (by decide) ?_
    refine xr_aload_n xi_9_85 rfl ?_
    refine xr_aload_n xi_9_86 rfl ?_
    refine xr_getf xi_9_87 rfl rfl ?_
    refine xr_iconst (z := nI 0) xi_9_90 rfl ?_
    refine xr_ialz xi_9_91 rfl (by first | exact tI_n (by first | omega | (simp only [ri]; omega)) | exact tI_dn (by omega) (by omega) | assumption) (by first | omega | (simp only [ri]; omega)) (by first | exact dF_at _ _ | exact mF_at _ _ | exact rfl) ?_
    refine xr_aload_n xi_9_92 rfl ?_
    refine xr_getf xi_9_93 rfl rfl ?_
    refine xr_iconst (z := nI 1) xi_9_96 rfl ?_
    refine xr_ialz xi_9_97 rfl (by first | exact tI_n (by first | omega | (simp only [ri]; omega)) | exact tI_dn (by omega) (by omega) | assumption) (by first | omega | (simp only [ri]; omega)) (by first | exact dF_at _ _ | exact mF_at _ _ | exact rfl) ?_
    refine xr_virt xi_9_98 rfl rfl rfl rfl (Nat.le_of_ble_eq_true rfl) (Nat.le_of_ble_eq_true rfl) ?_
    refine xc_app (wv_grip hR hI (fun A Gs Sp Ti Mv Hd pin c w f m hR => ⟨rfl, ?_⟩))
    refine xr_k ?_
    refine xr_iret xi_9_101 (fun h => absurd h (by decide)) ?_
    exact hQ _ _ _ _ _ _ _ _ _ _ _ hR
  · rw [sDo_108] at hQ
    refine xr_iload_n xi_9_0 rfl ?_
    refine xr_tsw xi_9_1 (by first | exact tI_n (by omega) | exact tI_d (by omega) | assumption | exact tI_e1 | exact tI_e2 | exact tI_e3 | exact tI_e4) (t := 102) (by decide) ?_
    refine xr_aload_n xi_9_102 rfl ?_
    refine xr_aload_n xi_9_103 rfl ?_
    refine xr_getf xi_9_104 rfl rfl ?_
    refine xr_iconst (z := nI 0) xi_9_107 rfl ?_
    refine xr_ialz xi_9_108 rfl (by first | exact tI_n (by first | omega | (simp only [ri]; omega)) | exact tI_dn (by omega) (by omega) | assumption) (by first | omega | (simp only [ri]; omega)) (by first | exact dF_at _ _ | exact mF_at _ _ | exact rfl) ?_
    refine xr_virt xi_9_109 rfl rfl rfl rfl (Nat.le_of_ble_eq_true rfl) (Nat.le_of_ble_eq_true rfl) ?_
    refine xc_app (wv_letGo hR hI (fun A Gs Sp Ti Mv Hd pin c w f m hR => ⟨rfl, ?_⟩))
    refine xr_k ?_
    refine xr_iret xi_9_112 (fun h => absurd h (by decide)) ?_
    exact hQ _ _ _ _ _ _ _ _ _ _ _ hR
  · rw [sDo_115] at hQ
    refine xr_iload_n xi_9_0 rfl ?_
    refine xr_tsw xi_9_1 (by first | exact tI_n (by omega) | exact tI_d (by omega) | assumption | exact tI_e1 | exact tI_e2 | exact tI_e3 | exact tI_e4) (t := 113) (by decide) ?_
    refine xr_aload_n xi_9_113 rfl ?_
    refine xr_aload_n xi_9_114 rfl ?_
    refine xr_getf xi_9_115 rfl rfl ?_
    refine xr_iconst (z := nI 0) xi_9_118 rfl ?_
    refine xr_ialz xi_9_119 rfl (by first | exact tI_n (by first | omega | (simp only [ri]; omega)) | exact tI_dn (by omega) (by omega) | assumption) (by first | omega | (simp only [ri]; omega)) (by first | exact dF_at _ _ | exact mF_at _ _ | exact rfl) ?_
    refine xr_aload_n xi_9_120 rfl ?_
    refine xr_getf xi_9_121 rfl rfl ?_
    refine xr_iconst (z := nI 1) xi_9_124 rfl ?_
    refine xr_ialz xi_9_125 rfl (by first | exact tI_n (by first | omega | (simp only [ri]; omega)) | exact tI_dn (by omega) (by omega) | assumption) (by first | omega | (simp only [ri]; omega)) (by first | exact dF_at _ _ | exact mF_at _ _ | exact rfl) ?_
    refine xr_aload_n xi_9_126 rfl ?_
    refine xr_getf xi_9_127 rfl rfl ?_
    refine xr_iconst (z := nI 2) xi_9_130 rfl ?_
    refine xr_ialz xi_9_131 rfl (by first | exact tI_n (by first | omega | (simp only [ri]; omega)) | exact tI_dn (by omega) (by omega) | assumption) (by first | omega | (simp only [ri]; omega)) (by first | exact dF_at _ _ | exact mF_at _ _ | exact rfl) ?_
    refine xr_virt xi_9_132 rfl rfl rfl rfl (Nat.le_of_ble_eq_true rfl) (Nat.le_of_ble_eq_true rfl) ?_
    refine xc_app (wv_fasten hR hI (fun A Gs Sp Ti Mv Hd pin c w f m hR => ⟨rfl, ?_⟩))
    refine xr_k ?_
    refine xr_iret xi_9_135 (fun h => absurd h (by decide)) ?_
    exact hQ _ _ _ _ _ _ _ _ _ _ _ hR
  · rw [sDo_117] at hQ
    refine xr_iload_n xi_9_0 rfl ?_
    refine xr_tsw xi_9_1 (by first | exact tI_n (by omega) | exact tI_d (by omega) | assumption | exact tI_e1 | exact tI_e2 | exact tI_e3 | exact tI_e4) (t := 136) (by decide) ?_
    refine xr_aload_n xi_9_136 rfl ?_
    refine xr_aload_n xi_9_137 rfl ?_
    refine xr_getf xi_9_138 rfl rfl ?_
    refine xr_iconst (z := nI 0) xi_9_141 rfl ?_
    refine xr_ialz xi_9_142 rfl (by first | exact tI_n (by first | omega | (simp only [ri]; omega)) | exact tI_dn (by omega) (by omega) | assumption) (by first | omega | (simp only [ri]; omega)) (by first | exact dF_at _ _ | exact mF_at _ _ | exact rfl) ?_
    refine xr_aload_n xi_9_143 rfl ?_
    refine xr_getf xi_9_144 rfl rfl ?_
    refine xr_iconst (z := nI 1) xi_9_147 rfl ?_
    refine xr_ialz xi_9_148 rfl (by first | exact tI_n (by first | omega | (simp only [ri]; omega)) | exact tI_dn (by omega) (by omega) | assumption) (by first | omega | (simp only [ri]; omega)) (by first | exact dF_at _ _ | exact mF_at _ _ | exact rfl) ?_
    refine xr_virt xi_9_149 rfl rfl rfl rfl (Nat.le_of_ble_eq_true rfl) (Nat.le_of_ble_eq_true rfl) ?_
    refine xc_app (wv_slacken hR hI (fun A Gs Sp Ti Mv Hd pin c w f m hR => ⟨rfl, ?_⟩))
    refine xr_k ?_
    refine xr_iret xi_9_152 (fun h => absurd h (by decide)) ?_
    exact hQ _ _ _ _ _ _ _ _ _ _ _ hR
  · rw [sDo_112] at hQ
    refine xr_iload_n xi_9_0 rfl ?_
    refine xr_tsw xi_9_1 (by first | exact tI_n (by omega) | exact tI_d (by omega) | assumption | exact tI_e1 | exact tI_e2 | exact tI_e3 | exact tI_e4) (t := 153) (by decide) ?_
    refine xr_aload_n xi_9_153 rfl ?_
    refine xr_aload_n xi_9_154 rfl ?_
    refine xr_getf xi_9_155 rfl rfl ?_
    refine xr_iconst (z := nI 0) xi_9_158 rfl ?_
    refine xr_ialz xi_9_159 rfl (by first | exact tI_n (by first | omega | (simp only [ri]; omega)) | exact tI_dn (by omega) (by omega) | assumption) (by first | omega | (simp only [ri]; omega)) (by first | exact dF_at _ _ | exact mF_at _ _ | exact rfl) ?_
    refine xr_virt xi_9_160 rfl rfl rfl rfl (Nat.le_of_ble_eq_true rfl) (Nat.le_of_ble_eq_true rfl) ?_
    refine xc_app (wv_setPin hR hI (fun A Gs Sp Ti Mv Hd pin c w f m hR => ⟨rfl, ?_⟩))
    refine xr_k ?_
    refine xr_iret xi_9_163 (fun h => absurd h (by decide)) ?_
    exact hQ _ _ _ _ _ _ _ _ _ _ _ hR
  · rw [sDo_119] at hQ
    refine xr_iload_n xi_9_0 rfl ?_
    refine xr_tsw xi_9_1 (by first | exact tI_n (by omega) | exact tI_d (by omega) | assumption | exact tI_e1 | exact tI_e2 | exact tI_e3 | exact tI_e4) (t := 164) (by decide) ?_
    refine xr_aload_n xi_9_164 rfl ?_
    refine xr_aload_n xi_9_165 rfl ?_
    refine xr_getf xi_9_166 rfl rfl ?_
    refine xr_iconst (z := nI 0) xi_9_169 rfl ?_
    refine xr_ialz xi_9_170 rfl (by first | exact tI_n (by first | omega | (simp only [ri]; omega)) | exact tI_dn (by omega) (by omega) | assumption) (by first | omega | (simp only [ri]; omega)) (by first | exact dF_at _ _ | exact mF_at _ _ | exact rfl) ?_
    refine xr_virt xi_9_171 rfl rfl rfl rfl (Nat.le_of_ble_eq_true rfl) (Nat.le_of_ble_eq_true rfl) ?_
    refine xc_app (wv_passWinter hR hI (fun A Gs Sp Ti Mv Hd pin c w f m hR => ⟨rfl, ?_⟩))
    refine xr_k ?_
    refine xr_iret xi_9_174 (fun h => absurd h (by decide)) ?_
    exact hQ _ _ _ _ _ _ _ _ _ _ _ hR
  · rw [sDo_102] at hQ
    refine xr_iload_n xi_9_0 rfl ?_
    refine xr_tsw xi_9_1 (by first | exact tI_n (by omega) | exact tI_d (by omega) | assumption | exact tI_e1 | exact tI_e2 | exact tI_e3 | exact tI_e4) (t := 175) (by decide) ?_
    refine xr_aload_n xi_9_175 rfl ?_
    refine xr_virt xi_9_176 rfl rfl rfl rfl (Nat.le_of_ble_eq_true rfl) (Nat.le_of_ble_eq_true rfl) ?_
    refine xc_app (wv_turnFully hR hI (fun A Gs Sp Ti Mv Hd pin c w f m hR => ⟨rfl, ?_⟩))
    refine xr_k ?_
    refine xr_iret xi_9_179 (fun h => absurd h (by decide)) ?_
    exact hQ _ _ _ _ _ _ _ _ _ _ _ hR
theorem wo_runOn (ht : tOk tx ln) (hR : vR A Gs Sp Ti Mv Hd pin c w f m G) (hI : sInv G) (hQ : oP tx ln Q (sGo tx ln 61 0 0 G)) : xc L xs 2 [.ref 7, .ref 0] (vH A Gs Sp Ti Mv Hd pin c w f m ++ oT tx nu ln po sta rea) Q := by
  have hl := ht.1
  have fin : ∀ A Gs Sp Ti Mv Hd pin c w f m nu p sta r cI x3, p < 1000 → cI ≤ 60 → 0 < r → r < 10 → Q (some (.int (nI cI))) ((vH A Gs Sp Ti Mv Hd pin c w f m) ++ oT tx nu ln p sta r) → xw L xs 2 12 [.ref 7, .ref 0, .int (nI cI), x3] [] ((vH A Gs Sp Ti Mv Hd pin c w f m) ++ oT tx nu ln p sta r) Q := by
    intro A Gs Sp Ti Mv Hd pin c w f m nu p sta r cI x3 hp hc hr hr2 hq
    refine xr_iload_n xi_2_12 rfl ?_
    refine xr_bipush (z := nI 60) xi_2_13 rfl ?_
    refine xr_ic_ge xi_2_15 (by first | exact tI_n (by omega) | exact tI_d (by omega) | assumption | exact tI_e1 | exact tI_e2 | exact tI_e3 | exact tI_e4) (by first | exact tI_n (by omega) | exact tI_d (by omega) | assumption | exact tI_e1 | exact tI_e2 | exact tI_e3 | exact tI_e4) (fun c_15 => ?_) (fun c_15 => ?_)
    · refine xr_iload_n xi_2_80 rfl ?_
      refine xr_iret xi_2_81 (fun h => absurd h (by decide)) ?_
      exact hq
    · refine xr_aload_n xi_2_18 rfl ?_
      refine xr_getf xi_2_19 rfl rfl ?_
      refine xr_aload_n xi_2_22 rfl ?_
      refine xr_getf xi_2_23 rfl rfl ?_
      refine xr_ic_ge xi_2_26 (by first | exact tI_n (by omega) | exact tI_d (by omega) | assumption | exact tI_e1 | exact tI_e2 | exact tI_e3 | exact tI_e4) (by first | exact tI_n (by omega) | exact tI_d (by omega) | assumption | exact tI_e1 | exact tI_e2 | exact tI_e3 | exact tI_e4) (fun c_26 => ?_) (fun c_26 => ?_)
      · refine xr_iload_n xi_2_80 rfl ?_
        refine xr_iret xi_2_81 (fun h => absurd h (by decide)) ?_
        exact hq
      · refine xr_aload_n xi_2_29 rfl ?_
        refine xr_getf xi_2_30 rfl rfl ?_
        refine xr_if_ne xi_2_33 (by first | exact tI_n (by omega) | exact tI_d (by omega) | assumption | exact tI_e1 | exact tI_e2 | exact tI_e3 | exact tI_e4) (fun c_ => ?_) (fun c_ => by exfalso; omega)
        refine xr_iload_n xi_2_80 rfl ?_
        refine xr_iret xi_2_81 (fun h => absurd h (by decide)) ?_
        exact hq
  have key : ∀ g p cI G A Gs Sp Ti Mv Hd pin c w f m nu sta x3, sInv G → vR A Gs Sp Ti Mv Hd pin c w f m G → p ≤ ln → 61 ≤ g + p → 2 * cI ≤ p → oP tx ln Q (sGo tx ln g p cI G) → xw L xs 2 12 [.ref 7, .ref 0, .int (nI cI), x3] [] ((vH A Gs Sp Ti Mv Hd pin c w f m) ++ oT tx nu ln p sta 0) Q := by
    intro g
    induction g with
    | zero => intro p cI G A Gs Sp Ti Mv Hd pin c w f m nu sta x3 hI hR hp hg hc hQ; omega
    | succ g ih =>
      intro p cI G A Gs Sp Ti Mv Hd pin c w f m nu sta x3 hI hR hp hg hc hQ
      by_cases hpl : p < ln
      · have hoc : oC tx ln p = tC tx ln p + 1 := by unfold oC tC; rw [if_pos hpl, if_pos hpl]
        refine xr_iload_n xi_2_12 rfl ?_
        refine xr_bipush (z := nI 60) xi_2_13 rfl ?_
        refine xr_ic_ge xi_2_15 (by first | exact tI_n (by omega) | exact tI_d (by omega) | assumption | exact tI_e1 | exact tI_e2 | exact tI_e3 | exact tI_e4) (by first | exact tI_n (by omega) | exact tI_d (by omega) | assumption | exact tI_e1 | exact tI_e2 | exact tI_e3 | exact tI_e4) (fun c_ => by exfalso; omega) (fun c_ => ?_)
        refine xr_aload_n xi_2_18 rfl ?_
        refine xr_getf xi_2_19 rfl rfl ?_
        refine xr_aload_n xi_2_22 rfl ?_
        refine xr_getf xi_2_23 rfl rfl ?_
        refine xr_ic_ge xi_2_26 (by first | exact tI_n (by omega) | exact tI_d (by omega) | assumption | exact tI_e1 | exact tI_e2 | exact tI_e3 | exact tI_e4) (by first | exact tI_n (by omega) | exact tI_d (by omega) | assumption | exact tI_e1 | exact tI_e2 | exact tI_e3 | exact tI_e4) (fun c_ => by exfalso; omega) (fun c_ => ?_)
        refine xr_aload_n xi_2_29 rfl ?_
        refine xr_getf xi_2_30 rfl rfl ?_
        refine xr_if_ne xi_2_33 (by first | exact tI_n (by omega) | exact tI_d (by omega) | assumption | exact tI_e1 | exact tI_e2 | exact tI_e3 | exact tI_e4) (fun c_ => by exfalso; omega) (fun c_ => ?_)
        refine xr_iinc xi_2_36 rfl (by first | exact nI_1 _ | exact rfl) rfl ?_
        refine xr_aload_n xi_2_39 rfl ?_
        refine xr_aload_n xi_2_40 rfl ?_
        refine xr_getf xi_2_41 rfl rfl ?_
        refine xr_putf xi_2_44 rfl (Nat.le_of_ble_eq_true rfl) (show _ = (vH A Gs Sp Ti Mv Hd pin c w f m) ++ oT tx nu ln p p 0 from rfl) ?_
        refine xr_aload_n xi_2_47 rfl ?_
        refine xr_virt xi_2_48 rfl rfl rfl rfl (Nat.le_of_ble_eq_true rfl) (Nat.le_of_ble_eq_true rfl) ?_
        refine wo_peek ht (by omega) ?_
        refine xr_k ?_
        refine xr_istore_n xi_2_51 (Nat.le_of_ble_eq_true rfl) rfl ?_
        refine xr_aload_n xi_2_52 rfl ?_
        refine xr_aload_n xi_2_53 rfl ?_
        refine xr_iload_n xi_2_54 rfl ?_
        refine xr_virt xi_2_55 rfl rfl rfl rfl (Nat.le_of_ble_eq_true rfl) (Nat.le_of_ble_eq_true rfl) ?_
        rw [hoc, dI_1]
        refine wo_readOrder ht hpl (fun v ns p' nu' ho hw hn => ?_) (fun p' nu' hp' ho => ?_)
        · have hol := sOrd_le ho
          have hsd : sDo G (tC tx ln p) ns = sDo G (tC tx ln p) nu' := sDo_congr hw (fun i hi => (hn i hi).symm)
          refine xr_k ?_
          refine xr_if_eq xi_2_58 (by first | exact tI_n (by omega) | exact tI_d (by omega) | assumption | exact tI_e1 | exact tI_e2 | exact tI_e3 | exact tI_e4) (fun c_ => by exfalso; omega) (fun c_ => ?_)
          refine xr_aload_n xi_2_61 rfl ?_
          refine xr_aload_n xi_2_62 rfl ?_
          refine xr_iload_n xi_2_63 rfl ?_
          refine xr_virt xi_2_64 rfl rfl rfl rfl (Nat.le_of_ble_eq_true rfl) (Nat.le_of_ble_eq_true rfl) ?_
          refine wo_carryOut hR hI hw (fun A Gs Sp Ti Mv Hd pin c w f m hR => ?_)
          refine xr_k ?_
          refine xr_stat xi_2_67 (by decide) rfl rfl (Nat.le_of_ble_eq_true rfl) (Nat.le_of_ble_eq_true rfl) ?_
          refine wo_reasonOf (fun a0 => ?_) (fun a0 => ?_) (fun a0 a1 => ?_)
          · refine xr_k ?_
            refine xr_goto xi_2_70 ?_
            refine xr_putf xi_2_74 rfl (Nat.le_of_ble_eq_true rfl) (show _ = (vH A Gs Sp Ti Mv Hd pin c w f m) ++ oT tx nu' ln p' p 0 from rfl) ?_
            refine xr_goto xi_2_77 ?_
            rw [sGo_s hpl ho (by rw [hsd]; exact a0)] at hQ
            refine ih p' (cI + 1) (sDo G (tC tx ln p) ns).2 _ _ _ _ _ _ _ _ _ _ _ nu' p _ (sDo_inv hI) ?_ (by omega) (by omega) (by omega) hQ
            rw [hsd]
            exact hR a0
          · refine xr_k ?_
            refine xr_goto xi_2_70 ?_
            refine xr_putf xi_2_74 rfl (Nat.le_of_ble_eq_true rfl) (show _ = (vH A Gs Sp Ti Mv Hd pin c w f m) ++ oT tx nu' ln p' p 2 from rfl) ?_
            refine xr_goto xi_2_77 ?_
            rw [sGo_2 hpl ho (by rw [hsd]; omega) (by rw [hsd]; exact a0)] at hQ
            exact fin _ _ _ _ _ _ _ _ _ _ _ _ _ _ _ _ _ (by omega) (by omega) (by omega) (by omega) (hQ _ _ _ _ _ _ _ _ _ _ _ _ _ _ _ (fun z => absurd z (by show ¬ (2 : Nat) = 0; omega)) (fun _ => rfl))
          · refine xr_k ?_
            refine xr_goto xi_2_70 ?_
            refine xr_putf xi_2_74 rfl (Nat.le_of_ble_eq_true rfl) (show _ = (vH A Gs Sp Ti Mv Hd pin c w f m) ++ oT tx nu' ln p' p 3 from rfl) ?_
            refine xr_goto xi_2_77 ?_
            rw [sGo_3 hpl ho (by rw [hsd]; exact a0) (by rw [hsd]; exact a1)] at hQ
            exact fin _ _ _ _ _ _ _ _ _ _ _ _ _ _ _ _ _ (by omega) (by omega) (by omega) (by omega) (hQ _ _ _ _ _ _ _ _ _ _ _ _ _ _ _ (fun z => absurd z (by show ¬ (3 : Nat) = 0; omega)) (fun _ => rfl))
        · refine xr_k ?_
          refine xr_if_eq xi_2_58 (by first | exact tI_n (by omega) | exact tI_d (by omega) | assumption | exact tI_e1 | exact tI_e2 | exact tI_e3 | exact tI_e4) (fun c_ => ?_) (fun c_ => by exfalso; omega)
          refine xr_iconst (z := nI 1) xi_2_73 rfl ?_
          refine xr_putf xi_2_74 rfl (Nat.le_of_ble_eq_true rfl) (show _ = (vH A Gs Sp Ti Mv Hd pin c w f m) ++ oT tx nu' ln p' p 1 from rfl) ?_
          refine xr_goto xi_2_77 ?_
          rw [sGo_1 hpl ho] at hQ
          exact fin _ _ _ _ _ _ _ _ _ _ _ _ _ _ _ _ _ (by omega) (by omega) (by omega) (by omega) (hQ _ _ _ _ _ _ _ _ _ _ _ _ _ _ _ (fun z => absurd z (by show ¬ (1 : Nat) = 0; omega)) (fun _ => rfl))
      · rw [sGo_e hpl] at hQ
        refine xr_iload_n xi_2_12 rfl ?_
        refine xr_bipush (z := nI 60) xi_2_13 rfl ?_
        refine xr_ic_ge xi_2_15 (by first | exact tI_n (by omega) | exact tI_d (by omega) | assumption | exact tI_e1 | exact tI_e2 | exact tI_e3 | exact tI_e4) (by first | exact tI_n (by omega) | exact tI_d (by omega) | assumption | exact tI_e1 | exact tI_e2 | exact tI_e3 | exact tI_e4) (fun c_ => by exfalso; omega) (fun c_ => ?_)
        refine xr_aload_n xi_2_18 rfl ?_
        refine xr_getf xi_2_19 rfl rfl ?_
        refine xr_aload_n xi_2_22 rfl ?_
        refine xr_getf xi_2_23 rfl rfl ?_
        refine xr_ic_ge xi_2_26 (by first | exact tI_n (by omega) | exact tI_d (by omega) | assumption | exact tI_e1 | exact tI_e2 | exact tI_e3 | exact tI_e4) (by first | exact tI_n (by omega) | exact tI_d (by omega) | assumption | exact tI_e1 | exact tI_e2 | exact tI_e3 | exact tI_e4) (fun c_ => ?_) (fun c_ => by exfalso; omega)
        refine xr_iload_n xi_2_80 rfl ?_
        refine xr_iret xi_2_81 (fun h => absurd h (by decide)) ?_
        exact hQ _ _ _ _ _ _ _ _ _ _ _ _ _ _ _ (fun _ => ⟨rfl, hR⟩) (fun z => absurd rfl z)
  refine xr_iconst (z := nI 0) xi_2_0 rfl ?_
  refine xr_istore_n xi_2_1 (Nat.le_of_ble_eq_true rfl) rfl ?_
  refine xr_aload_n xi_2_2 rfl ?_
  refine xr_iconst (z := nI 0) xi_2_3 rfl ?_
  refine xr_putf xi_2_4 rfl (Nat.le_of_ble_eq_true rfl) (show _ = (vH A Gs Sp Ti Mv Hd pin c w f m) ++ oT tx nu ln 0 sta rea from rfl) ?_
  refine xr_aload_n xi_2_7 rfl ?_
  refine xr_iconst (z := nI 0) xi_2_8 rfl ?_
  refine xr_putf xi_2_9 rfl (Nat.le_of_ble_eq_true rfl) (show _ = (vH A Gs Sp Ti Mv Hd pin c w f m) ++ oT tx nu ln 0 sta 0 from rfl) ?_
  exact key 61 0 0 G _ _ _ _ _ _ _ _ _ _ _ _ _ _ hI hR (by omega) (by omega) (by omega) hQ
end O2
