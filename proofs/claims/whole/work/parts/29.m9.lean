def bkN (G be : Nat → Nat) (n : Nat) : Nat → Nat := fun i => if i < n then G i else be i
theorem bkN_s {G be : Nat → Nat} {n : Nat} : un (bkN G be n) n (G n) = bkN G be (n + 1) := by
  funext i
  unfold un bkN
  by_cases e : i = n
  · subst e
    rw [if_pos rfl, if_pos (by omega)]
  · rw [if_neg e]
    by_cases c : i < n
    · rw [if_pos c, if_pos (by omega)]
    · rw [if_neg c, if_neg (by omega)]
theorem bkN_0 {G be : Nat → Nat} : bkN G be 0 = be := by
  funext i
  unfold bkN
  rw [if_neg (by omega)]
section M9
variable {L : Nat} {xs : Nat → Int32} {Q : Option Value → xm_H → Prop} {st ln po le fa re od : Nat} {tx ag nu be Z G : Nat → Nat}
theorem wm_keepAll (hQ : Q none (mJ st tx ln ag po le nu fa re od (bkN G be 196) Z G)) : xc L xs 163 [.ref 0] (mJ st tx ln ag po le nu fa re od be Z G) Q := by
  have key : ∀ d i, i + d = 196 → xw L xs 163 2 [.ref 0, .int (nI i)] [] (mJ st tx ln ag po le nu fa re od (bkN G be i) Z G) Q := by
    intro d
    induction d with
    | zero =>
      intro i hi
      have e : i = 196 := by omega
      subst e
      refine xr_iload_n xi_163_2 rfl ?_
      refine xr_sipush (z := nI 196) xi_163_3 rfl ?_
      refine xr_ic_ge xi_163_6 (by first | exact tI_n (by omega) | exact tI_d (by omega) | assumption | exact tI_e1 | exact tI_e2 | exact tI_e3 | exact tI_e4) (by first | exact tI_n (by omega) | exact tI_d (by omega) | assumption | exact tI_e1 | exact tI_e2 | exact tI_e3 | exact tI_e4) (fun c_ => ?_) (fun c_ => by exfalso; omega)
      refine xr_ret xi_163_27 ?_
      exact hQ
    | succ d ih =>
      intro i hi
      refine xr_iload_n xi_163_2 rfl ?_
      refine xr_sipush (z := nI 196) xi_163_3 rfl ?_
      refine xr_ic_ge xi_163_6 (by first | exact tI_n (by omega) | exact tI_d (by omega) | assumption | exact tI_e1 | exact tI_e2 | exact tI_e3 | exact tI_e4) (by first | exact tI_n (by omega) | exact tI_d (by omega) | assumption | exact tI_e1 | exact tI_e2 | exact tI_e3 | exact tI_e4) (fun c_ => by exfalso; omega) (fun c_ => ?_)
      refine xr_aload_n xi_163_9 rfl ?_
      refine xr_getf xi_163_10 rfl rfl ?_
      refine xr_iload_n xi_163_13 rfl ?_
      refine xr_aload_n xi_163_14 rfl ?_
      refine xr_getf xi_163_15 rfl rfl ?_
      refine xr_iload_n xi_163_18 rfl ?_
      refine xr_ialz xi_163_19 rfl (by first | exact tI_n (by first | omega | (simp only [ri]; omega)) | exact tI_dn (by omega) (by omega) | assumption) (by first | omega | (simp only [ri]; omega)) (by first | exact mj_lo (by first | omega | (simp only [ri]; omega)) | exact mF_at _ _ | exact rfl) ?_
      refine xr_iast xi_163_20 rfl (by first | exact tI_n (by first | omega | (simp only [ri]; omega)) | exact tI_dn (by omega) (by omega) | assumption) (by first | omega | (simp only [ri]; omega)) ((mJ_be _ _).trans (congrArg (fun be => mJ st tx ln ag po le nu fa re od be Z G) bkN_s)) ?_
      refine xr_iinc xi_163_21 rfl (by first | exact nI_1 _ | exact rfl) rfl ?_
      refine xr_goto xi_163_24 ?_
      exact ih (i + 1) (by omega)
  refine xr_iconst (z := nI 0) xi_163_0 rfl ?_
  refine xr_istore_n xi_163_1 (Nat.le_of_ble_eq_true rfl) rfl ?_
  have h0 := key 196 0 (by omega)
  rw [bkN_0] at h0
  exact h0
theorem wm_goBack (hQ : Q none (mJ st tx ln ag po le nu fa re od be Z (bkN be G 196))) : xc L xs 162 [.ref 0] (mJ st tx ln ag po le nu fa re od be Z G) Q := by
  have key : ∀ d i, i + d = 196 → xw L xs 162 2 [.ref 0, .int (nI i)] [] (mJ st tx ln ag po le nu fa re od be Z (bkN be G i)) Q := by
    intro d
    induction d with
    | zero =>
      intro i hi
      have e : i = 196 := by omega
      subst e
      refine xr_iload_n xi_162_2 rfl ?_
      refine xr_sipush (z := nI 196) xi_162_3 rfl ?_
      refine xr_ic_ge xi_162_6 (by first | exact tI_n (by omega) | exact tI_d (by omega) | assumption | exact tI_e1 | exact tI_e2 | exact tI_e3 | exact tI_e4) (by first | exact tI_n (by omega) | exact tI_d (by omega) | assumption | exact tI_e1 | exact tI_e2 | exact tI_e3 | exact tI_e4) (fun c_ => ?_) (fun c_ => by exfalso; omega)
      refine xr_ret xi_162_27 ?_
      exact hQ
    | succ d ih =>
      intro i hi
      refine xr_iload_n xi_162_2 rfl ?_
      refine xr_sipush (z := nI 196) xi_162_3 rfl ?_
      refine xr_ic_ge xi_162_6 (by first | exact tI_n (by omega) | exact tI_d (by omega) | assumption | exact tI_e1 | exact tI_e2 | exact tI_e3 | exact tI_e4) (by first | exact tI_n (by omega) | exact tI_d (by omega) | assumption | exact tI_e1 | exact tI_e2 | exact tI_e3 | exact tI_e4) (fun c_ => by exfalso; omega) (fun c_ => ?_)
      refine xr_aload_n xi_162_9 rfl ?_
      refine xr_getf xi_162_10 rfl rfl ?_
      refine xr_iload_n xi_162_13 rfl ?_
      refine xr_aload_n xi_162_14 rfl ?_
      refine xr_getf xi_162_15 rfl rfl ?_
      refine xr_iload_n xi_162_18 rfl ?_
      refine xr_ialz xi_162_19 rfl (by first | exact tI_n (by first | omega | (simp only [ri]; omega)) | exact tI_dn (by omega) (by omega) | assumption) (by first | omega | (simp only [ri]; omega)) (by first | exact mj_lo (by first | omega | (simp only [ri]; omega)) | exact mF_at _ _ | exact rfl) ?_
      refine xr_iast xi_162_20 rfl (by first | exact tI_n (by first | omega | (simp only [ri]; omega)) | exact tI_dn (by omega) (by omega) | assumption) (by first | omega | (simp only [ri]; omega)) ((mH_row _ (by omega)).trans (congrArg (fun G => mJ st tx ln ag po le nu fa re od be Z G) bkN_s)) ?_
      refine xr_iinc xi_162_21 rfl (by first | exact nI_1 _ | exact rfl) rfl ?_
      refine xr_goto xi_162_24 ?_
      exact ih (i + 1) (by omega)
  refine xr_iconst (z := nI 0) xi_162_0 rfl ?_
  refine xr_istore_n xi_162_1 (Nat.le_of_ble_eq_true rfl) rfl ?_
  have h0 := key 196 0 (by omega)
  rw [bkN_0] at h0
  exact h0
theorem wm_goExit {r p : Nat} {x1 x2 : Value} (hp : p < 1000) (hl : ln ≤ 60) (hr : 0 < r) (hr2 : r < 10) (hQ : Q none (mJ st tx ln ag p le nu fa r od be Z G)) : xw L xs 161 15 [.ref 0, x1, x2] [] (mJ st tx ln ag p le nu fa r od be Z G) Q := by
  by_cases c : p < ln
  · refine xr_aload_n xi_161_15 rfl ?_
    refine xr_getf xi_161_16 rfl rfl ?_
    refine xr_aload_n xi_161_19 rfl ?_
    refine xr_getf xi_161_20 rfl rfl ?_
    refine xr_ic_ge xi_161_23 (by first | exact tI_n (by omega) | exact tI_d (by omega) | assumption | exact tI_e1 | exact tI_e2 | exact tI_e3 | exact tI_e4) (by first | exact tI_n (by omega) | exact tI_d (by omega) | assumption | exact tI_e1 | exact tI_e2 | exact tI_e3 | exact tI_e4) (fun c_ => by exfalso; omega) (fun c_ => ?_)
    refine xr_aload_n xi_161_26 rfl ?_
    refine xr_getf xi_161_27 rfl rfl ?_
    refine xr_if_ne xi_161_30 (by first | exact tI_n (by omega) | exact tI_d (by omega) | assumption | exact tI_e1 | exact tI_e2 | exact tI_e3 | exact tI_e4) (fun c_ => ?_) (fun c_ => by exfalso; omega)
    refine xr_ret xi_161_110 ?_
    exact hQ
  · refine xr_aload_n xi_161_15 rfl ?_
    refine xr_getf xi_161_16 rfl rfl ?_
    refine xr_aload_n xi_161_19 rfl ?_
    refine xr_getf xi_161_20 rfl rfl ?_
    refine xr_ic_ge xi_161_23 (by first | exact tI_n (by omega) | exact tI_d (by omega) | assumption | exact tI_e1 | exact tI_e2 | exact tI_e3 | exact tI_e4) (by first | exact tI_n (by omega) | exact tI_d (by omega) | assumption | exact tI_e1 | exact tI_e2 | exact tI_e3 | exact tI_e4) (fun c_ => ?_) (fun c_ => by exfalso; omega)
    refine xr_ret xi_161_110 ?_
    exact hQ
theorem wm_go (ht : tOk tx ln) (hI : sInv G) (h : ∀ po' le' nu' fa' ag' Z', (∀ i, i < 980 → Z' i = Z i) → ((sGo tx ln 61 0 0 G).1 ≠ 0 → fa' = (sGo tx ln 61 0 0 G).2.1) → Q none (mJ st tx ln ag' po' le' nu' fa' (sGo tx ln 61 0 0 G).1 (sGo tx ln 61 0 0 G).2.2.1 be Z' (sGo tx ln 61 0 0 G).2.2.2)) : xc L xs 161 [.ref 0] (mJ st tx ln ag po le nu fa re od be Z G) Q := by
  have hl := ht.1
  have key : ∀ f p c G1 le nu fa ag Z1 x1 x2, 61 ≤ f + p → p ≤ ln → 2 * c ≤ p → sInv G1 → (∀ i, i < 980 → Z1 i = Z i) → (∀ po' le' nu' fa' ag' Z', (∀ i, i < 980 → Z' i = Z i) → ((sGo tx ln f p c G1).1 ≠ 0 → fa' = (sGo tx ln f p c G1).2.1) → Q none (mJ st tx ln ag' po' le' nu' fa' (sGo tx ln f p c G1).1 (sGo tx ln f p c G1).2.2.1 be Z' (sGo tx ln f p c G1).2.2.2)) → xw L xs 161 15 [.ref 0, x1, x2] [] (mJ st tx ln ag p le nu fa 0 c be Z1 G1) Q := by
    intro f
    induction f with
    | zero => intro p c G1 le nu fa ag Z1 x1 x2 h1 h2; omega
    | succ f ih =>
      intro p c G1 le nu fa ag Z1 x1 x2 h1 h2 hcp hI1 hz hq
      by_cases hp : p < ln
      · refine xr_aload_n xi_161_15 rfl ?_
        refine xr_getf xi_161_16 rfl rfl ?_
        refine xr_aload_n xi_161_19 rfl ?_
        refine xr_getf xi_161_20 rfl rfl ?_
        refine xr_ic_ge xi_161_23 (by first | exact tI_n (by omega) | exact tI_d (by omega) | assumption | exact tI_e1 | exact tI_e2 | exact tI_e3 | exact tI_e4) (by first | exact tI_n (by omega) | exact tI_d (by omega) | assumption | exact tI_e1 | exact tI_e2 | exact tI_e3 | exact tI_e4) (fun c_ => by exfalso; omega) (fun c_ => ?_)
        refine xr_aload_n xi_161_26 rfl ?_
        refine xr_getf xi_161_27 rfl rfl ?_
        refine xr_if_ne xi_161_30 (by first | exact tI_n (by omega) | exact tI_d (by omega) | assumption | exact tI_e1 | exact tI_e2 | exact tI_e3 | exact tI_e4) (fun c_ => by exfalso; omega) (fun c_ => ?_)
        refine xr_aload_n xi_161_33 rfl ?_
        refine xr_aload_n xi_161_34 rfl ?_
        refine xr_getf xi_161_35 rfl rfl ?_
        refine xr_putf xi_161_38 rfl (Nat.le_of_ble_eq_true rfl) rfl ?_
        refine xr_aload_n xi_161_41 rfl ?_
        refine xr_virt xi_161_42 rfl rfl rfl rfl (Nat.le_of_ble_eq_true rfl) (Nat.le_of_ble_eq_true rfl) ?_
        refine wm_readsOrder (po := p) (fa := p) ht h2 (fun w ns p' nu' ho hw hnu => ?_) (fun p' nu' hpb ho => ?_)
        · have hle := sOrd_le ho
          have hcg : sDo G1 (tC tx ln p) nu' = sDo G1 (tC tx ln p) ns := sDo_congr hw hnu
          refine xr_k ?_
          refine xr_istore_n xi_161_45 (Nat.le_of_ble_eq_true rfl) rfl ?_
          refine xr_iload_n xi_161_46 rfl ?_
          refine xr_if_eq xi_161_47 (by first | exact tI_n (by omega) | exact tI_d (by omega) | assumption | exact tI_e1 | exact tI_e2 | exact tI_e3 | exact tI_e4) (fun c_ => by exfalso; omega) (fun c_ => ?_)
          refine xr_aload_n xi_161_50 rfl ?_
          refine xr_virt xi_161_51 rfl rfl rfl rfl (Nat.le_of_ble_eq_true rfl) (Nat.le_of_ble_eq_true rfl) ?_
          refine wm_noOrder (po := p') hI1 hw (fun ag1 Z2 hz2 => ?_)
          have hz3 : ∀ i, i < 980 → Z2 i = Z i := fun i hi => (hz2 i hi).trans (hz i hi)
          rw [hcg]
          by_cases ha : 0 ≤ (sDo G1 (tC tx ln p) ns).1.toInt
          · rw [if_pos ha]
            rw [sGo_s hp ho ha] at hq
            refine xr_k ?_
            refine xr_goto xi_161_54 ?_
            refine xr_istore_n xi_161_58 (Nat.le_of_ble_eq_true rfl) rfl ?_
            refine xr_iload_n xi_161_59 rfl ?_
            refine xr_if_ne xi_161_60 (by first | exact tI_n (by omega) | exact tI_d (by omega) | assumption | exact tI_e1 | exact tI_e2 | exact tI_e3 | exact tI_e4) (fun c_ => ?_) (fun c_ => by exfalso; omega)
            refine xr_iload_n xi_161_71 rfl ?_
            refine xr_if_eq xi_161_72 (by first | exact tI_n (by omega) | exact tI_d (by omega) | assumption | exact tI_e1 | exact tI_e2 | exact tI_e3 | exact tI_e4) (fun c_ => ?_) (fun c_ => by exfalso; omega)
            refine xr_aload_n xi_161_93 rfl ?_
            refine xr_virt xi_161_94 rfl rfl rfl rfl (Nat.le_of_ble_eq_true rfl) (Nat.le_of_ble_eq_true rfl) ?_
            refine wm_doOrder (po := p') hI1 hw (by rw [hcg]; exact ha) (fun ag2 => ?_)
            rw [hcg]
            refine xr_kv ?_
            refine xr_aload_n xi_161_97 rfl ?_
            refine xr_dup xi_161_98 ?_
            refine xr_getf xi_161_99 rfl rfl ?_
            refine xr_iconst (z := nI 1) xi_161_102 rfl ?_
            refine xr_iadd xi_161_103 (by first | exact nI_add _ _ | exact rfl) ?_
            refine xr_putf xi_161_104 rfl (Nat.le_of_ble_eq_true rfl) rfl ?_
            refine xr_goto xi_161_107 ?_
            exact ih p' (c + 1) _ _ nu' _ _ Z2 _ _ (by omega) hle.2.1 (by omega) (sDo_inv hI1) hz3 hq
          · rw [if_neg ha]
            refine xr_k ?_
            refine xr_goto xi_161_54 ?_
            refine xr_istore_n xi_161_58 (Nat.le_of_ble_eq_true rfl) rfl ?_
            refine xr_iload_n xi_161_59 rfl ?_
            refine xr_if_ne xi_161_60 (by first | exact tI_n (by omega) | exact tI_d (by omega) | assumption | exact tI_e1 | exact tI_e2 | exact tI_e3 | exact tI_e4) (fun c_ => ?_) (fun c_ => by exfalso; omega)
            refine xr_iload_n xi_161_71 rfl ?_
            refine xr_if_eq xi_161_72 rfl (fun c_ => absurd (by rw [c_]; omega) ha) (fun c_ => ?_)
            refine xr_aload_n xi_161_75 rfl ?_
            refine xr_iload_n xi_161_76 rfl ?_
            refine xr_ldc (z := xE1) xi_161_77 rfl ?_
            refine xr_ic_ne xi_161_79 rfl tI_e1 (fun c2 => ?_) (fun c2 => ?_)
            · rw [sGo_3 hp ho ha c2] at hq
              refine xr_iconst (z := nI 3) xi_161_86 rfl ?_
              refine xr_putf xi_161_87 rfl (Nat.le_of_ble_eq_true rfl) rfl ?_
              refine xr_goto xi_161_90 ?_
              refine xr_goto xi_161_107 ?_
              exact wm_goExit (by omega) hl (by omega) (by omega) (hq _ _ _ _ _ _ hz3 (fun _ => rfl))
            · rw [sGo_2 hp ho ha c2] at hq
              refine xr_iconst (z := nI 2) xi_161_82 rfl ?_
              refine xr_goto xi_161_83 ?_
              refine xr_putf xi_161_87 rfl (Nat.le_of_ble_eq_true rfl) rfl ?_
              refine xr_goto xi_161_90 ?_
              refine xr_goto xi_161_107 ?_
              exact wm_goExit (by omega) hl (by omega) (by omega) (hq _ _ _ _ _ _ hz3 (fun _ => rfl))
        · rw [sGo_1 hp ho] at hq
          refine xr_k ?_
          refine xr_istore_n xi_161_45 (Nat.le_of_ble_eq_true rfl) rfl ?_
          refine xr_iload_n xi_161_46 rfl ?_
          refine xr_if_eq xi_161_47 (by first | exact tI_n (by omega) | exact tI_d (by omega) | assumption | exact tI_e1 | exact tI_e2 | exact tI_e3 | exact tI_e4) (fun c_ => ?_) (fun c_ => by exfalso; omega)
          refine xr_iconst (z := nI 0) xi_161_57 rfl ?_
          refine xr_istore_n xi_161_58 (Nat.le_of_ble_eq_true rfl) rfl ?_
          refine xr_iload_n xi_161_59 rfl ?_
          refine xr_if_ne xi_161_60 (by first | exact tI_n (by omega) | exact tI_d (by omega) | assumption | exact tI_e1 | exact tI_e2 | exact tI_e3 | exact tI_e4) (fun c_ => by exfalso; omega) (fun c_ => ?_)
          refine xr_aload_n xi_161_63 rfl ?_
          refine xr_iconst (z := nI 1) xi_161_64 rfl ?_
          refine xr_putf xi_161_65 rfl (Nat.le_of_ble_eq_true rfl) rfl ?_
          refine xr_goto xi_161_68 ?_
          refine xr_goto xi_161_107 ?_
          exact wm_goExit hpb hl (by omega) (by omega) (hq _ _ _ _ _ _ hz (fun _ => rfl))
      · rw [sGo_e hp] at hq
        refine xr_aload_n xi_161_15 rfl ?_
        refine xr_getf xi_161_16 rfl rfl ?_
        refine xr_aload_n xi_161_19 rfl ?_
        refine xr_getf xi_161_20 rfl rfl ?_
        refine xr_ic_ge xi_161_23 (by first | exact tI_n (by omega) | exact tI_d (by omega) | assumption | exact tI_e1 | exact tI_e2 | exact tI_e3 | exact tI_e4) (by first | exact tI_n (by omega) | exact tI_d (by omega) | assumption | exact tI_e1 | exact tI_e2 | exact tI_e3 | exact tI_e4) (fun c_ => ?_) (fun c_ => by exfalso; omega)
        refine xr_ret xi_161_110 ?_
        exact hq _ _ _ _ _ _ hz (fun q => absurd rfl q)
  refine xr_aload_n xi_161_0 rfl ?_
  refine xr_iconst (z := nI 0) xi_161_1 rfl ?_
  refine xr_putf xi_161_2 rfl (Nat.le_of_ble_eq_true rfl) rfl ?_
  refine xr_aload_n xi_161_5 rfl ?_
  refine xr_iconst (z := nI 0) xi_161_6 rfl ?_
  refine xr_putf xi_161_7 rfl (Nat.le_of_ble_eq_true rfl) rfl ?_
  refine xr_aload_n xi_161_10 rfl ?_
  refine xr_iconst (z := nI 0) xi_161_11 rfl ?_
  refine xr_putf xi_161_12 rfl (Nat.le_of_ble_eq_true rfl) rfl ?_
  exact key 61 0 0 G _ _ _ _ Z _ _ (by omega) (by omega) (by omega) hI (fun _ _ => rfl) h
theorem wm_fault {x : Int32} (ht : tOk tx ln) (hI : sInv G) (h1 : ∀ w po' le' nu' fa' re' od' be' ag' Z', w < 2 → x = nI w → (∀ i, i < 980 → Z' i = Z i) → Q (some (.int (qFault tx ln G w))) (mJ st tx ln ag' po' le' nu' fa' re' od' be' Z' G)) (h2 : (∀ w, w < 2 → x ≠ nI w) → Q (some (.int xE1)) (mJ st tx ln ag po le nu fa re od be Z G)) : xc L xs 164 [.ref 0, .int x] (mJ st tx ln ag po le nu fa re od be Z G) Q := by
  have hgi := sGo_inv (tx := tx) (ln := ln) 61 0 0 G hI (by omega)
  have hl := ht.1
  refine xr_iload_n xi_164_0 rfl ?_
  refine xr_iconst (z := nI 0) xi_164_1 rfl ?_
  refine xr_iconst (z := nI 1) xi_164_2 rfl ?_
  refine xr_stat xi_164_3 (by decide) rfl rfl (Nat.le_of_ble_eq_true rfl) (Nat.le_of_ble_eq_true rfl) ?_
  refine wm_in rfl (tI_n (by omega)) (tI_n (by omega)) (fun h => ?_) (fun h => ?_)
  · obtain ⟨w, hw, rfl⟩ := x_of (x := x) (n := 2) h.1 (by omega) (by omega)
    refine xr_k ?_
    refine xr_if_ne xi_164_6 (by first | exact tI_n (by omega) | exact tI_d (by omega) | assumption | exact tI_e1 | exact tI_e2 | exact tI_e3 | exact tI_e4) (fun c_ => ?_) (fun c_ => by exfalso; omega)
    refine xr_aload_n xi_164_12 rfl ?_
    refine xr_virt xi_164_13 rfl rfl rfl rfl (Nat.le_of_ble_eq_true rfl) (Nat.le_of_ble_eq_true rfl) ?_
    refine wm_keepAll ?_
    refine xr_kv ?_
    refine xr_aload_n xi_164_16 rfl ?_
    refine xr_virt xi_164_17 rfl rfl rfl rfl (Nat.le_of_ble_eq_true rfl) (Nat.le_of_ble_eq_true rfl) ?_
    refine wm_go ht hI (fun po' le' nu' fa' ag' Z' hz hfa => ?_)
    refine xr_kv ?_
    refine xr_aload_n xi_164_20 rfl ?_
    refine xr_virt xi_164_21 rfl rfl rfl rfl (Nat.le_of_ble_eq_true rfl) (Nat.le_of_ble_eq_true rfl) ?_
    refine wm_goBack ?_
    refine xr_kv ?_
    rw [mJ_congr (G := G) (fun i hi => by unfold bkN; rw [if_pos hi, if_pos hi])]
    refine xr_aload_n xi_164_24 rfl ?_
    refine xr_getf xi_164_25 rfl rfl ?_
    refine xr_if_ne xi_164_28 (by first | exact tI_n (by omega) | exact tI_d (by omega) | assumption | exact tI_e1 | exact tI_e2 | exact tI_e3 | exact tI_e4) (fun c_28 => ?_) (fun c_28 => ?_)
    · have e : ∀ v, qFault tx ln G v = if v = 0 then nI (sGo tx ln 61 0 0 G).2.1 else nI (sGo tx ln 61 0 0 G).1 := fun v => by unfold qFault; rw [if_neg (by omega)]
      refine xr_iload_n xi_164_36 rfl ?_
      refine xr_if_ne xi_164_37 (by first | exact tI_n (by omega) | exact tI_d (by omega) | assumption | exact tI_e1 | exact tI_e2 | exact tI_e3 | exact tI_e4) (fun c_37 => ?_) (fun c_37 => ?_)
      · have hq := h1 w po' le' nu' fa' (sGo tx ln 61 0 0 G).1 (sGo tx ln 61 0 0 G).2.2.1 (bkN G be 196) ag' Z' hw rfl hz
        rw [e w, if_neg (by omega)] at hq
        refine xr_aload_n xi_164_47 rfl ?_
        refine xr_getf xi_164_48 rfl rfl ?_
        refine xr_iret xi_164_51 (fun h => absurd h (by decide)) ?_
        exact hq
      · have hq := h1 w po' le' nu' fa' (sGo tx ln 61 0 0 G).1 (sGo tx ln 61 0 0 G).2.2.1 (bkN G be 196) ag' Z' hw rfl hz
        rw [e w, if_pos (by omega), ← hfa (by omega)] at hq
        refine xr_aload_n xi_164_40 rfl ?_
        refine xr_getf xi_164_41 rfl rfl ?_
        refine xr_goto xi_164_44 ?_
        refine xr_iret xi_164_51 (fun h => absurd h (by decide)) ?_
        exact hq
    · have hq := h1 w po' le' nu' fa' (sGo tx ln 61 0 0 G).1 (sGo tx ln 61 0 0 G).2.2.1 (bkN G be 196) ag' Z' hw rfl hz
      have e : qFault tx ln G w = xE4 := if_pos (by omega)
      rw [e] at hq
      refine xr_ldc (z := xE4) xi_164_31 rfl ?_
      refine xr_goto xi_164_33 ?_
      refine xr_iret xi_164_51 (fun h => absurd h (by decide)) ?_
      exact hq
  · refine xr_k ?_
    refine xr_if_ne xi_164_6 (by first | exact tI_n (by omega) | exact tI_d (by omega) | assumption | exact tI_e1 | exact tI_e2 | exact tI_e3 | exact tI_e4) (fun c_ => by exfalso; omega) (fun c_ => ?_)
    refine xr_ldc (z := xE1) xi_164_9 rfl ?_
    refine xr_iret xi_164_11 (fun h => absurd h (by decide)) ?_
    refine h2 (fun w hw e => h ?_)
    rw [e, tI_n (by omega)]
    omega
theorem wm_play (ht : tOk tx ln) (hI : sInv G) (hst : st ≤ 4) (h : ∀ st' po' le' nu' fa' re' od' be' ag' Z', mPost st Z G (pPlay tx ln G).1 st' Z' → Q (some (.int (pPlay tx ln G).1)) (mJ st' tx ln ag' po' le' nu' fa' re' od' be' Z' (pPlay tx ln G).2)) : xc L xs 165 [.ref 0] (mJ st tx ln ag po le nu fa re od be Z G) Q := by
  have hgi := sGo_inv (tx := tx) (ln := ln) 61 0 0 G hI (by omega)
  have hl := ht.1
  refine xr_aload_n xi_165_0 rfl ?_
  refine xr_virt xi_165_1 rfl rfl rfl rfl (Nat.le_of_ble_eq_true rfl) (Nat.le_of_ble_eq_true rfl) ?_
  refine wm_keepAll ?_
  refine xr_kv ?_
  refine xr_aload_n xi_165_4 rfl ?_
  refine xr_virt xi_165_5 rfl rfl rfl rfl (Nat.le_of_ble_eq_true rfl) (Nat.le_of_ble_eq_true rfl) ?_
  refine wm_go ht hI (fun po' le' nu' fa' ag' Z' hz hfa => ?_)
  refine xr_kv ?_
  refine xr_aload_n xi_165_8 rfl ?_
  refine xr_virt xi_165_9 rfl rfl rfl rfl (Nat.le_of_ble_eq_true rfl) (Nat.le_of_ble_eq_true rfl) ?_
  refine wm_goBack ?_
  refine xr_kv ?_
  rw [mJ_congr (G := G) (fun i hi => by unfold bkN; rw [if_pos hi, if_pos hi])]
  by_cases hr : (sGo tx ln 61 0 0 G).1 = 0
  · have e : pPlay tx ln G = (nI (sGo tx ln 61 0 0 G).2.2.1, (sGo tx ln 61 0 0 G).2.2.2) := if_pos hr
    rw [e] at h
    refine xr_aload_n xi_165_12 rfl ?_
    refine xr_getf xi_165_13 rfl rfl ?_
    refine xr_if_eq xi_165_16 (by first | exact tI_n (by omega) | exact tI_d (by omega) | assumption | exact tI_e1 | exact tI_e2 | exact tI_e3 | exact tI_e4) (fun c_ => ?_) (fun c_ => by exfalso; omega)
    refine xr_aload_n xi_165_22 rfl ?_
    refine xr_iconst (z := nI 0) xi_165_23 rfl ?_
    refine xr_virt xi_165_24 rfl rfl rfl rfl (Nat.le_of_ble_eq_true rfl) (Nat.le_of_ble_eq_true rfl) ?_
    refine wm_record hst (fun st' Z'' hz2 => ?_)
    refine xr_kv ?_
    refine xr_aload_n xi_165_27 rfl ?_
    refine xr_virt xi_165_28 rfl rfl rfl rfl (Nat.le_of_ble_eq_true rfl) (Nat.le_of_ble_eq_true rfl) ?_
    refine wm_go ht hI (fun po2 le2 nu2 fa2 ag2 Z3 hz3 hfa2 => ?_)
    refine xr_kv ?_
    refine xr_aload_n xi_165_31 rfl ?_
    refine xr_getf xi_165_32 rfl rfl ?_
    refine xr_iret xi_165_35 (fun h => absurd h (by decide)) ?_
    refine h st' _ _ _ _ _ _ _ _ Z3 (mPost_c (by omega) ⟨hz2.1, fun i hi => ?_, fun s hs i hi => ?_⟩)
    · have h4 := hz2.1
      rw [hz3 _ (by omega)]
      exact hz2.2.1 i hi
    · have h4 := hz2.1
      rw [hz3 _ (by omega), hz2.2.2 s hs i hi, hz _ (by omega)]
  · have e : pPlay tx ln G = (xE2, G) := if_neg hr
    rw [e] at h
    refine xr_aload_n xi_165_12 rfl ?_
    refine xr_getf xi_165_13 rfl rfl ?_
    refine xr_if_eq xi_165_16 (by first | exact tI_n (by omega) | exact tI_d (by omega) | assumption | exact tI_e1 | exact tI_e2 | exact tI_e3 | exact tI_e4) (fun c_ => by exfalso; omega) (fun c_ => ?_)
    refine xr_ldc (z := xE2) xi_165_19 rfl ?_
    refine xr_iret xi_165_21 (fun h => absurd h (by decide)) ?_
    exact h st _ _ _ _ _ _ _ _ Z' (mPost_e (by rw [tI_e2]; omega) hz)
end M9
