section M2
variable {L : Nat} {xs : Nat → Int32} {Q : Option Value → xm_H → Prop} {st ln po le fa re od : Nat} {tx ag nu be Z G : Nat → Nat}
theorem wm_bits {hp : xm_H} {P : Nat → Prop} (hQ : Q (some (.int (nI (cnt P 30)))) hp) : xc L xs 91 [.int (mk P)] hp Q := by
  have key : ∀ d i, i + d = 30 → xw L xs 91 4 [.int (mk P), .int (nI (cnt P i)), .int (nI i)] [] hp Q := by
    intro d
    induction d with
    | zero =>
      intro i hi
      have e : i = 30 := by omega
      subst e
      refine xr_iload_n xi_91_4 rfl ?_
      refine xr_bipush (z := nI 30) xi_91_5 rfl ?_
      refine xr_ic_ge xi_91_7 (by first | exact tI_n (by omega) | exact tI_d (by omega) | assumption | exact tI_e1 | exact tI_e2 | exact tI_e3 | exact tI_e4) (by first | exact tI_n (by omega) | exact tI_d (by omega) | assumption | exact tI_e1 | exact tI_e2 | exact tI_e3 | exact tI_e4) (fun c_ => ?_) (fun c_ => by exfalso; omega)
      refine xr_iload_n xi_91_24 rfl ?_
      refine xr_iret xi_91_25 (fun h => absurd h (by decide)) ?_
      exact hQ
    | succ d ih =>
      intro i hi
      rcases mk_test P (n := i) (by omega) with ⟨e, h⟩ | ⟨e, h⟩
      · refine xr_iload_n xi_91_4 rfl ?_
        refine xr_bipush (z := nI 30) xi_91_5 rfl ?_
        refine xr_ic_ge xi_91_7 (by first | exact tI_n (by omega) | exact tI_d (by omega) | assumption | exact tI_e1 | exact tI_e2 | exact tI_e3 | exact tI_e4) (by first | exact tI_n (by omega) | exact tI_d (by omega) | assumption | exact tI_e1 | exact tI_e2 | exact tI_e3 | exact tI_e4) (fun c_ => by exfalso; omega) (fun c_ => ?_)
        refine xr_iload_n xi_91_10 rfl ?_
        refine xr_iload_n xi_91_11 rfl ?_
        refine xr_iload_n xi_91_12 rfl ?_
        refine xr_ishr xi_91_13 rfl ?_
        refine xr_iconst (z := nI 1) xi_91_14 rfl ?_
        refine xr_iand xi_91_15 (e) ?_
        refine xr_iadd xi_91_16 (cnt_s1 h) ?_
        refine xr_istore_n xi_91_17 (Nat.le_of_ble_eq_true rfl) rfl ?_
        refine xr_iinc xi_91_18 rfl (by first | exact nI_1 _ | exact rfl) rfl ?_
        refine xr_goto xi_91_21 ?_
        exact ih (i + 1) (by omega)
      · refine xr_iload_n xi_91_4 rfl ?_
        refine xr_bipush (z := nI 30) xi_91_5 rfl ?_
        refine xr_ic_ge xi_91_7 (by first | exact tI_n (by omega) | exact tI_d (by omega) | assumption | exact tI_e1 | exact tI_e2 | exact tI_e3 | exact tI_e4) (by first | exact tI_n (by omega) | exact tI_d (by omega) | assumption | exact tI_e1 | exact tI_e2 | exact tI_e3 | exact tI_e4) (fun c_ => by exfalso; omega) (fun c_ => ?_)
        refine xr_iload_n xi_91_10 rfl ?_
        refine xr_iload_n xi_91_11 rfl ?_
        refine xr_iload_n xi_91_12 rfl ?_
        refine xr_ishr xi_91_13 rfl ?_
        refine xr_iconst (z := nI 1) xi_91_14 rfl ?_
        refine xr_iand xi_91_15 (e) ?_
        refine xr_iadd xi_91_16 (cnt_s0 h) ?_
        refine xr_istore_n xi_91_17 (Nat.le_of_ble_eq_true rfl) rfl ?_
        refine xr_iinc xi_91_18 rfl (by first | exact nI_1 _ | exact rfl) rfl ?_
        refine xr_goto xi_91_21 ?_
        exact ih (i + 1) (by omega)
  refine xr_iconst (z := nI 0) xi_91_0 rfl ?_
  refine xr_istore_n xi_91_1 (Nat.le_of_ble_eq_true rfl) rfl ?_
  refine xr_iconst (z := nI 0) xi_91_2 rfl ?_
  refine xr_istore_n xi_91_3 (Nat.le_of_ble_eq_true rfl) rfl ?_
  exact key 30 0 (by omega)
theorem wm_copyR {a b : Nat} (ha : a + 196 ≤ 1176) (hb : b + 196 ≤ 1176) (hd : a + 196 ≤ b ∨ b + 196 ≤ a) (hQ : Q none (mH st tx ln ag po le nu fa re od be (cpN G a b 196))) : xc L xs 92 [.ref 0, .int (nI a), .int (nI b)] (mH st tx ln ag po le nu fa re od be G) Q := by
  have key : ∀ d i, i + d = 196 → xw L xs 92 2 [.ref 0, .int (nI a), .int (nI b), .int (nI i)] [] (mH st tx ln ag po le nu fa re od be (cpN G a b i)) Q := by
    intro d
    induction d with
    | zero =>
      intro i hi
      have e : i = 196 := by omega
      subst e
      refine xr_iload_n xi_92_2 rfl ?_
      refine xr_sipush (z := nI 196) xi_92_3 rfl ?_
      refine xr_ic_ge xi_92_6 (by first | exact tI_n (by omega) | exact tI_d (by omega) | assumption | exact tI_e1 | exact tI_e2 | exact tI_e3 | exact tI_e4) (by first | exact tI_n (by omega) | exact tI_d (by omega) | assumption | exact tI_e1 | exact tI_e2 | exact tI_e3 | exact tI_e4) (fun c_ => ?_) (fun c_ => by exfalso; omega)
      refine xr_ret xi_92_31 ?_
      exact hQ
    | succ d ih =>
      intro i hi
      refine xr_iload_n xi_92_2 rfl ?_
      refine xr_sipush (z := nI 196) xi_92_3 rfl ?_
      refine xr_ic_ge xi_92_6 (by first | exact tI_n (by omega) | exact tI_d (by omega) | assumption | exact tI_e1 | exact tI_e2 | exact tI_e3 | exact tI_e4) (by first | exact tI_n (by omega) | exact tI_d (by omega) | assumption | exact tI_e1 | exact tI_e2 | exact tI_e3 | exact tI_e4) (fun c_ => by exfalso; omega) (fun c_ => ?_)
      refine xr_aload_n xi_92_9 rfl ?_
      refine xr_getf xi_92_10 rfl rfl ?_
      refine xr_iload_n xi_92_13 rfl ?_
      refine xr_iload_n xi_92_14 rfl ?_
      refine xr_iadd xi_92_15 (by first | exact nI_add _ _ | exact rfl) ?_
      refine xr_aload_n xi_92_16 rfl ?_
      refine xr_getf xi_92_17 rfl rfl ?_
      refine xr_iload_n xi_92_20 rfl ?_
      refine xr_iload_n xi_92_21 rfl ?_
      refine xr_iadd xi_92_22 (by first | exact nI_add _ _ | exact rfl) ?_
      refine xr_ialz xi_92_23 rfl (by first | exact tI_n (by first | omega | (simp only [ri]; omega)) | exact tI_dn (by omega) (by omega) | assumption) (by first | omega | (simp only [ri]; omega)) (by first | exact mj_lo (by first | omega | (simp only [ri]; omega)) | exact mF_at _ _ | exact rfl) ?_
      refine xr_iast xi_92_24 rfl (by first | exact tI_n (by first | omega | (simp only [ri]; omega)) | exact tI_dn (by omega) (by omega) | assumption) (by first | omega | (simp only [ri]; omega)) ((mH_raw _ _).trans (congrArg (fun G => mH st tx ln ag po le nu fa re od be G) (cpN_s hd (by omega)))) ?_
      refine xr_iinc xi_92_25 rfl (by first | exact nI_1 _ | exact rfl) rfl ?_
      refine xr_goto xi_92_28 ?_
      exact ih (i + 1) (by omega)
  refine xr_iconst (z := nI 0) xi_92_0 rfl ?_
  refine xr_istore_n xi_92_1 (Nat.le_of_ble_eq_true rfl) rfl ?_
  have h0 := key 196 0 (by omega)
  rw [cpN_0] at h0
  exact h0
theorem wm_copyOut {b : Nat} (h1 : 196 ≤ b) (h2 : b + 196 ≤ 1176) (hQ : ∀ Z', (∀ i, i < 196 → Z' (b + i) = G i) → (∀ i, (i < b ∨ b + 196 ≤ i) → Z' i = Z i) → Q none (mJ st tx ln ag po le nu fa re od be Z' G)) : xc L xs 92 [.ref 0, .int (nI 0), .int (nI b)] (mJ st tx ln ag po le nu fa re od be Z G) Q := by
  refine wm_copyR (G := jn G Z) (by omega) h2 (by omega) ?_
  have h := hQ (fun i => if b ≤ i ∧ i < b + 196 then G (i - b) else Z i) (fun i hi => by rw [if_pos (by omega), show b + i - b = i by omega]) (fun i hi => by rw [if_neg (by omega)])
  have e : cpN (jn G Z) 0 b 196 = jn G (fun i => if b ≤ i ∧ i < b + 196 then G (i - b) else Z i) := by
    funext i
    unfold cpN jn
    dsimp only
    by_cases c : b ≤ i ∧ i < b + 196
    · rw [if_pos c, if_neg (show ¬ i < 196 by omega), if_pos c, if_pos (by omega), Nat.zero_add]
    · rw [if_neg c, if_neg c]
  unfold mJ at h
  rw [← e] at h
  exact h
theorem wm_copyIn {a : Nat} (h1 : 196 ≤ a) (h2 : a + 196 ≤ 1176) (hQ : Q none (mJ st tx ln ag po le nu fa re od be Z (fun i => if i < 196 then Z (a + i) else G i))) : xc L xs 92 [.ref 0, .int (nI a), .int (nI 0)] (mJ st tx ln ag po le nu fa re od be Z G) Q := by
  refine wm_copyR (G := jn G Z) h2 (by omega) (by omega) ?_
  have e : cpN (jn G Z) a 0 196 = jn (fun i => if i < 196 then Z (a + i) else G i) Z := by
    funext i
    unfold cpN jn
    dsimp only
    by_cases c : i < 196
    · rw [if_pos (by omega), if_neg (by omega), if_pos c, if_pos c, Nat.sub_zero]
    · rw [if_neg (by omega), if_neg c, if_neg c]
  unfold mJ at hQ
  rw [← e] at hQ
  exact hQ
theorem wm_copyZ {a b : Nat} (h1 : 196 ≤ a) (h2 : a + 196 ≤ 1176) (h3 : 196 ≤ b) (h4 : b + 196 ≤ 1176) (hd : a + 196 ≤ b ∨ b + 196 ≤ a) (hQ : Q none (mJ st tx ln ag po le nu fa re od be (cpN Z a b 196) G)) : xc L xs 92 [.ref 0, .int (nI a), .int (nI b)] (mJ st tx ln ag po le nu fa re od be Z G) Q := by
  refine wm_copyR (G := jn G Z) h2 h4 hd ?_
  have e : cpN (jn G Z) a b 196 = jn G (cpN Z a b 196) := by
    funext i
    unfold cpN jn
    dsimp only
    by_cases c : b ≤ i ∧ i < b + 196
    · rw [if_pos c, if_neg (by omega), if_neg (by omega), if_pos c]
    · rw [if_neg c, if_neg c]
  unfold mJ at hQ
  rw [← e] at hQ
  exact hQ
theorem wm_thingAt {p : Nat} (hc : G 0 ≤ 30) (hl : ∀ t, t < 30 → G (ri t 0) ≤ 40) (hp : p < 40) (h1 : ∀ t, t < G 0 → G (ri t 0) = p + 1 → (∀ u, u < t → G (ri u 0) ≠ p + 1) → Q (some (.int (nI t))) (mJ st tx ln ag po le nu fa re od be Z G)) (h2 : sEmp G p → Q (some (.int xE4)) (mJ st tx ln ag po le nu fa re od be Z G)) : xc L xs 98 [.ref 0, .int (nI p)] (mJ st tx ln ag po le nu fa re od be Z G) Q := by
  have key : ∀ d i, i + d = G 0 → (∀ u, u < i → G (ri u 0) ≠ p + 1) → xw L xs 98 2 [.ref 0, .int (nI p), .int (nI i)] [] (mJ st tx ln ag po le nu fa re od be Z G) Q := by
    intro d
    induction d with
    | zero =>
      intro i hi hu
      refine xr_iload_n xi_98_2 rfl ?_
      refine xr_aload_n xi_98_3 rfl ?_
      refine xr_getf xi_98_4 rfl rfl ?_
      refine xr_iconst (z := nI 0) xi_98_7 rfl ?_
      refine xr_ialz xi_98_8 rfl (by first | exact tI_n (by first | omega | (simp only [ri]; omega)) | exact tI_dn (by omega) (by omega) | assumption) (by first | omega | (simp only [ri]; omega)) (by first | exact mj_lo (by first | omega | (simp only [ri]; omega)) | exact mF_at _ _ | exact rfl) ?_
      refine xr_ic_ge xi_98_9 (by first | exact tI_n (by omega) | exact tI_d (by omega) | assumption | exact tI_e1 | exact tI_e2 | exact tI_e3 | exact tI_e4) (by first | exact tI_n (by omega) | exact tI_d (by omega) | assumption | exact tI_e1 | exact tI_e2 | exact tI_e3 | exact tI_e4) (fun c_ => ?_) (fun c_ => by exfalso; omega)
      refine xr_ldc (z := xE4) xi_98_36 rfl ?_
      refine xr_iret xi_98_38 (fun h => absurd h (by decide)) ?_
      exact h2 (fun t ht => hu t (by omega))
    | succ d ih =>
      intro i hi hu
      have hli := hl i (by omega)
      refine xr_iload_n xi_98_2 rfl ?_
      refine xr_aload_n xi_98_3 rfl ?_
      refine xr_getf xi_98_4 rfl rfl ?_
      refine xr_iconst (z := nI 0) xi_98_7 rfl ?_
      refine xr_ialz xi_98_8 rfl (by first | exact tI_n (by first | omega | (simp only [ri]; omega)) | exact tI_dn (by omega) (by omega) | assumption) (by first | omega | (simp only [ri]; omega)) (by first | exact mj_lo (by first | omega | (simp only [ri]; omega)) | exact mF_at _ _ | exact rfl) ?_
      refine xr_ic_ge xi_98_9 (by first | exact tI_n (by omega) | exact tI_d (by omega) | assumption | exact tI_e1 | exact tI_e2 | exact tI_e3 | exact tI_e4) (by first | exact tI_n (by omega) | exact tI_d (by omega) | assumption | exact tI_e1 | exact tI_e2 | exact tI_e3 | exact tI_e4) (fun c_ => by exfalso; omega) (fun c_ => ?_)
      refine xr_aload_n xi_98_12 rfl ?_
      refine xr_getf xi_98_13 rfl rfl ?_
      refine xr_iload_n xi_98_16 rfl ?_
      refine xr_iconst (z := nI 0) xi_98_17 rfl ?_
      refine xr_stat xi_98_18 (by decide) rfl rfl (Nat.le_of_ble_eq_true rfl) (Nat.le_of_ble_eq_true rfl) ?_
      refine wm_of ?_
      refine xr_k ?_
      refine xr_ialz xi_98_21 rfl (by first | exact tI_n (by first | omega | (simp only [ri]; omega)) | exact tI_dn (by omega) (by omega) | assumption) (by first | omega | (simp only [ri]; omega)) (by first | exact mj_lo (by first | omega | (simp only [ri]; omega)) | exact mF_at _ _ | exact rfl) ?_
      refine xr_iload_n xi_98_22 rfl ?_
      refine xr_iconst (z := nI 1) xi_98_23 rfl ?_
      refine xr_iadd xi_98_24 (by first | exact nI_add _ _ | exact rfl) ?_
      refine xr_ic_ne xi_98_25 (by first | exact tI_n (by omega) | exact tI_d (by omega) | assumption | exact tI_e1 | exact tI_e2 | exact tI_e3 | exact tI_e4) (by first | exact tI_n (by omega) | exact tI_d (by omega) | assumption | exact tI_e1 | exact tI_e2 | exact tI_e3 | exact tI_e4) (fun c_25 => ?_) (fun c_25 => ?_)
      · refine xr_iinc xi_98_30 rfl (by first | exact nI_1 _ | exact rfl) rfl ?_
        refine xr_goto xi_98_33 ?_
        refine ih (i + 1) (by omega) (fun u hu2 => ?_)
        by_cases e : u = i
        · subst e
          omega
        · exact hu u (by omega)
      · refine xr_iload_n xi_98_28 rfl ?_
        refine xr_iret xi_98_29 (fun h => absurd h (by decide)) ?_
        exact h1 i (by omega) (by omega) hu
  refine xr_iconst (z := nI 0) xi_98_0 rfl ?_
  refine xr_istore_n xi_98_1 (Nat.le_of_ble_eq_true rfl) rfl ?_
  exact key (G 0) 0 (by omega) (fun u hu => by omega)
theorem wm_emptyIn {h : Nat} (hc : G 0 ≤ 30) (hl : ∀ t, t < 30 → G (ri t 0) ≤ 40) (hh : h < 8) (h1 : ∀ q, fstN (fun q => sEmp G (5 * h + q)) 5 = some q → Q (some (.int (nI (5 * h + q)))) (mJ st tx ln ag po le nu fa re od be Z G)) (h2 : fstN (fun q => sEmp G (5 * h + q)) 5 = none → Q (some (.int xE4)) (mJ st tx ln ag po le nu fa re od be Z G)) : xc L xs 99 [.ref 0, .int (nI h)] (mJ st tx ln ag po le nu fa re od be Z G) Q := by
  have key : ∀ d i, i + d = 5 → (∀ j, j < i → ¬ sEmp G (5 * h + j)) → xw L xs 99 4 [.ref 0, .int (nI h), .int (nI (5 * h + i))] [] (mJ st tx ln ag po le nu fa re od be Z G) Q := by
    intro d
    induction d with
    | zero =>
      intro i hi hu
      refine xr_iload_n xi_99_4 rfl ?_
      refine xr_iconst (z := nI 5) xi_99_5 rfl ?_
      refine xr_iload_n xi_99_6 rfl ?_
      refine xr_imul xi_99_7 (by first | exact pk_mul _ _ | exact rfl) ?_
      refine xr_iconst (z := nI 5) xi_99_8 rfl ?_
      refine xr_iadd xi_99_9 (by first | exact nI_add _ _ | exact rfl) ?_
      refine xr_ic_ge xi_99_10 (by first | exact tI_n (by omega) | exact tI_d (by omega) | assumption | exact tI_e1 | exact tI_e2 | exact tI_e3 | exact tI_e4) (by first | exact tI_n (by omega) | exact tI_d (by omega) | assumption | exact tI_e1 | exact tI_e2 | exact tI_e3 | exact tI_e4) (fun c_ => ?_) (fun c_ => by exfalso; omega)
      refine xr_ldc (z := xE4) xi_99_31 rfl ?_
      refine xr_iret xi_99_33 (fun h => absurd h (by decide)) ?_
      exact h2 (fstN_none.mpr (fun j hj => hu j (by omega)))
    | succ d ih =>
      intro i hi hu
      refine xr_iload_n xi_99_4 rfl ?_
      refine xr_iconst (z := nI 5) xi_99_5 rfl ?_
      refine xr_iload_n xi_99_6 rfl ?_
      refine xr_imul xi_99_7 (by first | exact pk_mul _ _ | exact rfl) ?_
      refine xr_iconst (z := nI 5) xi_99_8 rfl ?_
      refine xr_iadd xi_99_9 (by first | exact nI_add _ _ | exact rfl) ?_
      refine xr_ic_ge xi_99_10 (by first | exact tI_n (by omega) | exact tI_d (by omega) | assumption | exact tI_e1 | exact tI_e2 | exact tI_e3 | exact tI_e4) (by first | exact tI_n (by omega) | exact tI_d (by omega) | assumption | exact tI_e1 | exact tI_e2 | exact tI_e3 | exact tI_e4) (fun c_ => by exfalso; omega) (fun c_ => ?_)
      refine xr_aload_n xi_99_13 rfl ?_
      refine xr_iload_n xi_99_14 rfl ?_
      refine xr_virt xi_99_15 rfl rfl rfl rfl (Nat.le_of_ble_eq_true rfl) (Nat.le_of_ble_eq_true rfl) ?_
      refine wm_thingAt hc hl (by omega) (fun t ht e _ => ?_) (fun he => ?_)
      · refine xr_k ?_
        refine xr_ldc (z := xE4) xi_99_18 rfl ?_
        refine xr_ic_ne xi_99_20 (by first | exact tI_n (by omega) | exact tI_d (by omega) | assumption | exact tI_e1 | exact tI_e2 | exact tI_e3 | exact tI_e4) (by first | exact tI_n (by omega) | exact tI_d (by omega) | assumption | exact tI_e1 | exact tI_e2 | exact tI_e3 | exact tI_e4) (fun c_ => ?_) (fun c_ => by exfalso; omega)
        refine xr_iinc xi_99_25 rfl (by first | exact nI_1 _ | exact rfl) rfl ?_
        refine xr_goto xi_99_28 ?_
        refine ih (i + 1) (by omega) (fun j hj => ?_)
        by_cases e2 : j = i
        · subst e2
          exact fun q => q t ht e
        · exact hu j (by omega)
      · refine xr_k ?_
        refine xr_ldc (z := xE4) xi_99_18 rfl ?_
        refine xr_ic_ne xi_99_20 (by first | exact tI_n (by omega) | exact tI_d (by omega) | assumption | exact tI_e1 | exact tI_e2 | exact tI_e3 | exact tI_e4) (by first | exact tI_n (by omega) | exact tI_d (by omega) | assumption | exact tI_e1 | exact tI_e2 | exact tI_e3 | exact tI_e4) (fun c_ => by exfalso; omega) (fun c_ => ?_)
        refine xr_iload_n xi_99_23 rfl ?_
        refine xr_iret xi_99_24 (fun h => absurd h (by decide)) ?_
        exact h1 i (fstN_some.mpr ⟨by omega, he, hu⟩)
  refine xr_iconst (z := nI 5) xi_99_0 rfl ?_
  refine xr_iload_n xi_99_1 rfl ?_
  refine xr_imul xi_99_2 (by first | exact pk_mul _ _ | exact rfl) ?_
  refine xr_istore_n xi_99_3 (Nat.le_of_ble_eq_true rfl) rfl ?_
  exact key 5 0 (by omega) (fun u hu => by omega)
theorem wm_room {b : Nat} (hc : G 0 ≤ 30) (hl : ∀ t, t < 30 → G (ri t 0) ≤ 40) (ha : ∀ h, h < 8 → G (4 + h) ≤ 3) (hb : b < 10) (h1 : ∀ p G', sRoom G (b + 1) = some (p, G') → p < 40 → Q (some (.int (nI p))) (mJ st tx ln ag po le nu fa re od be Z G')) (h2 : sRoom G (b + 1) = none → Q (some (.int xE4)) (mJ st tx ln ag po le nu fa re od be Z G)) : xc L xs 100 [.ref 0, .int (nI b)] (mJ st tx ln ag po le nu fa re od be Z G) Q := by
  have key2 : ∀ d i, i + d = 8 → fstN (fun h => G (4 + h) = b + 1 ∧ ∃ q, q < 5 ∧ sEmp G (5 * h + q)) 8 = none → (∀ j, j < i → ¬ G (4 + j) = 0) → xw L xs 100 46 [.ref 0, .int (nI b), .int (nI i)] [] (mJ st tx ln ag po le nu fa re od be Z G) Q := by
    intro d
    induction d with
    | zero =>
      intro i hi hn hu
      refine xr_iload_n xi_100_46 rfl ?_
      refine xr_bipush (z := nI 8) xi_100_47 rfl ?_
      refine xr_ic_ge xi_100_49 (by first | exact tI_n (by omega) | exact tI_d (by omega) | assumption | exact tI_e1 | exact tI_e2 | exact tI_e3 | exact tI_e4) (by first | exact tI_n (by omega) | exact tI_d (by omega) | assumption | exact tI_e1 | exact tI_e2 | exact tI_e3 | exact tI_e4) (fun c_ => ?_) (fun c_ => by exfalso; omega)
      refine xr_ldc (z := xE4) xi_100_84 rfl ?_
      refine xr_iret xi_100_86 (fun h => absurd h (by decide)) ?_
      exact h2 (sRoom_no hn (fstN_none.mpr (fun j hj => hu j (by omega))))
    | succ d ih =>
      intro i hi hn hu
      have hai := ha i (by omega)
      refine xr_iload_n xi_100_46 rfl ?_
      refine xr_bipush (z := nI 8) xi_100_47 rfl ?_
      refine xr_ic_ge xi_100_49 (by first | exact tI_n (by omega) | exact tI_d (by omega) | assumption | exact tI_e1 | exact tI_e2 | exact tI_e3 | exact tI_e4) (by first | exact tI_n (by omega) | exact tI_d (by omega) | assumption | exact tI_e1 | exact tI_e2 | exact tI_e3 | exact tI_e4) (fun c_ => by exfalso; omega) (fun c_ => ?_)
      refine xr_aload_n xi_100_52 rfl ?_
      refine xr_getf xi_100_53 rfl rfl ?_
      refine xr_iconst (z := nI 4) xi_100_56 rfl ?_
      refine xr_iload_n xi_100_57 rfl ?_
      refine xr_iadd xi_100_58 (by first | exact nI_add _ _ | exact rfl) ?_
      refine xr_ialz xi_100_59 rfl (by first | exact tI_n (by first | omega | (simp only [ri]; omega)) | exact tI_dn (by omega) (by omega) | assumption) (by first | omega | (simp only [ri]; omega)) (by first | exact mj_lo (by first | omega | (simp only [ri]; omega)) | exact mF_at _ _ | exact rfl) ?_
      refine xr_if_ne xi_100_60 (by first | exact tI_n (by omega) | exact tI_d (by omega) | assumption | exact tI_e1 | exact tI_e2 | exact tI_e3 | exact tI_e4) (fun c_60 => ?_) (fun c_60 => ?_)
      · refine xr_iinc xi_100_78 rfl (by first | exact nI_1 _ | exact rfl) rfl ?_
        refine xr_goto xi_100_81 ?_
        refine ih (i + 1) (by omega) hn (fun j hj => ?_)
        by_cases e2 : j = i
        · subst e2
          omega
        · exact hu j (by omega)
      · refine xr_aload_n xi_100_63 rfl ?_
        refine xr_getf xi_100_64 rfl rfl ?_
        refine xr_iconst (z := nI 4) xi_100_67 rfl ?_
        refine xr_iload_n xi_100_68 rfl ?_
        refine xr_iadd xi_100_69 (by first | exact nI_add _ _ | exact rfl) ?_
        refine xr_iload_n xi_100_70 rfl ?_
        refine xr_iconst (z := nI 1) xi_100_71 rfl ?_
        refine xr_iadd xi_100_72 (by first | exact nI_add _ _ | exact rfl) ?_
        refine xr_iast xi_100_73 rfl (by first | exact tI_n (by first | omega | (simp only [ri]; omega)) | exact tI_dn (by omega) (by omega) | assumption) (by first | omega | (simp only [ri]; omega)) (mH_row _ (by omega)) ?_
        refine xr_iconst (z := nI 5) xi_100_74 rfl ?_
        refine xr_iload_n xi_100_75 rfl ?_
        refine xr_imul xi_100_76 (by first | exact pk_mul _ _ | exact rfl) ?_
        refine xr_iret xi_100_77 (fun h => absurd h (by decide)) ?_
        exact h1 (5 * i) _ (sRoom_free hn (fstN_some.mpr ⟨by omega, by omega, hu⟩)) (by omega)
  have key : ∀ d i, i + d = 8 → (∀ j, j < i → ¬ (G (4 + j) = b + 1 ∧ ∃ q, q < 5 ∧ sEmp G (5 * j + q))) → xw L xs 100 2 [.ref 0, .int (nI b), .int (nI i)] [] (mJ st tx ln ag po le nu fa re od be Z G) Q := by
    intro d
    induction d with
    | zero =>
      intro i hi hu
      refine xr_iload_n xi_100_2 rfl ?_
      refine xr_bipush (z := nI 8) xi_100_3 rfl ?_
      refine xr_ic_ge xi_100_5 (by first | exact tI_n (by omega) | exact tI_d (by omega) | assumption | exact tI_e1 | exact tI_e2 | exact tI_e3 | exact tI_e4) (by first | exact tI_n (by omega) | exact tI_d (by omega) | assumption | exact tI_e1 | exact tI_e2 | exact tI_e3 | exact tI_e4) (fun c_ => ?_) (fun c_ => by exfalso; omega)
      refine xr_iconst (z := nI 0) xi_100_44 rfl ?_
      refine xr_istore_n xi_100_45 (Nat.le_of_ble_eq_true rfl) rfl ?_
      exact key2 8 0 (by omega) (fstN_none.mpr (fun j hj => hu j (by omega))) (fun j hj => by omega)
    | succ d ih =>
      intro i hi hu
      have hai := ha i (by omega)
      refine xr_iload_n xi_100_2 rfl ?_
      refine xr_bipush (z := nI 8) xi_100_3 rfl ?_
      refine xr_ic_ge xi_100_5 (by first | exact tI_n (by omega) | exact tI_d (by omega) | assumption | exact tI_e1 | exact tI_e2 | exact tI_e3 | exact tI_e4) (by first | exact tI_n (by omega) | exact tI_d (by omega) | assumption | exact tI_e1 | exact tI_e2 | exact tI_e3 | exact tI_e4) (fun c_ => by exfalso; omega) (fun c_ => ?_)
      refine xr_aload_n xi_100_8 rfl ?_
      refine xr_getf xi_100_9 rfl rfl ?_
      refine xr_iconst (z := nI 4) xi_100_12 rfl ?_
      refine xr_iload_n xi_100_13 rfl ?_
      refine xr_iadd xi_100_14 (by first | exact nI_add _ _ | exact rfl) ?_
      refine xr_ialz xi_100_15 rfl (by first | exact tI_n (by first | omega | (simp only [ri]; omega)) | exact tI_dn (by omega) (by omega) | assumption) (by first | omega | (simp only [ri]; omega)) (by first | exact mj_lo (by first | omega | (simp only [ri]; omega)) | exact mF_at _ _ | exact rfl) ?_
      refine xr_iload_n xi_100_16 rfl ?_
      refine xr_iconst (z := nI 1) xi_100_17 rfl ?_
      refine xr_iadd xi_100_18 (by first | exact nI_add _ _ | exact rfl) ?_
      refine xr_ic_ne xi_100_19 (by first | exact tI_n (by omega) | exact tI_d (by omega) | assumption | exact tI_e1 | exact tI_e2 | exact tI_e3 | exact tI_e4) (by first | exact tI_n (by omega) | exact tI_d (by omega) | assumption | exact tI_e1 | exact tI_e2 | exact tI_e3 | exact tI_e4) (fun c_19 => ?_) (fun c_19 => ?_)
      · refine xr_iinc xi_100_38 rfl (by first | exact nI_1 _ | exact rfl) rfl ?_
        refine xr_goto xi_100_41 ?_
        refine ih (i + 1) (by omega) (fun j hj => ?_)
        by_cases e2 : j = i
        · subst e2
          rintro ⟨e3, -⟩
          omega
        · exact hu j (by omega)
      · refine xr_aload_n xi_100_22 rfl ?_
        refine xr_iload_n xi_100_23 rfl ?_
        refine xr_virt xi_100_24 rfl rfl rfl rfl (Nat.le_of_ble_eq_true rfl) (Nat.le_of_ble_eq_true rfl) ?_
        refine wm_emptyIn hc hl (by omega) (fun q hq => ?_) (fun hn => ?_)
        · have hq2 := fstN_some.mp hq
          refine xr_k ?_
          refine xr_ldc (z := xE4) xi_100_27 rfl ?_
          refine xr_ic_eq xi_100_29 (by first | exact tI_n (by omega) | exact tI_d (by omega) | assumption | exact tI_e1 | exact tI_e2 | exact tI_e3 | exact tI_e4) (by first | exact tI_n (by omega) | exact tI_d (by omega) | assumption | exact tI_e1 | exact tI_e2 | exact tI_e3 | exact tI_e4) (fun c_ => by exfalso; omega) (fun c_ => ?_)
          refine xr_aload_n xi_100_32 rfl ?_
          refine xr_iload_n xi_100_33 rfl ?_
          refine xr_virt xi_100_34 rfl rfl rfl rfl (Nat.le_of_ble_eq_true rfl) (Nat.le_of_ble_eq_true rfl) ?_
          refine wm_emptyIn hc hl (by omega) (fun q' hq' => ?_) (fun hn => ?_)
          · refine xr_k ?_
            refine xr_iret xi_100_37 (fun h => absurd h (by decide)) ?_
            rw [hq] at hq'
            cases hq'
            exact h1 (5 * i + q) G (sRoom_in (fstN_some.mpr ⟨by omega, ⟨by omega, q, hq2.1, hq2.2.1⟩, hu⟩) hq) (by omega)
          · rw [hq] at hn
            cases hn
        · refine xr_k ?_
          refine xr_ldc (z := xE4) xi_100_27 rfl ?_
          refine xr_ic_eq xi_100_29 (by first | exact tI_n (by omega) | exact tI_d (by omega) | assumption | exact tI_e1 | exact tI_e2 | exact tI_e3 | exact tI_e4) (by first | exact tI_n (by omega) | exact tI_d (by omega) | assumption | exact tI_e1 | exact tI_e2 | exact tI_e3 | exact tI_e4) (fun c_ => ?_) (fun c_ => by exfalso; omega)
          refine xr_iinc xi_100_38 rfl (by first | exact nI_1 _ | exact rfl) rfl ?_
          refine xr_goto xi_100_41 ?_
          refine ih (i + 1) (by omega) (fun j hj => ?_)
          by_cases e2 : j = i
          · subst e2
            rintro ⟨-, q, hq1, hq2⟩
            exact fstN_none.mp hn q hq1 hq2
          · exact hu j (by omega)
  refine xr_iconst (z := nI 0) xi_100_0 rfl ?_
  refine xr_istore_n xi_100_1 (Nat.le_of_ble_eq_true rfl) rfl ?_
  exact key 8 0 (by omega) (fun u hu => by omega)
theorem wm_freeHouses (hc : G 0 ≤ 30) (hl : ∀ t, t < 30 → G (ri t 0) ≤ 40) (hQ : Q none (mJ st tx ln ag po le nu fa re od be Z (sFree G))) : xc L xs 101 [.ref 0] (mJ st tx ln ag po le nu fa re od be Z G) Q := by
  have key : ∀ d i x2 x3, i + d = 8 → xw L xs 101 2 [.ref 0, .int (nI i), x2, x3] [] (mJ st tx ln ag po le nu fa re od be Z (sFreeN G i)) Q := by
    intro d
    induction d with
    | zero =>
      intro i x2 x3 hi
      have e : i = 8 := by omega
      subst e
      refine xr_iload_n xi_101_2 rfl ?_
      refine xr_bipush (z := nI 8) xi_101_3 rfl ?_
      refine xr_ic_ge xi_101_5 (by first | exact tI_n (by omega) | exact tI_d (by omega) | assumption | exact tI_e1 | exact tI_e2 | exact tI_e3 | exact tI_e4) (by first | exact tI_n (by omega) | exact tI_d (by omega) | assumption | exact tI_e1 | exact tI_e2 | exact tI_e3 | exact tI_e4) (fun c_ => ?_) (fun c_ => by exfalso; omega)
      refine xr_ret xi_101_79 ?_
      exact hQ
    | succ d ih =>
      intro i x2 x3 hi
      have hc' : sFreeN G i 0 ≤ 30 := by rw [sFreeN_o (by omega)]; exact hc
      have hl' : ∀ t, t < 30 → sFreeN G i (ri t 0) ≤ 40 := fun t ht => by rw [sFreeN_o (by unfold ri; omega)]; exact hl t ht
      have key2 : ∀ d2 j e, j + d2 = 5 → ((e = 1 ∧ ∀ q, q < j → sEmp G (5 * i + q)) ∨ (e = 0 ∧ ¬ ∀ q, q < j → sEmp G (5 * i + q))) → xw L xs 101 14 [.ref 0, .int (nI i), .int (nI e), .int (nI (5 * i + j))] [] (mJ st tx ln ag po le nu fa re od be Z (sFreeN G i)) Q := by
        intro d2
        induction d2 with
        | zero =>
          intro j e hj he
          have ej : j = 5 := by omega
          subst ej
          rcases he with ⟨rfl, he⟩ | ⟨rfl, he⟩
          · refine xr_iload_n xi_101_14 rfl ?_
            refine xr_iconst (z := nI 5) xi_101_15 rfl ?_
            refine xr_iload_n xi_101_16 rfl ?_
            refine xr_imul xi_101_17 (by first | exact pk_mul _ _ | exact rfl) ?_
            refine xr_iconst (z := nI 5) xi_101_18 rfl ?_
            refine xr_iadd xi_101_19 (by first | exact nI_add _ _ | exact rfl) ?_
            refine xr_ic_ge xi_101_20 (by first | exact tI_n (by omega) | exact tI_d (by omega) | assumption | exact tI_e1 | exact tI_e2 | exact tI_e3 | exact tI_e4) (by first | exact tI_n (by omega) | exact tI_d (by omega) | assumption | exact tI_e1 | exact tI_e2 | exact tI_e3 | exact tI_e4) (fun c_ => ?_) (fun c_ => by exfalso; omega)
            refine xr_aload_n xi_101_49 rfl ?_
            refine xr_getf xi_101_50 rfl rfl ?_
            refine xr_iconst (z := nI 4) xi_101_53 rfl ?_
            refine xr_iload_n xi_101_54 rfl ?_
            refine xr_iadd xi_101_55 (by first | exact nI_add _ _ | exact rfl) ?_
            refine xr_iload_n xi_101_56 rfl ?_
            refine xr_if_eq xi_101_57 (by first | exact tI_n (by omega) | exact tI_d (by omega) | assumption | exact tI_e1 | exact tI_e2 | exact tI_e3 | exact tI_e4) (fun c_ => by exfalso; omega) (fun c_ => ?_)
            refine xr_iconst (z := nI 0) xi_101_60 rfl ?_
            refine xr_goto xi_101_61 ?_
            refine xr_iast xi_101_72 rfl (by first | exact tI_n (by first | omega | (simp only [ri]; omega)) | exact tI_dn (by omega) (by omega) | assumption) (by first | omega | (simp only [ri]; omega)) ((mH_row _ (by omega)).trans (congrArg (fun G => mJ st tx ln ag po le nu fa re od be Z G) (sFreeN_s1 he))) ?_
            refine xr_iinc xi_101_73 rfl (by first | exact nI_1 _ | exact rfl) rfl ?_
            refine xr_goto xi_101_76 ?_
            exact ih (i + 1) _ _ (by omega)
          · refine xr_iload_n xi_101_14 rfl ?_
            refine xr_iconst (z := nI 5) xi_101_15 rfl ?_
            refine xr_iload_n xi_101_16 rfl ?_
            refine xr_imul xi_101_17 (by first | exact pk_mul _ _ | exact rfl) ?_
            refine xr_iconst (z := nI 5) xi_101_18 rfl ?_
            refine xr_iadd xi_101_19 (by first | exact nI_add _ _ | exact rfl) ?_
            refine xr_ic_ge xi_101_20 (by first | exact tI_n (by omega) | exact tI_d (by omega) | assumption | exact tI_e1 | exact tI_e2 | exact tI_e3 | exact tI_e4) (by first | exact tI_n (by omega) | exact tI_d (by omega) | assumption | exact tI_e1 | exact tI_e2 | exact tI_e3 | exact tI_e4) (fun c_ => ?_) (fun c_ => by exfalso; omega)
            refine xr_aload_n xi_101_49 rfl ?_
            refine xr_getf xi_101_50 rfl rfl ?_
            refine xr_iconst (z := nI 4) xi_101_53 rfl ?_
            refine xr_iload_n xi_101_54 rfl ?_
            refine xr_iadd xi_101_55 (by first | exact nI_add _ _ | exact rfl) ?_
            refine xr_iload_n xi_101_56 rfl ?_
            refine xr_if_eq xi_101_57 (by first | exact tI_n (by omega) | exact tI_d (by omega) | assumption | exact tI_e1 | exact tI_e2 | exact tI_e3 | exact tI_e4) (fun c_ => ?_) (fun c_ => by exfalso; omega)
            refine xr_aload_n xi_101_64 rfl ?_
            refine xr_getf xi_101_65 rfl rfl ?_
            refine xr_iconst (z := nI 4) xi_101_68 rfl ?_
            refine xr_iload_n xi_101_69 rfl ?_
            refine xr_iadd xi_101_70 (by first | exact nI_add _ _ | exact rfl) ?_
            refine xr_ialz xi_101_71 rfl (by first | exact tI_n (by first | omega | (simp only [ri]; omega)) | exact tI_dn (by omega) (by omega) | assumption) (by first | omega | (simp only [ri]; omega)) (by first | exact mj_lo (by first | omega | (simp only [ri]; omega)) | exact mF_at _ _ | exact rfl) ?_
            refine xr_iast xi_101_72 rfl (by first | exact tI_n (by first | omega | (simp only [ri]; omega)) | exact tI_dn (by omega) (by omega) | assumption) (by first | omega | (simp only [ri]; omega)) ((mH_row _ (by omega)).trans (congrArg (fun G => mJ st tx ln ag po le nu fa re od be Z G) (sFreeN_s0 he))) ?_
            refine xr_iinc xi_101_73 rfl (by first | exact nI_1 _ | exact rfl) rfl ?_
            refine xr_goto xi_101_76 ?_
            exact ih (i + 1) _ _ (by omega)
        | succ d2 ih2 =>
          intro j e hj he
          rcases he with ⟨rfl, he⟩ | ⟨rfl, he⟩
          · refine xr_iload_n xi_101_14 rfl ?_
            refine xr_iconst (z := nI 5) xi_101_15 rfl ?_
            refine xr_iload_n xi_101_16 rfl ?_
            refine xr_imul xi_101_17 (by first | exact pk_mul _ _ | exact rfl) ?_
            refine xr_iconst (z := nI 5) xi_101_18 rfl ?_
            refine xr_iadd xi_101_19 (by first | exact nI_add _ _ | exact rfl) ?_
            refine xr_ic_ge xi_101_20 (by first | exact tI_n (by omega) | exact tI_d (by omega) | assumption | exact tI_e1 | exact tI_e2 | exact tI_e3 | exact tI_e4) (by first | exact tI_n (by omega) | exact tI_d (by omega) | assumption | exact tI_e1 | exact tI_e2 | exact tI_e3 | exact tI_e4) (fun c_ => by exfalso; omega) (fun c_ => ?_)
            refine xr_iload_n xi_101_23 rfl ?_
            refine xr_if_eq xi_101_24 (by first | exact tI_n (by omega) | exact tI_d (by omega) | assumption | exact tI_e1 | exact tI_e2 | exact tI_e3 | exact tI_e4) (fun c_ => by exfalso; omega) (fun c_ => ?_)
            refine xr_aload_n xi_101_27 rfl ?_
            refine xr_iload_n xi_101_28 rfl ?_
            refine xr_virt xi_101_29 rfl rfl rfl rfl (Nat.le_of_ble_eq_true rfl) (Nat.le_of_ble_eq_true rfl) ?_
            refine wm_thingAt hc' hl' (by omega) (fun t ht e _ => ?_) (fun hs => ?_)
            · rw [sFreeN_o (by omega)] at ht
              rw [sFreeN_o (by unfold ri; omega)] at e
              refine xr_k ?_
              refine xr_ldc (z := xE4) xi_101_32 rfl ?_
              refine xr_ic_ne xi_101_34 (by first | exact tI_n (by omega) | exact tI_d (by omega) | assumption | exact tI_e1 | exact tI_e2 | exact tI_e3 | exact tI_e4) (by first | exact tI_n (by omega) | exact tI_d (by omega) | assumption | exact tI_e1 | exact tI_e2 | exact tI_e3 | exact tI_e4) (fun c_ => ?_) (fun c_ => by exfalso; omega)
              refine xr_iconst (z := nI 0) xi_101_41 rfl ?_
              refine xr_istore_n xi_101_42 (Nat.le_of_ble_eq_true rfl) rfl ?_
              refine xr_iinc xi_101_43 rfl (by first | exact nI_1 _ | exact rfl) rfl ?_
              refine xr_goto xi_101_46 ?_
              exact ih2 (j + 1) 0 (by omega) (Or.inr ⟨rfl, fun q => q j (by omega) t ht e⟩)
            · rw [sEmp_F (by omega)] at hs
              refine xr_k ?_
              refine xr_ldc (z := xE4) xi_101_32 rfl ?_
              refine xr_ic_ne xi_101_34 (by first | exact tI_n (by omega) | exact tI_d (by omega) | assumption | exact tI_e1 | exact tI_e2 | exact tI_e3 | exact tI_e4) (by first | exact tI_n (by omega) | exact tI_d (by omega) | assumption | exact tI_e1 | exact tI_e2 | exact tI_e3 | exact tI_e4) (fun c_ => by exfalso; omega) (fun c_ => ?_)
              refine xr_iconst (z := nI 1) xi_101_37 rfl ?_
              refine xr_goto xi_101_38 ?_
              refine xr_istore_n xi_101_42 (Nat.le_of_ble_eq_true rfl) rfl ?_
              refine xr_iinc xi_101_43 rfl (by first | exact nI_1 _ | exact rfl) rfl ?_
              refine xr_goto xi_101_46 ?_
              refine ih2 (j + 1) 1 (by omega) (Or.inl ⟨rfl, fun q hq => ?_⟩)
              by_cases e2 : q = j
              · subst e2; exact hs
              · exact he q (by omega)
          · refine xr_iload_n xi_101_14 rfl ?_
            refine xr_iconst (z := nI 5) xi_101_15 rfl ?_
            refine xr_iload_n xi_101_16 rfl ?_
            refine xr_imul xi_101_17 (by first | exact pk_mul _ _ | exact rfl) ?_
            refine xr_iconst (z := nI 5) xi_101_18 rfl ?_
            refine xr_iadd xi_101_19 (by first | exact nI_add _ _ | exact rfl) ?_
            refine xr_ic_ge xi_101_20 (by first | exact tI_n (by omega) | exact tI_d (by omega) | assumption | exact tI_e1 | exact tI_e2 | exact tI_e3 | exact tI_e4) (by first | exact tI_n (by omega) | exact tI_d (by omega) | assumption | exact tI_e1 | exact tI_e2 | exact tI_e3 | exact tI_e4) (fun c_ => by exfalso; omega) (fun c_ => ?_)
            refine xr_iload_n xi_101_23 rfl ?_
            refine xr_if_eq xi_101_24 (by first | exact tI_n (by omega) | exact tI_d (by omega) | assumption | exact tI_e1 | exact tI_e2 | exact tI_e3 | exact tI_e4) (fun c_ => ?_) (fun c_ => by exfalso; omega)
            refine xr_iconst (z := nI 0) xi_101_41 rfl ?_
            refine xr_istore_n xi_101_42 (Nat.le_of_ble_eq_true rfl) rfl ?_
            refine xr_iinc xi_101_43 rfl (by first | exact nI_1 _ | exact rfl) rfl ?_
            refine xr_goto xi_101_46 ?_
            exact ih2 (j + 1) 0 (by omega) (Or.inr ⟨rfl, fun q => he (fun z hz => q z (by omega))⟩)
      refine xr_iload_n xi_101_2 rfl ?_
      refine xr_bipush (z := nI 8) xi_101_3 rfl ?_
      refine xr_ic_ge xi_101_5 (by first | exact tI_n (by omega) | exact tI_d (by omega) | assumption | exact tI_e1 | exact tI_e2 | exact tI_e3 | exact tI_e4) (by first | exact tI_n (by omega) | exact tI_d (by omega) | assumption | exact tI_e1 | exact tI_e2 | exact tI_e3 | exact tI_e4) (fun c_ => by exfalso; omega) (fun c_ => ?_)
      refine xr_iconst (z := nI 1) xi_101_8 rfl ?_
      refine xr_istore_n xi_101_9 (Nat.le_of_ble_eq_true rfl) rfl ?_
      refine xr_iconst (z := nI 5) xi_101_10 rfl ?_
      refine xr_iload_n xi_101_11 rfl ?_
      refine xr_imul xi_101_12 (by first | exact pk_mul _ _ | exact rfl) ?_
      refine xr_istore_n xi_101_13 (Nat.le_of_ble_eq_true rfl) rfl ?_
      exact key2 5 0 1 (by omega) (Or.inl ⟨rfl, fun q hq => by omega⟩)
  refine xr_iconst (z := nI 0) xi_101_0 rfl ?_
  refine xr_istore_n xi_101_1 (Nat.le_of_ble_eq_true rfl) rfl ?_
  have h0 := key 8 0 .null .null (by omega)
  rw [sFreeN_0] at h0
  exact h0
end M2
