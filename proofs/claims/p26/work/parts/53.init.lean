/-! the constructors -/
def zA (n : Nat) : Nat → Nat := fun j => if j < n then 0 else 1
theorem dI_11 : dI 1 = 0 := by decide +kernel
def v0 : wVals := (zA 8, zA 40, zA 30, zA 90, fun _ => 0, zA 4, nI 0, 0, 0, 0, 0)
def G0 : Nat → Nat := fun _ => 0
theorem v0_R : vRt v0 G0 := by
  refine ⟨fun h hh => if_pos hh, fun t ht => if_pos ht, fun t k ht hk => if_pos (by omega), fun k hk => if_pos hk, fun t ht => rfl, ?_, ⟨rfl, rfl, rfl, rfl⟩, fun p hp => ?_, fun p t hp ht => ?_⟩
  · show nI 0 = _
    rw [mk_0]
    exact mk_congr (fun t _ => ⟨fun h => h.elim, fun h => by cases h⟩)
  · show zA 40 p ≤ 30
    unfold zA
    rw [if_pos hp]
    omega
  · show zA 40 p = t + 1 ↔ t < 0 ∧ _
    unfold zA
    rw [if_pos hp]
    exact ⟨fun h => by omega, fun h => by omega⟩
theorem G0_inv : sInv G0 := by
  refine ⟨by decide, fun _ _ _ _ _ => rfl, fun _ _ => Nat.zero_le _, fun _ _ => Nat.zero_le _, fun k hk => ⟨Nat.zero_le _, fun h => absurd h (Nat.lt_irrefl 0)⟩, fun t k ht hk => ⟨Nat.zero_le _, fun h => absurd h (Nat.lt_irrefl 0)⟩, fun t u ht => absurd ht.1 (Nat.not_lt_zero t), fun t ht => absurd ht.1 (Nat.not_lt_zero t), fun t ht => ⟨Nat.zero_le _, fun h => absurd h (Nat.lt_irrefl 0)⟩⟩
section WI
variable {L : Nat} {xs : Nat → Int32} {Q : Option Value → xm_H → Prop}
theorem wi_clear {hp : xm_H} {a n : Nat} (ha : hp[a]? = some (.inl (n, fun _ => 0))) (hn : n < 1000) (hQ : Q none (hp.set a (.inl (n, dF (zA n))))) : xc L xs 12 [.ref a] hp Q := by
  have hal : a < hp.length := (List.getElem?_eq_some_iff.mp ha).1
  have hat : ∀ e, (hp.set a e)[a]? = some e := fun e => List.getElem?_set_self hal
  have key : ∀ d i, i + d = n → xw L xs 12 2 [.ref a, .int (nI i)] [] (hp.set a (.inl (n, dF (zA i)))) Q := by
    intro d
    induction d with
    | zero =>
      intro i hi
      have e : i = n := by omega
      subst e
      refine xr_iload_n xi_12_2 rfl ?_
      refine xr_aload_n xi_12_3 rfl ?_
      refine xr_alen xi_12_4 (hat _) ?_
      refine xr_ic_ge xi_12_5 (by first | exact tI_n (by omega) | exact tI_d (by omega) | assumption | exact tI_e1 | exact tI_e2 | exact tI_e3 | exact tI_e4) (by first | exact tI_n (by omega) | exact tI_d (by omega) | assumption | exact tI_e1 | exact tI_e2 | exact tI_e3 | exact tI_e4) (fun c_ => ?_) (fun c_ => by exfalso; omega)
      refine xr_ret xi_12_18 ?_
      exact hQ
    | succ d ih =>
      intro i hi
      refine xr_iload_n xi_12_2 rfl ?_
      refine xr_aload_n xi_12_3 rfl ?_
      refine xr_alen xi_12_4 (hat _) ?_
      refine xr_ic_ge xi_12_5 (by first | exact tI_n (by omega) | exact tI_d (by omega) | assumption | exact tI_e1 | exact tI_e2 | exact tI_e3 | exact tI_e4) (by first | exact tI_n (by omega) | exact tI_d (by omega) | assumption | exact tI_e1 | exact tI_e2 | exact tI_e3 | exact tI_e4) (fun c_ => by exfalso; omega) (fun c_ => ?_)
      refine xr_aload_n xi_12_8 rfl ?_
      refine xr_iload_n xi_12_9 rfl ?_
      refine xr_iconst (z := dI 0) xi_12_10 xm_m1 ?_
      refine xr_iast xi_12_11 (hat _) (tI_n (by omega)) (by omega) (?_ : _ = hp.set a (.inl (n, dF (zA (i + 1))))) ?_
      · rw [List.set_set, upd_dF]
        congr 4
        funext j
        unfold un zA
        by_cases e : j = i
        · rw [if_pos e, if_pos (by omega)]
        · rw [if_neg e]
          by_cases c : j < i
          · rw [if_pos c, if_pos (by omega)]
          · rw [if_neg c, if_neg (by omega)]
      refine xr_iinc xi_12_12 rfl (by first | exact nI_1 _ | exact rfl) rfl ?_
      refine xr_goto xi_12_15 ?_
      exact ih (i + 1) (by omega)
  refine xr_iconst (z := nI 0) xi_12_0 rfl ?_
  refine xr_istore_n xi_12_1 (Nat.le_of_ble_eq_true rfl) rfl ?_
  have h0 := key n 0 (by omega)
  have e : hp.set a (.inl (n, dF (zA 0))) = hp := by
    have e1 : dF (zA 0) = fun _ => 0 := by
      funext j
      show dI (zA 0 j) = 0
      unfold zA
      rw [if_neg (by omega)]
      exact dI_11
    rw [e1]
    refine List.ext_getElem? (fun i => ?_)
    by_cases c : a = i
    · subst c
      rw [List.getElem?_set_self hal, ha]
    · rw [List.getElem?_set_ne c]
  rw [e] at h0
  exact h0
theorem wi_V (hQ : Q none (vHt v0)) : xc L xs 11 [.ref 0] [.inr (.inr (1, xm_new 1))] Q := by
  refine xr_aload_n xi_11_0 rfl ?_
  refine xr_oinit xi_11_1 (Nat.le_of_ble_eq_true rfl) ?_
  refine xr_aload_n xi_11_4 rfl ?_
  refine xr_bipush (z := nI 8) xi_11_5 rfl ?_
  refine xr_newa xi_11_7 (by first | exact tI_n (by first | omega | (simp only [ri]; omega)) | exact tI_dn (by omega) (by omega) | assumption) (by omega) ?_
  refine xr_putr xi_11_9 rfl (Nat.le_of_ble_eq_true rfl) rfl ?_
  refine xr_aload_n xi_11_12 rfl ?_
  refine xr_bipush (z := nI 40) xi_11_13 rfl ?_
  refine xr_newa xi_11_15 (by first | exact tI_n (by first | omega | (simp only [ri]; omega)) | exact tI_dn (by omega) (by omega) | assumption) (by omega) ?_
  refine xr_putr xi_11_17 rfl (Nat.le_of_ble_eq_true rfl) rfl ?_
  refine xr_aload_n xi_11_20 rfl ?_
  refine xr_bipush (z := nI 30) xi_11_21 rfl ?_
  refine xr_newa xi_11_23 (by first | exact tI_n (by first | omega | (simp only [ri]; omega)) | exact tI_dn (by omega) (by omega) | assumption) (by omega) ?_
  refine xr_putr xi_11_25 rfl (Nat.le_of_ble_eq_true rfl) rfl ?_
  refine xr_aload_n xi_11_28 rfl ?_
  refine xr_bipush (z := nI 90) xi_11_29 rfl ?_
  refine xr_newa xi_11_31 (by first | exact tI_n (by first | omega | (simp only [ri]; omega)) | exact tI_dn (by omega) (by omega) | assumption) (by omega) ?_
  refine xr_putr xi_11_33 rfl (Nat.le_of_ble_eq_true rfl) rfl ?_
  refine xr_aload_n xi_11_36 rfl ?_
  refine xr_bipush (z := nI 30) xi_11_37 rfl ?_
  refine xr_newa xi_11_39 (by first | exact tI_n (by first | omega | (simp only [ri]; omega)) | exact tI_dn (by omega) (by omega) | assumption) (by omega) ?_
  refine xr_putr xi_11_41 rfl (Nat.le_of_ble_eq_true rfl) rfl ?_
  refine xr_aload_n xi_11_44 rfl ?_
  refine xr_iconst (z := nI 4) xi_11_45 rfl ?_
  refine xr_newa xi_11_46 (by first | exact tI_n (by first | omega | (simp only [ri]; omega)) | exact tI_dn (by omega) (by omega) | assumption) (by omega) ?_
  refine xr_putr xi_11_48 rfl (Nat.le_of_ble_eq_true rfl) rfl ?_
  refine xr_aload_n xi_11_51 rfl ?_
  refine xr_iconst (z := nI 0) xi_11_52 rfl ?_
  refine xr_putf xi_11_53 rfl (Nat.le_of_ble_eq_true rfl) rfl ?_
  refine xr_aload_n xi_11_56 rfl ?_
  refine xr_iconst (z := nI 0) xi_11_57 rfl ?_
  refine xr_putf xi_11_58 rfl (Nat.le_of_ble_eq_true rfl) rfl ?_
  refine xr_aload_n xi_11_61 rfl ?_
  refine xr_iconst (z := nI 0) xi_11_62 rfl ?_
  refine xr_putf xi_11_63 rfl (Nat.le_of_ble_eq_true rfl) rfl ?_
  refine xr_aload_n xi_11_66 rfl ?_
  refine xr_iconst (z := nI 0) xi_11_67 rfl ?_
  refine xr_putf xi_11_68 rfl (Nat.le_of_ble_eq_true rfl) rfl ?_
  refine xr_aload_n xi_11_71 rfl ?_
  refine xr_iconst (z := nI 0) xi_11_72 rfl ?_
  refine xr_putf xi_11_73 rfl (Nat.le_of_ble_eq_true rfl) rfl ?_
  refine xr_aload_n xi_11_76 rfl ?_
  refine xr_getf xi_11_77 rfl rfl ?_
  refine xr_stat xi_11_80 (by decide) rfl rfl (Nat.le_of_ble_eq_true rfl) (Nat.le_of_ble_eq_true rfl) ?_
  refine wi_clear rfl (by omega) ?_
  refine xr_kv ?_
  refine xr_aload_n xi_11_83 rfl ?_
  refine xr_getf xi_11_84 rfl rfl ?_
  refine xr_stat xi_11_87 (by decide) rfl rfl (Nat.le_of_ble_eq_true rfl) (Nat.le_of_ble_eq_true rfl) ?_
  refine wi_clear rfl (by omega) ?_
  refine xr_kv ?_
  refine xr_aload_n xi_11_90 rfl ?_
  refine xr_getf xi_11_91 rfl rfl ?_
  refine xr_stat xi_11_94 (by decide) rfl rfl (Nat.le_of_ble_eq_true rfl) (Nat.le_of_ble_eq_true rfl) ?_
  refine wi_clear rfl (by omega) ?_
  refine xr_kv ?_
  refine xr_aload_n xi_11_97 rfl ?_
  refine xr_getf xi_11_98 rfl rfl ?_
  refine xr_stat xi_11_101 (by decide) rfl rfl (Nat.le_of_ble_eq_true rfl) (Nat.le_of_ble_eq_true rfl) ?_
  refine wi_clear rfl (by omega) ?_
  refine xr_kv ?_
  refine xr_aload_n xi_11_104 rfl ?_
  refine xr_getf xi_11_105 rfl rfl ?_
  refine xr_stat xi_11_108 (by decide) rfl rfl (Nat.le_of_ble_eq_true rfl) (Nat.le_of_ble_eq_true rfl) ?_
  refine wi_clear rfl (by omega) ?_
  refine xr_kv ?_
  refine xr_ret xi_11_111 ?_
  exact hQ
theorem wi_W (hQ : ∀ fs R, wF fs → wX (wT fs 0 0 G0 G0 0 0 0 0 ++ R) 0 0 G0 G0 → Q none (wT fs 0 0 G0 G0 0 0 0 0 ++ R)) : xc L xs 55 [.ref 0] [.inr (.inr (2, xm_new 2))] Q := by
  have key : ∀ d i f R, i + d = 6 → R.length = 7 * i → (∀ k, k < i → f k = some (5 + 7 * k)) → (∀ k, k < i → wV k v0 (wT f 0 0 G0 G0 0 0 0 0 ++ R)) → xw L xs 55 36 [.ref 0, .int (nI i)] [] (wT f 0 0 G0 G0 0 0 0 0 ++ R) Q := by
    intro d
    induction d with
    | zero =>
      intro i f R hi hR hf hV
      have e : i = 6 := by omega
      subst e
      refine xr_iload_n xi_55_36 rfl ?_
      refine xr_bipush (z := nI 6) xi_55_37 rfl ?_
      refine xr_ic_ge xi_55_39 (by first | exact tI_n (by omega) | exact tI_d (by omega) | assumption | exact tI_e1 | exact tI_e2 | exact tI_e3 | exact tI_e4) (by first | exact tI_n (by omega) | exact tI_d (by omega) | assumption | exact tI_e1 | exact tI_e2 | exact tI_e3 | exact tI_e4) (fun c_ => ?_) (fun c_ => by exfalso; omega)
      refine xr_ret xi_55_61 ?_
      refine hQ f R hf ⟨?_, by omega, by omega, fun k hk => ⟨v0, hV k hk⟩, fun d hd => ⟨v0, ?_, ?_⟩⟩
      · rw [List.length_append, hR]
        rfl
      · exact hV _ (by omega)
      · rw [show d = 0 by omega, hG_0]
        exact v0_R
    | succ d ih =>
      intro i f R hi hR hf hV
      have hlen : (wT f 0 0 G0 G0 0 0 0 0 ++ R).length = 5 + 7 * i := by
        rw [List.length_append, hR]
        rfl
      refine xr_iload_n xi_55_36 rfl ?_
      refine xr_bipush (z := nI 6) xi_55_37 rfl ?_
      refine xr_ic_ge xi_55_39 (by first | exact tI_n (by omega) | exact tI_d (by omega) | assumption | exact tI_e1 | exact tI_e2 | exact tI_e3 | exact tI_e4) (by first | exact tI_n (by omega) | exact tI_d (by omega) | assumption | exact tI_e1 | exact tI_e2 | exact tI_e3 | exact tI_e4) (fun c_ => by exfalso; omega) (fun c_ => ?_)
      refine xr_aload_n xi_55_42 rfl ?_
      refine xr_getf xi_55_43 rfl rfl ?_
      refine xr_iload_n xi_55_46 rfl ?_
      refine xr_new xi_55_47 ?_
      refine xr_dup xi_55_50 ?_
      refine xr_spec xi_55_51 (by decide) rfl rfl (Nat.le_of_ble_eq_true rfl) (Nat.le_of_ble_eq_true rfl) ?_
      rw [hlen]
      refine xc_new (n := 5 + 7 * i) (as := [.ref 0]) (h := [.inr (.inr (1, xm_new 1))]) hlen (by rw [List.map_cons, List.map_nil, fe_new]) rfl (wi_V ?_)
      have hJ : sJ (rV i) (wT f 0 0 G0 G0 0 0 0 0 ++ R) (vHt v0) ((wT f 0 0 G0 G0 0 0 0 0 ++ R) ++ (vHt v0).map (fe (rV i))) := ⟨rfl, fun a => by rw [hlen]; rfl⟩
      have hVi : wV i v0 ((wT f 0 0 G0 G0 0 0 0 0 ++ R) ++ (vHt v0).map (fe (rV i))) := ⟨hJ.at, fun a b _ _ e => by unfold rV at e; omega, rfl⟩
      have hVk : ∀ k, k < i → wV k v0 ((wT f 0 0 G0 G0 0 0 0 0 ++ R) ++ (vHt v0).map (fe (rV i))) := by
        intro k hk
        refine ⟨fun a e he => ?_, (hV k hk).2.1, (hV k hk).2.2⟩
        have h1 := (hV k hk).1 a e he
        rw [List.getElem?_append_left (List.getElem?_eq_some_iff.mp h1).1]
        exact h1
      rw [List.append_assoc] at hVi hVk
      show xk _ _ _ _ _ _ _ _ ((wT f 0 0 G0 G0 0 0 0 0 ++ R) ++ (vHt v0).map (fe (rV i)))
      rw [List.append_assoc]
      refine xr_kv ?_
      refine xr_aast xi_55_54 rfl (tI_n (by omega)) (by omega) (hVi.1 0 _ rfl) (show _ = wT (va_up f i (some (5 + 7 * i))) 0 0 G0 G0 0 0 0 0 ++ (R ++ (vHt v0).map (fe (rV i))) from rfl) ?_
      refine xr_iinc xi_55_55 rfl (by first | exact nI_1 _ | exact rfl) rfl ?_
      refine xr_goto xi_55_58 ?_
      refine ih (i + 1) _ _ (by omega) ?_ (fun k hk => ?_) (fun k hk => ?_)
      · rw [List.length_append, List.length_map, hR]
        show 7 * i + 7 = _
        omega
      · unfold va_up
        by_cases e : k = i
        · rw [if_pos e, e]
        · rw [if_neg e]
          exact hf k (by omega)
      · by_cases e : k = i
        · rw [e]
          exact wV_top rfl rfl hVi
        · exact wV_top rfl rfl (hVk k (by omega))
  refine xr_aload_n xi_55_0 rfl ?_
  refine xr_oinit xi_55_1 (Nat.le_of_ble_eq_true rfl) ?_
  refine xr_aload_n xi_55_4 rfl ?_
  refine xr_bipush (z := nI 6) xi_55_5 rfl ?_
  refine xr_anew xi_55_7 (by first | exact tI_n (by first | omega | (simp only [ri]; omega)) | exact tI_dn (by omega) (by omega) | assumption) (by omega) ?_
  refine xr_putr xi_55_10 rfl (Nat.le_of_ble_eq_true rfl) rfl ?_
  refine xr_aload_n xi_55_13 rfl ?_
  refine xr_new xi_55_14 ?_
  refine xr_dup xi_55_17 ?_
  refine xr_spec xi_55_18 (by decide) rfl rfl (Nat.le_of_ble_eq_true rfl) (Nat.le_of_ble_eq_true rfl) ?_
  refine xr_aload_n xi_0_0 rfl ?_
  refine xr_oinit xi_0_1 (Nat.le_of_ble_eq_true rfl) ?_
  refine xr_aload_n xi_0_4 rfl ?_
  refine xr_bipush (z := nI 60) xi_0_5 rfl ?_
  refine xr_newa xi_0_7 (by first | exact tI_n (by first | omega | (simp only [ri]; omega)) | exact tI_dn (by omega) (by omega) | assumption) (by omega) ?_
  refine xr_putr xi_0_9 rfl (Nat.le_of_ble_eq_true rfl) rfl ?_
  refine xr_aload_n xi_0_12 rfl ?_
  refine xr_iconst (z := nI 3) xi_0_13 rfl ?_
  refine xr_newa xi_0_14 (by first | exact tI_n (by first | omega | (simp only [ri]; omega)) | exact tI_dn (by omega) (by omega) | assumption) (by omega) ?_
  refine xr_putr xi_0_16 rfl (Nat.le_of_ble_eq_true rfl) rfl ?_
  refine xr_aload_n xi_0_19 rfl ?_
  refine xr_iconst (z := nI 0) xi_0_20 rfl ?_
  refine xr_putf xi_0_21 rfl (Nat.le_of_ble_eq_true rfl) rfl ?_
  refine xr_aload_n xi_0_24 rfl ?_
  refine xr_iconst (z := nI 0) xi_0_25 rfl ?_
  refine xr_putf xi_0_26 rfl (Nat.le_of_ble_eq_true rfl) rfl ?_
  refine xr_aload_n xi_0_29 rfl ?_
  refine xr_iconst (z := nI 0) xi_0_30 rfl ?_
  refine xr_putf xi_0_31 rfl (Nat.le_of_ble_eq_true rfl) rfl ?_
  refine xr_aload_n xi_0_34 rfl ?_
  refine xr_iconst (z := nI 0) xi_0_35 rfl ?_
  refine xr_putf xi_0_36 rfl (Nat.le_of_ble_eq_true rfl) rfl ?_
  refine xr_ret xi_0_39 ?_
  refine xr_kv ?_
  refine xr_putr xi_55_21 rfl (Nat.le_of_ble_eq_true rfl) rfl ?_
  refine xr_aload_n xi_55_24 rfl ?_
  refine xr_iconst (z := nI 0) xi_55_25 rfl ?_
  refine xr_putf xi_55_26 rfl (Nat.le_of_ble_eq_true rfl) rfl ?_
  refine xr_aload_n xi_55_29 rfl ?_
  refine xr_iconst (z := nI 0) xi_55_30 rfl ?_
  refine xr_putf xi_55_31 rfl (Nat.le_of_ble_eq_true rfl) rfl ?_
  refine xr_iconst (z := nI 0) xi_55_34 rfl ?_
  refine xr_istore_n xi_55_35 (Nat.le_of_ble_eq_true rfl) rfl ?_
  exact key 6 0 (fun _ => none) [] (by omega) rfl (fun k hk => by omega) (fun k hk => by omega)
end WI
