/-! the village's helpers that change it -/
noncomputable def bumpN (G : Nat → Nat) (S : Nat → Prop) (n : Nat) : Nat → Nat := fun i => if cd (4 ≤ i ∧ i < 4 + n ∧ ∃ t, t < G 0 ∧ S t ∧ i = 4 + sHome G t) = true then G i + 1 else G i
theorem bumpN_o {G : Nat → Nat} {S : Nat → Prop} {n i : Nat} (h : i < 4 ∨ 4 + n ≤ i) : bumpN G S n i = G i := by
  unfold bumpN
  rw [if_neg (fun q => by have := cd_t.mp q; omega)]
theorem bumpN_0 {G : Nat → Nat} {S : Nat → Prop} : bumpN G S 0 = G := by
  funext i
  exact bumpN_o (by omega)
theorem bumpN_s1 {G : Nat → Nat} {S : Nat → Prop} {n : Nat} (h : ∃ t, t < G 0 ∧ S t ∧ sHome G t = n) : un (bumpN G S n) (4 + n) (bumpN G S n (4 + n) + 1) = bumpN G S (n + 1) := by
  funext i
  obtain ⟨t, h1, h2, h3⟩ := h
  by_cases e : i = 4 + n
  · subst e
    rw [un_s, bumpN_o (by omega)]
    unfold bumpN
    rw [if_pos (cd_t.mpr ⟨by omega, by omega, t, h1, h2, by omega⟩)]
  · rw [un_n e]
    unfold bumpN
    congr 2
    rw [Bool.eq_iff_iff, cd_t, cd_t]
    exact ⟨fun q => ⟨q.1, by omega, q.2.2⟩, fun q => ⟨q.1, by omega, q.2.2⟩⟩
theorem bumpN_s0 {G : Nat → Nat} {S : Nat → Prop} {n : Nat} (h : ¬ ∃ t, t < G 0 ∧ S t ∧ sHome G t = n) : bumpN G S n = bumpN G S (n + 1) := by
  funext i
  unfold bumpN
  congr 2
  rw [Bool.eq_iff_iff, cd_t, cd_t]
  refine ⟨fun q => ⟨q.1, by omega, q.2.2⟩, fun ⟨q1, q2, t, q3, q4, q5⟩ => ⟨q1, ?_, t, q3, q4, q5⟩⟩
  have : i ≠ 4 + n := fun e => h ⟨t, q3, q4, by omega⟩
  omega
theorem bumpN_8 {G : Nat → Nat} {S : Nat → Prop} (hS : ∀ t, S t → sHome G t < 8) : bumpN G S 8 = sBump G S (G 0) := by
  funext i
  unfold bumpN sBump
  congr 2
  rw [Bool.eq_iff_iff, cd_t, cd_t]
  refine ⟨fun q => q.2.2, fun ⟨t, q1, q2, q3⟩ => ⟨by omega, ?_, t, q1, q2, q3⟩⟩
  have := hS t q2
  omega
theorem sWipeN_30 {G : Nat → Nat} {P : Nat → Prop} (hP : ∀ t, P t → t < G 0) (hc : G 0 ≤ 30) : sWipeN G P 30 0 = sWipe G P := by
  rw [← sWipeN_e]
  funext i
  unfold sWipeN
  congr 2
  rw [Bool.eq_iff_iff, cd_t, cd_t]
  refine ⟨fun ⟨t, w, h1, h2, h3⟩ => ⟨t, w, ?_, h2, h3⟩, fun ⟨t, w, h1, h2, h3⟩ => ⟨t, w, ?_, h2, h3⟩⟩
  · have := hP t h2
    omega
  · omega
theorem sWipeN_le {G : Nat → Nat} {P : Nat → Prop} {n k i b : Nat} (h : G i ≤ b) : sWipeN G P n k i ≤ b := by
  unfold sWipeN
  split
  · omega
  · exact h
theorem sWipeN_k {G : Nat → Nat} {P : Nat → Prop} {n k t w : Nat} (hk : k ≤ 5) (h : n < t ∨ (n = t ∧ k ≤ w)) (hw : w < 6) : sWipeN G P n k (ri t w) = G (ri t w) := by
  unfold sWipeN
  rw [if_neg]
  intro q
  obtain ⟨u, v, h1, -, h3⟩ := cd_t.mp q
  have := ri_inj hw (v := v) (by omega) h3
  omega
section V5
variable {L : Nat} {xs : Nat → Int32} {Q : Option Value → xm_H → Prop} {A Gs Sp Ti Mv Hd G : Nat → Nat} {pin : Int32} {c w f m : Nat}
theorem wv_moveOut {t : Nat} (hR : vR A Gs Sp Ti Mv Hd pin c w f m G) (hl : ∀ t, t < 30 → G (ri t 0) ≤ 40) (ht : t < 30) (hlt : t < G 0) (hQ : vP Q none (un G (ri t 0) 0)) : xc L xs 26 [.ref 0, .int (nI t)] (vH A Gs Sp Ti Mv Hd pin c w f m) Q := by
  have hs := hR.s ht
  have hl1 := hl t ht
  cases hv : Sp t with
  | zero =>
    refine xr_aload_n xi_26_0 rfl ?_
    refine xr_getf xi_26_1 rfl rfl ?_
    refine xr_iload_n xi_26_4 rfl ?_
    refine xr_ialz xi_26_5 rfl (by first | exact tI_n (by first | omega | (simp only [ri]; omega)) | exact tI_dn (by omega) (by omega) | assumption) (by first | omega | (simp only [ri]; omega)) (dF_0 hv) ?_
    refine xr_istore_n xi_26_6 (Nat.le_of_ble_eq_true rfl) rfl ?_
    refine xr_iload_n xi_26_7 rfl ?_
    refine xr_iconst (z := dI 0) xi_26_8 xm_m1 ?_
    refine xr_ic_eq xi_26_9 (by first | exact tI_n (by omega) | exact tI_d (by omega) | assumption | exact tI_e1 | exact tI_e2 | exact tI_e3 | exact tI_e4) (by first | exact tI_n (by omega) | exact tI_d (by omega) | assumption | exact tI_e1 | exact tI_e2 | exact tI_e3 | exact tI_e4) (fun c_ => ?_) (fun c_ => by exfalso; omega)
    refine xr_ret xi_26_26 ?_
    have h0 := hQ A Gs Sp Ti Mv Hd pin c w f m
    rw [un_id (by omega)] at h0
    exact h0 hR
  | succ s =>
    refine xr_aload_n xi_26_0 rfl ?_
    refine xr_getf xi_26_1 rfl rfl ?_
    refine xr_iload_n xi_26_4 rfl ?_
    refine xr_ialz xi_26_5 rfl (by first | exact tI_n (by first | omega | (simp only [ri]; omega)) | exact tI_dn (by omega) (by omega) | assumption) (by first | omega | (simp only [ri]; omega)) (dF_s hv) ?_
    refine xr_istore_n xi_26_6 (Nat.le_of_ble_eq_true rfl) rfl ?_
    refine xr_iload_n xi_26_7 rfl ?_
    refine xr_iconst (z := dI 0) xi_26_8 xm_m1 ?_
    refine xr_ic_eq xi_26_9 (by first | exact tI_n (by omega) | exact tI_d (by omega) | assumption | exact tI_e1 | exact tI_e2 | exact tI_e3 | exact tI_e4) (by first | exact tI_n (by omega) | exact tI_d (by omega) | assumption | exact tI_e1 | exact tI_e2 | exact tI_e3 | exact tI_e4) (fun c_ => by exfalso; omega) (fun c_ => ?_)
    refine xr_aload_n xi_26_12 rfl ?_
    refine xr_getf xi_26_13 rfl rfl ?_
    refine xr_iload_n xi_26_16 rfl ?_
    refine xr_iconst (z := dI 0) xi_26_17 xm_m1 ?_
    refine xr_iast xi_26_18 rfl (by first | exact tI_n (by first | omega | (simp only [ri]; omega)) | exact tI_dn (by omega) (by omega) | assumption) (by first | omega | (simp only [ri]; omega)) (vH_G rfl) ?_
    refine xr_aload_n xi_26_19 rfl ?_
    refine xr_getf xi_26_20 rfl rfl ?_
    refine xr_iload_n xi_26_23 rfl ?_
    refine xr_iconst (z := dI 0) xi_26_24 xm_m1 ?_
    refine xr_iast xi_26_25 rfl (by first | exact tI_n (by first | omega | (simp only [ri]; omega)) | exact tI_dn (by omega) (by omega) | assumption) (by first | omega | (simp only [ri]; omega)) (vH_S rfl) ?_
    refine xr_ret xi_26_26 ?_
    exact hQ _ _ _ _ _ _ _ _ _ _ _ (vR.out ht (by omega) (by omega) hlt hR)
theorem wv_moveIn {t p b : Nat} (hR : vR A Gs Sp Ti Mv Hd pin c w f m G) (ht : t < 30) (hp : p < 40) (hlt : t < G 0) (he : sEmp G p) (h0 : G (ri t 0) = 0) (hQ : vP Q none (un (un G (4 + p / 5) (b + 1)) (ri t 0) (p + 1))) : xc L xs 25 [.ref 0, .int (nI t), .int (nI p), .int (nI b)] (vH A Gs Sp Ti Mv Hd pin c w f m) Q := by
  have e0 : un G (4 + p / 5) (b + 1) 0 = G 0 := un_n (by omega)
  have e1 : ∀ u, un G (4 + p / 5) (b + 1) (ri u 0) = G (ri u 0) := fun u => un_n (by unfold ri; omega)
  refine xr_aload_n xi_25_0 rfl ?_
  refine xr_getf xi_25_1 rfl rfl ?_
  refine xr_iload_n xi_25_4 rfl ?_
  refine xr_iconst (z := nI 5) xi_25_5 rfl ?_
  refine xr_idiv xi_25_6 (by decide) (by first | exact pk_div (by omega) (by omega) (by omega) | exact rfl) ?_
  refine xr_iload_n xi_25_7 rfl ?_
  refine xr_iast xi_25_8 rfl (by first | exact tI_n (by first | omega | (simp only [ri]; omega)) | exact tI_dn (by omega) (by omega) | assumption) (by first | omega | (simp only [ri]; omega)) (vH_A (dI_1 _).symm) ?_
  refine xr_aload_n xi_25_9 rfl ?_
  refine xr_getf xi_25_10 rfl rfl ?_
  refine xr_iload_n xi_25_13 rfl ?_
  refine xr_iload_n xi_25_14 rfl ?_
  refine xr_iast xi_25_15 rfl (by first | exact tI_n (by first | omega | (simp only [ri]; omega)) | exact tI_dn (by omega) (by omega) | assumption) (by first | omega | (simp only [ri]; omega)) (vH_G (dI_1 _).symm) ?_
  refine xr_aload_n xi_25_16 rfl ?_
  refine xr_getf xi_25_17 rfl rfl ?_
  refine xr_iload_n xi_25_20 rfl ?_
  refine xr_iload_n xi_25_21 rfl ?_
  refine xr_iast xi_25_22 rfl (by first | exact tI_n (by first | omega | (simp only [ri]; omega)) | exact tI_dn (by omega) (by omega) | assumption) (by first | omega | (simp only [ri]; omega)) (vH_S (dI_1 _).symm) ?_
  refine xr_ret xi_25_23 ?_
  refine hQ _ _ _ _ _ _ _ _ _ _ _ (vR.inn ht hp (by rw [e0]; exact hlt) (fun u hu => ?_) (by rw [e1]; exact h0) (vR.age (by omega) hR))
  rw [e0] at hu
  rw [e1]
  exact he u hu
theorem wv_freeEmpty (hR : vR A Gs Sp Ti Mv Hd pin c w f m G) (hc : G 0 ≤ 30) (hQ : vP Q none (sFree G)) : xc L xs 28 [.ref 0] (vH A Gs Sp Ti Mv Hd pin c w f m) Q := by
  have key : ∀ d i A, i + d = 8 → vR A Gs Sp Ti Mv Hd pin c w f m (sFreeN G i) → xw L xs 28 2 [.ref 0, .int (nI i)] [] (vH A Gs Sp Ti Mv Hd pin c w f m) Q := by
    intro d
    induction d with
    | zero =>
      intro i A hi hR
      have e : i = 8 := by omega
      subst e
      refine xr_iload_n xi_28_2 rfl ?_
      refine xr_bipush (z := nI 8) xi_28_3 rfl ?_
      refine xr_ic_ge xi_28_5 (by first | exact tI_n (by omega) | exact tI_d (by omega) | assumption | exact tI_e1 | exact tI_e2 | exact tI_e3 | exact tI_e4) (by first | exact tI_n (by omega) | exact tI_d (by omega) | assumption | exact tI_e1 | exact tI_e2 | exact tI_e3 | exact tI_e4) (fun c_ => ?_) (fun c_ => by exfalso; omega)
      refine xr_ret xi_28_29 ?_
      exact hQ _ _ _ _ _ _ _ _ _ _ _ hR
    | succ d ih =>
      intro i A hi hR
      have hc' : sFreeN G i 0 ≤ 30 := by rw [sFreeN_o (by omega)]; exact hc
      refine xr_iload_n xi_28_2 rfl ?_
      refine xr_bipush (z := nI 8) xi_28_3 rfl ?_
      refine xr_ic_ge xi_28_5 (by first | exact tI_n (by omega) | exact tI_d (by omega) | assumption | exact tI_e1 | exact tI_e2 | exact tI_e3 | exact tI_e4) (by first | exact tI_n (by omega) | exact tI_d (by omega) | assumption | exact tI_e1 | exact tI_e2 | exact tI_e3 | exact tI_e4) (fun c_ => by exfalso; omega) (fun c_ => ?_)
      refine xr_aload_n xi_28_8 rfl ?_
      refine xr_iload_n xi_28_9 rfl ?_
      refine xr_virt xi_28_10 rfl rfl rfl rfl (Nat.le_of_ble_eq_true rfl) (Nat.le_of_ble_eq_true rfl) ?_
      refine wv_thingsIn hR hc' (by omega) ?_
      refine xr_k ?_
      have h0 := sInH_0 (h := i) hc'
      by_cases c0 : mk (sInH (sFreeN G i) i) = 0
      · have h1 := h0.mp c0
        rw [c0]
        refine xr_if_ne xi_28_13 (Int32.toInt_zero) (fun c_ => by exfalso; omega) (fun c_ => ?_)
        refine xr_aload_n xi_28_16 rfl ?_
        refine xr_getf xi_28_17 rfl rfl ?_
        refine xr_iload_n xi_28_20 rfl ?_
        refine xr_iconst (z := dI 0) xi_28_21 xm_m1 ?_
        refine xr_iast xi_28_22 rfl (by first | exact tI_n (by first | omega | (simp only [ri]; omega)) | exact tI_dn (by omega) (by omega) | assumption) (by first | omega | (simp only [ri]; omega)) (vH_A rfl) ?_
        refine xr_iinc xi_28_23 rfl (by first | exact nI_1 _ | exact rfl) rfl ?_
        refine xr_goto xi_28_26 ?_
        refine ih (i + 1) _ (by omega) ?_
        have h2 := vR.age (k0 := i) (x := 0) (by omega) hR
        rw [sFreeN_s1 (fun q hq => (sEmp_F (by omega)).mp (h1 q hq))] at h2
        exact h2
      · refine xr_ifj xi_28_13 (fun _ => ?_) (fun q => absurd (by simp only [xm_cb, decide_eq_true_eq]; exact c0) q)
        refine xr_iinc xi_28_23 rfl (by first | exact nI_1 _ | exact rfl) rfl ?_
        refine xr_goto xi_28_26 ?_
        refine ih (i + 1) _ (by omega) ?_
        rw [← sFreeN_s0 (fun q => c0 (h0.mpr (fun z hz => (sEmp_F (by omega)).mpr (q z hz)))), un_id rfl]
        exact hR
  refine xr_iconst (z := nI 0) xi_28_0 rfl ?_
  refine xr_istore_n xi_28_1 (Nat.le_of_ble_eq_true rfl) rfl ?_
  exact key 8 0 A (by omega) (by rw [sFreeN_0]; exact hR)
theorem wv_remove {P : Nat → Prop} (hR : vR A Gs Sp Ti Mv Hd pin c w f m G) (hc : G 0 ≤ 30) (hl : ∀ t, t < 30 → G (ri t 0) ≤ 40) (hP : ∀ t, P t → t < G 0) (hp1 : ∀ t, P t → G (ri t 1) = 0) (hQ : vP Q none (sLose G P)) : xc L xs 27 [.ref 0, .int (mk P)] (vH A Gs Sp Ti Mv Hd pin c w f m) Q := by
  have key : ∀ d i x3 A Gs Sp Ti Mv Hd pin c w f m, i + d = 30 → vR A Gs Sp Ti Mv Hd pin c w f m (sWipeN G P i 0) → xw L xs 27 2 [.ref 0, .int (mk P), .int (nI i), x3] [] (vH A Gs Sp Ti Mv Hd pin c w f m) Q := by
    intro d
    induction d with
    | zero =>
      intro i x3 A Gs Sp Ti Mv Hd pin c w f m hi hR
      have e : i = 30 := by omega
      subst e
      rw [sWipeN_30 hP hc] at hR
      refine xr_iload_n xi_27_2 rfl ?_
      refine xr_bipush (z := nI 30) xi_27_3 rfl ?_
      refine xr_ic_ge xi_27_5 (by first | exact tI_n (by omega) | exact tI_d (by omega) | assumption | exact tI_e1 | exact tI_e2 | exact tI_e3 | exact tI_e4) (by first | exact tI_n (by omega) | exact tI_d (by omega) | assumption | exact tI_e1 | exact tI_e2 | exact tI_e3 | exact tI_e4) (fun c_ => ?_) (fun c_ => by exfalso; omega)
      refine xr_aload_n xi_27_51 rfl ?_
      refine xr_virt xi_27_52 rfl rfl rfl rfl (Nat.le_of_ble_eq_true rfl) (Nat.le_of_ble_eq_true rfl) ?_
      refine wv_freeEmpty hR (by rw [sWipe_o (by omega) hc]; exact hc) (fun A Gs Sp Ti Mv Hd pin c w f m hR => ?_)
      refine xr_kv ?_
      refine xr_ret xi_27_55 ?_
      exact hQ _ _ _ _ _ _ _ _ _ _ _ hR
    | succ d ih =>
      intro i x3 A Gs Sp Ti Mv Hd pin c w f m hi hR
      refine xr_iload_n xi_27_2 rfl ?_
      refine xr_bipush (z := nI 30) xi_27_3 rfl ?_
      refine xr_ic_ge xi_27_5 (by first | exact tI_n (by omega) | exact tI_d (by omega) | assumption | exact tI_e1 | exact tI_e2 | exact tI_e3 | exact tI_e4) (by first | exact tI_n (by omega) | exact tI_d (by omega) | assumption | exact tI_e1 | exact tI_e2 | exact tI_e3 | exact tI_e4) (fun c_ => by exfalso; omega) (fun c_ => ?_)
      refine xr_iload_n xi_27_8 rfl ?_
      refine xr_iload_n xi_27_9 rfl ?_
      refine xr_stat xi_27_10 (by decide) rfl rfl (Nat.le_of_ble_eq_true rfl) (Nat.le_of_ble_eq_true rfl) ?_
      refine wv_has (by omega) (fun hp => ?_) (fun hp => ?_)
      · have hlt := hP i hp
        have z0 : sWipeN G P i 0 0 = G 0 := sWipeN_lo (by omega)
        refine xr_k ?_
        refine xr_if_eq xi_27_13 (by first | exact tI_n (by omega) | exact tI_d (by omega) | assumption | exact tI_e1 | exact tI_e2 | exact tI_e3 | exact tI_e4) (fun c_ => by exfalso; omega) (fun c_ => ?_)
        refine xr_aload_n xi_27_16 rfl ?_
        refine xr_iload_n xi_27_17 rfl ?_
        refine xr_virt xi_27_18 rfl rfl rfl rfl (Nat.le_of_ble_eq_true rfl) (Nat.le_of_ble_eq_true rfl) ?_
        refine wv_moveOut hR (fun t ht => sWipeN_le (hl t ht)) (by omega) (by rw [z0]; exact hlt) (fun A Gs Sp Ti Mv Hd pin c w f m hR => ?_)
        rw [sWipeN_s (by omega) hp] at hR
        have e1 : sWipeN G P i 1 = sWipeN G P i 2 := by
          rw [← sWipeN_s (m := 1) (by omega) hp, un_id]
          rw [sWipeN_k (by omega) (by omega) (by omega)]
          exact hp1 i hp
        rw [e1] at hR
        refine xr_kv ?_
        have key2 : ∀ d2 s Ti, s + d2 = 3 → vR A Gs Sp Ti Mv Hd pin c w f m (sWipeN G P i (2 + s)) → xw L xs 27 23 [.ref 0, .int (mk P), .int (nI i), .int (nI s)] [] (vH A Gs Sp Ti Mv Hd pin c w f m) Q := by
          intro d2
          induction d2 with
          | zero =>
            intro s Ti hs hR
            have e : s = 3 := by omega
            subst e
            refine xr_iload_n xi_27_23 rfl ?_
            refine xr_iconst (z := nI 3) xi_27_24 rfl ?_
            refine xr_ic_ge xi_27_25 (by first | exact tI_n (by omega) | exact tI_d (by omega) | assumption | exact tI_e1 | exact tI_e2 | exact tI_e3 | exact tI_e4) (by first | exact tI_n (by omega) | exact tI_d (by omega) | assumption | exact tI_e1 | exact tI_e2 | exact tI_e3 | exact tI_e4) (fun c_ => ?_) (fun c_ => by exfalso; omega)
            refine xr_iinc xi_27_45 rfl (by first | exact nI_1 _ | exact rfl) rfl ?_
            refine xr_goto xi_27_48 ?_
            refine ih (i + 1) _ _ _ _ _ _ _ _ _ _ _ _ (by omega) ?_
            rw [← sWipeN_5]
            exact hR
          | succ d2 ih2 =>
            intro s Ti hs hR
            have e : i * 3 + s = 3 * i + s := by omega
            refine xr_iload_n xi_27_23 rfl ?_
            refine xr_iconst (z := nI 3) xi_27_24 rfl ?_
            refine xr_ic_ge xi_27_25 (by first | exact tI_n (by omega) | exact tI_d (by omega) | assumption | exact tI_e1 | exact tI_e2 | exact tI_e3 | exact tI_e4) (by first | exact tI_n (by omega) | exact tI_d (by omega) | assumption | exact tI_e1 | exact tI_e2 | exact tI_e3 | exact tI_e4) (fun c_ => by exfalso; omega) (fun c_ => ?_)
            refine xr_aload_n xi_27_28 rfl ?_
            refine xr_getf xi_27_29 rfl rfl ?_
            refine xr_iload_n xi_27_32 rfl ?_
            refine xr_iconst (z := nI 3) xi_27_33 rfl ?_
            refine xr_imul xi_27_34 (by first | exact pk_mul _ _ | exact rfl) ?_
            refine xr_iload_n xi_27_35 rfl ?_
            refine xr_iadd xi_27_36 ((nI_add _ _).trans (congrArg nI e)) ?_
            refine xr_iconst (z := dI 0) xi_27_37 xm_m1 ?_
            refine xr_iast xi_27_38 rfl (by first | exact tI_n (by first | omega | (simp only [ri]; omega)) | exact tI_dn (by omega) (by omega) | assumption) (by first | omega | (simp only [ri]; omega)) (vH_T rfl) ?_
            refine xr_iinc xi_27_39 rfl (by first | exact nI_1 _ | exact rfl) rfl ?_
            refine xr_goto xi_27_42 ?_
            refine ih2 (s + 1) _ (by omega) ?_
            have h2 := vR.tie (t0 := i) (k0 := s) (x := 0) (by omega) (by omega) hR
            rw [sWipeN_s (by omega) hp] at h2
            exact h2
        refine xr_iconst (z := nI 0) xi_27_21 rfl ?_
        refine xr_istore_n xi_27_22 (Nat.le_of_ble_eq_true rfl) rfl ?_
        exact key2 3 0 _ (by omega) hR
      · refine xr_k ?_
        refine xr_if_eq xi_27_13 (by first | exact tI_n (by omega) | exact tI_d (by omega) | assumption | exact tI_e1 | exact tI_e2 | exact tI_e3 | exact tI_e4) (fun c_ => ?_) (fun c_ => by exfalso; omega)
        refine xr_iinc xi_27_45 rfl (by first | exact nI_1 _ | exact rfl) rfl ?_
        refine xr_goto xi_27_48 ?_
        refine ih (i + 1) _ _ _ _ _ _ _ _ _ _ _ _ (by omega) ?_
        rw [← sWipeN_no hp]
        exact hR
  refine xr_iconst (z := nI 0) xi_27_0 rfl ?_
  refine xr_istore_n xi_27_1 (Nat.le_of_ble_eq_true rfl) rfl ?_
  exact key 30 0 _ _ _ _ _ _ _ _ _ _ _ _ (by omega) (by rw [sWipeN_0]; exact hR)
theorem wv_warm {S : Nat → Prop} (hR : vR A Gs Sp Ti Mv Hd pin c w f m G) (hI : sInv G) (hS : ∀ t, S t → sLive G t) (hQ : vP Q none (sBump G S (G 0))) : xc L xs 23 [.ref 0, .int (mk S)] (vH A Gs Sp Ti Mv Hd pin c w f m) Q := by
  have hc := hI.c
  have key : ∀ d i A, i + d = 8 → vR A Gs Sp Ti Mv Hd pin c w f m (bumpN G S i) → xw L xs 23 2 [.ref 0, .int (mk S), .int (nI i)] [] (vH A Gs Sp Ti Mv Hd pin c w f m) Q := by
    intro d
    induction d with
    | zero =>
      intro i A hi hR
      have e : i = 8 := by omega
      subst e
      rw [bumpN_8 (fun t ht => hI.ho (hI.lt (hS t ht)))] at hR
      refine xr_iload_n xi_23_2 rfl ?_
      refine xr_bipush (z := nI 8) xi_23_3 rfl ?_
      refine xr_ic_ge xi_23_5 (by first | exact tI_n (by omega) | exact tI_d (by omega) | assumption | exact tI_e1 | exact tI_e2 | exact tI_e3 | exact tI_e4) (by first | exact tI_n (by omega) | exact tI_d (by omega) | assumption | exact tI_e1 | exact tI_e2 | exact tI_e3 | exact tI_e4) (fun c_ => ?_) (fun c_ => by exfalso; omega)
      refine xr_ret xi_23_34 ?_
      exact hQ _ _ _ _ _ _ _ _ _ _ _ hR
    | succ d ih =>
      intro i A hi hR
      have hc' : bumpN G S i 0 ≤ 30 := by rw [bumpN_o (by omega)]; exact hc
      have e1 : mk (fun t => sInH (bumpN G S i) i t ∧ S t) = mk (fun t => t < G 0 ∧ S t ∧ sHome G t = i) := by
        refine mk_congr (fun t ht => ?_)
        have e2 : bumpN G S i (ri t 0) = G (ri t 0) := bumpN_o (by unfold ri; omega)
        have e3 : bumpN G S i 0 = G 0 := bumpN_o (by omega)
        unfold sInH sLive sHome
        rw [e2, e3]
        exact ⟨fun ⟨⟨⟨h1, h2⟩, h3⟩, h4⟩ => ⟨h1, h4, h3⟩, fun ⟨h1, h2, h3⟩ => ⟨⟨hS t h2, h3⟩, h2⟩⟩
      refine xr_iload_n xi_23_2 rfl ?_
      refine xr_bipush (z := nI 8) xi_23_3 rfl ?_
      refine xr_ic_ge xi_23_5 (by first | exact tI_n (by omega) | exact tI_d (by omega) | assumption | exact tI_e1 | exact tI_e2 | exact tI_e3 | exact tI_e4) (by first | exact tI_n (by omega) | exact tI_d (by omega) | assumption | exact tI_e1 | exact tI_e2 | exact tI_e3 | exact tI_e4) (fun c_ => by exfalso; omega) (fun c_ => ?_)
      refine xr_aload_n xi_23_8 rfl ?_
      refine xr_iload_n xi_23_9 rfl ?_
      refine xr_virt xi_23_10 rfl rfl rfl rfl (Nat.le_of_ble_eq_true rfl) (Nat.le_of_ble_eq_true rfl) ?_
      refine wv_thingsIn hR hc' (by omega) ?_
      refine xr_k ?_
      refine xr_iload_n xi_23_13 rfl ?_
      refine xr_iand xi_23_14 ((mk_and _ _).trans e1) ?_
      by_cases c0 : mk (fun t => t < G 0 ∧ S t ∧ sHome G t = i) = 0
      · have h1 := mk_eq0.mp c0
        rw [c0]
        refine xr_if_eq xi_23_15 (Int32.toInt_zero) (fun c_ => ?_) (fun c_ => by exfalso; omega)
        refine xr_iinc xi_23_28 rfl (by first | exact nI_1 _ | exact rfl) rfl ?_
        refine xr_goto xi_23_31 ?_
        refine ih (i + 1) _ (by omega) ?_
        rw [← bumpN_s0 (fun ⟨t, q⟩ => h1 t (by omega) q)]
        exact hR
      · have h1 : ∃ t, t < G 0 ∧ S t ∧ sHome G t = i := Classical.byContradiction (fun q => c0 (mk_eq0.mpr (fun t _ z => q ⟨t, z⟩)))
        refine xr_ifj xi_23_15 (fun q => absurd (by simpa only [xm_cb, decide_eq_true_eq] using q) c0) (fun _ => ?_)
        refine xr_aload_n xi_23_18 rfl ?_
        refine xr_getf xi_23_19 rfl rfl ?_
        refine xr_iload_n xi_23_22 rfl ?_
        refine xr_dup2 xi_23_23 ?_
        refine xr_ialz xi_23_24 rfl (by first | exact tI_n (by first | omega | (simp only [ri]; omega)) | exact tI_dn (by omega) (by omega) | assumption) (by first | omega | (simp only [ri]; omega)) (by first | exact dF_at _ _ | exact mF_at _ _ | exact rfl) ?_
        refine xr_iconst (z := nI 1) xi_23_25 rfl ?_
        refine xr_iadd xi_23_26 (dI_up _) ?_
        refine xr_iast xi_23_27 rfl (by first | exact tI_n (by first | omega | (simp only [ri]; omega)) | exact tI_dn (by omega) (by omega) | assumption) (by first | omega | (simp only [ri]; omega)) (vH_A rfl) ?_
        refine xr_iinc xi_23_28 rfl (by first | exact nI_1 _ | exact rfl) rfl ?_
        refine xr_goto xi_23_31 ?_
        refine ih (i + 1) _ (by omega) ?_
        have h2 := vR.age (k0 := i) (x := A i + 1) (by omega) hR
        rw [hR.a (by omega), bumpN_s1 h1] at h2
        rw [hR.a (by omega)]
        exact h2
  refine xr_iconst (z := nI 0) xi_23_0 rfl ?_
  refine xr_istore_n xi_23_1 (Nat.le_of_ble_eq_true rfl) rfl ?_
  exact key 8 0 A (by omega) (by rw [bumpN_0]; exact hR)
theorem wv_moveTo {t b : Nat} (hR : vR A Gs Sp Ti Mv Hd pin c w f m G) (hI : sInv G) (hlt : t < G 0) (hb : b < 10) (h1 : ∀ p H1, sRoom G (b + 1) = some (p, H1) → vP Q (some (.int (nI 1))) (sStep H1 t p)) (h2 : sRoom G (b + 1) = none → ∀ A Gs Sp Ti Mv Hd pin c w f m, Q (some (.int (nI 0))) (vH A Gs Sp Ti Mv Hd pin c w f m)) : xc L xs 24 [.ref 0, .int (nI t), .int (nI b)] (vH A Gs Sp Ti Mv Hd pin c w f m) Q := by
  have hc := hI.c
  refine xr_aload_n xi_24_0 rfl ?_
  refine xr_iload_n xi_24_1 rfl ?_
  refine xr_virt xi_24_2 rfl rfl rfl rfl (Nat.le_of_ble_eq_true rfl) (Nat.le_of_ble_eq_true rfl) ?_
  refine wv_roomOf hR hc (fun h hh => hI.a hh) hb (fun p H1 hr hp => ?_) (fun hr => ?_)
  · obtain ⟨-, he, h3, h4, -⟩ := sRoom_spec hI (by omega) hr
    refine xr_k ?_
    refine xr_istore_n xi_24_5 (Nat.le_of_ble_eq_true rfl) rfl ?_
    refine xr_iload_n xi_24_6 rfl ?_
    refine xr_iconst (z := dI 0) xi_24_7 xm_m1 ?_
    refine xr_ic_ne xi_24_8 (by first | exact tI_n (by omega) | exact tI_d (by omega) | assumption | exact tI_e1 | exact tI_e2 | exact tI_e3 | exact tI_e4) (by first | exact tI_n (by omega) | exact tI_d (by omega) | assumption | exact tI_e1 | exact tI_e2 | exact tI_e3 | exact tI_e4) (fun c_ => ?_) (fun c_ => by exfalso; omega)
    refine xr_aload_n xi_24_13 rfl ?_
    refine xr_iload_n xi_24_14 rfl ?_
    refine xr_virt xi_24_15 rfl rfl rfl rfl (Nat.le_of_ble_eq_true rfl) (Nat.le_of_ble_eq_true rfl) ?_
    refine wv_moveOut hR (fun t ht => hI.l ht) (by omega) hlt (fun A Gs Sp Ti Mv Hd pin c w f m hR => ?_)
    refine xr_kv ?_
    have e0 : un G (ri t 0) 0 0 = G 0 := un_n (by unfold ri; omega)
    refine xr_aload_n xi_24_18 rfl ?_
    refine xr_iload_n xi_24_19 rfl ?_
    refine xr_iload_n xi_24_20 rfl ?_
    refine xr_iload_n xi_24_21 rfl ?_
    refine xr_virt xi_24_22 rfl rfl rfl rfl (Nat.le_of_ble_eq_true rfl) (Nat.le_of_ble_eq_true rfl) ?_
    refine wv_moveIn hR (by omega) hp (by rw [e0]; exact hlt) (fun u hu e => ?_) (un_s _ _ _) (fun A Gs Sp Ti Mv Hd pin c w f m hR => ?_)
    · rw [e0] at hu
      by_cases e2 : u = t
      · subst e2
        rw [un_s] at e
        omega
      · rw [un_n (by unfold ri; omega)] at e
        exact he u hu e
    refine xr_kv ?_
    refine xr_aload_n xi_24_25 rfl ?_
    refine xr_getf xi_24_26 rfl rfl ?_
    refine xr_iload_n xi_24_29 rfl ?_
    refine xr_dup2 xi_24_30 ?_
    refine xr_ialz xi_24_31 rfl (by first | exact tI_n (by first | omega | (simp only [ri]; omega)) | exact tI_dn (by omega) (by omega) | assumption) (by first | omega | (simp only [ri]; omega)) (by first | exact dF_at _ _ | exact mF_at _ _ | exact rfl) ?_
    refine xr_iconst (z := nI 1) xi_24_32 rfl ?_
    refine xr_iadd xi_24_33 (by first | exact nI_add _ _ | exact rfl) ?_
    refine xr_iast xi_24_34 rfl (by first | exact tI_n (by first | omega | (simp only [ri]; omega)) | exact tI_dn (by omega) (by omega) | assumption) (by first | omega | (simp only [ri]; omega)) (vH_M rfl) ?_
    refine xr_aload_n xi_24_35 rfl ?_
    refine xr_dup xi_24_36 ?_
    refine xr_getf xi_24_37 rfl rfl ?_
    refine xr_iconst (z := nI 1) xi_24_40 rfl ?_
    refine xr_iadd xi_24_41 (by first | exact nI_add _ _ | exact rfl) ?_
    refine xr_putf xi_24_42 rfl (Nat.le_of_ble_eq_true rfl) (show _ = vH A Gs Sp Ti (un Mv t (Mv t + 1)) Hd pin c w f (m + 1) from rfl) ?_
    refine xr_iconst (z := nI 1) xi_24_45 rfl ?_
    refine xr_iret xi_24_46 (fun _ => (by first | exact Or.inl rfl | exact Or.inr rfl | assumption)) ?_
    refine h1 p H1 hr _ _ _ _ _ _ _ _ _ _ _ ((vR.mvs (vR.mvd (t0 := t) (by omega) hR)).to (fun i hi => ?_))
    unfold sStep
    have e1 : ∀ j, j ≠ ri t 0 → H1 j = un (un (un G (ri t 0) 0) (4 + p / 5) (b + 1)) (ri t 0) (p + 1) j := by
      intro j hj
      rw [un_n hj]
      by_cases c4 : j = 4 + p / 5
      · rw [c4, un_s, h3]
      · rw [un_n c4, un_n hj, h4 j c4]
    by_cases c3 : i = 3
    · subst c3
      rw [un_s, un_s, un_n (by unfold ri; omega), e1 3 (by unfold ri; omega)]
    · rw [un_n c3, un_n c3]
      by_cases c5 : i = ri t 5
      · subst c5
        rw [un_s, un_s, e1 _ (by unfold ri; omega)]
      · rw [un_n c5, un_n c5]
        by_cases c0 : i = ri t 0
        · subst c0
          rw [un_s, un_s]
        · rw [un_n c0, e1 i c0]
  · refine xr_k ?_
    refine xr_istore_n xi_24_5 (Nat.le_of_ble_eq_true rfl) rfl ?_
    refine xr_iload_n xi_24_6 rfl ?_
    refine xr_iconst (z := dI 0) xi_24_7 xm_m1 ?_
    refine xr_ic_ne xi_24_8 (by first | exact tI_n (by omega) | exact tI_d (by omega) | assumption | exact tI_e1 | exact tI_e2 | exact tI_e3 | exact tI_e4) (by first | exact tI_n (by omega) | exact tI_d (by omega) | assumption | exact tI_e1 | exact tI_e2 | exact tI_e3 | exact tI_e4) (fun c_ => by exfalso; omega) (fun c_ => ?_)
    refine xr_iconst (z := nI 0) xi_24_11 rfl ?_
    refine xr_iret xi_24_12 (fun _ => (by first | exact Or.inl rfl | exact Or.inr rfl | assumption)) ?_
    exact h2 hr _ _ _ _ _ _ _ _ _ _ _
end V5
