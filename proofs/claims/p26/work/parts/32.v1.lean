/-! the village's heap, and how it stands to a row; its small methods -/
def dF (f : Nat → Nat) : Nat → Int32 := fun i => dI (f i)
theorem dF_at (f : Nat → Nat) (i : Nat) : dF f i = dI (f i) := rfl
theorem upd_dF {A : Nat → Nat} {i x : Nat} : upd (dF A) i (dI x) = dF (un A i x) := by
  funext j
  unfold upd dF un
  split <;> rfl
theorem upd_mF {A : Nat → Nat} {i x : Nat} : upd (mF A) i (nI x) = mF (un A i x) := by
  funext j
  unfold upd mF un
  split <;> rfl
def vH (A Gs Sp Ti Mv Hd : Nat → Nat) (pin : Int32) (c w f m : Nat) : xm_H := [.inr (.inr (1, [.ref 1, .ref 2, .ref 3, .ref 4, .ref 5, .ref 6, .int pin, .int (nI c), .int (nI w), .int (nI f), .int (nI m)])), .inl (8, dF A), .inl (40, dF Gs), .inl (30, dF Sp), .inl (90, dF Ti), .inl (30, mF Mv), .inl (4, dF Hd)]
section VH
variable {A Gs Sp Ti Mv Hd : Nat → Nat} {pin z : Int32} {c w f m i x : Nat}
theorem vH_A (hz : z = dI x) : (vH A Gs Sp Ti Mv Hd pin c w f m).set 1 (.inl (8, upd (dF A) i z)) = vH (un A i x) Gs Sp Ti Mv Hd pin c w f m := by rw [hz, upd_dF]; rfl
theorem vH_G (hz : z = dI x) : (vH A Gs Sp Ti Mv Hd pin c w f m).set 2 (.inl (40, upd (dF Gs) i z)) = vH A (un Gs i x) Sp Ti Mv Hd pin c w f m := by rw [hz, upd_dF]; rfl
theorem vH_S (hz : z = dI x) : (vH A Gs Sp Ti Mv Hd pin c w f m).set 3 (.inl (30, upd (dF Sp) i z)) = vH A Gs (un Sp i x) Ti Mv Hd pin c w f m := by rw [hz, upd_dF]; rfl
theorem vH_T (hz : z = dI x) : (vH A Gs Sp Ti Mv Hd pin c w f m).set 4 (.inl (90, upd (dF Ti) i z)) = vH A Gs Sp (un Ti i x) Mv Hd pin c w f m := by rw [hz, upd_dF]; rfl
theorem vH_M (hz : z = nI x) : (vH A Gs Sp Ti Mv Hd pin c w f m).set 5 (.inl (30, upd (mF Mv) i z)) = vH A Gs Sp Ti (un Mv i x) Hd pin c w f m := by rw [hz, upd_mF]; rfl
theorem vH_H (hz : z = dI x) : (vH A Gs Sp Ti Mv Hd pin c w f m).set 6 (.inl (4, upd (dF Hd) i z)) = vH A Gs Sp Ti Mv (un Hd i x) pin c w f m := by rw [hz, upd_dF]; rfl
end VH
def vR (A Gs Sp Ti Mv Hd : Nat → Nat) (pin : Int32) (c w f m : Nat) (G : Nat → Nat) : Prop :=
  (∀ h, h < 8 → A h = G (4 + h)) ∧ (∀ t, t < 30 → Sp t = G (ri t 0)) ∧ (∀ t k, t < 30 → k < 3 → Ti (3 * t + k) = G (ri t (2 + k))) ∧ (∀ k, k < 4 → Hd k = G (12 + k)) ∧ (∀ t, t < 30 → Mv t = G (ri t 5)) ∧
  pin = mk (fun t => G (ri t 1) = 1) ∧ (c = G 0 ∧ w = G 1 ∧ f = G 2 ∧ m = G 3) ∧ (∀ p, p < 40 → Gs p ≤ 30) ∧ ∀ p t, p < 40 → t < 30 → (Gs p = t + 1 ↔ t < G 0 ∧ G (ri t 0) = p + 1)
section V0
variable {A Gs Sp Ti Mv Hd G : Nat → Nat} {pin : Int32} {c w f m : Nat}
theorem vR.a (h : vR A Gs Sp Ti Mv Hd pin c w f m G) {k : Nat} (hk : k < 8) : A k = G (4 + k) := h.1 k hk
theorem vR.s (h : vR A Gs Sp Ti Mv Hd pin c w f m G) {t : Nat} (ht : t < 30) : Sp t = G (ri t 0) := h.2.1 t ht
theorem vR.t (h : vR A Gs Sp Ti Mv Hd pin c w f m G) {t k : Nat} (ht : t < 30) (hk : k < 3) : Ti (3 * t + k) = G (ri t (2 + k)) := h.2.2.1 t k ht hk
theorem vR.h (h : vR A Gs Sp Ti Mv Hd pin c w f m G) {k : Nat} (hk : k < 4) : Hd k = G (12 + k) := h.2.2.2.1 k hk
theorem vR.mv (h : vR A Gs Sp Ti Mv Hd pin c w f m G) {t : Nat} (ht : t < 30) : Mv t = G (ri t 5) := h.2.2.2.2.1 t ht
theorem vR.pp (h : vR A Gs Sp Ti Mv Hd pin c w f m G) : pin = mk (fun t => G (ri t 1) = 1) := h.2.2.2.2.2.1
theorem vR.cc (h : vR A Gs Sp Ti Mv Hd pin c w f m G) : c = G 0 := h.2.2.2.2.2.2.1.1
theorem vR.g30 (h : vR A Gs Sp Ti Mv Hd pin c w f m G) {p : Nat} (hp : p < 40) : Gs p ≤ 30 := h.2.2.2.2.2.2.2.1 p hp
theorem vR.g (h : vR A Gs Sp Ti Mv Hd pin c w f m G) {p t : Nat} (hp : p < 40) (ht : t < 30) : Gs p = t + 1 ↔ t < G 0 ∧ G (ri t 0) = p + 1 := h.2.2.2.2.2.2.2.2 p t hp ht
theorem vR.g0 (h : vR A Gs Sp Ti Mv Hd pin c w f m G) (hc : G 0 ≤ 30) {p : Nat} (hp : p < 40) : Gs p = 0 ↔ sEmp G p := by
  constructor
  · intro h0 t ht e
    have := (h.g hp (by omega)).mpr ⟨ht, e⟩
    omega
  · intro he
    have h30 := h.g30 hp
    cases hg : Gs p with
    | zero => rfl
    | succ t => exact absurd ((h.g hp (by omega)).mp hg).2 (he t ((h.g hp (by omega)).mp hg).1)
theorem vR.pn (h : vR A Gs Sp Ti Mv Hd pin c w f m G) (hI : sInv G) : pin = mk (sPin G) := by
  rw [h.pp]
  refine mk_congr (fun t ht => ⟨fun e => ⟨(hI.p ht).2 (by omega), e⟩, fun e => e.2⟩)
theorem vR.to {G' : Nat → Nat} (h : vR A Gs Sp Ti Mv Hd pin c w f m G) (e : ∀ i, i < 196 → G' i = G i) : vR A Gs Sp Ti Mv Hd pin c w f m G' := by
  obtain ⟨h1, h2, h3, h4, h5, h6, h7, h8, h9⟩ := h
  refine ⟨fun k hk => by rw [e _ (by omega)]; exact h1 k hk, fun t ht => by rw [e _ (by unfold ri; omega)]; exact h2 t ht, fun t k ht hk => by rw [e _ (by unfold ri; omega)]; exact h3 t k ht hk, fun k hk => by rw [e _ (by omega)]; exact h4 k hk, fun t ht => by rw [e _ (by unfold ri; omega)]; exact h5 t ht, ?_, ?_, h8, fun p t hp ht => ?_⟩
  · rw [h6]
    exact mk_congr (fun t ht => by rw [e _ (by unfold ri; omega)])
  · rw [e 0 (by omega), e 1 (by omega), e 2 (by omega), e 3 (by omega)]
    exact h7
  · rw [e 0 (by omega), e _ (by unfold ri; omega)]
    exact h9 p t hp ht
end V0
section V1
variable {L : Nat} {xs : Nat → Int32} {Q : Option Value → xm_H → Prop} {A Gs Sp Ti Mv Hd G : Nat → Nat} {pin : Int32} {c w f m : Nat}
theorem wv_has {hp : xm_H} {P : Nat → Prop} {n : Nat} (hn : n < 30) (h1 : P n → Q (some (.int (nI 1))) hp) (h2 : ¬ P n → Q (some (.int (nI 0))) hp) : xc L xs 83 [.int (mk P), .int (nI n)] hp Q := by
  rcases mk_test P hn with ⟨e, h⟩ | ⟨e, h⟩
  · refine xr_iload_n xi_83_0 rfl ?_
    refine xr_iload_n xi_83_1 rfl ?_
    refine xr_ishr xi_83_2 rfl ?_
    refine xr_iconst (z := nI 1) xi_83_3 rfl ?_
    refine xr_iand xi_83_4 (e) ?_
    refine xr_if_eq xi_83_5 (by first | exact tI_n (by omega) | exact tI_d (by omega) | assumption | exact tI_e1 | exact tI_e2 | exact tI_e3 | exact tI_e4) (fun c_ => by exfalso; omega) (fun c_ => ?_)
    refine xr_iconst (z := nI 1) xi_83_8 rfl ?_
    refine xr_goto xi_83_9 ?_
    refine xr_iret xi_83_13 (fun _ => (by first | exact Or.inl rfl | exact Or.inr rfl | assumption)) ?_
    exact h1 h
  · refine xr_iload_n xi_83_0 rfl ?_
    refine xr_iload_n xi_83_1 rfl ?_
    refine xr_ishr xi_83_2 rfl ?_
    refine xr_iconst (z := nI 1) xi_83_3 rfl ?_
    refine xr_iand xi_83_4 (e) ?_
    refine xr_if_eq xi_83_5 (by first | exact tI_n (by omega) | exact tI_d (by omega) | assumption | exact tI_e1 | exact tI_e2 | exact tI_e3 | exact tI_e4) (fun c_ => ?_) (fun c_ => by exfalso; omega)
    refine xr_iconst (z := nI 0) xi_83_12 rfl ?_
    refine xr_iret xi_83_13 (fun _ => (by first | exact Or.inl rfl | exact Or.inr rfl | assumption)) ?_
    exact h2 h
theorem wv_isHand {hp : xm_H} {x : Int32} (h1 : ∀ k, k < 4 → x = nI k → Q (some (.int (nI 1))) hp) (h2 : (∀ k, k < 4 → x ≠ nI k) → Q (some (.int (nI 0))) hp) : xc L xs 31 [.int x] hp Q := by
  have h0 : ¬ (0 ≤ x.toInt ∧ x.toInt < 4) → ∀ k, k < 4 → x ≠ nI k := fun q k hk e => q (by rw [e, tI_n (by omega)]; omega)
  refine xr_iload_n xi_31_0 rfl ?_
  refine xr_if_lt xi_31_1 (rfl) (fun c_1 => ?_) (fun c_1 => ?_)
  · refine xr_iconst (z := nI 0) xi_31_13 rfl ?_
    refine xr_iret xi_31_14 (fun _ => (by first | exact Or.inl rfl | exact Or.inr rfl | assumption)) ?_
    exact h2 (h0 (by omega))
  · refine xr_iload_n xi_31_4 rfl ?_
    refine xr_iconst (z := nI 4) xi_31_5 rfl ?_
    refine xr_ic_ge xi_31_6 (rfl) (by first | exact tI_n (by omega) | exact tI_d (by omega) | assumption | exact tI_e1 | exact tI_e2 | exact tI_e3 | exact tI_e4) (fun c_6 => ?_) (fun c_6 => ?_)
    · refine xr_iconst (z := nI 0) xi_31_13 rfl ?_
      refine xr_iret xi_31_14 (fun _ => (by first | exact Or.inl rfl | exact Or.inr rfl | assumption)) ?_
      exact h2 (h0 (by omega))
    · refine xr_iconst (z := nI 1) xi_31_9 rfl ?_
      refine xr_goto xi_31_10 ?_
      refine xr_iret xi_31_14 (fun _ => (by first | exact Or.inl rfl | exact Or.inr rfl | assumption)) ?_
      obtain ⟨k, hk, e⟩ := x_of (n := 4) c_1 c_6 (by omega)
      exact h1 k hk e
theorem wv_isString {hp : xm_H} {x : Int32} (h1 : ∀ k, k < 3 → x = nI k → Q (some (.int (nI 1))) hp) (h2 : (∀ k, k < 3 → x ≠ nI k) → Q (some (.int (nI 0))) hp) : xc L xs 32 [.int x] hp Q := by
  have h0 : ¬ (0 ≤ x.toInt ∧ x.toInt < 3) → ∀ k, k < 3 → x ≠ nI k := fun q k hk e => q (by rw [e, tI_n (by omega)]; omega)
  refine xr_iload_n xi_32_0 rfl ?_
  refine xr_if_lt xi_32_1 (rfl) (fun c_1 => ?_) (fun c_1 => ?_)
  · refine xr_iconst (z := nI 0) xi_32_13 rfl ?_
    refine xr_iret xi_32_14 (fun _ => (by first | exact Or.inl rfl | exact Or.inr rfl | assumption)) ?_
    exact h2 (h0 (by omega))
  · refine xr_iload_n xi_32_4 rfl ?_
    refine xr_iconst (z := nI 3) xi_32_5 rfl ?_
    refine xr_ic_ge xi_32_6 (rfl) (by first | exact tI_n (by omega) | exact tI_d (by omega) | assumption | exact tI_e1 | exact tI_e2 | exact tI_e3 | exact tI_e4) (fun c_6 => ?_) (fun c_6 => ?_)
    · refine xr_iconst (z := nI 0) xi_32_13 rfl ?_
      refine xr_iret xi_32_14 (fun _ => (by first | exact Or.inl rfl | exact Or.inr rfl | assumption)) ?_
      exact h2 (h0 (by omega))
    · refine xr_iconst (z := nI 1) xi_32_9 rfl ?_
      refine xr_goto xi_32_10 ?_
      refine xr_iret xi_32_14 (fun _ => (by first | exact Or.inl rfl | exact Or.inr rfl | assumption)) ?_
      obtain ⟨k, hk, e⟩ := x_of (n := 3) c_1 c_6 (by omega)
      exact h1 k hk e
theorem wv_came {x : Int32} (hR : vR A Gs Sp Ti Mv Hd pin c w f m G) (hI : sInv G) (h1 : ∀ k, k < G 0 → x = nI k → Q (some (.int (nI 1))) (vH A Gs Sp Ti Mv Hd pin c w f m)) (h2 : (∀ k, k < G 0 → x ≠ nI k) → Q (some (.int (nI 0))) (vH A Gs Sp Ti Mv Hd pin c w f m)) : xc L xs 33 [.ref 0, .int x] (vH A Gs Sp Ti Mv Hd pin c w f m) Q := by
  have hc := hR.cc
  have hc30 := hI.c
  subst hc
  have h0 : ¬ (0 ≤ x.toInt ∧ x.toInt < (G 0 : Int)) → ∀ k, k < G 0 → x ≠ nI k := fun q k hk e => q (by rw [e, tI_n (by omega)]; omega)
  refine xr_iload_n xi_33_0 rfl ?_
  refine xr_if_lt xi_33_1 (rfl) (fun c_1 => ?_) (fun c_1 => ?_)
  · refine xr_iconst (z := nI 0) xi_33_22 rfl ?_
    refine xr_iret xi_33_23 (fun _ => (by first | exact Or.inl rfl | exact Or.inr rfl | assumption)) ?_
    exact h2 (h0 (by omega))
  · refine xr_iload_n xi_33_4 rfl ?_
    refine xr_bipush (z := nI 30) xi_33_5 rfl ?_
    refine xr_ic_ge xi_33_7 (rfl) (by first | exact tI_n (by omega) | exact tI_d (by omega) | assumption | exact tI_e1 | exact tI_e2 | exact tI_e3 | exact tI_e4) (fun c_7 => ?_) (fun c_7 => ?_)
    · refine xr_iconst (z := nI 0) xi_33_22 rfl ?_
      refine xr_iret xi_33_23 (fun _ => (by first | exact Or.inl rfl | exact Or.inr rfl | assumption)) ?_
      exact h2 (h0 (by omega))
    · refine xr_iload_n xi_33_10 rfl ?_
      refine xr_aload_n xi_33_11 rfl ?_
      refine xr_getf xi_33_12 rfl rfl ?_
      refine xr_ic_ge xi_33_15 (rfl) (by first | exact tI_n (by omega) | exact tI_d (by omega) | assumption | exact tI_e1 | exact tI_e2 | exact tI_e3 | exact tI_e4) (fun c_15 => ?_) (fun c_15 => ?_)
      · refine xr_iconst (z := nI 0) xi_33_22 rfl ?_
        refine xr_iret xi_33_23 (fun _ => (by first | exact Or.inl rfl | exact Or.inr rfl | assumption)) ?_
        exact h2 (h0 (by omega))
      · refine xr_iconst (z := nI 1) xi_33_18 rfl ?_
        refine xr_goto xi_33_19 ?_
        refine xr_iret xi_33_23 (fun _ => (by first | exact Or.inl rfl | exact Or.inr rfl | assumption)) ?_
        obtain ⟨k, hk, e⟩ := x_of (n := G 0) c_1 c_15 (by omega)
        exact h1 k hk e
theorem wv_lives {x : Int32} (hR : vR A Gs Sp Ti Mv Hd pin c w f m G) (hI : sInv G) (h1 : ∀ t, sLive G t → x = nI t → Q (some (.int (nI 1))) (vH A Gs Sp Ti Mv Hd pin c w f m)) (h2 : (∀ t, sLive G t → x ≠ nI t) → Q (some (.int (nI 0))) (vH A Gs Sp Ti Mv Hd pin c w f m)) : xc L xs 34 [.ref 0, .int x] (vH A Gs Sp Ti Mv Hd pin c w f m) Q := by
  have hc30 := hI.c
  have h0 : ¬ (0 ≤ x.toInt ∧ x.toInt < 30) → ∀ t, sLive G t → x ≠ nI t := fun q t hl e => q (by have := hI.lt hl; rw [e, tI_n (by omega)]; omega)
  refine xr_iload_n xi_34_0 rfl ?_
  refine xr_if_lt xi_34_1 (rfl) (fun c_1 => ?_) (fun c_1 => ?_)
  · refine xr_iconst (z := nI 0) xi_34_24 rfl ?_
    refine xr_iret xi_34_25 (fun _ => (by first | exact Or.inl rfl | exact Or.inr rfl | assumption)) ?_
    exact h2 (h0 (by omega))
  · refine xr_iload_n xi_34_4 rfl ?_
    refine xr_bipush (z := nI 30) xi_34_5 rfl ?_
    refine xr_ic_ge xi_34_7 (rfl) (by first | exact tI_n (by omega) | exact tI_d (by omega) | assumption | exact tI_e1 | exact tI_e2 | exact tI_e3 | exact tI_e4) (fun c_7 => ?_) (fun c_7 => ?_)
    · refine xr_iconst (z := nI 0) xi_34_24 rfl ?_
      refine xr_iret xi_34_25 (fun _ => (by first | exact Or.inl rfl | exact Or.inr rfl | assumption)) ?_
      exact h2 (h0 (by omega))
    · obtain ⟨t, ht, rfl⟩ := x_of (n := 30) c_1 c_7 (by omega)
      have hs := hR.s ht
      have hl := hI.l ht
      refine xr_aload_n xi_34_10 rfl ?_
      refine xr_getf xi_34_11 rfl rfl ?_
      refine xr_iload_n xi_34_14 rfl ?_
      refine xr_ialz xi_34_15 rfl (by first | exact tI_n (by first | omega | (simp only [ri]; omega)) | exact tI_dn (by omega) (by omega) | assumption) (by first | omega | (simp only [ri]; omega)) (by first | exact dF_at _ _ | exact mF_at _ _ | exact rfl) ?_
      refine xr_iconst (z := dI 0) xi_34_16 xm_m1 ?_
      refine xr_ic_eq xi_34_17 (by first | exact tI_n (by omega) | exact tI_d (by omega) | assumption | exact tI_e1 | exact tI_e2 | exact tI_e3 | exact tI_e4) (by first | exact tI_n (by omega) | exact tI_d (by omega) | assumption | exact tI_e1 | exact tI_e2 | exact tI_e3 | exact tI_e4) (fun c_17 => ?_) (fun c_17 => ?_)
      · refine xr_iconst (z := nI 0) xi_34_24 rfl ?_
        refine xr_iret xi_34_25 (fun _ => (by first | exact Or.inl rfl | exact Or.inr rfl | assumption)) ?_
        refine h2 (fun u hu e => ?_)
        have := (nI_inj (by omega) (by have := hI.lt hu; omega)).mp e
        subst this
        have := hu.2
        omega
      · refine xr_iconst (z := nI 1) xi_34_20 rfl ?_
        refine xr_goto xi_34_21 ?_
        refine xr_iret xi_34_25 (fun _ => (by first | exact Or.inl rfl | exact Or.inr rfl | assumption)) ?_
        refine h1 t ⟨?_, by omega⟩ rfl
        rcases Nat.lt_or_ge t (G 0) with q | q
        · exact q
        · have := hI.z ht (show 0 < 6 by omega) q
          omega
end V1
