/-! the reference's methods: reads -/
def mF (f : Nat → Nat) : Nat → Int32 := fun i => nI (f i)
theorem mF_at (f : Nat → Nat) (i : Nat) : mF f i = nI (f i) := rfl
theorem mF_upd (f : Nat → Nat) (k x : Nat) : upd (mF f) k (nI x) = mF (un f k x) := by
  funext i
  simp only [upd, mF, un]
  split <;> rfl
def mH (st : Nat) (tx : Nat → Nat) (ln : Nat) (ag : Nat → Nat) (po le : Nat) (nu : Nat → Nat) (fa re od : Nat) (be : Nat → Nat) (G : Nat → Nat) : xm_H :=
  [.inr (.inr (3, [.ref 1, .int (nI st), .ref 2, .int (nI ln), .ref 3, .int (nI po), .int (nI le), .ref 4, .int (nI fa), .int (nI re), .int (nI od), .ref 5])), .inl (1176, mF G), .inl (60, mF tx), .inl (8, mF ag), .inl (3, mF nu), .inl (196, mF be)]
def mJ (st : Nat) (tx : Nat → Nat) (ln : Nat) (ag : Nat → Nat) (po le : Nat) (nu : Nat → Nat) (fa re od : Nat) (be Z G : Nat → Nat) : xm_H := mH st tx ln ag po le nu fa re od be (jn G Z)
theorem mj_lo {G Z : Nat → Nat} {i : Nat} (h : i < 196) : mF (jn G Z) i = nI (G i) := by
  unfold mF
  rw [jn_lo h]
section M1
variable {L : Nat} {xs : Nat → Int32} {Q : Option Value → xm_H → Prop} {st ln po le fa re od : Nat} {tx ag nu be Z G : Nat → Nat}
theorem mH_raw (k x : Nat) : (mH st tx ln ag po le nu fa re od be G).set 1 (.inl (1176, upd (mF G) k (nI x))) = mH st tx ln ag po le nu fa re od be (un G k x) := by
  rw [mF_upd]
  rfl
theorem mH_row {k : Nat} (x : Nat) (hk : k < 196) : ((mJ st tx ln ag po le nu fa re od be Z G)).set 1 (.inl (1176, upd (mF (jn G Z)) k (nI x))) = mJ st tx ln ag po le nu fa re od be Z (un G k x) := by
  rw [mF_upd, jn_un hk]
  rfl
theorem wm_of {hp : xm_H} {t w : Nat} (hQ : Q (some (.int (nI (ri t w)))) hp) : xc L xs 86 [.int (nI t), .int (nI w)] hp Q := by
  refine xr_bipush (z := nI 16) xi_86_0 rfl ?_
  refine xr_bipush (z := nI 6) xi_86_2 rfl ?_
  refine xr_iload_n xi_86_4 rfl ?_
  refine xr_imul xi_86_5 (by first | exact pk_mul _ _ | exact rfl) ?_
  refine xr_iadd xi_86_6 (by first | exact nI_add _ _ | exact rfl) ?_
  refine xr_iload_n xi_86_7 rfl ?_
  refine xr_iadd xi_86_8 (by first | exact nI_add _ _ | exact rfl) ?_
  refine xr_iret xi_86_9 (fun h => absurd h (by decide)) ?_
  exact hQ
theorem wm_in {hp : xm_H} {a b c : Int32} {i j l : Int} (ha : a.toInt = i) (hb : b.toInt = j) (hc : c.toInt = l) (h1 : j ≤ i ∧ i ≤ l → Q (some (.int (nI 1))) hp) (h2 : ¬ (j ≤ i ∧ i ≤ l) → Q (some (.int (nI 0))) hp) : xc L xs 85 [.int a, .int b, .int c] hp Q := by
  refine xr_iload_n xi_85_0 rfl ?_
  refine xr_iload_n xi_85_1 rfl ?_
  refine xr_ic_lt xi_85_2 (by first | exact tI_n (by omega) | exact tI_d (by omega) | assumption | exact tI_e1 | exact tI_e2 | exact tI_e3 | exact tI_e4) (by first | exact tI_n (by omega) | exact tI_d (by omega) | assumption | exact tI_e1 | exact tI_e2 | exact tI_e3 | exact tI_e4) (fun c_2 => ?_) (fun c_2 => ?_)
  · refine xr_iconst (z := nI 0) xi_85_14 rfl ?_
    refine xr_iret xi_85_15 (fun _ => (by first | exact Or.inl rfl | exact Or.inr rfl | assumption)) ?_
    exact h2 (by omega)
  · refine xr_iload_n xi_85_5 rfl ?_
    refine xr_iload_n xi_85_6 rfl ?_
    refine xr_ic_gt xi_85_7 (by first | exact tI_n (by omega) | exact tI_d (by omega) | assumption | exact tI_e1 | exact tI_e2 | exact tI_e3 | exact tI_e4) (by first | exact tI_n (by omega) | exact tI_d (by omega) | assumption | exact tI_e1 | exact tI_e2 | exact tI_e3 | exact tI_e4) (fun c_7 => ?_) (fun c_7 => ?_)
    · refine xr_iconst (z := nI 0) xi_85_14 rfl ?_
      refine xr_iret xi_85_15 (fun _ => (by first | exact Or.inl rfl | exact Or.inr rfl | assumption)) ?_
      exact h2 (by omega)
    · refine xr_iconst (z := nI 1) xi_85_10 rfl ?_
      refine xr_goto xi_85_11 ?_
      refine xr_iret xi_85_15 (fun _ => (by first | exact Or.inl rfl | exact Or.inr rfl | assumption)) ?_
      exact h1 (by omega)
theorem wm_isHand {hp : xm_H} {x : Int32} (h1 : ∀ k, k < 4 → x = nI k → Q (some (.int (nI 1))) hp) (h2 : (∀ k, k < 4 → x ≠ nI k) → Q (some (.int (nI 0))) hp) : xc L xs 88 [.int x] hp Q := by
  refine xr_iload_n xi_88_0 rfl ?_
  refine xr_iconst (z := nI 0) xi_88_1 rfl ?_
  refine xr_iconst (z := nI 3) xi_88_2 rfl ?_
  refine xr_stat xi_88_3 (by decide) rfl rfl (Nat.le_of_ble_eq_true rfl) (Nat.le_of_ble_eq_true rfl) ?_
  refine wm_in rfl (tI_n (by omega)) (tI_n (by omega)) (fun h => ?_) (fun h => ?_)
  · refine xr_k ?_
    refine xr_iret xi_88_6 (fun _ => (by first | exact Or.inl rfl | exact Or.inr rfl | assumption)) ?_
    obtain ⟨k, hk, e⟩ := x_of (n := 4) h.1 (by omega) (by omega)
    exact h1 k hk e
  · refine xr_k ?_
    refine xr_iret xi_88_6 (fun _ => (by first | exact Or.inl rfl | exact Or.inr rfl | assumption)) ?_
    refine h2 (fun k hk e => h ?_)
    rw [e, tI_n (by omega)]
    omega
theorem wm_isString {hp : xm_H} {x : Int32} (h1 : ∀ k, k < 3 → x = nI k → Q (some (.int (nI 1))) hp) (h2 : (∀ k, k < 3 → x ≠ nI k) → Q (some (.int (nI 0))) hp) : xc L xs 89 [.int x] hp Q := by
  refine xr_iload_n xi_89_0 rfl ?_
  refine xr_iconst (z := nI 0) xi_89_1 rfl ?_
  refine xr_iconst (z := nI 2) xi_89_2 rfl ?_
  refine xr_stat xi_89_3 (by decide) rfl rfl (Nat.le_of_ble_eq_true rfl) (Nat.le_of_ble_eq_true rfl) ?_
  refine wm_in rfl (tI_n (by omega)) (tI_n (by omega)) (fun h => ?_) (fun h => ?_)
  · refine xr_k ?_
    refine xr_iret xi_89_6 (fun _ => (by first | exact Or.inl rfl | exact Or.inr rfl | assumption)) ?_
    obtain ⟨k, hk, e⟩ := x_of (n := 3) h.1 (by omega) (by omega)
    exact h1 k hk e
  · refine xr_k ?_
    refine xr_iret xi_89_6 (fun _ => (by first | exact Or.inl rfl | exact Or.inr rfl | assumption)) ?_
    refine h2 (fun k hk e => h ?_)
    rw [e, tI_n (by omega)]
    omega
theorem wm_isYoung {hp : xm_H} {x : Int32} (h1 : ∀ k, k < 2 → x = nI k → Q (some (.int (nI 1))) hp) (h2 : (∀ k, k < 2 → x ≠ nI k) → Q (some (.int (nI 0))) hp) : xc L xs 132 [.int x] hp Q := by
  refine xr_iload_n xi_132_0 rfl ?_
  refine xr_iconst (z := nI 0) xi_132_1 rfl ?_
  refine xr_iconst (z := nI 1) xi_132_2 rfl ?_
  refine xr_stat xi_132_3 (by decide) rfl rfl (Nat.le_of_ble_eq_true rfl) (Nat.le_of_ble_eq_true rfl) ?_
  refine wm_in rfl (tI_n (by omega)) (tI_n (by omega)) (fun h => ?_) (fun h => ?_)
  · refine xr_k ?_
    refine xr_iret xi_132_6 (fun _ => (by first | exact Or.inl rfl | exact Or.inr rfl | assumption)) ?_
    obtain ⟨k, hk, e⟩ := x_of (n := 2) h.1 (by omega) (by omega)
    exact h1 k hk e
  · refine xr_k ?_
    refine xr_iret xi_132_6 (fun _ => (by first | exact Or.inl rfl | exact Or.inr rfl | assumption)) ?_
    refine h2 (fun k hk e => h ?_)
    rw [e, tI_n (by omega)]
    omega
theorem wm_isThing {x : Int32} (hI : sInv G) (h1 : ∀ t, sLive G t → x = nI t → Q (some (.int (nI 1))) (mJ st tx ln ag po le nu fa re od be Z G)) (h2 : (∀ t, sLive G t → x ≠ nI t) → Q (some (.int (nI 0))) (mJ st tx ln ag po le nu fa re od be Z G)) : xc L xs 87 [.ref 0, .int x] (mJ st tx ln ag po le nu fa re od be Z G) Q := by
  have hc := hI.c
  refine xr_iload_n xi_87_0 rfl ?_
  refine xr_iconst (z := nI 0) xi_87_1 rfl ?_
  refine xr_aload_n xi_87_2 rfl ?_
  refine xr_getf xi_87_3 rfl rfl ?_
  refine xr_iconst (z := nI 0) xi_87_6 rfl ?_
  refine xr_ialz xi_87_7 rfl (by first | exact tI_n (by first | omega | (simp only [ri]; omega)) | exact tI_dn (by omega) (by omega) | assumption) (by first | omega | (simp only [ri]; omega)) (by first | exact mj_lo (by first | omega | (simp only [ri]; omega)) | exact mF_at _ _ | exact rfl) ?_
  refine xr_iconst (z := nI 1) xi_87_8 rfl ?_
  refine xr_isub xi_87_9 (by first | exact pk_sub (by omega) | exact nI_d _ | exact rfl) ?_
  refine xr_stat xi_87_10 (by decide) rfl rfl (Nat.le_of_ble_eq_true rfl) (Nat.le_of_ble_eq_true rfl) ?_
  refine wm_in rfl (tI_n (by omega)) (tI_d (n := G 0) (by omega)) (fun h => ?_) (fun h => ?_)
  · obtain ⟨t, ht, rfl⟩ := x_of (n := G 0) h.1 (by omega) (by omega)
    have hl := hI.l (t := t) (by omega)
    refine xr_k ?_
    refine xr_if_eq xi_87_13 (by first | exact tI_n (by omega) | exact tI_d (by omega) | assumption | exact tI_e1 | exact tI_e2 | exact tI_e3 | exact tI_e4) (fun c_ => by exfalso; omega) (fun c_ => ?_)
    refine xr_aload_n xi_87_16 rfl ?_
    refine xr_getf xi_87_17 rfl rfl ?_
    refine xr_iload_n xi_87_20 rfl ?_
    refine xr_iconst (z := nI 0) xi_87_21 rfl ?_
    refine xr_stat xi_87_22 (by decide) rfl rfl (Nat.le_of_ble_eq_true rfl) (Nat.le_of_ble_eq_true rfl) ?_
    refine wm_of ?_
    refine xr_k ?_
    refine xr_ialz xi_87_25 rfl (by first | exact tI_n (by first | omega | (simp only [ri]; omega)) | exact tI_dn (by omega) (by omega) | assumption) (by first | omega | (simp only [ri]; omega)) (by first | exact mj_lo (by first | omega | (simp only [ri]; omega)) | exact mF_at _ _ | exact rfl) ?_
    refine xr_if_le xi_87_26 (by first | exact tI_n (by omega) | exact tI_d (by omega) | assumption | exact tI_e1 | exact tI_e2 | exact tI_e3 | exact tI_e4) (fun c_26 => ?_) (fun c_26 => ?_)
    · refine xr_iconst (z := nI 0) xi_87_33 rfl ?_
      refine xr_iret xi_87_34 (fun _ => (by first | exact Or.inl rfl | exact Or.inr rfl | assumption)) ?_
      refine h2 (fun u hu e => ?_)
      have hu1 := hu.1
      rw [nI_inj (by omega) (by omega)] at e
      subst e
      have := hu.2
      omega
    · refine xr_iconst (z := nI 1) xi_87_29 rfl ?_
      refine xr_goto xi_87_30 ?_
      refine xr_iret xi_87_34 (fun _ => (by first | exact Or.inl rfl | exact Or.inr rfl | assumption)) ?_
      exact h1 t ⟨ht, by omega⟩ rfl
  · refine xr_k ?_
    refine xr_if_eq xi_87_13 (by first | exact tI_n (by omega) | exact tI_d (by omega) | assumption | exact tI_e1 | exact tI_e2 | exact tI_e3 | exact tI_e4) (fun c_ => ?_) (fun c_ => by exfalso; omega)
    refine xr_iconst (z := nI 0) xi_87_33 rfl ?_
    refine xr_iret xi_87_34 (fun _ => (by first | exact Or.inl rfl | exact Or.inr rfl | assumption)) ?_
    refine h2 (fun u hu e => h ?_)
    have hu1 := hu.1
    rw [e, tI_n (by omega)]
    omega
theorem wm_isThingN {t : Nat} (hI : sInv G) (ht : t < 2147483648) (h1 : sLive G t → Q (some (.int (nI 1))) (mJ st tx ln ag po le nu fa re od be Z G)) (h2 : ¬ sLive G t → Q (some (.int (nI 0))) (mJ st tx ln ag po le nu fa re od be Z G)) : xc L xs 87 [.ref 0, .int (nI t)] (mJ st tx ln ag po le nu fa re od be Z G) Q := by
  have hc := hI.c
  refine wm_isThing hI (fun u hu e => ?_) (fun h => h2 (fun q => h t q rfl))
  have hu1 := hu.1
  rw [nI_inj (by omega) (by omega)] at e
  subst e
  exact h1 hu
theorem wm_has {hp : xm_H} {P : Nat → Prop} {n : Nat} (hn : n < 30) (h1 : P n → Q (some (.int (nI 1))) hp) (h2 : ¬ P n → Q (some (.int (nI 0))) hp) : xc L xs 90 [.int (mk P), .int (nI n)] hp Q := by
  rcases mk_test P hn with ⟨e, h⟩ | ⟨e, h⟩
  · refine xr_iload_n xi_90_0 rfl ?_
    refine xr_iload_n xi_90_1 rfl ?_
    refine xr_ishr xi_90_2 rfl ?_
    refine xr_iconst (z := nI 1) xi_90_3 rfl ?_
    refine xr_iand xi_90_4 (e) ?_
    refine xr_iconst (z := nI 1) xi_90_5 rfl ?_
    refine xr_ic_ne xi_90_6 (by first | exact tI_n (by omega) | exact tI_d (by omega) | assumption | exact tI_e1 | exact tI_e2 | exact tI_e3 | exact tI_e4) (by first | exact tI_n (by omega) | exact tI_d (by omega) | assumption | exact tI_e1 | exact tI_e2 | exact tI_e3 | exact tI_e4) (fun c_ => by exfalso; omega) (fun c_ => ?_)
    refine xr_iconst (z := nI 1) xi_90_9 rfl ?_
    refine xr_goto xi_90_10 ?_
    refine xr_iret xi_90_14 (fun _ => (by first | exact Or.inl rfl | exact Or.inr rfl | assumption)) ?_
    exact h1 h
  · refine xr_iload_n xi_90_0 rfl ?_
    refine xr_iload_n xi_90_1 rfl ?_
    refine xr_ishr xi_90_2 rfl ?_
    refine xr_iconst (z := nI 1) xi_90_3 rfl ?_
    refine xr_iand xi_90_4 (e) ?_
    refine xr_iconst (z := nI 1) xi_90_5 rfl ?_
    refine xr_ic_ne xi_90_6 (by first | exact tI_n (by omega) | exact tI_d (by omega) | assumption | exact tI_e1 | exact tI_e2 | exact tI_e3 | exact tI_e4) (by first | exact tI_n (by omega) | exact tI_d (by omega) | assumption | exact tI_e1 | exact tI_e2 | exact tI_e3 | exact tI_e4) (fun c_ => ?_) (fun c_ => by exfalso; omega)
    refine xr_iconst (z := nI 0) xi_90_13 rfl ?_
    refine xr_iret xi_90_14 (fun _ => (by first | exact Or.inl rfl | exact Or.inr rfl | assumption)) ?_
    exact h2 h
theorem wm_homeOf {t : Nat} (hI : sInv G) (hl : sLive G t) (hQ : Q (some (.int (nI (sHome G t)))) (mJ st tx ln ag po le nu fa re od be Z G)) : xc L xs 95 [.ref 0, .int (nI t)] (mJ st tx ln ag po le nu fa re od be Z G) Q := by
  have ht := hI.lt hl
  have h0 := hl.2
  have h1 := hI.l ht
  refine xr_aload_n xi_95_0 rfl ?_
  refine xr_getf xi_95_1 rfl rfl ?_
  refine xr_iload_n xi_95_4 rfl ?_
  refine xr_iconst (z := nI 0) xi_95_5 rfl ?_
  refine xr_stat xi_95_6 (by decide) rfl rfl (Nat.le_of_ble_eq_true rfl) (Nat.le_of_ble_eq_true rfl) ?_
  refine wm_of ?_
  refine xr_k ?_
  refine xr_ialz xi_95_9 rfl (by first | exact tI_n (by first | omega | (simp only [ri]; omega)) | exact tI_dn (by omega) (by omega) | assumption) (by first | omega | (simp only [ri]; omega)) (by first | exact mj_lo (by first | omega | (simp only [ri]; omega)) | exact mF_at _ _ | exact rfl) ?_
  refine xr_iconst (z := nI 1) xi_95_10 rfl ?_
  refine xr_isub xi_95_11 (by first | exact pk_sub (by omega) | exact nI_d _ | exact rfl) ?_
  refine xr_iconst (z := nI 5) xi_95_12 rfl ?_
  refine xr_idiv xi_95_13 (by decide) (by first | exact pk_div (by omega) (by omega) (by omega) | exact rfl) ?_
  refine xr_iret xi_95_14 (fun h => absurd h (by decide)) ?_
  exact hQ
theorem wm_ageOf {t : Nat} (hI : sInv G) (hl : sLive G t) (hQ : Q (some (.int (dI (sAge G t)))) (mJ st tx ln ag po le nu fa re od be Z G)) : xc L xs 96 [.ref 0, .int (nI t)] (mJ st tx ln ag po le nu fa re od be Z G) Q := by
  have ht := hI.lt hl
  have h1 := hI.ho ht
  refine xr_aload_n xi_96_0 rfl ?_
  refine xr_getf xi_96_1 rfl rfl ?_
  refine xr_iconst (z := nI 4) xi_96_4 rfl ?_
  refine xr_aload_n xi_96_5 rfl ?_
  refine xr_iload_n xi_96_6 rfl ?_
  refine xr_virt xi_96_7 rfl rfl rfl rfl (Nat.le_of_ble_eq_true rfl) (Nat.le_of_ble_eq_true rfl) ?_
  refine wm_homeOf hI hl ?_
  refine xr_k ?_
  refine xr_iadd xi_96_10 (by first | exact nI_add _ _ | exact rfl) ?_
  refine xr_ialz xi_96_11 rfl (by first | exact tI_n (by first | omega | (simp only [ri]; omega)) | exact tI_dn (by omega) (by omega) | assumption) (by first | omega | (simp only [ri]; omega)) (by first | exact mj_lo (by first | omega | (simp only [ri]; omega)) | exact mF_at _ _ | exact rfl) ?_
  refine xr_iconst (z := nI 1) xi_96_12 rfl ?_
  refine xr_isub xi_96_13 (nI_d _) ?_
  refine xr_iret xi_96_14 (fun h => absurd h (by decide)) ?_
  exact hQ
theorem wm_living {a : Nat} (hI : sInv G) (ha : a < 3) (hQ : Q (some (.int (mk (sYoung G a)))) (mJ st tx ln ag po le nu fa re od be Z G)) : xc L xs 97 [.ref 0, .int (nI a)] (mJ st tx ln ag po le nu fa re od be Z G) Q := by
  have hc := hI.c
  have key : ∀ d i, i + d = G 0 → xw L xs 97 4 [.ref 0, .int (nI a), .int (mk (fun t => t < i ∧ sYoung G a t)), .int (nI i)] [] (mJ st tx ln ag po le nu fa re od be Z G) Q := by
    intro d
    induction d with
    | zero =>
      intro i hi
      refine xr_iload_n xi_97_4 rfl ?_
      refine xr_aload_n xi_97_5 rfl ?_
      refine xr_getf xi_97_6 rfl rfl ?_
      refine xr_iconst (z := nI 0) xi_97_9 rfl ?_
      refine xr_ialz xi_97_10 rfl (by first | exact tI_n (by first | omega | (simp only [ri]; omega)) | exact tI_dn (by omega) (by omega) | assumption) (by first | omega | (simp only [ri]; omega)) (by first | exact mj_lo (by first | omega | (simp only [ri]; omega)) | exact mF_at _ _ | exact rfl) ?_
      refine xr_ic_ge xi_97_11 (by first | exact tI_n (by omega) | exact tI_d (by omega) | assumption | exact tI_e1 | exact tI_e2 | exact tI_e3 | exact tI_e4) (by first | exact tI_n (by omega) | exact tI_d (by omega) | assumption | exact tI_e1 | exact tI_e2 | exact tI_e3 | exact tI_e4) (fun c_ => ?_) (fun c_ => by exfalso; omega)
      refine xr_iload_n xi_97_47 rfl ?_
      refine xr_iret xi_97_48 (fun h => absurd h (by decide)) ?_
      rw [mk_all (fun t _ h => by have := hI.yl h; omega)]
      exact hQ
    | succ d ih =>
      intro i hi
      refine xr_iload_n xi_97_4 rfl ?_
      refine xr_aload_n xi_97_5 rfl ?_
      refine xr_getf xi_97_6 rfl rfl ?_
      refine xr_iconst (z := nI 0) xi_97_9 rfl ?_
      refine xr_ialz xi_97_10 rfl (by first | exact tI_n (by first | omega | (simp only [ri]; omega)) | exact tI_dn (by omega) (by omega) | assumption) (by first | omega | (simp only [ri]; omega)) (by first | exact mj_lo (by first | omega | (simp only [ri]; omega)) | exact mF_at _ _ | exact rfl) ?_
      refine xr_ic_ge xi_97_11 (by first | exact tI_n (by omega) | exact tI_d (by omega) | assumption | exact tI_e1 | exact tI_e2 | exact tI_e3 | exact tI_e4) (by first | exact tI_n (by omega) | exact tI_d (by omega) | assumption | exact tI_e1 | exact tI_e2 | exact tI_e3 | exact tI_e4) (fun c_ => by exfalso; omega) (fun c_ => ?_)
      refine xr_iload_n xi_97_14 rfl ?_
      refine xr_aload_n xi_97_15 rfl ?_
      refine xr_iload_n xi_97_16 rfl ?_
      refine xr_virt xi_97_17 rfl rfl rfl rfl (Nat.le_of_ble_eq_true rfl) (Nat.le_of_ble_eq_true rfl) ?_
      refine wm_isThingN hI (by omega) (fun hl => ?_) (fun hl => ?_)
      · have hg := hI.ag (t := i) (by omega)
        refine xr_k ?_
        refine xr_if_eq xi_97_20 (by first | exact tI_n (by omega) | exact tI_d (by omega) | assumption | exact tI_e1 | exact tI_e2 | exact tI_e3 | exact tI_e4) (fun c_ => by exfalso; omega) (fun c_ => ?_)
        refine xr_aload_n xi_97_23 rfl ?_
        refine xr_iload_n xi_97_24 rfl ?_
        refine xr_virt xi_97_25 rfl rfl rfl rfl (Nat.le_of_ble_eq_true rfl) (Nat.le_of_ble_eq_true rfl) ?_
        refine wm_ageOf hI hl ?_
        refine xr_k ?_
        refine xr_iload_n xi_97_28 rfl ?_
        refine xr_ic_gt xi_97_29 (by first | exact tI_n (by omega) | exact tI_d (by omega) | assumption | exact tI_e1 | exact tI_e2 | exact tI_e3 | exact tI_e4) (by first | exact tI_n (by omega) | exact tI_d (by omega) | assumption | exact tI_e1 | exact tI_e2 | exact tI_e3 | exact tI_e4) (fun c_29 => ?_) (fun c_29 => ?_)
        · refine xr_iconst (z := nI 0) xi_97_38 rfl ?_
          refine xr_ior xi_97_39 (mk_step0 (fun q => by have := q.2; omega)) ?_
          refine xr_istore_n xi_97_40 (Nat.le_of_ble_eq_true rfl) rfl ?_
          refine xr_iinc xi_97_41 rfl (by first | exact nI_1 _ | exact rfl) rfl ?_
          refine xr_goto xi_97_44 ?_
          exact ih (i + 1) (by omega)
        · refine xr_iconst (z := nI 1) xi_97_32 rfl ?_
          refine xr_iload_n xi_97_33 rfl ?_
          refine xr_ishl xi_97_34 rfl ?_
          refine xr_goto xi_97_35 ?_
          refine xr_ior xi_97_39 (mk_step1 (by omega) ⟨hl, by omega⟩) ?_
          refine xr_istore_n xi_97_40 (Nat.le_of_ble_eq_true rfl) rfl ?_
          refine xr_iinc xi_97_41 rfl (by first | exact nI_1 _ | exact rfl) rfl ?_
          refine xr_goto xi_97_44 ?_
          exact ih (i + 1) (by omega)
      · refine xr_k ?_
        refine xr_if_eq xi_97_20 (by first | exact tI_n (by omega) | exact tI_d (by omega) | assumption | exact tI_e1 | exact tI_e2 | exact tI_e3 | exact tI_e4) (fun c_ => ?_) (fun c_ => by exfalso; omega)
        refine xr_iconst (z := nI 0) xi_97_38 rfl ?_
        refine xr_ior xi_97_39 (mk_step0 (fun q => hl q.1)) ?_
        refine xr_istore_n xi_97_40 (Nat.le_of_ble_eq_true rfl) rfl ?_
        refine xr_iinc xi_97_41 rfl (by first | exact nI_1 _ | exact rfl) rfl ?_
        refine xr_goto xi_97_44 ?_
        exact ih (i + 1) (by omega)
  refine xr_iconst xi_97_0 (show xm_i 0 = mk (fun t => t < 0 ∧ sYoung G a t) from mk_start _) ?_
  refine xr_istore_n xi_97_1 (Nat.le_of_ble_eq_true rfl) rfl ?_
  refine xr_iconst (z := nI 0) xi_97_2 rfl ?_
  refine xr_istore_n xi_97_3 (Nat.le_of_ble_eq_true rfl) rfl ?_
  exact key (G 0) 0 (by omega)
end M1
