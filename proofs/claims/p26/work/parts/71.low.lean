/-! the law's small methods, and the sum of all that is told -/
theorem and7f (v : Int32) : ∃ m, m < 2147483648 ∧ v &&& nI 2147483647 = nI m := by
  have h1 : (v &&& nI 2147483647).toBitVec.toNat ≤ 2147483647 := by
    rw [Int32.toBitVec_and, BitVec.toNat_and]
    have : (nI 2147483647).toBitVec.toNat = 2147483647 := by decide +kernel
    rw [this]
    exact Nat.and_le_right
  have h2 : (v &&& nI 2147483647).toInt = ((v &&& nI 2147483647).toBitVec.toNat : Int) := BitVec.toInt_eq_toNat_of_lt (by omega)
  refine ⟨(v &&& nI 2147483647).toBitVec.toNat, by omega, Int32.toInt_inj.mp ?_⟩
  rw [tI_n (by omega), h2]
theorem and1 (v : Int32) : ∃ m, m < 2 ∧ v &&& nI 1 = nI m := by
  have h1 : (v &&& nI 1).toBitVec.toNat ≤ 1 := by
    rw [Int32.toBitVec_and, BitVec.toNat_and]
    have : (nI 1).toBitVec.toNat = 1 := by decide +kernel
    rw [this]
    exact Nat.and_le_right
  have h2 : (v &&& nI 1).toInt = ((v &&& nI 1).toBitVec.toNat : Int) := BitVec.toInt_eq_toNat_of_lt (by omega)
  refine ⟨(v &&& nI 1).toBitVec.toNat, by omega, Int32.toInt_inj.mp ?_⟩
  rw [tI_n (by omega), h2]
section LL
variable {L : Nat} {xs : Nat → Int32} {Q : Option Value → xm_H → Prop} {ln st : Nat} {tx Z G : Nat → Nat} {H : xm_H}
theorem wl_low {v : Int32} {n : Nat} (h0 : 0 < n) (hn : n < 2147483648) (hQ : ∀ r, r < n → Q (some (.int (nI r))) H) : xc L xs 85 [.int v, .int (nI n)] H Q := by
  obtain ⟨m, hm, e⟩ := and7f v
  have hne : ¬ nI n = 0 := fun q => by
    have := (nI_inj (b := 0) hn (by omega)).mp q
    omega
  refine xr_iload_n xi_85_0 rfl ?_
  refine xr_ldc (z := nI 2147483647) xi_85_1 rfl ?_
  refine xr_iand xi_85_3 (e) ?_
  refine xr_iload_n xi_85_4 rfl ?_
  refine xr_irem xi_85_5 hne (pk_rem hm h0 hn) ?_
  refine xr_iret xi_85_6 (fun h => absurd h (by decide)) ?_
  exact hQ _ (Nat.mod_lt _ h0)
theorem wl_cell {k : Nat} (hL : L ≤ 260) (hk : k < 1000) (hQ : ∀ z, Q (some (.int z)) H) : xc L xs 77 [.float 0, .int (nI k)] H Q := by
  by_cases c : k < L
  · refine xr_iload_n xi_77_0 rfl ?_
    refine xr_aloads xi_77_1 rfl ?_
    refine xr_slen xi_77_2 ?_
    refine xr_ic_ge xi_77_3 (by first | exact tI_n (by omega) | exact tI_d (by omega) | assumption | exact tI_e1 | exact tI_e2 | exact tI_e3 | exact tI_e4) (by first | exact tI_n (by omega) | exact tI_d (by omega) | assumption | exact tI_e1 | exact tI_e2 | exact tI_e3 | exact tI_e4) (fun c_ => by exfalso; omega) (fun c_ => ?_)
    refine xr_aloads xi_77_6 rfl ?_
    refine xr_iload_n xi_77_7 rfl ?_
    refine xr_sald xi_77_8 (by first | exact tI_n (by first | omega | (simp only [ri]; omega)) | exact tI_dn (by omega) (by omega) | assumption) (by omega) ?_
    refine xr_goto xi_77_9 ?_
    refine xr_iret xi_77_25 (fun h => absurd h (by decide)) ?_
    exact hQ _
  · refine xr_iload_n xi_77_0 rfl ?_
    refine xr_aloads xi_77_1 rfl ?_
    refine xr_slen xi_77_2 ?_
    refine xr_ic_ge xi_77_3 (by first | exact tI_n (by omega) | exact tI_d (by omega) | assumption | exact tI_e1 | exact tI_e2 | exact tI_e3 | exact tI_e4) (by first | exact tI_n (by omega) | exact tI_d (by omega) | assumption | exact tI_e1 | exact tI_e2 | exact tI_e3 | exact tI_e4) (fun c_ => ?_) (fun c_ => by exfalso; omega)
    refine xr_sipush (z := nI 7919) xi_77_12 rfl ?_
    refine xr_iload_n xi_77_15 rfl ?_
    refine xr_bipush (z := nI 41) xi_77_16 rfl ?_
    refine xr_iadd xi_77_18 (by first | exact nI_add _ _ | exact rfl) ?_
    refine xr_imul xi_77_19 (by first | exact pk_mul _ _ | exact rfl) ?_
    refine xr_iload_n xi_77_20 rfl ?_
    refine xr_bipush (z := nI 71) xi_77_21 rfl ?_
    refine xr_iadd xi_77_23 (by first | exact nI_add _ _ | exact rfl) ?_
    refine xr_imul xi_77_24 (by first | exact pk_mul _ _ | exact rfl) ?_
    refine xr_iret xi_77_25 (fun h => absurd h (by decide)) ?_
    exact hQ _
theorem wl_many {P : Nat → Prop} (hQ : Q (some (.int (nI (cnt P 30)))) H) : xc L xs 86 [.int (mk P)] H Q := by
  have key : ∀ d i, i + d = 30 → xw L xs 86 4 [.int (mk P), .int (nI (cnt P i)), .int (nI i)] [] H Q := by
    intro d
    induction d with
    | zero =>
      intro i hi
      have e : i = 30 := by omega
      subst e
      refine xr_iload_n xi_86_4 rfl ?_
      refine xr_bipush (z := nI 30) xi_86_5 rfl ?_
      refine xr_ic_ge xi_86_7 (by first | exact tI_n (by omega) | exact tI_d (by omega) | assumption | exact tI_e1 | exact tI_e2 | exact tI_e3 | exact tI_e4) (by first | exact tI_n (by omega) | exact tI_d (by omega) | assumption | exact tI_e1 | exact tI_e2 | exact tI_e3 | exact tI_e4) (fun c_ => ?_) (fun c_ => by exfalso; omega)
      refine xr_iload_n xi_86_24 rfl ?_
      refine xr_iret xi_86_25 (fun h => absurd h (by decide)) ?_
      exact hQ
    | succ d ih =>
      intro i hi
      rcases mk_test P (n := i) (by omega) with ⟨h1, h2⟩ | ⟨h1, h2⟩
      · refine xr_iload_n xi_86_4 rfl ?_
        refine xr_bipush (z := nI 30) xi_86_5 rfl ?_
        refine xr_ic_ge xi_86_7 (by first | exact tI_n (by omega) | exact tI_d (by omega) | assumption | exact tI_e1 | exact tI_e2 | exact tI_e3 | exact tI_e4) (by first | exact tI_n (by omega) | exact tI_d (by omega) | assumption | exact tI_e1 | exact tI_e2 | exact tI_e3 | exact tI_e4) (fun c_ => by exfalso; omega) (fun c_ => ?_)
        refine xr_iload_n xi_86_10 rfl ?_
        refine xr_iload_n xi_86_11 rfl ?_
        refine xr_iload_n xi_86_12 rfl ?_
        refine xr_ishr xi_86_13 rfl ?_
        refine xr_iconst (z := nI 1) xi_86_14 rfl ?_
        refine xr_iand xi_86_15 (h1) ?_
        refine xr_iadd xi_86_16 (cnt_s1 h2) ?_
        refine xr_istore_n xi_86_17 (Nat.le_of_ble_eq_true rfl) rfl ?_
        refine xr_iinc xi_86_18 rfl (by first | exact nI_1 _ | exact rfl) rfl ?_
        refine xr_goto xi_86_21 ?_
        exact ih (i + 1) (by omega)
      · refine xr_iload_n xi_86_4 rfl ?_
        refine xr_bipush (z := nI 30) xi_86_5 rfl ?_
        refine xr_ic_ge xi_86_7 (by first | exact tI_n (by omega) | exact tI_d (by omega) | assumption | exact tI_e1 | exact tI_e2 | exact tI_e3 | exact tI_e4) (by first | exact tI_n (by omega) | exact tI_d (by omega) | assumption | exact tI_e1 | exact tI_e2 | exact tI_e3 | exact tI_e4) (fun c_ => by exfalso; omega) (fun c_ => ?_)
        refine xr_iload_n xi_86_10 rfl ?_
        refine xr_iload_n xi_86_11 rfl ?_
        refine xr_iload_n xi_86_12 rfl ?_
        refine xr_ishr xi_86_13 rfl ?_
        refine xr_iconst (z := nI 1) xi_86_14 rfl ?_
        refine xr_iand xi_86_15 (h1) ?_
        refine xr_iadd xi_86_16 (cnt_s0 h2) ?_
        refine xr_istore_n xi_86_17 (Nat.le_of_ble_eq_true rfl) rfl ?_
        refine xr_iinc xi_86_18 rfl (by first | exact nI_1 _ | exact rfl) rfl ?_
        refine xr_goto xi_86_21 ?_
        exact ih (i + 1) (by omega)
  refine xr_iconst (z := nI 0) xi_86_0 rfl ?_
  refine xr_istore_n xi_86_1 (Nat.le_of_ble_eq_true rfl) rfl ?_
  refine xr_iconst (z := nI 0) xi_86_2 rfl ?_
  refine xr_istore_n xi_86_3 (Nat.le_of_ble_eq_true rfl) rfl ?_
  exact key 30 0 (by omega)
/-- a sum -/
def hsh (f : Nat → Int32) : Nat → Int64 → Int64
  | 0, s => s
  | n + 1, s => xm_l 31 * hsh f n s + (f n).toInt64
noncomputable def fAll (G : Nat → Nat) : Int64 :=
  xm_l 31 * hsh (qHand G) 4 (hsh (fun k => qHouse G (k / 8) (k % 8)) 64 (hsh (fun k => qThing G (k / 10) (k % 10)) (10 * G 0) (hsh (fun w => qCount G 0 0 w) 12 (xm_l 67)))) + (mk (sNeed G)).toInt64 + xm_l 7 * (mk (sForg G)).toInt64
theorem qCount_12 {st ln w : Nat} (hw : w < 12) : qCount G st ln w = qCount G 0 0 w := by
  have : w = 0 ∨ w = 1 ∨ w = 2 ∨ w = 3 ∨ w = 4 ∨ w = 5 ∨ w = 6 ∨ w = 7 ∨ w = 8 ∨ w = 9 ∨ w = 10 ∨ w = 11 := by omega
  rcases this with rfl | rfl | rfl | rfl | rfl | rfl | rfl | rfl | rfl | rfl | rfl | rfl <;> rfl
theorem wl_all (hS : wS H tx ln st Z G) (hI : sInv G) (hl : ln ≤ 60) (hQ : Q (some (.long (fAll G))) H) : xc L xs 87 [.ref 0] H Q := by
  obtain ⟨f0, h0⟩ := hS.h0
  have hc := hI.c
  have k4 : ∀ s d i, i + d = 4 → (∀ x, xw L xs 87 131 [.ref 0, .long (hsh (qHand G) 4 s), .null, x] [] H Q) → xw L xs 87 107 [.ref 0, .long (hsh (qHand G) i s), .null, .int (nI i)] [] H Q := by
    intro s d
    induction d with
    | zero =>
      intro i hi hk
      have e : i = 4 := by omega
      subst e
      refine xr_iload_n xi_87_107 rfl ?_
      refine xr_iconst (z := nI 4) xi_87_108 rfl ?_
      refine xr_ic_ge xi_87_109 (by first | exact tI_n (by omega) | exact tI_d (by omega) | assumption | exact tI_e1 | exact tI_e2 | exact tI_e3 | exact tI_e4) (by first | exact tI_n (by omega) | exact tI_d (by omega) | assumption | exact tI_e1 | exact tI_e2 | exact tI_e3 | exact tI_e4) (fun c_ => ?_) (fun c_ => by exfalso; omega)
      exact hk _
    | succ d ih =>
      intro i hi hk
      refine xr_iload_n xi_87_107 rfl ?_
      refine xr_iconst (z := nI 4) xi_87_108 rfl ?_
      refine xr_ic_ge xi_87_109 (by first | exact tI_n (by omega) | exact tI_d (by omega) | assumption | exact tI_e1 | exact tI_e2 | exact tI_e3 | exact tI_e4) (by first | exact tI_n (by omega) | exact tI_d (by omega) | assumption | exact tI_e1 | exact tI_e2 | exact tI_e3 | exact tI_e4) (fun c_ => by exfalso; omega) (fun c_ => ?_)
      refine xr_ldc2w (z := xm_l 31) xi_87_112 rfl ?_
      refine xr_lload_n xi_87_115 rfl ?_
      refine xr_lmul xi_87_116 rfl ?_
      refine xr_aload_n xi_87_117 rfl ?_
      refine xr_iload_n xi_87_118 rfl ?_
      refine xr_virt xi_87_119 rfl rfl h0 rfl (Nat.le_of_ble_eq_true rfl) (Nat.le_of_ble_eq_true rfl) ?_
      refine wr_hand hS hI (by omega) rfl ?_
      refine xr_k ?_
      refine xr_i2l xi_87_122 rfl ?_
      refine xr_ladd xi_87_123 rfl ?_
      refine xr_lstore_n xi_87_124 (Nat.le_of_ble_eq_true rfl) rfl ?_
      refine xr_iinc xi_87_125 rfl (by first | exact nI_1 _ | exact rfl) rfl ?_
      refine xr_goto xi_87_128 ?_
      exact ih (i + 1) (by omega) hk
  have k3 : ∀ s d i, i + d = 64 → (∀ x, xw L xs 87 105 [.ref 0, .long (hsh (fun k => qHouse G (k / 8) (k % 8)) 64 s), .null, x] [] H Q) → xw L xs 87 73 [.ref 0, .long (hsh (fun k => qHouse G (k / 8) (k % 8)) i s), .null, .int (nI i)] [] H Q := by
    intro s d
    induction d with
    | zero =>
      intro i hi hk
      have e : i = 64 := by omega
      subst e
      refine xr_iload_n xi_87_73 rfl ?_
      refine xr_bipush (z := nI 64) xi_87_74 rfl ?_
      refine xr_ic_ge xi_87_76 (by first | exact tI_n (by omega) | exact tI_d (by omega) | assumption | exact tI_e1 | exact tI_e2 | exact tI_e3 | exact tI_e4) (by first | exact tI_n (by omega) | exact tI_d (by omega) | assumption | exact tI_e1 | exact tI_e2 | exact tI_e3 | exact tI_e4) (fun c_ => ?_) (fun c_ => by exfalso; omega)
      exact hk _
    | succ d ih =>
      intro i hi hk
      refine xr_iload_n xi_87_73 rfl ?_
      refine xr_bipush (z := nI 64) xi_87_74 rfl ?_
      refine xr_ic_ge xi_87_76 (by first | exact tI_n (by omega) | exact tI_d (by omega) | assumption | exact tI_e1 | exact tI_e2 | exact tI_e3 | exact tI_e4) (by first | exact tI_n (by omega) | exact tI_d (by omega) | assumption | exact tI_e1 | exact tI_e2 | exact tI_e3 | exact tI_e4) (fun c_ => by exfalso; omega) (fun c_ => ?_)
      refine xr_ldc2w (z := xm_l 31) xi_87_79 rfl ?_
      refine xr_lload_n xi_87_82 rfl ?_
      refine xr_lmul xi_87_83 rfl ?_
      refine xr_aload_n xi_87_84 rfl ?_
      refine xr_iload_n xi_87_85 rfl ?_
      refine xr_bipush (z := nI 8) xi_87_86 rfl ?_
      refine xr_idiv xi_87_88 (by decide) (by first | exact pk_div (by omega) (by omega) (by omega) | exact rfl) ?_
      refine xr_iload_n xi_87_89 rfl ?_
      refine xr_bipush (z := nI 8) xi_87_90 rfl ?_
      refine xr_irem xi_87_92 (by decide) (by first | exact pk_rem (by omega) (by omega) (by omega) | exact rfl) ?_
      refine xr_virt xi_87_93 rfl rfl h0 rfl (Nat.le_of_ble_eq_true rfl) (Nat.le_of_ble_eq_true rfl) ?_
      refine wr_house hS hI (by omega) (by omega) rfl ?_
      refine xr_k ?_
      refine xr_i2l xi_87_96 rfl ?_
      refine xr_ladd xi_87_97 rfl ?_
      refine xr_lstore_n xi_87_98 (Nat.le_of_ble_eq_true rfl) rfl ?_
      refine xr_iinc xi_87_99 rfl (by first | exact nI_1 _ | exact rfl) rfl ?_
      refine xr_goto xi_87_102 ?_
      exact ih (i + 1) (by omega) hk
  have k2 : ∀ s d i, i + d = 10 * G 0 → (∀ x, xw L xs 87 71 [.ref 0, .long (hsh (fun k => qThing G (k / 10) (k % 10)) (10 * G 0) s), .null, x] [] H Q) → xw L xs 87 33 [.ref 0, .long (hsh (fun k => qThing G (k / 10) (k % 10)) i s), .null, .int (nI i)] [] H Q := by
    intro s d
    induction d with
    | zero =>
      intro i hi hk
      have e : i = 10 * G 0 := by omega
      subst e
      refine xr_iload_n xi_87_33 rfl ?_
      refine xr_bipush (z := nI 10) xi_87_34 rfl ?_
      refine xr_aload_n xi_87_36 rfl ?_
      refine xr_iconst (z := nI 0) xi_87_37 rfl ?_
      refine xr_virt xi_87_38 rfl rfl h0 rfl (Nat.le_of_ble_eq_true rfl) (Nat.le_of_ble_eq_true rfl) ?_
      refine wr_count hS hI hl (by omega) rfl ?_
      refine xr_k ?_
      refine xr_imul xi_87_41 (pk_mul 10 (G 0)) ?_
      refine xr_ic_ge xi_87_42 (by first | exact tI_n (by omega) | exact tI_d (by omega) | assumption | exact tI_e1 | exact tI_e2 | exact tI_e3 | exact tI_e4) (by first | exact tI_n (by omega) | exact tI_d (by omega) | assumption | exact tI_e1 | exact tI_e2 | exact tI_e3 | exact tI_e4) (fun c_ => ?_) (fun c_ => by exfalso; omega)
      exact hk _
    | succ d ih =>
      intro i hi hk
      refine xr_iload_n xi_87_33 rfl ?_
      refine xr_bipush (z := nI 10) xi_87_34 rfl ?_
      refine xr_aload_n xi_87_36 rfl ?_
      refine xr_iconst (z := nI 0) xi_87_37 rfl ?_
      refine xr_virt xi_87_38 rfl rfl h0 rfl (Nat.le_of_ble_eq_true rfl) (Nat.le_of_ble_eq_true rfl) ?_
      refine wr_count hS hI hl (by omega) rfl ?_
      refine xr_k ?_
      refine xr_imul xi_87_41 (pk_mul 10 (G 0)) ?_
      refine xr_ic_ge xi_87_42 (by first | exact tI_n (by omega) | exact tI_d (by omega) | assumption | exact tI_e1 | exact tI_e2 | exact tI_e3 | exact tI_e4) (by first | exact tI_n (by omega) | exact tI_d (by omega) | assumption | exact tI_e1 | exact tI_e2 | exact tI_e3 | exact tI_e4) (fun c_ => by exfalso; omega) (fun c_ => ?_)
      refine xr_ldc2w (z := xm_l 31) xi_87_45 rfl ?_
      refine xr_lload_n xi_87_48 rfl ?_
      refine xr_lmul xi_87_49 rfl ?_
      refine xr_aload_n xi_87_50 rfl ?_
      refine xr_iload_n xi_87_51 rfl ?_
      refine xr_bipush (z := nI 10) xi_87_52 rfl ?_
      refine xr_idiv xi_87_54 (by decide) (by first | exact pk_div (by omega) (by omega) (by omega) | exact rfl) ?_
      refine xr_iload_n xi_87_55 rfl ?_
      refine xr_bipush (z := nI 10) xi_87_56 rfl ?_
      refine xr_irem xi_87_58 (by decide) (by first | exact pk_rem (by omega) (by omega) (by omega) | exact rfl) ?_
      refine xr_virt xi_87_59 rfl rfl h0 rfl (Nat.le_of_ble_eq_true rfl) (Nat.le_of_ble_eq_true rfl) ?_
      refine wr_thing hS hI (by omega) (by omega) rfl ?_
      refine xr_k ?_
      refine xr_i2l xi_87_62 rfl ?_
      refine xr_ladd xi_87_63 rfl ?_
      refine xr_lstore_n xi_87_64 (Nat.le_of_ble_eq_true rfl) rfl ?_
      refine xr_iinc xi_87_65 rfl (by first | exact nI_1 _ | exact rfl) rfl ?_
      refine xr_goto xi_87_68 ?_
      exact ih (i + 1) (by omega) hk
  have k1 : ∀ s d i, i + d = 12 → (∀ x, xw L xs 87 31 [.ref 0, .long (hsh (fun w => qCount G 0 0 w) 12 s), .null, x] [] H Q) → xw L xs 87 6 [.ref 0, .long (hsh (fun w => qCount G 0 0 w) i s), .null, .int (nI i)] [] H Q := by
    intro s d
    induction d with
    | zero =>
      intro i hi hk
      have e : i = 12 := by omega
      subst e
      refine xr_iload_n xi_87_6 rfl ?_
      refine xr_bipush (z := nI 12) xi_87_7 rfl ?_
      refine xr_ic_ge xi_87_9 (by first | exact tI_n (by omega) | exact tI_d (by omega) | assumption | exact tI_e1 | exact tI_e2 | exact tI_e3 | exact tI_e4) (by first | exact tI_n (by omega) | exact tI_d (by omega) | assumption | exact tI_e1 | exact tI_e2 | exact tI_e3 | exact tI_e4) (fun c_ => ?_) (fun c_ => by exfalso; omega)
      exact hk _
    | succ d ih =>
      intro i hi hk
      refine xr_iload_n xi_87_6 rfl ?_
      refine xr_bipush (z := nI 12) xi_87_7 rfl ?_
      refine xr_ic_ge xi_87_9 (by first | exact tI_n (by omega) | exact tI_d (by omega) | assumption | exact tI_e1 | exact tI_e2 | exact tI_e3 | exact tI_e4) (by first | exact tI_n (by omega) | exact tI_d (by omega) | assumption | exact tI_e1 | exact tI_e2 | exact tI_e3 | exact tI_e4) (fun c_ => by exfalso; omega) (fun c_ => ?_)
      refine xr_ldc2w (z := xm_l 31) xi_87_12 rfl ?_
      refine xr_lload_n xi_87_15 rfl ?_
      refine xr_lmul xi_87_16 rfl ?_
      refine xr_aload_n xi_87_17 rfl ?_
      refine xr_iload_n xi_87_18 rfl ?_
      refine xr_virt xi_87_19 rfl rfl h0 rfl (Nat.le_of_ble_eq_true rfl) (Nat.le_of_ble_eq_true rfl) ?_
      refine wr_count hS hI hl (by omega) (qCount_12 (by omega)) ?_
      refine xr_k ?_
      refine xr_i2l xi_87_22 rfl ?_
      refine xr_ladd xi_87_23 rfl ?_
      refine xr_lstore_n xi_87_24 (Nat.le_of_ble_eq_true rfl) rfl ?_
      refine xr_iinc xi_87_25 rfl (by first | exact nI_1 _ | exact rfl) rfl ?_
      refine xr_goto xi_87_28 ?_
      exact ih (i + 1) (by omega) hk
  refine xr_ldc2w (z := xm_l 67) xi_87_0 rfl ?_
  refine xr_lstore_n xi_87_3 (Nat.le_of_ble_eq_true rfl) rfl ?_
  refine xr_iconst (z := nI 0) xi_87_4 rfl ?_
  refine xr_istore_n xi_87_5 (Nat.le_of_ble_eq_true rfl) rfl ?_
  refine k1 _ 12 0 (by omega) (fun x => ?_)
  refine xr_iconst (z := nI 0) xi_87_31 rfl ?_
  refine xr_istore_n xi_87_32 (Nat.le_of_ble_eq_true rfl) rfl ?_
  refine k2 _ (10 * G 0) 0 (by omega) (fun x => ?_)
  refine xr_iconst (z := nI 0) xi_87_71 rfl ?_
  refine xr_istore_n xi_87_72 (Nat.le_of_ble_eq_true rfl) rfl ?_
  refine k3 _ 64 0 (by omega) (fun x => ?_)
  refine xr_iconst (z := nI 0) xi_87_105 rfl ?_
  refine xr_istore_n xi_87_106 (Nat.le_of_ble_eq_true rfl) rfl ?_
  refine k4 _ 4 0 (by omega) (fun x => ?_)
  refine xr_ldc2w (z := xm_l 31) xi_87_131 rfl ?_
  refine xr_lload_n xi_87_134 rfl ?_
  refine xr_lmul xi_87_135 rfl ?_
  refine xr_aload_n xi_87_136 rfl ?_
  refine xr_iconst (z := nI 0) xi_87_137 rfl ?_
  refine xr_virt xi_87_138 rfl rfl h0 rfl (Nat.le_of_ble_eq_true rfl) (Nat.le_of_ble_eq_true rfl) ?_
  refine wr_need hS hI ?_
  refine xr_k ?_
  refine xr_i2l xi_87_141 rfl ?_
  refine xr_ladd xi_87_142 rfl ?_
  refine xr_ldc2w (z := xm_l 7) xi_87_143 rfl ?_
  refine xr_aload_n xi_87_146 rfl ?_
  refine xr_iconst (z := nI 1) xi_87_147 rfl ?_
  refine xr_virt xi_87_148 rfl rfl h0 rfl (Nat.le_of_ble_eq_true rfl) (Nat.le_of_ble_eq_true rfl) ?_
  refine wr_forg hS hI ?_
  refine xr_k ?_
  refine xr_i2l xi_87_151 rfl ?_
  refine xr_lmul xi_87_152 rfl ?_
  refine xr_ladd xi_87_153 rfl ?_
  refine xr_lret xi_87_154 ?_
  exact hQ
end LL
