/-! the law's isFar: distances go by strings; who keeps what -/
section FR
variable {L : Nat} {xs : Nat → Int32} {Q : Option Value → xm_H → Prop} {ln st : Nat} {tx Z G : Nat → Nat} {H : xm_H}
theorem mk_b1 {P : Nat → Prop} {n : Nat} (hn : n < 30) (h : P n) : (mk P >>> (nI n &&& 31)) &&& nI 1 = nI 1 := by
  rcases mk_test P hn with ⟨a, -⟩ | ⟨-, a⟩
  · exact a
  · exact absurd h a
theorem mk_b0 {P : Nat → Prop} {n : Nat} (hn : n < 30) (h : ¬ P n) : (mk P >>> (nI n &&& 31)) &&& nI 1 = nI 0 := by
  rcases mk_test P hn with ⟨-, a⟩ | ⟨a, -⟩
  · exact absurd a h
  · exact a
theorem sNeed_l {t : Nat} (h : sNeed G t) : sLive G t := (sReach_I h).1
theorem wf_least {t : Nat} {y x4 x5 : Value} (hS : wS H tx ln st Z G) (hI : sInv G) (hl : ln ≤ 60) (ht : t < G 0)
    (hk : ∀ x7 x8, xw L xs 89 150 [.ref 0, y, .int (mk (sNeed G)), .int (nI t), x4, x5, .int (nI (sLst G t (G 0))), x7, x8] [] H Q) : ∀ d k x8, k + d = G 0 → xw L xs 89 68 [.ref 0, y, .int (mk (sNeed G)), .int (nI t), x4, x5, .int (nI (sLst G t k)), .int (nI k), x8] [] H Q := by
  obtain ⟨f0, h0⟩ := hS.h0
  have hc := hI.c
  intro d
  induction d with
  | zero =>
    intro k x8 hd
    have e : k = G 0 := by omega
    subst e
    refine xr_iload xi_89_68 rfl ?_
    refine xr_aload_n xi_89_70 rfl ?_
    refine xr_iconst (z := nI 0) xi_89_71 rfl ?_
    refine xr_virt xi_89_72 rfl rfl h0 rfl (Nat.le_of_ble_eq_true rfl) (Nat.le_of_ble_eq_true rfl) ?_
    refine wr_count hS hI hl (by omega) qC0 ?_
    refine xr_k ?_
    refine xr_ic_ge xi_89_75 (by first | exact tI_n (by omega) | exact tI_d (by omega) | assumption | exact tI_e1 | exact tI_e2 | exact tI_e3 | exact tI_e4) (by first | exact tI_n (by omega) | exact tI_d (by omega) | assumption | exact tI_e1 | exact tI_e2 | exact tI_e3 | exact tI_e4) (fun c_ => ?_) (fun c_ => by exfalso; omega)
    exact hk _ _
  | succ d ih =>
    intro k x8 hd
    have hb := (sLst_le (G := G) (t := t) k).1
    have off : ¬ sTo G t k → sLst G t (k + 1) = sLst G t k := fun q => if_neg (fun z => q (cd_t.mp z).1)
    by_cases hA : sTfrom G t k
    · by_cases hB : sNeed G k
      · obtain ⟨n1, -, -, n2⟩ := sD_need hI hB
        by_cases hC : sD G k + 1 < sLst G t k
        · have e : sLst G t (k + 1) = sD G k + 1 := if_pos (cd_t.mpr ⟨⟨hA, hB⟩, hC⟩)
          have := ih (k + 1) (.int (nI 1)) (by omega)
          rw [e] at this
          refine xr_iload xi_89_68 rfl ?_
          refine xr_aload_n xi_89_70 rfl ?_
          refine xr_iconst (z := nI 0) xi_89_71 rfl ?_
          refine xr_virt xi_89_72 rfl rfl h0 rfl (Nat.le_of_ble_eq_true rfl) (Nat.le_of_ble_eq_true rfl) ?_
          refine wr_count hS hI hl (by omega) qC0 ?_
          refine xr_k ?_
          refine xr_ic_ge xi_89_75 (by first | exact tI_n (by omega) | exact tI_d (by omega) | assumption | exact tI_e1 | exact tI_e2 | exact tI_e3 | exact tI_e4) (by first | exact tI_n (by omega) | exact tI_d (by omega) | assumption | exact tI_e1 | exact tI_e2 | exact tI_e3 | exact tI_e4) (fun c_ => by exfalso; omega) (fun c_ => ?_)
          refine xr_aload_n xi_89_78 rfl ?_
          refine xr_iload_n xi_89_79 rfl ?_
          refine xr_bipush (z := nI 8) xi_89_80 rfl ?_
          refine xr_virt xi_89_82 rfl rfl h0 rfl (Nat.le_of_ble_eq_true rfl) (Nat.le_of_ble_eq_true rfl) ?_
          refine wr_thing hS hI ht (by omega) qT8 ?_
          refine xr_k ?_
          refine xr_iload xi_89_85 rfl ?_
          refine xr_ishr xi_89_87 rfl ?_
          refine xr_iconst (z := nI 1) xi_89_88 rfl ?_
          refine xr_iand xi_89_89 (mk_b1 (by omega) hA) ?_
          refine xr_iconst (z := nI 1) xi_89_90 rfl ?_
          refine xr_ic_ne xi_89_91 (by first | exact tI_n (by omega) | exact tI_d (by omega) | assumption | exact tI_e1 | exact tI_e2 | exact tI_e3 | exact tI_e4) (by first | exact tI_n (by omega) | exact tI_d (by omega) | assumption | exact tI_e1 | exact tI_e2 | exact tI_e3 | exact tI_e4) (fun c_ => by exfalso; omega) (fun c_ => ?_)
          refine xr_iload_n xi_89_94 rfl ?_
          refine xr_iload xi_89_95 rfl ?_
          refine xr_ishr xi_89_97 rfl ?_
          refine xr_iconst (z := nI 1) xi_89_98 rfl ?_
          refine xr_iand xi_89_99 (mk_b1 (by omega) hB) ?_
          refine xr_iconst (z := nI 1) xi_89_100 rfl ?_
          refine xr_ic_ne xi_89_101 (by first | exact tI_n (by omega) | exact tI_d (by omega) | assumption | exact tI_e1 | exact tI_e2 | exact tI_e3 | exact tI_e4) (by first | exact tI_n (by omega) | exact tI_d (by omega) | assumption | exact tI_e1 | exact tI_e2 | exact tI_e3 | exact tI_e4) (fun c_ => by exfalso; omega) (fun c_ => ?_)
          refine xr_iconst (z := nI 1) xi_89_104 rfl ?_
          refine xr_goto xi_89_105 ?_
          refine xr_istore xi_89_109 (Nat.le_of_ble_eq_true rfl) rfl ?_
          refine xr_iload xi_89_111 rfl ?_
          refine xr_if_eq xi_89_113 (by first | exact tI_n (by omega) | exact tI_d (by omega) | assumption | exact tI_e1 | exact tI_e2 | exact tI_e3 | exact tI_e4) (fun c_ => by exfalso; omega) (fun c_ => ?_)
          refine xr_aload_n xi_89_116 rfl ?_
          refine xr_iload xi_89_117 rfl ?_
          refine xr_virt xi_89_119 rfl rfl h0 rfl (Nat.le_of_ble_eq_true rfl) (Nat.le_of_ble_eq_true rfl) ?_
          refine wr_far hS hI (sNeed_l hB) n2 ?_
          refine xr_k ?_
          refine xr_iconst (z := nI 1) xi_89_122 rfl ?_
          refine xr_iadd xi_89_123 (by first | exact nI_add _ _ | exact rfl) ?_
          refine xr_iload xi_89_124 rfl ?_
          refine xr_ic_ge xi_89_126 (by first | exact tI_n (by omega) | exact tI_d (by omega) | assumption | exact tI_e1 | exact tI_e2 | exact tI_e3 | exact tI_e4) (by first | exact tI_n (by omega) | exact tI_d (by omega) | assumption | exact tI_e1 | exact tI_e2 | exact tI_e3 | exact tI_e4) (fun c_ => by exfalso; omega) (fun c_ => ?_)
          refine xr_aload_n xi_89_129 rfl ?_
          refine xr_iload xi_89_130 rfl ?_
          refine xr_virt xi_89_132 rfl rfl h0 rfl (Nat.le_of_ble_eq_true rfl) (Nat.le_of_ble_eq_true rfl) ?_
          refine wr_far hS hI (sNeed_l hB) n2 ?_
          refine xr_k ?_
          refine xr_iconst (z := nI 1) xi_89_135 rfl ?_
          refine xr_iadd xi_89_136 (by first | exact nI_add _ _ | exact rfl) ?_
          refine xr_goto xi_89_137 ?_
          refine xr_istore xi_89_142 (Nat.le_of_ble_eq_true rfl) rfl ?_
          refine xr_iinc xi_89_144 rfl (by first | exact nI_1 _ | exact rfl) rfl ?_
          refine xr_goto xi_89_147 ?_
          exact this
        · have e : sLst G t (k + 1) = sLst G t k := if_neg (fun z => hC (cd_t.mp z).2)
          have := ih (k + 1) (.int (nI 1)) (by omega)
          rw [e] at this
          refine xr_iload xi_89_68 rfl ?_
          refine xr_aload_n xi_89_70 rfl ?_
          refine xr_iconst (z := nI 0) xi_89_71 rfl ?_
          refine xr_virt xi_89_72 rfl rfl h0 rfl (Nat.le_of_ble_eq_true rfl) (Nat.le_of_ble_eq_true rfl) ?_
          refine wr_count hS hI hl (by omega) qC0 ?_
          refine xr_k ?_
          refine xr_ic_ge xi_89_75 (by first | exact tI_n (by omega) | exact tI_d (by omega) | assumption | exact tI_e1 | exact tI_e2 | exact tI_e3 | exact tI_e4) (by first | exact tI_n (by omega) | exact tI_d (by omega) | assumption | exact tI_e1 | exact tI_e2 | exact tI_e3 | exact tI_e4) (fun c_ => by exfalso; omega) (fun c_ => ?_)
          refine xr_aload_n xi_89_78 rfl ?_
          refine xr_iload_n xi_89_79 rfl ?_
          refine xr_bipush (z := nI 8) xi_89_80 rfl ?_
          refine xr_virt xi_89_82 rfl rfl h0 rfl (Nat.le_of_ble_eq_true rfl) (Nat.le_of_ble_eq_true rfl) ?_
          refine wr_thing hS hI ht (by omega) qT8 ?_
          refine xr_k ?_
          refine xr_iload xi_89_85 rfl ?_
          refine xr_ishr xi_89_87 rfl ?_
          refine xr_iconst (z := nI 1) xi_89_88 rfl ?_
          refine xr_iand xi_89_89 (mk_b1 (by omega) hA) ?_
          refine xr_iconst (z := nI 1) xi_89_90 rfl ?_
          refine xr_ic_ne xi_89_91 (by first | exact tI_n (by omega) | exact tI_d (by omega) | assumption | exact tI_e1 | exact tI_e2 | exact tI_e3 | exact tI_e4) (by first | exact tI_n (by omega) | exact tI_d (by omega) | assumption | exact tI_e1 | exact tI_e2 | exact tI_e3 | exact tI_e4) (fun c_ => by exfalso; omega) (fun c_ => ?_)
          refine xr_iload_n xi_89_94 rfl ?_
          refine xr_iload xi_89_95 rfl ?_
          refine xr_ishr xi_89_97 rfl ?_
          refine xr_iconst (z := nI 1) xi_89_98 rfl ?_
          refine xr_iand xi_89_99 (mk_b1 (by omega) hB) ?_
          refine xr_iconst (z := nI 1) xi_89_100 rfl ?_
          refine xr_ic_ne xi_89_101 (by first | exact tI_n (by omega) | exact tI_d (by omega) | assumption | exact tI_e1 | exact tI_e2 | exact tI_e3 | exact tI_e4) (by first | exact tI_n (by omega) | exact tI_d (by omega) | assumption | exact tI_e1 | exact tI_e2 | exact tI_e3 | exact tI_e4) (fun c_ => by exfalso; omega) (fun c_ => ?_)
          refine xr_iconst (z := nI 1) xi_89_104 rfl ?_
          refine xr_goto xi_89_105 ?_
          refine xr_istore xi_89_109 (Nat.le_of_ble_eq_true rfl) rfl ?_
          refine xr_iload xi_89_111 rfl ?_
          refine xr_if_eq xi_89_113 (by first | exact tI_n (by omega) | exact tI_d (by omega) | assumption | exact tI_e1 | exact tI_e2 | exact tI_e3 | exact tI_e4) (fun c_ => by exfalso; omega) (fun c_ => ?_)
          refine xr_aload_n xi_89_116 rfl ?_
          refine xr_iload xi_89_117 rfl ?_
          refine xr_virt xi_89_119 rfl rfl h0 rfl (Nat.le_of_ble_eq_true rfl) (Nat.le_of_ble_eq_true rfl) ?_
          refine wr_far hS hI (sNeed_l hB) n2 ?_
          refine xr_k ?_
          refine xr_iconst (z := nI 1) xi_89_122 rfl ?_
          refine xr_iadd xi_89_123 (by first | exact nI_add _ _ | exact rfl) ?_
          refine xr_iload xi_89_124 rfl ?_
          refine xr_ic_ge xi_89_126 (by first | exact tI_n (by omega) | exact tI_d (by omega) | assumption | exact tI_e1 | exact tI_e2 | exact tI_e3 | exact tI_e4) (by first | exact tI_n (by omega) | exact tI_d (by omega) | assumption | exact tI_e1 | exact tI_e2 | exact tI_e3 | exact tI_e4) (fun c_ => ?_) (fun c_ => by exfalso; omega)
          refine xr_iload xi_89_140 rfl ?_
          refine xr_istore xi_89_142 (Nat.le_of_ble_eq_true rfl) rfl ?_
          refine xr_iinc xi_89_144 rfl (by first | exact nI_1 _ | exact rfl) rfl ?_
          refine xr_goto xi_89_147 ?_
          exact this
      · have := ih (k + 1) (.int (nI 0)) (by omega)
        rw [off (fun q => hB q.2)] at this
        refine xr_iload xi_89_68 rfl ?_
        refine xr_aload_n xi_89_70 rfl ?_
        refine xr_iconst (z := nI 0) xi_89_71 rfl ?_
        refine xr_virt xi_89_72 rfl rfl h0 rfl (Nat.le_of_ble_eq_true rfl) (Nat.le_of_ble_eq_true rfl) ?_
        refine wr_count hS hI hl (by omega) qC0 ?_
        refine xr_k ?_
        refine xr_ic_ge xi_89_75 (by first | exact tI_n (by omega) | exact tI_d (by omega) | assumption | exact tI_e1 | exact tI_e2 | exact tI_e3 | exact tI_e4) (by first | exact tI_n (by omega) | exact tI_d (by omega) | assumption | exact tI_e1 | exact tI_e2 | exact tI_e3 | exact tI_e4) (fun c_ => by exfalso; omega) (fun c_ => ?_)
        refine xr_aload_n xi_89_78 rfl ?_
        refine xr_iload_n xi_89_79 rfl ?_
        refine xr_bipush (z := nI 8) xi_89_80 rfl ?_
        refine xr_virt xi_89_82 rfl rfl h0 rfl (Nat.le_of_ble_eq_true rfl) (Nat.le_of_ble_eq_true rfl) ?_
        refine wr_thing hS hI ht (by omega) qT8 ?_
        refine xr_k ?_
        refine xr_iload xi_89_85 rfl ?_
        refine xr_ishr xi_89_87 rfl ?_
        refine xr_iconst (z := nI 1) xi_89_88 rfl ?_
        refine xr_iand xi_89_89 (mk_b1 (by omega) hA) ?_
        refine xr_iconst (z := nI 1) xi_89_90 rfl ?_
        refine xr_ic_ne xi_89_91 (by first | exact tI_n (by omega) | exact tI_d (by omega) | assumption | exact tI_e1 | exact tI_e2 | exact tI_e3 | exact tI_e4) (by first | exact tI_n (by omega) | exact tI_d (by omega) | assumption | exact tI_e1 | exact tI_e2 | exact tI_e3 | exact tI_e4) (fun c_ => by exfalso; omega) (fun c_ => ?_)
        refine xr_iload_n xi_89_94 rfl ?_
        refine xr_iload xi_89_95 rfl ?_
        refine xr_ishr xi_89_97 rfl ?_
        refine xr_iconst (z := nI 1) xi_89_98 rfl ?_
        refine xr_iand xi_89_99 (mk_b0 (by omega) hB) ?_
        refine xr_iconst (z := nI 1) xi_89_100 rfl ?_
        refine xr_ic_ne xi_89_101 (by first | exact tI_n (by omega) | exact tI_d (by omega) | assumption | exact tI_e1 | exact tI_e2 | exact tI_e3 | exact tI_e4) (by first | exact tI_n (by omega) | exact tI_d (by omega) | assumption | exact tI_e1 | exact tI_e2 | exact tI_e3 | exact tI_e4) (fun c_ => ?_) (fun c_ => by exfalso; omega)
        refine xr_iconst (z := nI 0) xi_89_108 rfl ?_
        refine xr_istore xi_89_109 (Nat.le_of_ble_eq_true rfl) rfl ?_
        refine xr_iload xi_89_111 rfl ?_
        refine xr_if_eq xi_89_113 (by first | exact tI_n (by omega) | exact tI_d (by omega) | assumption | exact tI_e1 | exact tI_e2 | exact tI_e3 | exact tI_e4) (fun c_ => ?_) (fun c_ => by exfalso; omega)
        refine xr_iload xi_89_140 rfl ?_
        refine xr_istore xi_89_142 (Nat.le_of_ble_eq_true rfl) rfl ?_
        refine xr_iinc xi_89_144 rfl (by first | exact nI_1 _ | exact rfl) rfl ?_
        refine xr_goto xi_89_147 ?_
        exact this
    · have := ih (k + 1) (.int (nI 0)) (by omega)
      rw [off (fun q => hA q.1)] at this
      refine xr_iload xi_89_68 rfl ?_
      refine xr_aload_n xi_89_70 rfl ?_
      refine xr_iconst (z := nI 0) xi_89_71 rfl ?_
      refine xr_virt xi_89_72 rfl rfl h0 rfl (Nat.le_of_ble_eq_true rfl) (Nat.le_of_ble_eq_true rfl) ?_
      refine wr_count hS hI hl (by omega) qC0 ?_
      refine xr_k ?_
      refine xr_ic_ge xi_89_75 (by first | exact tI_n (by omega) | exact tI_d (by omega) | assumption | exact tI_e1 | exact tI_e2 | exact tI_e3 | exact tI_e4) (by first | exact tI_n (by omega) | exact tI_d (by omega) | assumption | exact tI_e1 | exact tI_e2 | exact tI_e3 | exact tI_e4) (fun c_ => by exfalso; omega) (fun c_ => ?_)
      refine xr_aload_n xi_89_78 rfl ?_
      refine xr_iload_n xi_89_79 rfl ?_
      refine xr_bipush (z := nI 8) xi_89_80 rfl ?_
      refine xr_virt xi_89_82 rfl rfl h0 rfl (Nat.le_of_ble_eq_true rfl) (Nat.le_of_ble_eq_true rfl) ?_
      refine wr_thing hS hI ht (by omega) qT8 ?_
      refine xr_k ?_
      refine xr_iload xi_89_85 rfl ?_
      refine xr_ishr xi_89_87 rfl ?_
      refine xr_iconst (z := nI 1) xi_89_88 rfl ?_
      refine xr_iand xi_89_89 (mk_b0 (by omega) hA) ?_
      refine xr_iconst (z := nI 1) xi_89_90 rfl ?_
      refine xr_ic_ne xi_89_91 (by first | exact tI_n (by omega) | exact tI_d (by omega) | assumption | exact tI_e1 | exact tI_e2 | exact tI_e3 | exact tI_e4) (by first | exact tI_n (by omega) | exact tI_d (by omega) | assumption | exact tI_e1 | exact tI_e2 | exact tI_e3 | exact tI_e4) (fun c_ => ?_) (fun c_ => by exfalso; omega)
      refine xr_iconst (z := nI 0) xi_89_108 rfl ?_
      refine xr_istore xi_89_109 (Nat.le_of_ble_eq_true rfl) rfl ?_
      refine xr_iload xi_89_111 rfl ?_
      refine xr_if_eq xi_89_113 (by first | exact tI_n (by omega) | exact tI_d (by omega) | assumption | exact tI_e1 | exact tI_e2 | exact tI_e3 | exact tI_e4) (fun c_ => ?_) (fun c_ => by exfalso; omega)
      refine xr_iload xi_89_140 rfl ?_
      refine xr_istore xi_89_142 (Nat.le_of_ble_eq_true rfl) rfl ?_
      refine xr_iinc xi_89_144 rfl (by first | exact nI_1 _ | exact rfl) rfl ?_
      refine xr_goto xi_89_147 ?_
      exact this
theorem wf_one {t : Nat} {y : Value} (hS : wS H tx ln st Z G) (hI : sInv G) (hl : ln ≤ 60) (ht : t < G 0)
    (hk : ∀ x4 x5 x6 x7 x8, xw L xs 89 8 [.ref 0, y, .int (mk (sNeed G)), .int (nI (t + 1)), x4, x5, x6, x7, x8] [] H Q) : ∀ x4 x5 x6 x7 x8, xw L xs 89 8 [.ref 0, y, .int (mk (sNeed G)), .int (nI t), x4, x5, x6, x7, x8] [] H Q := by
  intro x4 x5 x6 x7 x8
  obtain ⟨f0, h0⟩ := hS.h0
  have hc := hI.c
  have ht30 : t < 30 := by omega
  by_cases hlv : sLive G t
  · have hb := (sLst_le (G := G) (t := t) (G 0)).1
    have hm := (mk_pos (P := sHset G t)).1
    have hm2 := (mk_pos (P := sHset G t)).2
    have hsh : sHeld G t ↔ ∃ k, k < 30 ∧ sHset G t k := ⟨fun ⟨k, a, b⟩ => ⟨k, by omega, a, b⟩, fun ⟨k, a, b, c⟩ => ⟨k, b, c⟩⟩
    have hp := (hI.p ht30).1
    have key : ∀ z : Int32, qFar G t = z → (∀ r x6 x7 x8, r ≤ 1 → (r = 1 ↔ sRoots G t) → xw L xs 89 61 [.ref 0, y, .int (mk (sNeed G)), .int (nI t), .int z, .int (nI r), x6, x7, x8] [] H Q) → xw L xs 89 8 [.ref 0, y, .int (mk (sNeed G)), .int (nI t), x4, x5, x6, x7, x8] [] H Q := by
      intro z hz kk
      refine xr_iload_n xi_89_8 rfl ?_
      refine xr_aload_n xi_89_9 rfl ?_
      refine xr_iconst (z := nI 0) xi_89_10 rfl ?_
      refine xr_virt xi_89_11 rfl rfl h0 rfl (Nat.le_of_ble_eq_true rfl) (Nat.le_of_ble_eq_true rfl) ?_
      refine wr_count hS hI hl (by omega) qC0 ?_
      refine xr_k ?_
      refine xr_ic_ge xi_89_14 (by first | exact tI_n (by omega) | exact tI_d (by omega) | assumption | exact tI_e1 | exact tI_e2 | exact tI_e3 | exact tI_e4) (by first | exact tI_n (by omega) | exact tI_d (by omega) | assumption | exact tI_e1 | exact tI_e2 | exact tI_e3 | exact tI_e4) (fun c_ => by exfalso; omega) (fun c_ => ?_)
      refine xr_aload_n xi_89_17 rfl ?_
      refine xr_iload_n xi_89_18 rfl ?_
      refine xr_iconst (z := nI 0) xi_89_19 rfl ?_
      refine xr_virt xi_89_20 rfl rfl h0 rfl (Nat.le_of_ble_eq_true rfl) (Nat.le_of_ble_eq_true rfl) ?_
      refine wr_thing hS hI ht (by omega) (qT0 hlv) ?_
      refine xr_k ?_
      refine xr_iconst (z := nI 1) xi_89_23 rfl ?_
      refine xr_ic_ne xi_89_24 (by first | exact tI_n (by omega) | exact tI_d (by omega) | assumption | exact tI_e1 | exact tI_e2 | exact tI_e3 | exact tI_e4) (by first | exact tI_n (by omega) | exact tI_d (by omega) | assumption | exact tI_e1 | exact tI_e2 | exact tI_e3 | exact tI_e4) (fun c_ => by exfalso; omega) (fun c_ => ?_)
      refine xr_aload_n xi_89_27 rfl ?_
      refine xr_iload_n xi_89_28 rfl ?_
      refine xr_virt xi_89_29 rfl rfl h0 rfl (Nat.le_of_ble_eq_true rfl) (Nat.le_of_ble_eq_true rfl) ?_
      refine wr_far hS hI hlv hz ?_
      refine xr_k ?_
      refine xr_istore xi_89_32 (Nat.le_of_ble_eq_true rfl) rfl ?_
      refine xr_aload_n xi_89_34 rfl ?_
      refine xr_iload_n xi_89_35 rfl ?_
      refine xr_bipush (z := nI 7) xi_89_36 rfl ?_
      refine xr_virt xi_89_38 rfl rfl h0 rfl (Nat.le_of_ble_eq_true rfl) (Nat.le_of_ble_eq_true rfl) ?_
      refine wr_thing hS hI ht (by omega) qT7 ?_
      refine xr_k ?_
      by_cases hh : sHeld G t
      · have hne : ¬ (mk (sHset G t)).toInt = 0 := fun q => by
          obtain ⟨k, a, b⟩ := hsh.mp hh
          exact hm2.mp q k a b
        refine xr_if_gt xi_89_41 (rfl) (fun c_ => ?_) (fun c_ => by exfalso; omega)
        refine xr_iconst (z := nI 1) xi_89_54 rfl ?_
        refine xr_goto xi_89_55 ?_
        refine xr_istore xi_89_59 (Nat.le_of_ble_eq_true rfl) rfl ?_
        exact kk 1 _ _ _ (by omega) ⟨fun _ => Or.inl hh, fun _ => rfl⟩
      · have hz : (mk (sHset G t)).toInt = 0 := hm2.mpr (fun k a b => hh (hsh.mpr ⟨k, a, b⟩))
        by_cases hpn : G (ri t 1) = 1
        · refine xr_if_gt xi_89_41 (rfl) (fun c_ => by exfalso; omega) (fun c_ => ?_)
          refine xr_aload_n xi_89_44 rfl ?_
          refine xr_iload_n xi_89_45 rfl ?_
          refine xr_iconst (z := nI 3) xi_89_46 rfl ?_
          refine xr_virt xi_89_47 rfl rfl h0 rfl (Nat.le_of_ble_eq_true rfl) (Nat.le_of_ble_eq_true rfl) ?_
          refine wr_thing hS hI ht (by omega) qT3 ?_
          refine xr_k ?_
          refine xr_iconst (z := nI 1) xi_89_50 rfl ?_
          refine xr_ic_ne xi_89_51 (by first | exact tI_n (by omega) | exact tI_d (by omega) | assumption | exact tI_e1 | exact tI_e2 | exact tI_e3 | exact tI_e4) (by first | exact tI_n (by omega) | exact tI_d (by omega) | assumption | exact tI_e1 | exact tI_e2 | exact tI_e3 | exact tI_e4) (fun c_ => by exfalso; omega) (fun c_ => ?_)
          refine xr_iconst (z := nI 1) xi_89_54 rfl ?_
          refine xr_goto xi_89_55 ?_
          refine xr_istore xi_89_59 (Nat.le_of_ble_eq_true rfl) rfl ?_
          exact kk 1 _ _ _ (by omega) ⟨fun _ => Or.inr ⟨hlv, hpn⟩, fun _ => rfl⟩
        · refine xr_if_gt xi_89_41 (rfl) (fun c_ => by exfalso; omega) (fun c_ => ?_)
          refine xr_aload_n xi_89_44 rfl ?_
          refine xr_iload_n xi_89_45 rfl ?_
          refine xr_iconst (z := nI 3) xi_89_46 rfl ?_
          refine xr_virt xi_89_47 rfl rfl h0 rfl (Nat.le_of_ble_eq_true rfl) (Nat.le_of_ble_eq_true rfl) ?_
          refine wr_thing hS hI ht (by omega) qT3 ?_
          refine xr_k ?_
          refine xr_iconst (z := nI 1) xi_89_50 rfl ?_
          refine xr_ic_ne xi_89_51 (by first | exact tI_n (by omega) | exact tI_d (by omega) | assumption | exact tI_e1 | exact tI_e2 | exact tI_e3 | exact tI_e4) (by first | exact tI_n (by omega) | exact tI_d (by omega) | assumption | exact tI_e1 | exact tI_e2 | exact tI_e3 | exact tI_e4) (fun c_ => ?_) (fun c_ => by exfalso; omega)
          refine xr_iconst (z := nI 0) xi_89_58 rfl ?_
          refine xr_istore xi_89_59 (Nat.le_of_ble_eq_true rfl) rfl ?_
          exact kk 0 _ _ _ (by omega) ⟨fun q => by omega, fun q => absurd q (fun z => z.elim hh (fun w => hpn w.2))⟩
    by_cases hN : sNeed G t
    · obtain ⟨n1, n3, n4, n2⟩ := sD_need hI hN
      have hr0 := sD_0 hI hN
      refine key _ n2 (fun r x6 x7 x8 hr hR => ?_)
      refine xr_bipush (z := nI 100) xi_89_61 rfl ?_
      refine xr_istore xi_89_63 (Nat.le_of_ble_eq_true rfl) rfl ?_
      refine xr_iconst (z := nI 0) xi_89_65 rfl ?_
      refine xr_istore xi_89_66 (Nat.le_of_ble_eq_true rfl) rfl ?_
      refine wf_least hS hI hl ht (fun x7 x8 => ?_) (G 0) 0 _ (by omega)
      by_cases e : sD G t = 0
      · have : r = 1 := hR.mpr (hr0.mpr e)
        refine xr_iload xi_89_150 rfl ?_
        refine xr_ldc (z := xE4) xi_89_152 rfl ?_
        refine xr_ic_ne xi_89_154 (by first | exact tI_n (by omega) | exact tI_d (by omega) | assumption | exact tI_e1 | exact tI_e2 | exact tI_e3 | exact tI_e4) (by first | exact tI_n (by omega) | exact tI_d (by omega) | assumption | exact tI_e1 | exact tI_e2 | exact tI_e3 | exact tI_e4) (fun c_ => ?_) (fun c_ => by exfalso; omega)
        refine xr_iconst (z := nI 0) xi_89_161 rfl ?_
        refine xr_iload_n xi_89_162 rfl ?_
        refine xr_iload_n xi_89_163 rfl ?_
        refine xr_ishr xi_89_164 rfl ?_
        refine xr_iconst (z := nI 1) xi_89_165 rfl ?_
        refine xr_iand xi_89_166 (mk_b1 ht30 hN) ?_
        refine xr_if_ne xi_89_167 (by first | exact tI_n (by omega) | exact tI_d (by omega) | assumption | exact tI_e1 | exact tI_e2 | exact tI_e3 | exact tI_e4) (fun c_ => ?_) (fun c_ => by exfalso; omega)
        refine xr_iconst (z := nI 0) xi_89_174 rfl ?_
        refine xr_ic_ne xi_89_175 (by first | exact tI_n (by omega) | exact tI_d (by omega) | assumption | exact tI_e1 | exact tI_e2 | exact tI_e3 | exact tI_e4) (by first | exact tI_n (by omega) | exact tI_d (by omega) | assumption | exact tI_e1 | exact tI_e2 | exact tI_e3 | exact tI_e4) (fun c_ => by exfalso; omega) (fun c_ => ?_)
        refine xr_iload xi_89_178 rfl ?_
        refine xr_iload xi_89_180 rfl ?_
        refine xr_if_ne xi_89_182 (by first | exact tI_n (by omega) | exact tI_d (by omega) | assumption | exact tI_e1 | exact tI_e2 | exact tI_e3 | exact tI_e4) (fun c_ => by exfalso; omega) (fun c_ => ?_)
        refine xr_iconst (z := nI 1) xi_89_185 rfl ?_
        refine xr_goto xi_89_186 ?_
        refine xr_ic_ne xi_89_190 (by first | exact tI_n (by omega) | exact tI_d (by omega) | assumption | exact tI_e1 | exact tI_e2 | exact tI_e3 | exact tI_e4) (by first | exact tI_n (by omega) | exact tI_d (by omega) | assumption | exact tI_e1 | exact tI_e2 | exact tI_e3 | exact tI_e4) (fun c_ => by exfalso; omega) (fun c_ => ?_)
        refine xr_iload xi_89_193 rfl ?_
        refine xr_if_le xi_89_195 (by first | exact tI_n (by omega) | exact tI_d (by omega) | assumption | exact tI_e1 | exact tI_e2 | exact tI_e3 | exact tI_e4) (fun c_ => ?_) (fun c_ => by exfalso; omega)
        refine xr_goto xi_89_207 ?_
        refine xr_iinc xi_89_232 rfl (by first | exact nI_1 _ | exact rfl) rfl ?_
        refine xr_goto xi_89_235 ?_
        exact hk _ _ _ _ _
      · have : ¬ r = 1 := fun q => e (hr0.mp (hR.mp q))
        have e2 := sLst_D hI hN (by omega)
        refine xr_iload xi_89_150 rfl ?_
        refine xr_ldc (z := xE4) xi_89_152 rfl ?_
        refine xr_ic_ne xi_89_154 (by first | exact tI_n (by omega) | exact tI_d (by omega) | assumption | exact tI_e1 | exact tI_e2 | exact tI_e3 | exact tI_e4) (by first | exact tI_n (by omega) | exact tI_d (by omega) | assumption | exact tI_e1 | exact tI_e2 | exact tI_e3 | exact tI_e4) (fun c_ => ?_) (fun c_ => by exfalso; omega)
        refine xr_iconst (z := nI 0) xi_89_161 rfl ?_
        refine xr_iload_n xi_89_162 rfl ?_
        refine xr_iload_n xi_89_163 rfl ?_
        refine xr_ishr xi_89_164 rfl ?_
        refine xr_iconst (z := nI 1) xi_89_165 rfl ?_
        refine xr_iand xi_89_166 (mk_b1 ht30 hN) ?_
        refine xr_if_ne xi_89_167 (by first | exact tI_n (by omega) | exact tI_d (by omega) | assumption | exact tI_e1 | exact tI_e2 | exact tI_e3 | exact tI_e4) (fun c_ => ?_) (fun c_ => by exfalso; omega)
        refine xr_iconst (z := nI 0) xi_89_174 rfl ?_
        refine xr_ic_ne xi_89_175 (by first | exact tI_n (by omega) | exact tI_d (by omega) | assumption | exact tI_e1 | exact tI_e2 | exact tI_e3 | exact tI_e4) (by first | exact tI_n (by omega) | exact tI_d (by omega) | assumption | exact tI_e1 | exact tI_e2 | exact tI_e3 | exact tI_e4) (fun c_ => by exfalso; omega) (fun c_ => ?_)
        refine xr_iload xi_89_178 rfl ?_
        refine xr_iload xi_89_180 rfl ?_
        refine xr_if_ne xi_89_182 (by first | exact tI_n (by omega) | exact tI_d (by omega) | assumption | exact tI_e1 | exact tI_e2 | exact tI_e3 | exact tI_e4) (fun c_ => ?_) (fun c_ => by exfalso; omega)
        refine xr_iconst (z := nI 0) xi_89_189 rfl ?_
        refine xr_ic_ne xi_89_190 (by first | exact tI_n (by omega) | exact tI_d (by omega) | assumption | exact tI_e1 | exact tI_e2 | exact tI_e3 | exact tI_e4) (by first | exact tI_n (by omega) | exact tI_d (by omega) | assumption | exact tI_e1 | exact tI_e2 | exact tI_e3 | exact tI_e4) (fun c_ => by exfalso; omega) (fun c_ => ?_)
        refine xr_iload xi_89_193 rfl ?_
        refine xr_if_le xi_89_195 (by first | exact tI_n (by omega) | exact tI_d (by omega) | assumption | exact tI_e1 | exact tI_e2 | exact tI_e3 | exact tI_e4) (fun c_ => by exfalso; omega) (fun c_ => ?_)
        refine xr_iload xi_89_198 rfl ?_
        refine xr_iload xi_89_200 rfl ?_
        refine xr_ic_eq xi_89_202 (by first | exact tI_n (by omega) | exact tI_d (by omega) | assumption | exact tI_e1 | exact tI_e2 | exact tI_e3 | exact tI_e4) (by first | exact tI_n (by omega) | exact tI_d (by omega) | assumption | exact tI_e1 | exact tI_e2 | exact tI_e3 | exact tI_e4) (fun c_ => ?_) (fun c_ => by exfalso; omega)
        refine xr_goto xi_89_207 ?_
        refine xr_iinc xi_89_232 rfl (by first | exact nI_1 _ | exact rfl) rfl ?_
        refine xr_goto xi_89_235 ?_
        exact hk _ _ _ _ _
    · have n2 := sD_not hI hN
      refine key _ n2 (fun r x6 x7 x8 hr hR => ?_)
      have : ¬ r = 1 := fun q => hN (sReach_F (hR.mp q) (sRoots_A hI (hR.mp q)))
      refine xr_bipush (z := nI 100) xi_89_61 rfl ?_
      refine xr_istore xi_89_63 (Nat.le_of_ble_eq_true rfl) rfl ?_
      refine xr_iconst (z := nI 0) xi_89_65 rfl ?_
      refine xr_istore xi_89_66 (Nat.le_of_ble_eq_true rfl) rfl ?_
      refine wf_least hS hI hl ht (fun x7 x8 => ?_) (G 0) 0 _ (by omega)
      refine xr_iload xi_89_150 rfl ?_
      refine xr_ldc (z := xE4) xi_89_152 rfl ?_
      refine xr_ic_ne xi_89_154 (by first | exact tI_n (by omega) | exact tI_d (by omega) | assumption | exact tI_e1 | exact tI_e2 | exact tI_e3 | exact tI_e4) (by first | exact tI_n (by omega) | exact tI_d (by omega) | assumption | exact tI_e1 | exact tI_e2 | exact tI_e3 | exact tI_e4) (fun c_ => by exfalso; omega) (fun c_ => ?_)
      refine xr_iconst (z := nI 1) xi_89_157 rfl ?_
      refine xr_goto xi_89_158 ?_
      refine xr_iload_n xi_89_162 rfl ?_
      refine xr_iload_n xi_89_163 rfl ?_
      refine xr_ishr xi_89_164 rfl ?_
      refine xr_iconst (z := nI 1) xi_89_165 rfl ?_
      refine xr_iand xi_89_166 (mk_b0 ht30 hN) ?_
      refine xr_if_ne xi_89_167 (by first | exact tI_n (by omega) | exact tI_d (by omega) | assumption | exact tI_e1 | exact tI_e2 | exact tI_e3 | exact tI_e4) (fun c_ => by exfalso; omega) (fun c_ => ?_)
      refine xr_iconst (z := nI 1) xi_89_170 rfl ?_
      refine xr_goto xi_89_171 ?_
      refine xr_ic_ne xi_89_175 (by first | exact tI_n (by omega) | exact tI_d (by omega) | assumption | exact tI_e1 | exact tI_e2 | exact tI_e3 | exact tI_e4) (by first | exact tI_n (by omega) | exact tI_d (by omega) | assumption | exact tI_e1 | exact tI_e2 | exact tI_e3 | exact tI_e4) (fun c_ => by exfalso; omega) (fun c_ => ?_)
      refine xr_iload xi_89_178 rfl ?_
      refine xr_iload xi_89_180 rfl ?_
      refine xr_if_ne xi_89_182 (by first | exact tI_n (by omega) | exact tI_d (by omega) | assumption | exact tI_e1 | exact tI_e2 | exact tI_e3 | exact tI_e4) (fun c_ => ?_) (fun c_ => by exfalso; omega)
      refine xr_iconst (z := nI 0) xi_89_189 rfl ?_
      refine xr_ic_ne xi_89_190 (by first | exact tI_n (by omega) | exact tI_d (by omega) | assumption | exact tI_e1 | exact tI_e2 | exact tI_e3 | exact tI_e4) (by first | exact tI_n (by omega) | exact tI_d (by omega) | assumption | exact tI_e1 | exact tI_e2 | exact tI_e3 | exact tI_e4) (fun c_ => by exfalso; omega) (fun c_ => ?_)
      refine xr_iload xi_89_193 rfl ?_
      refine xr_if_le xi_89_195 (by first | exact tI_n (by omega) | exact tI_d (by omega) | assumption | exact tI_e1 | exact tI_e2 | exact tI_e3 | exact tI_e4) (fun c_ => ?_) (fun c_ => by exfalso; omega)
      refine xr_goto xi_89_207 ?_
      refine xr_iinc xi_89_232 rfl (by first | exact nI_1 _ | exact rfl) rfl ?_
      refine xr_goto xi_89_235 ?_
      exact hk _ _ _ _ _
  · refine xr_iload_n xi_89_8 rfl ?_
    refine xr_aload_n xi_89_9 rfl ?_
    refine xr_iconst (z := nI 0) xi_89_10 rfl ?_
    refine xr_virt xi_89_11 rfl rfl h0 rfl (Nat.le_of_ble_eq_true rfl) (Nat.le_of_ble_eq_true rfl) ?_
    refine wr_count hS hI hl (by omega) qC0 ?_
    refine xr_k ?_
    refine xr_ic_ge xi_89_14 (by first | exact tI_n (by omega) | exact tI_d (by omega) | assumption | exact tI_e1 | exact tI_e2 | exact tI_e3 | exact tI_e4) (by first | exact tI_n (by omega) | exact tI_d (by omega) | assumption | exact tI_e1 | exact tI_e2 | exact tI_e3 | exact tI_e4) (fun c_ => by exfalso; omega) (fun c_ => ?_)
    refine xr_aload_n xi_89_17 rfl ?_
    refine xr_iload_n xi_89_18 rfl ?_
    refine xr_iconst (z := nI 0) xi_89_19 rfl ?_
    refine xr_virt xi_89_20 rfl rfl h0 rfl (Nat.le_of_ble_eq_true rfl) (Nat.le_of_ble_eq_true rfl) ?_
    refine wr_thing hS hI ht (by omega) (qT0n hlv) ?_
    refine xr_k ?_
    refine xr_iconst (z := nI 1) xi_89_23 rfl ?_
    refine xr_ic_ne xi_89_24 (by first | exact tI_n (by omega) | exact tI_d (by omega) | assumption | exact tI_e1 | exact tI_e2 | exact tI_e3 | exact tI_e4) (by first | exact tI_n (by omega) | exact tI_d (by omega) | assumption | exact tI_e1 | exact tI_e2 | exact tI_e3 | exact tI_e4) (fun c_ => ?_) (fun c_ => by exfalso; omega)
    refine xr_aload_n xi_89_210 rfl ?_
    refine xr_iload_n xi_89_211 rfl ?_
    refine xr_virt xi_89_212 rfl rfl h0 rfl (Nat.le_of_ble_eq_true rfl) (Nat.le_of_ble_eq_true rfl) ?_
    refine wr_farn hS hI ht30 hlv ?_
    refine xr_k ?_
    refine xr_ldc (z := xE1) xi_89_215 rfl ?_
    refine xr_ic_ne xi_89_217 (by first | exact tI_n (by omega) | exact tI_d (by omega) | assumption | exact tI_e1 | exact tI_e2 | exact tI_e3 | exact tI_e4) (by first | exact tI_n (by omega) | exact tI_d (by omega) | assumption | exact tI_e1 | exact tI_e2 | exact tI_e3 | exact tI_e4) (fun c_ => by exfalso; omega) (fun c_ => ?_)
    refine xr_aload_n xi_89_220 rfl ?_
    refine xr_iload_n xi_89_221 rfl ?_
    refine xr_virt xi_89_222 rfl rfl h0 rfl (Nat.le_of_ble_eq_true rfl) (Nat.le_of_ble_eq_true rfl) ?_
    refine wr_keptn hS hI ht30 hlv ?_
    refine xr_k ?_
    refine xr_ldc (z := xE1) xi_89_225 rfl ?_
    refine xr_ic_eq xi_89_227 (by first | exact tI_n (by omega) | exact tI_d (by omega) | assumption | exact tI_e1 | exact tI_e2 | exact tI_e3 | exact tI_e4) (by first | exact tI_n (by omega) | exact tI_d (by omega) | assumption | exact tI_e1 | exact tI_e2 | exact tI_e3 | exact tI_e4) (fun c_ => ?_) (fun c_ => by exfalso; omega)
    refine xr_iinc xi_89_232 rfl (by first | exact nI_1 _ | exact rfl) rfl ?_
    refine xr_goto xi_89_235 ?_
    exact hk _ _ _ _ _
theorem wf_kept {r : Nat} {y x6 x7 x8 : Value} (hS : wS H tx ln st Z G) (hI : sInv G) (hl : ln ≤ 60) (hr : sLive G r) (hQ : Q (some (.int (nI 1))) H) : ∀ d k, k + d = G 0 → xw L xs 89 280 [.ref 0, y, .int (mk (sNeed G)), .int (nI r), .int (mk (sKept G r)), .int (nI k), x6, x7, x8] [] H Q := by
  obtain ⟨f0, h0⟩ := hS.h0
  have hc := hI.c
  have hr30 := hI.lt hr
  intro d
  induction d with
  | zero =>
    intro k hd
    by_cases hN : sNeed G r
    · refine xr_iload xi_89_280 rfl ?_
      refine xr_aload_n xi_89_282 rfl ?_
      refine xr_iconst (z := nI 0) xi_89_283 rfl ?_
      refine xr_virt xi_89_284 rfl rfl h0 rfl (Nat.le_of_ble_eq_true rfl) (Nat.le_of_ble_eq_true rfl) ?_
      refine wr_count hS hI hl (by omega) qC0 ?_
      refine xr_k ?_
      refine xr_ic_ge xi_89_287 (by first | exact tI_n (by omega) | exact tI_d (by omega) | assumption | exact tI_e1 | exact tI_e2 | exact tI_e3 | exact tI_e4) (by first | exact tI_n (by omega) | exact tI_d (by omega) | assumption | exact tI_e1 | exact tI_e2 | exact tI_e3 | exact tI_e4) (fun c_ => ?_) (fun c_ => by exfalso; omega)
      refine xr_iload_n xi_89_339 rfl ?_
      refine xr_iload_n xi_89_340 rfl ?_
      refine xr_ishr xi_89_341 rfl ?_
      refine xr_iconst (z := nI 1) xi_89_342 rfl ?_
      refine xr_iand xi_89_343 (mk_b1 hr30 hN) ?_
      refine xr_iconst (z := nI 1) xi_89_344 rfl ?_
      refine xr_ic_eq xi_89_345 (by first | exact tI_n (by omega) | exact tI_d (by omega) | assumption | exact tI_e1 | exact tI_e2 | exact tI_e3 | exact tI_e4) (by first | exact tI_n (by omega) | exact tI_d (by omega) | assumption | exact tI_e1 | exact tI_e2 | exact tI_e3 | exact tI_e4) (fun c_ => ?_) (fun c_ => by exfalso; omega)
      refine xr_iconst (z := nI 1) xi_89_353 rfl ?_
      refine xr_goto xi_89_354 ?_
      refine xr_iret xi_89_358 (fun _ => (by first | exact Or.inl rfl | exact Or.inr rfl | assumption)) ?_
      exact hQ
    · have hz : (mk (sKept G r)).toInt = 0 := (mk_pos (P := sKept G r)).2.mpr (fun u _ q => sKept_0 hI hN q)
      refine xr_iload xi_89_280 rfl ?_
      refine xr_aload_n xi_89_282 rfl ?_
      refine xr_iconst (z := nI 0) xi_89_283 rfl ?_
      refine xr_virt xi_89_284 rfl rfl h0 rfl (Nat.le_of_ble_eq_true rfl) (Nat.le_of_ble_eq_true rfl) ?_
      refine wr_count hS hI hl (by omega) qC0 ?_
      refine xr_k ?_
      refine xr_ic_ge xi_89_287 (by first | exact tI_n (by omega) | exact tI_d (by omega) | assumption | exact tI_e1 | exact tI_e2 | exact tI_e3 | exact tI_e4) (by first | exact tI_n (by omega) | exact tI_d (by omega) | assumption | exact tI_e1 | exact tI_e2 | exact tI_e3 | exact tI_e4) (fun c_ => ?_) (fun c_ => by exfalso; omega)
      refine xr_iload_n xi_89_339 rfl ?_
      refine xr_iload_n xi_89_340 rfl ?_
      refine xr_ishr xi_89_341 rfl ?_
      refine xr_iconst (z := nI 1) xi_89_342 rfl ?_
      refine xr_iand xi_89_343 (mk_b0 hr30 hN) ?_
      refine xr_iconst (z := nI 1) xi_89_344 rfl ?_
      refine xr_ic_eq xi_89_345 (by first | exact tI_n (by omega) | exact tI_d (by omega) | assumption | exact tI_e1 | exact tI_e2 | exact tI_e3 | exact tI_e4) (by first | exact tI_n (by omega) | exact tI_d (by omega) | assumption | exact tI_e1 | exact tI_e2 | exact tI_e3 | exact tI_e4) (fun c_ => by exfalso; omega) (fun c_ => ?_)
      refine xr_iload xi_89_348 rfl ?_
      refine xr_if_ne xi_89_350 (rfl) (fun c_ => by exfalso; omega) (fun c_ => ?_)
      refine xr_iconst (z := nI 1) xi_89_353 rfl ?_
      refine xr_goto xi_89_354 ?_
      refine xr_iret xi_89_358 (fun _ => (by first | exact Or.inl rfl | exact Or.inr rfl | assumption)) ?_
      exact hQ
  | succ d ih =>
    intro k hd
    by_cases hK : sKept G r k
    · obtain ⟨n1, -, -, n2⟩ := sD_need hI hK.1.1
      have hp := sKept_far hI hK
      have hne := sKept_ne hK
      have hlk := sNeed_l hK.1.1
      have hand : mk (sKept G k) &&& (mk (sKept G r) ^^^ dI 0) = nI 0 := by
        rw [mk_andn, mk_0]
        exact mk_congr (fun u _ => ⟨fun q => q.2 (sKept_t hI hK q.1), fun q => q.elim⟩)
      refine xr_iload xi_89_280 rfl ?_
      refine xr_aload_n xi_89_282 rfl ?_
      refine xr_iconst (z := nI 0) xi_89_283 rfl ?_
      refine xr_virt xi_89_284 rfl rfl h0 rfl (Nat.le_of_ble_eq_true rfl) (Nat.le_of_ble_eq_true rfl) ?_
      refine wr_count hS hI hl (by omega) qC0 ?_
      refine xr_k ?_
      refine xr_ic_ge xi_89_287 (by first | exact tI_n (by omega) | exact tI_d (by omega) | assumption | exact tI_e1 | exact tI_e2 | exact tI_e3 | exact tI_e4) (by first | exact tI_n (by omega) | exact tI_d (by omega) | assumption | exact tI_e1 | exact tI_e2 | exact tI_e3 | exact tI_e4) (fun c_ => by exfalso; omega) (fun c_ => ?_)
      refine xr_iload xi_89_290 rfl ?_
      refine xr_iload xi_89_292 rfl ?_
      refine xr_ishr xi_89_294 rfl ?_
      refine xr_iconst (z := nI 1) xi_89_295 rfl ?_
      refine xr_iand xi_89_296 (mk_b1 (by omega) hK) ?_
      refine xr_iconst (z := nI 1) xi_89_297 rfl ?_
      refine xr_ic_ne xi_89_298 (by first | exact tI_n (by omega) | exact tI_d (by omega) | assumption | exact tI_e1 | exact tI_e2 | exact tI_e3 | exact tI_e4) (by first | exact tI_n (by omega) | exact tI_d (by omega) | assumption | exact tI_e1 | exact tI_e2 | exact tI_e3 | exact tI_e4) (fun c_ => by exfalso; omega) (fun c_ => ?_)
      refine xr_iload xi_89_301 rfl ?_
      refine xr_iload_n xi_89_303 rfl ?_
      refine xr_ic_eq xi_89_304 (by first | exact tI_n (by omega) | exact tI_d (by omega) | assumption | exact tI_e1 | exact tI_e2 | exact tI_e3 | exact tI_e4) (by first | exact tI_n (by omega) | exact tI_d (by omega) | assumption | exact tI_e1 | exact tI_e2 | exact tI_e3 | exact tI_e4) (fun c_ => by exfalso; omega) (fun c_ => ?_)
      refine xr_aload_n xi_89_307 rfl ?_
      refine xr_iload xi_89_308 rfl ?_
      refine xr_virt xi_89_310 rfl rfl h0 rfl (Nat.le_of_ble_eq_true rfl) (Nat.le_of_ble_eq_true rfl) ?_
      refine wr_far hS hI hlk n2 ?_
      refine xr_k ?_
      refine xr_iconst (z := nI 1) xi_89_313 rfl ?_
      refine xr_ic_lt xi_89_314 (by first | exact tI_n (by omega) | exact tI_d (by omega) | assumption | exact tI_e1 | exact tI_e2 | exact tI_e3 | exact tI_e4) (by first | exact tI_n (by omega) | exact tI_d (by omega) | assumption | exact tI_e1 | exact tI_e2 | exact tI_e3 | exact tI_e4) (fun c_ => by exfalso; omega) (fun c_ => ?_)
      refine xr_aload_n xi_89_317 rfl ?_
      refine xr_iload xi_89_318 rfl ?_
      refine xr_virt xi_89_320 rfl rfl h0 rfl (Nat.le_of_ble_eq_true rfl) (Nat.le_of_ble_eq_true rfl) ?_
      refine wr_kept hS hI hlk ?_
      refine xr_k ?_
      refine xr_iload xi_89_323 rfl ?_
      refine xr_iconst (z := dI 0) xi_89_325 xm_m1 ?_
      refine xr_ixor xi_89_326 rfl ?_
      refine xr_iand xi_89_327 (hand) ?_
      refine xr_if_eq xi_89_328 (by first | exact tI_n (by omega) | exact tI_d (by omega) | assumption | exact tI_e1 | exact tI_e2 | exact tI_e3 | exact tI_e4) (fun c_ => ?_) (fun c_ => by exfalso; omega)
      refine xr_iinc xi_89_333 rfl (by first | exact nI_1 _ | exact rfl) rfl ?_
      refine xr_goto xi_89_336 ?_
      exact ih (k + 1) (by omega)
    · refine xr_iload xi_89_280 rfl ?_
      refine xr_aload_n xi_89_282 rfl ?_
      refine xr_iconst (z := nI 0) xi_89_283 rfl ?_
      refine xr_virt xi_89_284 rfl rfl h0 rfl (Nat.le_of_ble_eq_true rfl) (Nat.le_of_ble_eq_true rfl) ?_
      refine wr_count hS hI hl (by omega) qC0 ?_
      refine xr_k ?_
      refine xr_ic_ge xi_89_287 (by first | exact tI_n (by omega) | exact tI_d (by omega) | assumption | exact tI_e1 | exact tI_e2 | exact tI_e3 | exact tI_e4) (by first | exact tI_n (by omega) | exact tI_d (by omega) | assumption | exact tI_e1 | exact tI_e2 | exact tI_e3 | exact tI_e4) (fun c_ => by exfalso; omega) (fun c_ => ?_)
      refine xr_iload xi_89_290 rfl ?_
      refine xr_iload xi_89_292 rfl ?_
      refine xr_ishr xi_89_294 rfl ?_
      refine xr_iconst (z := nI 1) xi_89_295 rfl ?_
      refine xr_iand xi_89_296 (mk_b0 (by omega) hK) ?_
      refine xr_iconst (z := nI 1) xi_89_297 rfl ?_
      refine xr_ic_ne xi_89_298 (by first | exact tI_n (by omega) | exact tI_d (by omega) | assumption | exact tI_e1 | exact tI_e2 | exact tI_e3 | exact tI_e4) (by first | exact tI_n (by omega) | exact tI_d (by omega) | assumption | exact tI_e1 | exact tI_e2 | exact tI_e3 | exact tI_e4) (fun c_ => ?_) (fun c_ => by exfalso; omega)
      refine xr_iinc xi_89_333 rfl (by first | exact nI_1 _ | exact rfl) rfl ?_
      refine xr_goto xi_89_336 ?_
      exact ih (k + 1) (by omega)
theorem wl_isFar {y : Int32} (hS : wS H tx ln st Z G) (hI : sInv G) (hl : ln ≤ 60) (hQ : Q (some (.int (nI 1))) H) : xc L xs 89 [.ref 0, .int y] H Q := by
  obtain ⟨f0, h0⟩ := hS.h0
  have hc := hI.c
  have k1 : ∀ d t x4 x5 x6 x7 x8, t + d = G 0 → xw L xs 89 8 [.ref 0, .int y, .int (mk (sNeed G)), .int (nI t), x4, x5, x6, x7, x8] [] H Q := by
    intro d
    induction d with
    | zero =>
      intro t x4 x5 x6 x7 x8 hd
      refine xr_iload_n xi_89_8 rfl ?_
      refine xr_aload_n xi_89_9 rfl ?_
      refine xr_iconst (z := nI 0) xi_89_10 rfl ?_
      refine xr_virt xi_89_11 rfl rfl h0 rfl (Nat.le_of_ble_eq_true rfl) (Nat.le_of_ble_eq_true rfl) ?_
      refine wr_count hS hI hl (by omega) qC0 ?_
      refine xr_k ?_
      refine xr_ic_ge xi_89_14 (by first | exact tI_n (by omega) | exact tI_d (by omega) | assumption | exact tI_e1 | exact tI_e2 | exact tI_e3 | exact tI_e4) (by first | exact tI_n (by omega) | exact tI_d (by omega) | assumption | exact tI_e1 | exact tI_e2 | exact tI_e3 | exact tI_e4) (fun c_ => ?_) (fun c_ => by exfalso; omega)
      refine xr_iload_n xi_89_238 rfl ?_
      refine xr_aload_n xi_89_239 rfl ?_
      refine xr_iconst (z := nI 0) xi_89_240 rfl ?_
      refine xr_virt xi_89_241 rfl rfl h0 rfl (Nat.le_of_ble_eq_true rfl) (Nat.le_of_ble_eq_true rfl) ?_
      refine wr_count hS hI hl (by omega) qC0 ?_
      refine xr_k ?_
      refine xr_iconst (z := nI 1) xi_89_244 rfl ?_
      refine xr_iadd xi_89_245 (by first | exact nI_add _ _ | exact rfl) ?_
      refine xr_stat xi_89_246 (by decide) rfl rfl (Nat.le_of_ble_eq_true rfl) (Nat.le_of_ble_eq_true rfl) ?_
      refine wl_low (by omega) (by omega) (fun r hr => ?_)
      refine xr_k ?_
      by_cases e : r = G 0
      · refine xr_istore_n xi_89_249 (Nat.le_of_ble_eq_true rfl) rfl ?_
        refine xr_iload_n xi_89_250 rfl ?_
        refine xr_aload_n xi_89_251 rfl ?_
        refine xr_iconst (z := nI 0) xi_89_252 rfl ?_
        refine xr_virt xi_89_253 rfl rfl h0 rfl (Nat.le_of_ble_eq_true rfl) (Nat.le_of_ble_eq_true rfl) ?_
        refine wr_count hS hI hl (by omega) qC0 ?_
        refine xr_k ?_
        refine xr_ic_eq xi_89_256 (by first | exact tI_n (by omega) | exact tI_d (by omega) | assumption | exact tI_e1 | exact tI_e2 | exact tI_e3 | exact tI_e4) (by first | exact tI_n (by omega) | exact tI_d (by omega) | assumption | exact tI_e1 | exact tI_e2 | exact tI_e3 | exact tI_e4) (fun c_ => ?_) (fun c_ => by exfalso; omega)
        refine xr_iconst (z := nI 1) xi_89_268 rfl ?_
        refine xr_iret xi_89_269 (fun _ => (by first | exact Or.inl rfl | exact Or.inr rfl | assumption)) ?_
        exact hQ
      · by_cases hlv : sLive G r
        · refine xr_istore_n xi_89_249 (Nat.le_of_ble_eq_true rfl) rfl ?_
          refine xr_iload_n xi_89_250 rfl ?_
          refine xr_aload_n xi_89_251 rfl ?_
          refine xr_iconst (z := nI 0) xi_89_252 rfl ?_
          refine xr_virt xi_89_253 rfl rfl h0 rfl (Nat.le_of_ble_eq_true rfl) (Nat.le_of_ble_eq_true rfl) ?_
          refine wr_count hS hI hl (by omega) qC0 ?_
          refine xr_k ?_
          refine xr_ic_eq xi_89_256 (by first | exact tI_n (by omega) | exact tI_d (by omega) | assumption | exact tI_e1 | exact tI_e2 | exact tI_e3 | exact tI_e4) (by first | exact tI_n (by omega) | exact tI_d (by omega) | assumption | exact tI_e1 | exact tI_e2 | exact tI_e3 | exact tI_e4) (fun c_ => by exfalso; omega) (fun c_ => ?_)
          refine xr_aload_n xi_89_259 rfl ?_
          refine xr_iload_n xi_89_260 rfl ?_
          refine xr_iconst (z := nI 0) xi_89_261 rfl ?_
          refine xr_virt xi_89_262 rfl rfl h0 rfl (Nat.le_of_ble_eq_true rfl) (Nat.le_of_ble_eq_true rfl) ?_
          refine wr_thing hS hI (by omega) (by omega) (qT0 hlv) ?_
          refine xr_k ?_
          refine xr_if_ne xi_89_265 (by first | exact tI_n (by omega) | exact tI_d (by omega) | assumption | exact tI_e1 | exact tI_e2 | exact tI_e3 | exact tI_e4) (fun c_ => ?_) (fun c_ => by exfalso; omega)
          refine xr_aload_n xi_89_270 rfl ?_
          refine xr_iload_n xi_89_271 rfl ?_
          refine xr_virt xi_89_272 rfl rfl h0 rfl (Nat.le_of_ble_eq_true rfl) (Nat.le_of_ble_eq_true rfl) ?_
          refine wr_kept hS hI hlv ?_
          refine xr_k ?_
          refine xr_istore xi_89_275 (Nat.le_of_ble_eq_true rfl) rfl ?_
          refine xr_iconst (z := nI 0) xi_89_277 rfl ?_
          refine xr_istore xi_89_278 (Nat.le_of_ble_eq_true rfl) rfl ?_
          exact wf_kept hS hI hl hlv hQ (G 0) 0 (by omega)
        · refine xr_istore_n xi_89_249 (Nat.le_of_ble_eq_true rfl) rfl ?_
          refine xr_iload_n xi_89_250 rfl ?_
          refine xr_aload_n xi_89_251 rfl ?_
          refine xr_iconst (z := nI 0) xi_89_252 rfl ?_
          refine xr_virt xi_89_253 rfl rfl h0 rfl (Nat.le_of_ble_eq_true rfl) (Nat.le_of_ble_eq_true rfl) ?_
          refine wr_count hS hI hl (by omega) qC0 ?_
          refine xr_k ?_
          refine xr_ic_eq xi_89_256 (by first | exact tI_n (by omega) | exact tI_d (by omega) | assumption | exact tI_e1 | exact tI_e2 | exact tI_e3 | exact tI_e4) (by first | exact tI_n (by omega) | exact tI_d (by omega) | assumption | exact tI_e1 | exact tI_e2 | exact tI_e3 | exact tI_e4) (fun c_ => by exfalso; omega) (fun c_ => ?_)
          refine xr_aload_n xi_89_259 rfl ?_
          refine xr_iload_n xi_89_260 rfl ?_
          refine xr_iconst (z := nI 0) xi_89_261 rfl ?_
          refine xr_virt xi_89_262 rfl rfl h0 rfl (Nat.le_of_ble_eq_true rfl) (Nat.le_of_ble_eq_true rfl) ?_
          refine wr_thing hS hI (by omega) (by omega) (qT0n hlv) ?_
          refine xr_k ?_
          refine xr_if_ne xi_89_265 (by first | exact tI_n (by omega) | exact tI_d (by omega) | assumption | exact tI_e1 | exact tI_e2 | exact tI_e3 | exact tI_e4) (fun c_ => by exfalso; omega) (fun c_ => ?_)
          refine xr_iconst (z := nI 1) xi_89_268 rfl ?_
          refine xr_iret xi_89_269 (fun _ => (by first | exact Or.inl rfl | exact Or.inr rfl | assumption)) ?_
          exact hQ
    | succ d ih =>
      intro t x4 x5 x6 x7 x8 hd
      exact wf_one hS hI hl (by omega) (fun x4 x5 x6 x7 x8 => ih (t + 1) x4 x5 x6 x7 x8 (by omega)) x4 x5 x6 x7 x8
  refine xr_aload_n xi_89_0 rfl ?_
  refine xr_iconst (z := nI 0) xi_89_1 rfl ?_
  refine xr_virt xi_89_2 rfl rfl h0 rfl (Nat.le_of_ble_eq_true rfl) (Nat.le_of_ble_eq_true rfl) ?_
  refine wr_need hS hI ?_
  refine xr_k ?_
  refine xr_istore_n xi_89_5 (Nat.le_of_ble_eq_true rfl) rfl ?_
  refine xr_iconst (z := nI 0) xi_89_6 rfl ?_
  refine xr_istore_n xi_89_7 (Nat.le_of_ble_eq_true rfl) rfl ?_
  exact k1 (G 0) 0 _ _ _ _ _ (by omega)
end FR
