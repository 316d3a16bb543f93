section M4
variable {L : Nat} {xs : Nat → Int32} {Q : Option Value → xm_H → Prop} {st ln po le fa re od : Nat} {tx ag nu be Z G : Nat → Nat}
theorem wm_homeR {t : Nat} (ht : t < 30) (h0 : 0 < G (ri t 0)) (h1 : G (ri t 0) ≤ 40) (hQ : Q (some (.int (nI (sHome G t)))) (mJ st tx ln ag po le nu fa re od be Z G)) : xc L xs 95 [.ref 0, .int (nI t)] (mJ st tx ln ag po le nu fa re od be Z G) Q := by
  refine xr_aload_n xi_95_0 rfl ?_
  refine xr_getf xi_95_1 rfl rfl ?_
  refine xr_iload_n xi_95_4 rfl ?_
  refine xr_iconst (z := nI 0) xi_95_5 rfl ?_
  refine xr_stat xi_95_6 (by decide) rfl rfl (Nat.le_of_ble_eq_true rfl) (Nat.le_of_ble_eq_true rfl) ?_
  refine wm_of ?_
  refine xr_k ?_
  refine xr_ialz xi_95_9 rfl (by first | exact tI_n (by first | omega | (simp only [ri]; omega)) | exact tI_dn (by omega) (by omega) | assumption) (by first | omega | (simp only [ri]; omega)) (by first | exact mj_lo (by first | omega | (simp only [ri]; omega)) | exact mF_at _ _ | exact rfl) ?_
  refine xr_iconst (z := nI 1) xi_95_10 rfl ?_
  refine xr_isub xi_95_11 (by first | exact pk_sub (by omega) | exact nI_d _ | exact rfl) ?_
  refine xr_iconst (z := nI 5) xi_95_12 rfl ?_
  refine xr_idiv xi_95_13 (by decide) (by first | exact pk_div (by omega) (by omega) (by omega) | exact rfl) ?_
  refine xr_iret xi_95_14 (fun h => absurd h (by decide)) ?_
  exact hQ
theorem mJ_ag (k x : Nat) : ((mJ st tx ln ag po le nu fa re od be Z G)).set 3 (.inl (8, upd (mF ag) k (nI x))) = mJ st tx ln (un ag k x) po le nu fa re od be Z G := by
  rw [mF_upd]
  rfl
theorem wm_comes {a : Nat} (ha : a < 2) (hI : sInv G) (h1 : ∀ G', sWin G a = some G' → (∀ i, 196 ≤ i → G' i = G i) → Q (some (.int (nI 1))) (mJ st tx ln (agC G ag 8) po le nu fa re od be Z G')) (h2 : sWin G a = none → ∀ G', (∀ i, 196 ≤ i → G' i = G i) → Q (some (.int (nI 0))) (mJ st tx ln (agC G ag 8) po le nu fa re od be Z G')) : xc L xs 130 [.ref 0, .int (nI a)] (mJ st tx ln ag po le nu fa re od be Z G) Q := by
  have hc := hI.c
  -- the moves
  have key3 : ∀ d i H x6, i + d = G 0 → sMv G (sStay G a) (sMove G a) i = some H → sMid G H i → xw L xs 130 115 [.ref 0, .int (nI a), .int (mk (sSurv G a)), .int (mk (sGone G a)), .int (mk (sStay G a)), .int (nI i), x6] [] (mJ st tx ln (agC G ag 8) po le nu fa re od be Z H) Q := by
    intro d
    induction d with
    | zero =>
      intro i H x6 hi hm hd
      have e : i = G 0 := by omega
      subst e
      have hI2 : H 0 ≤ 30 := by rw [hd.1]; exact hc
      refine xr_iload xi_130_115 rfl ?_
      refine xr_aload_n xi_130_117 rfl ?_
      refine xr_getf xi_130_118 rfl rfl ?_
      refine xr_iconst (z := nI 0) xi_130_121 rfl ?_
      refine xr_ialz xi_130_122 rfl (by first | exact tI_n (by first | omega | (simp only [ri]; omega)) | exact tI_dn (by omega) (by omega) | assumption) (by first | omega | (simp only [ri]; omega)) ((mj_lo (by omega)).trans (congrArg nI hd.1)) ?_
      refine xr_ic_ge xi_130_123 (by first | exact tI_n (by omega) | exact tI_d (by omega) | assumption | exact tI_e1 | exact tI_e2 | exact tI_e3 | exact tI_e4) (by first | exact tI_n (by omega) | exact tI_d (by omega) | assumption | exact tI_e1 | exact tI_e2 | exact tI_e3 | exact tI_e4) (fun c_ => ?_) (fun c_ => by exfalso; omega)
      refine xr_aload_n xi_130_212 rfl ?_
      refine xr_iload_n xi_130_213 rfl ?_
      refine xr_virt xi_130_214 rfl rfl rfl rfl (Nat.le_of_ble_eq_true rfl) (Nat.le_of_ble_eq_true rfl) ?_
      refine wm_lose (P := sGone G a) hI2 hd.2.1 ?_
      refine xr_kv ?_
      refine xr_aload_n xi_130_217 rfl ?_
      refine xr_getf xi_130_218 rfl rfl ?_
      refine xr_iconst (z := nI 1) xi_130_221 rfl ?_
      refine xr_dup2 xi_130_222 ?_
      refine xr_ialz xi_130_223 rfl (by first | exact tI_n (by first | omega | (simp only [ri]; omega)) | exact tI_dn (by omega) (by omega) | assumption) (by first | omega | (simp only [ri]; omega)) (by first | exact mj_lo (by first | omega | (simp only [ri]; omega)) | exact mF_at _ _ | exact rfl) ?_
      refine xr_iconst (z := nI 1) xi_130_224 rfl ?_
      refine xr_iadd xi_130_225 (by first | exact nI_add _ _ | exact rfl) ?_
      refine xr_iast xi_130_226 rfl (by first | exact tI_n (by first | omega | (simp only [ri]; omega)) | exact tI_dn (by omega) (by omega) | assumption) (by first | omega | (simp only [ri]; omega)) (mH_row _ (by omega)) ?_
      refine xr_iconst (z := nI 1) xi_130_227 rfl ?_
      refine xr_iret xi_130_228 (fun _ => (by first | exact Or.inl rfl | exact Or.inr rfl | assumption)) ?_
      refine h1 _ (sWin_1 hm) (fun i hi => ?_)
      rw [un_n (by omega), sLose_o (by omega) hI2]
      exact hd.2.2.2.2 i hi
    | succ d ih =>
      intro i H x6 hi hm hd
      have hi30 : i < 30 := by omega
      have hl := hd.2.1 i hi30
      by_cases hv : sMove G a i
      · have hy := sSurv_y hv.1
        have hb : sAge G i + 1 ≤ 3 := by have := hy.2; omega
        have hz : H (ri i 0) = G (ri i 0) := hd.2.2.2.1 i (by omega) hi30
        have hh : sHome H i = sHome G i := by unfold sHome; rw [hz]
        have hho := hI.ho hi30
        have hag := hI.ag hi30
        have hag2 : agC G ag 8 (sHome G i) = sAge G i := by unfold agC; rw [if_pos hho]; rfl
        refine xr_iload xi_130_115 rfl ?_
        refine xr_aload_n xi_130_117 rfl ?_
        refine xr_getf xi_130_118 rfl rfl ?_
        refine xr_iconst (z := nI 0) xi_130_121 rfl ?_
        refine xr_ialz xi_130_122 rfl (by first | exact tI_n (by first | omega | (simp only [ri]; omega)) | exact tI_dn (by omega) (by omega) | assumption) (by first | omega | (simp only [ri]; omega)) ((mj_lo (by omega)).trans (congrArg nI hd.1)) ?_
        refine xr_ic_ge xi_130_123 (by first | exact tI_n (by omega) | exact tI_d (by omega) | assumption | exact tI_e1 | exact tI_e2 | exact tI_e3 | exact tI_e4) (by first | exact tI_n (by omega) | exact tI_d (by omega) | assumption | exact tI_e1 | exact tI_e2 | exact tI_e3 | exact tI_e4) (fun c_ => by exfalso; omega) (fun c_ => ?_)
        refine xr_iload_n xi_130_126 rfl ?_
        refine xr_iload xi_130_127 rfl ?_
        refine xr_iconst (z := dI 0) xi_130_129 xm_m1 ?_
        refine xr_ixor xi_130_130 (rfl) ?_
        refine xr_iand xi_130_131 (mk_andn _ _) ?_
        refine xr_iload xi_130_132 rfl ?_
        refine xr_stat xi_130_134 (by decide) rfl rfl (Nat.le_of_ble_eq_true rfl) (Nat.le_of_ble_eq_true rfl) ?_
        refine wm_has hi30 (fun _ => ?_) (fun q => absurd hv q)
        refine xr_k ?_
        refine xr_if_eq xi_130_137 (by first | exact tI_n (by omega) | exact tI_d (by omega) | assumption | exact tI_e1 | exact tI_e2 | exact tI_e3 | exact tI_e4) (fun c_ => by exfalso; omega) (fun c_ => ?_)
        refine xr_aload_n xi_130_140 rfl ?_
        refine xr_aload_n xi_130_141 rfl ?_
        refine xr_getf xi_130_142 rfl rfl ?_
        refine xr_aload_n xi_130_145 rfl ?_
        refine xr_iload xi_130_146 rfl ?_
        refine xr_virt xi_130_148 rfl rfl rfl rfl (Nat.le_of_ble_eq_true rfl) (Nat.le_of_ble_eq_true rfl) ?_
        refine wm_homeR hi30 (by rw [hz]; exact hy.1.2) hl ?_
        refine xr_k ?_
        refine xr_ialz xi_130_151 rfl (by first | exact tI_n (by first | omega | (simp only [ri]; omega)) | exact tI_dn (by omega) (by omega) | assumption) (by first | omega | (simp only [ri]; omega)) (congrArg nI ((congrArg _ hh).trans hag2)) ?_
        refine xr_virt xi_130_152 rfl rfl rfl rfl (Nat.le_of_ble_eq_true rfl) (Nat.le_of_ble_eq_true rfl) ?_
        refine wm_room (by rw [hd.1]; exact hc) hd.2.1 hd.2.2.1 (by omega) (fun p H1 hr hp => ?_) (fun hr => ?_)
        · refine xr_k ?_
          have hi2 : ∀ i, 12 ≤ i ∨ i < 4 → H1 i = H i := fun i hi => sRoom_hi hr hi
          refine xr_istore xi_130_155 (Nat.le_of_ble_eq_true rfl) rfl ?_
          refine xr_iload xi_130_157 rfl ?_
          refine xr_ldc (z := xE4) xi_130_159 rfl ?_
          refine xr_ic_ne xi_130_161 (by first | exact tI_n (by omega) | exact tI_d (by omega) | assumption | exact tI_e1 | exact tI_e2 | exact tI_e3 | exact tI_e4) (by first | exact tI_n (by omega) | exact tI_d (by omega) | assumption | exact tI_e1 | exact tI_e2 | exact tI_e3 | exact tI_e4) (fun c_ => ?_) (fun c_ => by exfalso; omega)
          refine xr_aload_n xi_130_166 rfl ?_
          refine xr_getf xi_130_167 rfl rfl ?_
          refine xr_iload xi_130_170 rfl ?_
          refine xr_iconst (z := nI 0) xi_130_172 rfl ?_
          refine xr_stat xi_130_173 (by decide) rfl rfl (Nat.le_of_ble_eq_true rfl) (Nat.le_of_ble_eq_true rfl) ?_
          refine wm_of ?_
          refine xr_k ?_
          refine xr_iload xi_130_176 rfl ?_
          refine xr_iconst (z := nI 1) xi_130_178 rfl ?_
          refine xr_iadd xi_130_179 (by first | exact nI_add _ _ | exact rfl) ?_
          refine xr_iast xi_130_180 rfl (by first | exact tI_n (by first | omega | (simp only [ri]; omega)) | exact tI_dn (by omega) (by omega) | assumption) (by first | omega | (simp only [ri]; omega)) (mH_row _ (by simp only [ri]; omega)) ?_
          refine xr_aload_n xi_130_181 rfl ?_
          refine xr_getf xi_130_182 rfl rfl ?_
          refine xr_iload xi_130_185 rfl ?_
          refine xr_iconst (z := nI 5) xi_130_187 rfl ?_
          refine xr_stat xi_130_188 (by decide) rfl rfl (Nat.le_of_ble_eq_true rfl) (Nat.le_of_ble_eq_true rfl) ?_
          refine wm_of ?_
          refine xr_k ?_
          refine xr_dup2 xi_130_191 ?_
          refine xr_ialz xi_130_192 rfl (by first | exact tI_n (by first | omega | (simp only [ri]; omega)) | exact tI_dn (by omega) (by omega) | assumption) (by first | omega | (simp only [ri]; omega)) (by first | exact mj_lo (by first | omega | (simp only [ri]; omega)) | exact mF_at _ _ | exact rfl) ?_
          refine xr_iconst (z := nI 1) xi_130_193 rfl ?_
          refine xr_iadd xi_130_194 (by first | exact nI_add _ _ | exact rfl) ?_
          refine xr_iast xi_130_195 rfl (by first | exact tI_n (by first | omega | (simp only [ri]; omega)) | exact tI_dn (by omega) (by omega) | assumption) (by first | omega | (simp only [ri]; omega)) (mH_row _ (by simp only [ri]; omega)) ?_
          refine xr_aload_n xi_130_196 rfl ?_
          refine xr_getf xi_130_197 rfl rfl ?_
          refine xr_iconst (z := nI 3) xi_130_200 rfl ?_
          refine xr_dup2 xi_130_201 ?_
          refine xr_ialz xi_130_202 rfl (by first | exact tI_n (by first | omega | (simp only [ri]; omega)) | exact tI_dn (by omega) (by omega) | assumption) (by first | omega | (simp only [ri]; omega)) (by first | exact mj_lo (by first | omega | (simp only [ri]; omega)) | exact mF_at _ _ | exact rfl) ?_
          refine xr_iconst (z := nI 1) xi_130_203 rfl ?_
          refine xr_iadd xi_130_204 (by first | exact nI_add _ _ | exact rfl) ?_
          refine xr_iast xi_130_205 rfl (by first | exact tI_n (by first | omega | (simp only [ri]; omega)) | exact tI_dn (by omega) (by omega) | assumption) (by first | omega | (simp only [ri]; omega)) (mH_row _ (by omega)) ?_
          have e5 : un H1 (ri i 0) (p + 1) (ri i 5) = H1 (ri i 5) := un_n (by unfold ri; omega)
          have e3 : un (un H1 (ri i 0) (p + 1)) (ri i 5) (un H1 (ri i 0) (p + 1) (ri i 5) + 1) 3 = H1 3 := by rw [un_n (by unfold ri; omega), un_n (by unfold ri; omega)]
          rw [e3, e5]
          refine xr_iinc xi_130_206 rfl (by first | exact nI_1 _ | exact rfl) rfl ?_
          refine xr_goto xi_130_209 ?_
          exact ih (i + 1) (sStep H1 i p) _ (by omega) (sMv_s1 hm hv hr) (sMid_s hi30 hd hr hb)
        · refine xr_k ?_
          refine xr_istore xi_130_155 (Nat.le_of_ble_eq_true rfl) rfl ?_
          refine xr_iload xi_130_157 rfl ?_
          refine xr_ldc (z := xE4) xi_130_159 rfl ?_
          refine xr_ic_ne xi_130_161 (by first | exact tI_n (by omega) | exact tI_d (by omega) | assumption | exact tI_e1 | exact tI_e2 | exact tI_e3 | exact tI_e4) (by first | exact tI_n (by omega) | exact tI_d (by omega) | assumption | exact tI_e1 | exact tI_e2 | exact tI_e3 | exact tI_e4) (fun c_ => by exfalso; omega) (fun c_ => ?_)
          refine xr_iconst (z := nI 0) xi_130_164 rfl ?_
          refine xr_iret xi_130_165 (fun _ => (by first | exact Or.inl rfl | exact Or.inr rfl | assumption)) ?_
          exact h2 (sWin_0 (n := i + 1) (by omega) (sMv_sn hm hv hr)) H hd.2.2.2.2
      · refine xr_iload xi_130_115 rfl ?_
        refine xr_aload_n xi_130_117 rfl ?_
        refine xr_getf xi_130_118 rfl rfl ?_
        refine xr_iconst (z := nI 0) xi_130_121 rfl ?_
        refine xr_ialz xi_130_122 rfl (by first | exact tI_n (by first | omega | (simp only [ri]; omega)) | exact tI_dn (by omega) (by omega) | assumption) (by first | omega | (simp only [ri]; omega)) ((mj_lo (by omega)).trans (congrArg nI hd.1)) ?_
        refine xr_ic_ge xi_130_123 (by first | exact tI_n (by omega) | exact tI_d (by omega) | assumption | exact tI_e1 | exact tI_e2 | exact tI_e3 | exact tI_e4) (by first | exact tI_n (by omega) | exact tI_d (by omega) | assumption | exact tI_e1 | exact tI_e2 | exact tI_e3 | exact tI_e4) (fun c_ => by exfalso; omega) (fun c_ => ?_)
        refine xr_iload_n xi_130_126 rfl ?_
        refine xr_iload xi_130_127 rfl ?_
        refine xr_iconst (z := dI 0) xi_130_129 xm_m1 ?_
        refine xr_ixor xi_130_130 (rfl) ?_
        refine xr_iand xi_130_131 (mk_andn _ _) ?_
        refine xr_iload xi_130_132 rfl ?_
        refine xr_stat xi_130_134 (by decide) rfl rfl (Nat.le_of_ble_eq_true rfl) (Nat.le_of_ble_eq_true rfl) ?_
        refine wm_has hi30 (fun q => absurd q hv) (fun _ => ?_)
        refine xr_k ?_
        refine xr_if_eq xi_130_137 (by first | exact tI_n (by omega) | exact tI_d (by omega) | assumption | exact tI_e1 | exact tI_e2 | exact tI_e3 | exact tI_e4) (fun c_ => ?_) (fun c_ => by exfalso; omega)
        refine xr_iinc xi_130_206 rfl (by first | exact nI_1 _ | exact rfl) rfl ?_
        refine xr_goto xi_130_209 ?_
        exact ih (i + 1) H _ (by omega) (sMv_s0 hm hv) hd.no
  -- the houses of pinned ones
  have hst : ∀ t, sStay G a t → sLive G t := fun t h => (sSurv_y h.1).1
  have hho2 : ∀ t, sStay G a t → sHome G t < 8 := fun t h => hI.ho (hI.lt (hst t h))
  have key2 : ∀ d i x6, i + d = G 0 → xw L xs 130 59 [.ref 0, .int (nI a), .int (mk (sSurv G a)), .int (mk (sGone G a)), .int (mk (sStay G a)), .int (nI i), x6] [] (mJ st tx ln (agC G ag 8) po le nu fa re od be Z (sBump G (sStay G a) i)) Q := by
    intro d
    induction d with
    | zero =>
      intro i x6 hi
      have e : i = G 0 := by omega
      subst e
      have hz : sBump G (sStay G a) (G 0) 0 = G 0 := sBump_o hho2 (by omega)
      refine xr_iload xi_130_59 rfl ?_
      refine xr_aload_n xi_130_61 rfl ?_
      refine xr_getf xi_130_62 rfl rfl ?_
      refine xr_iconst (z := nI 0) xi_130_65 rfl ?_
      refine xr_ialz xi_130_66 rfl (by first | exact tI_n (by first | omega | (simp only [ri]; omega)) | exact tI_dn (by omega) (by omega) | assumption) (by first | omega | (simp only [ri]; omega)) ((mj_lo (by omega)).trans (congrArg nI hz)) ?_
      refine xr_ic_ge xi_130_67 (by first | exact tI_n (by omega) | exact tI_d (by omega) | assumption | exact tI_e1 | exact tI_e2 | exact tI_e3 | exact tI_e4) (by first | exact tI_n (by omega) | exact tI_d (by omega) | assumption | exact tI_e1 | exact tI_e2 | exact tI_e3 | exact tI_e4) (fun c_ => ?_) (fun c_ => by exfalso; omega)
      refine xr_iconst (z := nI 0) xi_130_112 rfl ?_
      refine xr_istore xi_130_113 (Nat.le_of_ble_eq_true rfl) rfl ?_
      exact key3 (G 0) 0 _ _ (by omega) rfl (sMid_0 hI ha)
    | succ d ih =>
      intro i x6 hi
      have hi30 : i < 30 := by omega
      have hz : sBump G (sStay G a) i 0 = G 0 := sBump_o hho2 (by omega)
      have hzl : sBump G (sStay G a) i (ri i 0) = G (ri i 0) := sBump_o hho2 (by unfold ri; omega)
      have hh : sHome (sBump G (sStay G a) i) i = sHome G i := by unfold sHome; rw [hzl]
      by_cases hv : sStay G a i
      · have hho := hI.ho hi30
        have hag := hI.ag hi30
        have hag2 : agC G ag 8 (sHome G i) = G (4 + sHome G i) := by unfold agC; rw [if_pos hho]
        have hzz : 0 < sBump G (sStay G a) i (ri i 0) := by rw [hzl]; exact (hst i hv).2
        have hzm : sBump G (sStay G a) i (ri i 0) ≤ 40 := by rw [hzl]; exact hI.l hi30
        refine xr_iload xi_130_59 rfl ?_
        refine xr_aload_n xi_130_61 rfl ?_
        refine xr_getf xi_130_62 rfl rfl ?_
        refine xr_iconst (z := nI 0) xi_130_65 rfl ?_
        refine xr_ialz xi_130_66 rfl (by first | exact tI_n (by first | omega | (simp only [ri]; omega)) | exact tI_dn (by omega) (by omega) | assumption) (by first | omega | (simp only [ri]; omega)) ((mj_lo (by omega)).trans (congrArg nI hz)) ?_
        refine xr_ic_ge xi_130_67 (by first | exact tI_n (by omega) | exact tI_d (by omega) | assumption | exact tI_e1 | exact tI_e2 | exact tI_e3 | exact tI_e4) (by first | exact tI_n (by omega) | exact tI_d (by omega) | assumption | exact tI_e1 | exact tI_e2 | exact tI_e3 | exact tI_e4) (fun c_ => by exfalso; omega) (fun c_ => ?_)
        refine xr_iload xi_130_70 rfl ?_
        refine xr_iload xi_130_72 rfl ?_
        refine xr_stat xi_130_74 (by decide) rfl rfl (Nat.le_of_ble_eq_true rfl) (Nat.le_of_ble_eq_true rfl) ?_
        refine wm_has hi30 (fun _ => ?_) (fun q => absurd hv q)
        refine xr_k ?_
        rw [← hh] at hho
        refine xr_if_eq xi_130_77 (by first | exact tI_n (by omega) | exact tI_d (by omega) | assumption | exact tI_e1 | exact tI_e2 | exact tI_e3 | exact tI_e4) (fun c_ => by exfalso; omega) (fun c_ => ?_)
        refine xr_aload_n xi_130_80 rfl ?_
        refine xr_getf xi_130_81 rfl rfl ?_
        refine xr_iconst (z := nI 4) xi_130_84 rfl ?_
        refine xr_aload_n xi_130_85 rfl ?_
        refine xr_iload xi_130_86 rfl ?_
        refine xr_virt xi_130_88 rfl rfl rfl rfl (Nat.le_of_ble_eq_true rfl) (Nat.le_of_ble_eq_true rfl) ?_
        refine wm_homeR hi30 hzz hzm ?_
        refine xr_k ?_
        refine xr_iadd xi_130_91 (by first | exact nI_add _ _ | exact rfl) ?_
        refine xr_aload_n xi_130_92 rfl ?_
        refine xr_getf xi_130_93 rfl rfl ?_
        refine xr_aload_n xi_130_96 rfl ?_
        refine xr_iload xi_130_97 rfl ?_
        refine xr_virt xi_130_99 rfl rfl rfl rfl (Nat.le_of_ble_eq_true rfl) (Nat.le_of_ble_eq_true rfl) ?_
        refine wm_homeR hi30 hzz hzm ?_
        refine xr_k ?_
        refine xr_ialz xi_130_102 rfl (by first | exact tI_n (by first | omega | (simp only [ri]; omega)) | exact tI_dn (by omega) (by omega) | assumption) (by first | omega | (simp only [ri]; omega)) (congrArg nI ((congrArg _ hh).trans hag2)) ?_
        refine xr_iconst (z := nI 1) xi_130_103 rfl ?_
        refine xr_iadd xi_130_104 (by first | exact nI_add _ _ | exact rfl) ?_
        refine xr_iast xi_130_105 rfl (by first | exact tI_n (by first | omega | (simp only [ri]; omega)) | exact tI_dn (by omega) (by omega) | assumption) (by first | omega | (simp only [ri]; omega)) ((mH_row _ (by omega)).trans (congrArg (fun G' => mJ st tx ln (agC G ag 8) po le nu fa re od be Z G') ((congrArg (fun z => un (sBump G (sStay G a) i) (4 + z) (G (4 + sHome G i) + 1)) hh).trans (sBump_s hv)))) ?_
        refine xr_iinc xi_130_106 rfl (by first | exact nI_1 _ | exact rfl) rfl ?_
        refine xr_goto xi_130_109 ?_
        exact ih (i + 1) _ (by omega)
      · refine xr_iload xi_130_59 rfl ?_
        refine xr_aload_n xi_130_61 rfl ?_
        refine xr_getf xi_130_62 rfl rfl ?_
        refine xr_iconst (z := nI 0) xi_130_65 rfl ?_
        refine xr_ialz xi_130_66 rfl (by first | exact tI_n (by first | omega | (simp only [ri]; omega)) | exact tI_dn (by omega) (by omega) | assumption) (by first | omega | (simp only [ri]; omega)) ((mj_lo (by omega)).trans (congrArg nI hz)) ?_
        refine xr_ic_ge xi_130_67 (by first | exact tI_n (by omega) | exact tI_d (by omega) | assumption | exact tI_e1 | exact tI_e2 | exact tI_e3 | exact tI_e4) (by first | exact tI_n (by omega) | exact tI_d (by omega) | assumption | exact tI_e1 | exact tI_e2 | exact tI_e3 | exact tI_e4) (fun c_ => by exfalso; omega) (fun c_ => ?_)
        refine xr_iload xi_130_70 rfl ?_
        refine xr_iload xi_130_72 rfl ?_
        refine xr_stat xi_130_74 (by decide) rfl rfl (Nat.le_of_ble_eq_true rfl) (Nat.le_of_ble_eq_true rfl) ?_
        refine wm_has hi30 (fun q => absurd q hv) (fun _ => ?_)
        refine xr_k ?_
        rw [sBump_no hv]
        refine xr_if_eq xi_130_77 (by first | exact tI_n (by omega) | exact tI_d (by omega) | assumption | exact tI_e1 | exact tI_e2 | exact tI_e3 | exact tI_e4) (fun c_ => ?_) (fun c_ => by exfalso; omega)
        refine xr_iinc xi_130_106 rfl (by first | exact nI_1 _ | exact rfl) rfl ?_
        refine xr_goto xi_130_109 ?_
        exact ih (i + 1) _ (by omega)
  have key1 : ∀ d i x6, i + d = 8 → xw L xs 130 27 [.ref 0, .int (nI a), .int (mk (sSurv G a)), .int (mk (sGone G a)), .int (mk (sStay G a)), .int (nI i), x6] [] (mJ st tx ln (agC G ag i) po le nu fa re od be Z G) Q := by
    intro d
    induction d with
    | zero =>
      intro i x6 hi
      have e : i = 8 := by omega
      subst e
      refine xr_iload xi_130_27 rfl ?_
      refine xr_bipush (z := nI 8) xi_130_29 rfl ?_
      refine xr_ic_ge xi_130_31 (by first | exact tI_n (by omega) | exact tI_d (by omega) | assumption | exact tI_e1 | exact tI_e2 | exact tI_e3 | exact tI_e4) (by first | exact tI_n (by omega) | exact tI_d (by omega) | assumption | exact tI_e1 | exact tI_e2 | exact tI_e3 | exact tI_e4) (fun c_ => ?_) (fun c_ => by exfalso; omega)
      refine xr_iconst (z := nI 0) xi_130_56 rfl ?_
      refine xr_istore xi_130_57 (Nat.le_of_ble_eq_true rfl) rfl ?_
      have h0 := key2 (G 0) 0 x6 (by omega)
      rw [sBump_0] at h0
      exact h0
    | succ d ih =>
      intro i x6 hi
      refine xr_iload xi_130_27 rfl ?_
      refine xr_bipush (z := nI 8) xi_130_29 rfl ?_
      refine xr_ic_ge xi_130_31 (by first | exact tI_n (by omega) | exact tI_d (by omega) | assumption | exact tI_e1 | exact tI_e2 | exact tI_e3 | exact tI_e4) (by first | exact tI_n (by omega) | exact tI_d (by omega) | assumption | exact tI_e1 | exact tI_e2 | exact tI_e3 | exact tI_e4) (fun c_ => by exfalso; omega) (fun c_ => ?_)
      refine xr_aload_n xi_130_34 rfl ?_
      refine xr_getf xi_130_35 rfl rfl ?_
      refine xr_iload xi_130_38 rfl ?_
      refine xr_aload_n xi_130_40 rfl ?_
      refine xr_getf xi_130_41 rfl rfl ?_
      refine xr_iconst (z := nI 4) xi_130_44 rfl ?_
      refine xr_iload xi_130_45 rfl ?_
      refine xr_iadd xi_130_47 (by first | exact nI_add _ _ | exact rfl) ?_
      refine xr_ialz xi_130_48 rfl (by first | exact tI_n (by first | omega | (simp only [ri]; omega)) | exact tI_dn (by omega) (by omega) | assumption) (by first | omega | (simp only [ri]; omega)) (by first | exact mj_lo (by first | omega | (simp only [ri]; omega)) | exact mF_at _ _ | exact rfl) ?_
      refine xr_iast xi_130_49 rfl (by first | exact tI_n (by first | omega | (simp only [ri]; omega)) | exact tI_dn (by omega) (by omega) | assumption) (by first | omega | (simp only [ri]; omega)) ((mJ_ag _ _).trans (congrArg (fun g => mJ st tx ln g po le nu fa re od be Z G) agC_s)) ?_
      refine xr_iinc xi_130_50 rfl (by first | exact nI_1 _ | exact rfl) rfl ?_
      refine xr_goto xi_130_53 ?_
      exact ih (i + 1) _ (by omega)
  refine xr_aload_n xi_130_0 rfl ?_
  refine xr_iload_n xi_130_1 rfl ?_
  refine xr_virt xi_130_2 rfl rfl rfl rfl (Nat.le_of_ble_eq_true rfl) (Nat.le_of_ble_eq_true rfl) ?_
  refine wm_survivorsOf ha hI ?_
  refine xr_k ?_
  refine xr_istore_n xi_130_5 (Nat.le_of_ble_eq_true rfl) rfl ?_
  refine xr_aload_n xi_130_6 rfl ?_
  refine xr_iload_n xi_130_7 rfl ?_
  refine xr_virt xi_130_8 rfl rfl rfl rfl (Nat.le_of_ble_eq_true rfl) (Nat.le_of_ble_eq_true rfl) ?_
  refine wm_living hI (by omega) ?_
  refine xr_k ?_
  refine xr_iload_n xi_130_11 rfl ?_
  refine xr_iconst (z := dI 0) xi_130_12 xm_m1 ?_
  refine xr_ixor xi_130_13 rfl ?_
  refine xr_iand xi_130_14 (mk_andn _ _) ?_
  refine xr_istore_n xi_130_15 (Nat.le_of_ble_eq_true rfl) rfl ?_
  refine xr_iload_n xi_130_16 rfl ?_
  refine xr_aload_n xi_130_17 rfl ?_
  refine xr_virt xi_130_18 rfl rfl rfl rfl (Nat.le_of_ble_eq_true rfl) (Nat.le_of_ble_eq_true rfl) ?_
  refine wm_pinned hI ?_
  refine xr_k ?_
  refine xr_iand xi_130_21 (mk_and _ _) ?_
  refine xr_istore xi_130_22 (Nat.le_of_ble_eq_true rfl) rfl ?_
  refine xr_iconst (z := nI 0) xi_130_24 rfl ?_
  refine xr_istore xi_130_25 (Nat.le_of_ble_eq_true rfl) rfl ?_
  exact key1 8 0 .null (by omega)
end M4
