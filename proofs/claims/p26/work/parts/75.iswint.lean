/-! the law's isWinter: a winter does what was told; taken back, all is as it was -/
theorem lg_s (x : Int64) : lg_cmp x x = nI 0 := by
  unfold lg_cmp
  rw [if_neg (fun q => by
    have := Int64.lt_iff_toInt_lt.mp q
    omega), if_pos rfl]
  rfl
theorem sumN_mono {f : Nat → Nat} {m : Nat} : ∀ d, sumN f m ≤ sumN f (m + d) := by
  intro d
  induction d with
  | zero => exact Nat.le_refl _
  | succ d ih => exact Nat.le_trans ih (Nat.le_add_right _ _)
/-- the ages of those that survive, and 1 each -/
noncomputable def sAs (G : Nat → Nat) (a u : Nat) : Nat := if cd (sSurv G a u) = true then sAge G u else 0
theorem sAs_le {G : Nat → Nat} {a : Nat} (hI : sInv G) : ∀ n, sumN (sAs G a) n ≤ 3 * n := by
  intro n
  induction n with
  | zero => exact Nat.le_refl _
  | succ n ih =>
    have h : sAs G a n ≤ 3 := by
      unfold sAs
      split
      · next q => exact hI.ag (hI.lt (sSurv_y (cd_t.mp q)).1)
      · omega
    show sumN (sAs G a) n + sAs G a n ≤ _
    omega
section WT
variable {L : Nat} {xs : Nat → Int32} {Q : Option Value → xm_H → Prop} {ln st : Nat} {tx Z G : Nat → Nat} {H : xm_H}
theorem wt_ages {a : Nat} {x2 x3 x5 x6 x7 x8 x9 : Value} (hS : wS H tx ln st Z G) (hI : sInv G) (hl : ln ≤ 60)
    (hk : xw L xs 90 117 [.ref 0, .int (nI a), x2, x3, .int (mk (sSurv G a)), x5, x6, x7, x8, x9, .int (nI (sumN (sAs G a) (G 0))), .int (nI (G 0))] [] H Q) : ∀ d t, t + d = G 0 → xw L xs 90 72 [.ref 0, .int (nI a), x2, x3, .int (mk (sSurv G a)), x5, x6, x7, x8, x9, .int (nI (sumN (sAs G a) t)), .int (nI t)] [] H Q := by
  obtain ⟨f0, h0⟩ := hS.h0
  have hc := hI.c
  intro d
  induction d with
  | zero =>
    intro t hd
    have e : t = G 0 := by omega
    subst e
    refine xr_iload xi_90_72 rfl ?_
    refine xr_aload_n xi_90_74 rfl ?_
    refine xr_iconst (z := nI 0) xi_90_75 rfl ?_
    refine xr_virt xi_90_76 rfl rfl h0 rfl (Nat.le_of_ble_eq_true rfl) (Nat.le_of_ble_eq_true rfl) ?_
    refine wr_count hS hI hl (by omega) qC0 ?_
    refine xr_k ?_
    refine xr_ic_ge xi_90_79 (by first | exact tI_n (by omega) | exact tI_d (by omega) | assumption | exact tI_e1 | exact tI_e2 | exact tI_e3 | exact tI_e4) (by first | exact tI_n (by omega) | exact tI_d (by omega) | assumption | exact tI_e1 | exact tI_e2 | exact tI_e3 | exact tI_e4) (fun c_ => ?_) (fun c_ => by exfalso; omega)
    exact hk
  | succ d ih =>
    intro t hd
    by_cases hs : sSurv G a t
    · have hlv := (sSurv_y hs).1
      have hg := hI.g hlv
      have e : sAs G a t = sAge G t := if_pos (cd_t.mpr hs)
      have e2 : nI (sAge G t - 1) + nI 1 = nI (sAs G a t) := by rw [nI_add, e, show sAge G t - 1 + 1 = sAge G t by omega]
      refine xr_iload xi_90_72 rfl ?_
      refine xr_aload_n xi_90_74 rfl ?_
      refine xr_iconst (z := nI 0) xi_90_75 rfl ?_
      refine xr_virt xi_90_76 rfl rfl h0 rfl (Nat.le_of_ble_eq_true rfl) (Nat.le_of_ble_eq_true rfl) ?_
      refine wr_count hS hI hl (by omega) qC0 ?_
      refine xr_k ?_
      refine xr_ic_ge xi_90_79 (by first | exact tI_n (by omega) | exact tI_d (by omega) | assumption | exact tI_e1 | exact tI_e2 | exact tI_e3 | exact tI_e4) (by first | exact tI_n (by omega) | exact tI_d (by omega) | assumption | exact tI_e1 | exact tI_e2 | exact tI_e3 | exact tI_e4) (fun c_ => by exfalso; omega) (fun c_ => ?_)
      refine xr_iload xi_90_82 rfl ?_
      refine xr_iload xi_90_84 rfl ?_
      refine xr_iload xi_90_86 rfl ?_
      refine xr_ishr xi_90_88 rfl ?_
      refine xr_iconst (z := nI 1) xi_90_89 rfl ?_
      refine xr_iand xi_90_90 (mk_b1 (by omega) hs) ?_
      refine xr_iconst (z := nI 1) xi_90_91 rfl ?_
      refine xr_ic_ne xi_90_92 (by first | exact tI_n (by omega) | exact tI_d (by omega) | assumption | exact tI_e1 | exact tI_e2 | exact tI_e3 | exact tI_e4) (by first | exact tI_n (by omega) | exact tI_d (by omega) | assumption | exact tI_e1 | exact tI_e2 | exact tI_e3 | exact tI_e4) (fun c_ => by exfalso; omega) (fun c_ => ?_)
      refine xr_aload_n xi_90_95 rfl ?_
      refine xr_iload xi_90_96 rfl ?_
      refine xr_iconst (z := nI 2) xi_90_98 rfl ?_
      refine xr_virt xi_90_99 rfl rfl h0 rfl (Nat.le_of_ble_eq_true rfl) (Nat.le_of_ble_eq_true rfl) ?_
      refine wr_thing hS hI (by omega) (by omega) (qT2 hI hlv) ?_
      refine xr_k ?_
      refine xr_iconst (z := nI 1) xi_90_102 rfl ?_
      refine xr_iadd xi_90_103 (e2) ?_
      refine xr_goto xi_90_104 ?_
      refine xr_iadd xi_90_108 (by first | exact nI_add _ _ | exact rfl) ?_
      refine xr_istore xi_90_109 (Nat.le_of_ble_eq_true rfl) rfl ?_
      refine xr_iinc xi_90_111 rfl (by first | exact nI_1 _ | exact rfl) rfl ?_
      refine xr_goto xi_90_114 ?_
      exact ih (t + 1) (by omega)
    · have e : nI (sumN (sAs G a) t) + nI 0 = nI (sumN (sAs G a) (t + 1)) := by
        rw [nI_add]
        show _ = nI (sumN (sAs G a) t + sAs G a t)
        rw [show sAs G a t = 0 from if_neg (fun q => hs (cd_t.mp q))]
      refine xr_iload xi_90_72 rfl ?_
      refine xr_aload_n xi_90_74 rfl ?_
      refine xr_iconst (z := nI 0) xi_90_75 rfl ?_
      refine xr_virt xi_90_76 rfl rfl h0 rfl (Nat.le_of_ble_eq_true rfl) (Nat.le_of_ble_eq_true rfl) ?_
      refine wr_count hS hI hl (by omega) qC0 ?_
      refine xr_k ?_
      refine xr_ic_ge xi_90_79 (by first | exact tI_n (by omega) | exact tI_d (by omega) | assumption | exact tI_e1 | exact tI_e2 | exact tI_e3 | exact tI_e4) (by first | exact tI_n (by omega) | exact tI_d (by omega) | assumption | exact tI_e1 | exact tI_e2 | exact tI_e3 | exact tI_e4) (fun c_ => by exfalso; omega) (fun c_ => ?_)
      refine xr_iload xi_90_82 rfl ?_
      refine xr_iload xi_90_84 rfl ?_
      refine xr_iload xi_90_86 rfl ?_
      refine xr_ishr xi_90_88 rfl ?_
      refine xr_iconst (z := nI 1) xi_90_89 rfl ?_
      refine xr_iand xi_90_90 (mk_b0 (by omega) hs) ?_
      refine xr_iconst (z := nI 1) xi_90_91 rfl ?_
      refine xr_ic_ne xi_90_92 (by first | exact tI_n (by omega) | exact tI_d (by omega) | assumption | exact tI_e1 | exact tI_e2 | exact tI_e3 | exact tI_e4) (by first | exact tI_n (by omega) | exact tI_d (by omega) | assumption | exact tI_e1 | exact tI_e2 | exact tI_e3 | exact tI_e4) (fun c_ => ?_) (fun c_ => by exfalso; omega)
      refine xr_iconst (z := nI 0) xi_90_107 rfl ?_
      refine xr_iadd xi_90_108 (e) ?_
      refine xr_istore xi_90_109 (Nat.le_of_ble_eq_true rfl) rfl ?_
      refine xr_iinc xi_90_111 rfl (by first | exact nI_1 _ | exact rfl) rfl ?_
      refine xr_goto xi_90_114 ?_
      exact ih (t + 1) (by omega)
theorem wt_back {a : Nat} {st' : Nat} {Z' G' : Nat → Nat} {x1 x2 x3 x6 x7 x8 x9 : Value} (hS : wS H tx ln st' Z' G') (hI : sInv G) (hI' : sInv G') (hl : ln ≤ 60) (ha : a < 2) (hw : sWin G a = some G')
    (hk : xw L xs 90 314 [.ref 0, x1, x2, x3, .int (mk (sSurv G a)), .int (mk (sGone G a)), x6, x7, x8, x9, .int (nI 0), .int (nI (G 0))] [] H Q) : ∀ d t, t + d = G 0 → xw L xs 90 247 [.ref 0, x1, x2, x3, .int (mk (sSurv G a)), .int (mk (sGone G a)), x6, x7, x8, x9, .int (nI (sumN (sAs G a) (G 0) - sumN (sAs G a) t)), .int (nI t)] [] H Q := by
  obtain ⟨f0, h0⟩ := hS.h0
  have hc := hI.c
  obtain ⟨k1, k2, Hm, kH, kG⟩ := sWin_inv hI ha hw
  have e0 : G' 0 = G 0 := by
    have hm := sMv_inv hI ha (G 0) Hm (Nat.le_refl _) kH
    rw [kG, un_n (by omega), sLose_o (by omega) hm.1.c]
    exact hm.2.2.1 0 (by omega)
  have q0 : qCount G' st' ln 0 = nI (G 0) := by rw [← e0]; rfl
  intro d
  induction d with
  | zero =>
    intro t hd
    have e : t = G 0 := by omega
    subst e
    rw [Nat.sub_self]
    refine xr_iload xi_90_247 rfl ?_
    refine xr_aload_n xi_90_249 rfl ?_
    refine xr_iconst (z := nI 0) xi_90_250 rfl ?_
    refine xr_virt xi_90_251 rfl rfl h0 rfl (Nat.le_of_ble_eq_true rfl) (Nat.le_of_ble_eq_true rfl) ?_
    refine wr_count hS hI' hl (by omega) q0 ?_
    refine xr_k ?_
    refine xr_ic_ge xi_90_254 (by first | exact tI_n (by omega) | exact tI_d (by omega) | assumption | exact tI_e1 | exact tI_e2 | exact tI_e3 | exact tI_e4) (by first | exact tI_n (by omega) | exact tI_d (by omega) | assumption | exact tI_e1 | exact tI_e2 | exact tI_e3 | exact tI_e4) (fun c_ => ?_) (fun c_ => by exfalso; omega)
    exact hk
  | succ d ih =>
    intro t hd
    have hmo := sumN_mono (f := sAs G a) (m := t + 1) (G 0 - (t + 1))
    rw [show t + 1 + (G 0 - (t + 1)) = G 0 by omega] at hmo
    have hst : sumN (sAs G a) (t + 1) = sumN (sAs G a) t + sAs G a t := rfl
    have ih := ih (t + 1) (by omega)
    rw [show sumN (sAs G a) (G 0) - sumN (sAs G a) (t + 1) = sumN (sAs G a) (G 0) - sumN (sAs G a) t - sAs G a t by omega] at ih
    have k281 : xw L xs 90 281 [.ref 0, x1, x2, x3, .int (mk (sSurv G a)), .int (mk (sGone G a)), x6, x7, x8, x9, .int (nI (sumN (sAs G a) (G 0) - sumN (sAs G a) t)), .int (nI t)] [] H Q := by
      by_cases hs : sSurv G a t
      · obtain ⟨l1, l2⟩ := (sWin_age hI ha hw).2 t hs
        have e : sAs G a t = sAge G t := if_pos (cd_t.mpr hs)
        have e2 : qThing G' t 2 = nI (sAs G a t) := by rw [qT2 hI' l1, l2, e, Nat.add_sub_cancel]
        refine xr_iload xi_90_281 rfl ?_
        refine xr_iload xi_90_283 rfl ?_
        refine xr_iload xi_90_285 rfl ?_
        refine xr_ishr xi_90_287 rfl ?_
        refine xr_iconst (z := nI 1) xi_90_288 rfl ?_
        refine xr_iand xi_90_289 (mk_b1 (by omega) hs) ?_
        refine xr_iconst (z := nI 1) xi_90_290 rfl ?_
        refine xr_ic_ne xi_90_291 (by first | exact tI_n (by omega) | exact tI_d (by omega) | assumption | exact tI_e1 | exact tI_e2 | exact tI_e3 | exact tI_e4) (by first | exact tI_n (by omega) | exact tI_d (by omega) | assumption | exact tI_e1 | exact tI_e2 | exact tI_e3 | exact tI_e4) (fun c_ => by exfalso; omega) (fun c_ => ?_)
        refine xr_aload_n xi_90_294 rfl ?_
        refine xr_iload xi_90_295 rfl ?_
        refine xr_iconst (z := nI 2) xi_90_297 rfl ?_
        refine xr_virt xi_90_298 rfl rfl h0 rfl (Nat.le_of_ble_eq_true rfl) (Nat.le_of_ble_eq_true rfl) ?_
        refine wr_thing hS hI' (by omega) (by omega) e2 ?_
        refine xr_k ?_
        refine xr_goto xi_90_301 ?_
        refine xr_isub xi_90_305 (pk_sub (by omega)) ?_
        refine xr_istore xi_90_306 (Nat.le_of_ble_eq_true rfl) rfl ?_
        refine xr_iinc xi_90_308 rfl (by first | exact nI_1 _ | exact rfl) rfl ?_
        refine xr_goto xi_90_311 ?_
        exact ih
      · have e : sAs G a t = 0 := if_neg (fun q => hs (cd_t.mp q))
        rw [e] at ih
        refine xr_iload xi_90_281 rfl ?_
        refine xr_iload xi_90_283 rfl ?_
        refine xr_iload xi_90_285 rfl ?_
        refine xr_ishr xi_90_287 rfl ?_
        refine xr_iconst (z := nI 1) xi_90_288 rfl ?_
        refine xr_iand xi_90_289 (mk_b0 (by omega) hs) ?_
        refine xr_iconst (z := nI 1) xi_90_290 rfl ?_
        refine xr_ic_ne xi_90_291 (by first | exact tI_n (by omega) | exact tI_d (by omega) | assumption | exact tI_e1 | exact tI_e2 | exact tI_e3 | exact tI_e4) (by first | exact tI_n (by omega) | exact tI_d (by omega) | assumption | exact tI_e1 | exact tI_e2 | exact tI_e3 | exact tI_e4) (fun c_ => ?_) (fun c_ => by exfalso; omega)
        refine xr_iconst (z := nI 0) xi_90_304 rfl ?_
        refine xr_isub xi_90_305 (pk_sub (by omega)) ?_
        refine xr_istore xi_90_306 (Nat.le_of_ble_eq_true rfl) rfl ?_
        refine xr_iinc xi_90_308 rfl (by first | exact nI_1 _ | exact rfl) rfl ?_
        refine xr_goto xi_90_311 ?_
        exact ih
    by_cases hg : sGone G a t
    · have hd' : ¬ sLive G' t := fun q => ((k2 t).mp q).2 hg
      refine xr_iload xi_90_247 rfl ?_
      refine xr_aload_n xi_90_249 rfl ?_
      refine xr_iconst (z := nI 0) xi_90_250 rfl ?_
      refine xr_virt xi_90_251 rfl rfl h0 rfl (Nat.le_of_ble_eq_true rfl) (Nat.le_of_ble_eq_true rfl) ?_
      refine wr_count hS hI' hl (by omega) q0 ?_
      refine xr_k ?_
      refine xr_ic_ge xi_90_254 (by first | exact tI_n (by omega) | exact tI_d (by omega) | assumption | exact tI_e1 | exact tI_e2 | exact tI_e3 | exact tI_e4) (by first | exact tI_n (by omega) | exact tI_d (by omega) | assumption | exact tI_e1 | exact tI_e2 | exact tI_e3 | exact tI_e4) (fun c_ => by exfalso; omega) (fun c_ => ?_)
      refine xr_iload xi_90_257 rfl ?_
      refine xr_iload xi_90_259 rfl ?_
      refine xr_ishr xi_90_261 rfl ?_
      refine xr_iconst (z := nI 1) xi_90_262 rfl ?_
      refine xr_iand xi_90_263 (mk_b1 (by omega) hg) ?_
      refine xr_iconst (z := nI 1) xi_90_264 rfl ?_
      refine xr_ic_ne xi_90_265 (by first | exact tI_n (by omega) | exact tI_d (by omega) | assumption | exact tI_e1 | exact tI_e2 | exact tI_e3 | exact tI_e4) (by first | exact tI_n (by omega) | exact tI_d (by omega) | assumption | exact tI_e1 | exact tI_e2 | exact tI_e3 | exact tI_e4) (fun c_ => by exfalso; omega) (fun c_ => ?_)
      refine xr_aload_n xi_90_268 rfl ?_
      refine xr_iload xi_90_269 rfl ?_
      refine xr_iconst (z := nI 0) xi_90_271 rfl ?_
      refine xr_virt xi_90_272 rfl rfl h0 rfl (Nat.le_of_ble_eq_true rfl) (Nat.le_of_ble_eq_true rfl) ?_
      refine wr_thing hS hI' (by omega) (by omega) (qT0n hd') ?_
      refine xr_k ?_
      refine xr_iconst (z := nI 1) xi_90_275 rfl ?_
      refine xr_ic_ne xi_90_276 (by first | exact tI_n (by omega) | exact tI_d (by omega) | assumption | exact tI_e1 | exact tI_e2 | exact tI_e3 | exact tI_e4) (by first | exact tI_n (by omega) | exact tI_d (by omega) | assumption | exact tI_e1 | exact tI_e2 | exact tI_e3 | exact tI_e4) (fun c_ => ?_) (fun c_ => by exfalso; omega)
      exact k281
    · refine xr_iload xi_90_247 rfl ?_
      refine xr_aload_n xi_90_249 rfl ?_
      refine xr_iconst (z := nI 0) xi_90_250 rfl ?_
      refine xr_virt xi_90_251 rfl rfl h0 rfl (Nat.le_of_ble_eq_true rfl) (Nat.le_of_ble_eq_true rfl) ?_
      refine wr_count hS hI' hl (by omega) q0 ?_
      refine xr_k ?_
      refine xr_ic_ge xi_90_254 (by first | exact tI_n (by omega) | exact tI_d (by omega) | assumption | exact tI_e1 | exact tI_e2 | exact tI_e3 | exact tI_e4) (by first | exact tI_n (by omega) | exact tI_d (by omega) | assumption | exact tI_e1 | exact tI_e2 | exact tI_e3 | exact tI_e4) (fun c_ => by exfalso; omega) (fun c_ => ?_)
      refine xr_iload xi_90_257 rfl ?_
      refine xr_iload xi_90_259 rfl ?_
      refine xr_ishr xi_90_261 rfl ?_
      refine xr_iconst (z := nI 1) xi_90_262 rfl ?_
      refine xr_iand xi_90_263 (mk_b0 (by omega) hg) ?_
      refine xr_iconst (z := nI 1) xi_90_264 rfl ?_
      refine xr_ic_ne xi_90_265 (by first | exact tI_n (by omega) | exact tI_d (by omega) | assumption | exact tI_e1 | exact tI_e2 | exact tI_e3 | exact tI_e4) (by first | exact tI_n (by omega) | exact tI_d (by omega) | assumption | exact tI_e1 | exact tI_e2 | exact tI_e3 | exact tI_e4) (fun c_ => ?_) (fun c_ => by exfalso; omega)
      exact k281
theorem wt_do {a : Nat} {x9 : Value} (hS : wS H tx ln st Z G) (hG : sGd G) (hl : ln ≤ 60) (ha : a < 2) (hQ : ∀ H' st' Z', wS H' tx ln st' Z' G → Q (some (.int (nI 1))) H') : xw L xs 90 164 [.ref 0, .int (nI a), .long (fAll G), .null, .int (mk (sSurv G a)), .int (mk (sGone G a)), .int (nI (cnt (fun t => sSurv G a t ∧ ¬ sPin G t) 30)), .int (nI (G 3)), .int (nI (cnt (sAged G 3) 30)), x9, .int (nI (sumN (sAs G a) (G 0))), .int (nI (G 0))] [] H Q := by
  obtain ⟨f0, h0⟩ := hS.h0
  have hI := hG.1.1
  have hst := hS.len.2
  have b1 := cnt_le (sGone G a) 30
  have b2 := cnt_le (sAged G 3) 30
  cases hw : sWin G a with
  | none =>
    have q3 : qSurv G a 3 = nI 0 := if_pos (cd_t.mpr hw)
    have ep := pWinter_2 ha hw
    refine xr_aload_n xi_90_164 rfl ?_
    refine xr_iload_n xi_90_165 rfl ?_
    refine xr_iconst (z := nI 3) xi_90_166 rfl ?_
    refine xr_virt xi_90_167 rfl rfl h0 rfl (Nat.le_of_ble_eq_true rfl) (Nat.le_of_ble_eq_true rfl) ?_
    refine wr_surv hS hI ha (by omega) q3 (fun H1 hS1 => ?_)
    obtain ⟨f0, h0⟩ := hS1.h0
    refine xr_k ?_
    refine xr_if_ne xi_90_170 (by first | exact tI_n (by omega) | exact tI_d (by omega) | assumption | exact tI_e1 | exact tI_e2 | exact tI_e3 | exact tI_e4) (fun c_ => by exfalso; omega) (fun c_ => ?_)
    refine xr_aload_n xi_90_173 rfl ?_
    refine xr_iload_n xi_90_174 rfl ?_
    refine xr_virt xi_90_175 rfl rfl h0 rfl (Nat.le_of_ble_eq_true rfl) (Nat.le_of_ble_eq_true rfl) ?_
    refine ww_winter hS1 hI (fun H2 hp => ?_)
    obtain ⟨s2, Z2, hm⟩ := mPost_ex st Z G (pWinter G (nI a)).1
    have hS2 := hp s2 Z2 hm
    rw [ep] at hS2 ⊢
    have hS2 : wS H2 tx ln s2 Z2 G := hS2
    obtain ⟨f0, h0⟩ := hS2.h0
    refine xr_k ?_
    show xw L xs 90 178 [.ref 0, .int (nI a), .long (fAll G), .null, .int (mk (sSurv G a)), .int (mk (sGone G a)), .int (nI (cnt (fun t => sSurv G a t ∧ ¬ sPin G t) 30)), .int (nI (G 3)), .int (nI (cnt (sAged G 3) 30)), x9, .int (nI (sumN (sAs G a) (G 0))), .int (nI (G 0))] [.int xE2] H2 Q
    refine xr_ldc (z := xE2) xi_90_178 rfl ?_
    refine xr_ic_ne xi_90_180 (by first | exact tI_n (by omega) | exact tI_d (by omega) | assumption | exact tI_e1 | exact tI_e2 | exact tI_e3 | exact tI_e4) (by first | exact tI_n (by omega) | exact tI_d (by omega) | assumption | exact tI_e1 | exact tI_e2 | exact tI_e3 | exact tI_e4) (fun c_ => by exfalso; omega) (fun c_ => ?_)
    refine xr_aload_n xi_90_183 rfl ?_
    refine xr_stat xi_90_184 (by decide) rfl rfl (Nat.le_of_ble_eq_true rfl) (Nat.le_of_ble_eq_true rfl) ?_
    refine wl_all hS2 hI hl ?_
    refine xr_k ?_
    refine xr_lload_n xi_90_187 rfl ?_
    refine xr_lcmp xi_90_188 (lg_s _) ?_
    refine xr_if_ne xi_90_189 (by first | exact tI_n (by omega) | exact tI_d (by omega) | assumption | exact tI_e1 | exact tI_e2 | exact tI_e3 | exact tI_e4) (fun c_ => by exfalso; omega) (fun c_ => ?_)
    refine xr_iconst (z := nI 1) xi_90_192 rfl ?_
    refine xr_goto xi_90_193 ?_
    refine xr_iret xi_90_197 (fun _ => (by first | exact Or.inl rfl | exact Or.inr rfl | assumption)) ?_
    exact hQ _ _ _ hS2
  | some G' =>
    have q3 : qSurv G a 3 = nI 1 := if_neg (fun q => by have := cd_t.mp q; rw [hw] at this; cases this)
    have ep := pWinter_0 ha hw
    have hG' := sWin_Gd hG ha hw
    have hI' := hG'.1.1
    obtain ⟨-, k2, -⟩ := sWin_inv hI ha hw
    have e3 := (sWin_K hG.1 ha hw).2
    have eo := sWin_old hI ha hw
    have b3 := cnt_le (sAged G' 3) 30
    have en : cnt (sAged G' 1) 30 = 0 := cnt_0 30 (fun t _ => sWin_new hI ha hw t)
    refine xr_aload_n xi_90_164 rfl ?_
    refine xr_iload_n xi_90_165 rfl ?_
    refine xr_iconst (z := nI 3) xi_90_166 rfl ?_
    refine xr_virt xi_90_167 rfl rfl h0 rfl (Nat.le_of_ble_eq_true rfl) (Nat.le_of_ble_eq_true rfl) ?_
    refine wr_surv hS hI ha (by omega) q3 (fun H1 hS1 => ?_)
    obtain ⟨f0, h0⟩ := hS1.h0
    refine xr_k ?_
    refine xr_if_ne xi_90_170 (by first | exact tI_n (by omega) | exact tI_d (by omega) | assumption | exact tI_e1 | exact tI_e2 | exact tI_e3 | exact tI_e4) (fun c_ => ?_) (fun c_ => by exfalso; omega)
    refine xr_aload_n xi_90_198 rfl ?_
    refine xr_iload_n xi_90_199 rfl ?_
    refine xr_virt xi_90_200 rfl rfl h0 rfl (Nat.le_of_ble_eq_true rfl) (Nat.le_of_ble_eq_true rfl) ?_
    refine ww_winter hS1 hI (fun H2 hp => ?_)
    obtain ⟨s2, Z2, hm⟩ := mPost_ex st Z G (pWinter G (nI a)).1
    have hS2 := hp s2 Z2 hm
    rw [ep] at hS2 hm ⊢
    have hS2 : wS H2 tx ln s2 Z2 G' := hS2
    have hm : mPost st Z G (nI (cnt (sGone G a) 30)) s2 Z2 := hm
    obtain ⟨f0, h0⟩ := hS2.h0
    refine xr_k ?_
    show xw L xs 90 203 [.ref 0, .int (nI a), .long (fAll G), .null, .int (mk (sSurv G a)), .int (mk (sGone G a)), .int (nI (cnt (fun t => sSurv G a t ∧ ¬ sPin G t) 30)), .int (nI (G 3)), .int (nI (cnt (sAged G 3) 30)), x9, .int (nI (sumN (sAs G a) (G 0))), .int (nI (G 0))] [.int (nI (cnt (sGone G a) 30))] H2 Q
    have q11 : qCount G' s2 ln 11 = nI (G 3 + cnt (fun t => sSurv G a t ∧ ¬ sPin G t) 30) := by rw [← e3]; rfl
    have qn : qCount G' s2 ln 3 = nI 0 := by rw [← en]; rfl
    refine xr_iload xi_90_203 rfl ?_
    refine xr_stat xi_90_205 (by decide) rfl rfl (Nat.le_of_ble_eq_true rfl) (Nat.le_of_ble_eq_true rfl) ?_
    refine wl_many ?_
    refine xr_k ?_
    refine xr_ic_ne xi_90_208 (by first | exact tI_n (by omega) | exact tI_d (by omega) | assumption | exact tI_e1 | exact tI_e2 | exact tI_e3 | exact tI_e4) (by first | exact tI_n (by omega) | exact tI_d (by omega) | assumption | exact tI_e1 | exact tI_e2 | exact tI_e3 | exact tI_e4) (fun c_ => by exfalso; omega) (fun c_ => ?_)
    refine xr_aload_n xi_90_211 rfl ?_
    refine xr_bipush (z := nI 11) xi_90_212 rfl ?_
    refine xr_virt xi_90_214 rfl rfl h0 rfl (Nat.le_of_ble_eq_true rfl) (Nat.le_of_ble_eq_true rfl) ?_
    refine wr_count hS2 hI' hl (by omega) q11 ?_
    refine xr_k ?_
    refine xr_iload xi_90_217 rfl ?_
    refine xr_iload xi_90_219 rfl ?_
    refine xr_iadd xi_90_221 (nI_add _ _) ?_
    refine xr_ic_ne xi_90_222 (rfl) (rfl) (fun c_ => by exfalso; omega) (fun c_ => ?_)
    refine xr_aload_n xi_90_225 rfl ?_
    refine xr_iconst (z := nI 5) xi_90_226 rfl ?_
    refine xr_virt xi_90_227 rfl rfl h0 rfl (Nat.le_of_ble_eq_true rfl) (Nat.le_of_ble_eq_true rfl) ?_
    refine wr_count hS2 hI' hl (by omega) qC5 ?_
    refine xr_k ?_
    refine xr_iload xi_90_230 rfl ?_
    refine xr_ic_lt xi_90_232 (by first | exact tI_n (by omega) | exact tI_d (by omega) | assumption | exact tI_e1 | exact tI_e2 | exact tI_e3 | exact tI_e4) (by first | exact tI_n (by omega) | exact tI_d (by omega) | assumption | exact tI_e1 | exact tI_e2 | exact tI_e3 | exact tI_e4) (fun c_ => by exfalso; omega) (fun c_ => ?_)
    refine xr_aload_n xi_90_235 rfl ?_
    refine xr_stat xi_90_236 (by decide) rfl rfl (Nat.le_of_ble_eq_true rfl) (Nat.le_of_ble_eq_true rfl) ?_
    refine wl_isSound hS2 hG' hl ?_
    refine xr_k ?_
    refine xr_if_ne xi_90_239 (by first | exact tI_n (by omega) | exact tI_d (by omega) | assumption | exact tI_e1 | exact tI_e2 | exact tI_e3 | exact tI_e4) (fun c_ => ?_) (fun c_ => by exfalso; omega)
    refine xr_iconst (z := nI 0) xi_90_244 rfl ?_
    refine xr_istore xi_90_245 (Nat.le_of_ble_eq_true rfl) rfl ?_
    refine wt_back hS2 hI hI' hl ha hw ?_ (G 0) 0 (by omega)
    refine xr_iload xi_90_314 rfl ?_
    refine xr_if_ne xi_90_316 (by first | exact tI_n (by omega) | exact tI_d (by omega) | assumption | exact tI_e1 | exact tI_e2 | exact tI_e3 | exact tI_e4) (fun c_ => by exfalso; omega) (fun c_ => ?_)
    refine xr_aload_n xi_90_319 rfl ?_
    refine xr_iconst (z := nI 3) xi_90_320 rfl ?_
    refine xr_virt xi_90_321 rfl rfl h0 rfl (Nat.le_of_ble_eq_true rfl) (Nat.le_of_ble_eq_true rfl) ?_
    refine wr_count hS2 hI' hl (by omega) qn ?_
    refine xr_k ?_
    refine xr_if_ne xi_90_324 (by first | exact tI_n (by omega) | exact tI_d (by omega) | assumption | exact tI_e1 | exact tI_e2 | exact tI_e3 | exact tI_e4) (fun c_ => by exfalso; omega) (fun c_ => ?_)
    refine xr_aload_n xi_90_327 rfl ?_
    refine xr_virt xi_90_328 rfl rfl h0 rfl (Nat.le_of_ble_eq_true rfl) (Nat.le_of_ble_eq_true rfl) ?_
    refine wr_undo hI hst (by rw [tI_n (by omega)]; omega) hm hS2 (fun H3 s3 hs3 hS3 => ?_)
    obtain ⟨f0, h0⟩ := hS3.h0
    refine xr_k ?_
    refine xr_if_lt xi_90_331 (by first | exact tI_n (by omega) | exact tI_d (by omega) | assumption | exact tI_e1 | exact tI_e2 | exact tI_e3 | exact tI_e4) (fun c_ => by exfalso; omega) (fun c_ => ?_)
    refine xr_aload_n xi_90_334 rfl ?_
    refine xr_stat xi_90_335 (by decide) rfl rfl (Nat.le_of_ble_eq_true rfl) (Nat.le_of_ble_eq_true rfl) ?_
    refine wl_all hS3 hI hl ?_
    refine xr_k ?_
    refine xr_lload_n xi_90_338 rfl ?_
    refine xr_lcmp xi_90_339 (lg_s _) ?_
    refine xr_if_ne xi_90_340 (by first | exact tI_n (by omega) | exact tI_d (by omega) | assumption | exact tI_e1 | exact tI_e2 | exact tI_e3 | exact tI_e4) (fun c_ => by exfalso; omega) (fun c_ => ?_)
    refine xr_iconst (z := nI 1) xi_90_343 rfl ?_
    refine xr_goto xi_90_344 ?_
    refine xr_iret xi_90_348 (fun _ => (by first | exact Or.inl rfl | exact Or.inr rfl | assumption)) ?_
    exact hQ _ _ _ hS3
theorem wl_isWinter {a : Nat} (hS : wS H tx ln st Z G) (hG : sGd G) (hl : ln ≤ 60) (ha : a < 2) (hQ : ∀ H' st' Z', wS H' tx ln st' Z' G → Q (some (.int (nI 1))) H') : xc L xs 90 [.ref 0, .int (nI a)] H Q := by
  obtain ⟨f0, h0⟩ := hS.h0
  have hI := hG.1.1
  have hc := hI.c
  have b1 := cnt_le (sAged G 1) 30
  have b2 := cnt_le (sAged G 2) 30
  have b3 := cnt_le (sSurv G a) 30
  have b4 := cnt_le (sGone G a) 30
  have b5 : cnt (fun t => sSurv G a t ∧ ¬ sPin G t) 30 ≤ cnt (sSurv G a) 30 := cnt_sb 30 (fun t _ q => q.1)
  have hyc := sYoung_c hI (a := a)
  refine xr_aload_n xi_90_0 rfl ?_
  refine xr_stat xi_90_1 (by decide) rfl rfl (Nat.le_of_ble_eq_true rfl) (Nat.le_of_ble_eq_true rfl) ?_
  refine wl_all hS hI hl ?_
  refine xr_k ?_
  refine xr_lstore_n xi_90_4 (Nat.le_of_ble_eq_true rfl) rfl ?_
  refine xr_aload_n xi_90_5 rfl ?_
  refine xr_iload_n xi_90_6 rfl ?_
  refine xr_iconst (z := nI 0) xi_90_7 rfl ?_
  refine xr_virt xi_90_8 rfl rfl h0 rfl (Nat.le_of_ble_eq_true rfl) (Nat.le_of_ble_eq_true rfl) ?_
  refine wr_surv hS hI ha (by omega) (rfl : qSurv G a 0 = mk (sSurv G a)) (fun H1 hS1 => ?_)
  obtain ⟨f0, h0⟩ := hS1.h0
  refine xr_k ?_
  refine xr_istore xi_90_11 (Nat.le_of_ble_eq_true rfl) rfl ?_
  refine xr_aload_n xi_90_13 rfl ?_
  refine xr_iload_n xi_90_14 rfl ?_
  refine xr_iconst (z := nI 1) xi_90_15 rfl ?_
  refine xr_virt xi_90_16 rfl rfl h0 rfl (Nat.le_of_ble_eq_true rfl) (Nat.le_of_ble_eq_true rfl) ?_
  refine wr_surv hS1 hI ha (by omega) (rfl : qSurv G a 1 = mk (sGone G a)) (fun H2 hS2 => ?_)
  obtain ⟨f0, h0⟩ := hS2.h0
  refine xr_k ?_
  refine xr_istore xi_90_19 (Nat.le_of_ble_eq_true rfl) rfl ?_
  refine xr_aload_n xi_90_21 rfl ?_
  refine xr_iload_n xi_90_22 rfl ?_
  refine xr_iconst (z := nI 2) xi_90_23 rfl ?_
  refine xr_virt xi_90_24 rfl rfl h0 rfl (Nat.le_of_ble_eq_true rfl) (Nat.le_of_ble_eq_true rfl) ?_
  refine wr_surv hS2 hI ha (by omega) (rfl : qSurv G a 2 = nI (cnt (fun t => sSurv G a t ∧ ¬ sPin G t) 30)) (fun H3 hS3 => ?_)
  obtain ⟨f0, h0⟩ := hS3.h0
  refine xr_k ?_
  have h1 : mk (sSurv G a) &&& mk (sGone G a) = nI 0 := by
    rw [mk_and, mk_0]
    exact mk_congr (fun t _ => ⟨fun q => q.2.2 q.1, fun q => q.elim⟩)
  have h2 : mk (sGone G a) &&& mk (sNeed G) = nI 0 := by
    rw [mk_and, mk_0]
    exact mk_congr (fun t _ => ⟨fun q => sGone_n hI q.1 q.2, fun q => q.elim⟩)
  have k64 : ∀ n, n = cnt (sYoung G a) 30 → xw L xs 90 64 [.ref 0, .int (nI a), .long (fAll G), .null, .int (mk (sSurv G a)), .int (mk (sGone G a)), .int (nI (cnt (fun t => sSurv G a t ∧ ¬ sPin G t) 30)), .int (nI (G 3)), .int (nI (cnt (sAged G 3) 30)), .null, .null, .null] [.int (nI n)] H3 Q := by
    intro n hn
    refine xr_istore xi_90_64 (Nat.le_of_ble_eq_true rfl) rfl ?_
    refine xr_iconst (z := nI 0) xi_90_66 rfl ?_
    refine xr_istore xi_90_67 (Nat.le_of_ble_eq_true rfl) rfl ?_
    refine xr_iconst (z := nI 0) xi_90_69 rfl ?_
    refine xr_istore xi_90_70 (Nat.le_of_ble_eq_true rfl) rfl ?_
    refine wt_ages hS3 hI hl ?_ (G 0) 0 (by omega)
    refine xr_iload xi_90_117 rfl ?_
    refine xr_iload xi_90_119 rfl ?_
    refine xr_iand xi_90_121 (h1) ?_
    refine xr_if_ne xi_90_122 (by first | exact tI_n (by omega) | exact tI_d (by omega) | assumption | exact tI_e1 | exact tI_e2 | exact tI_e3 | exact tI_e4) (fun c_ => by exfalso; omega) (fun c_ => ?_)
    refine xr_iload xi_90_125 rfl ?_
    refine xr_stat xi_90_127 (by decide) rfl rfl (Nat.le_of_ble_eq_true rfl) (Nat.le_of_ble_eq_true rfl) ?_
    refine wl_many ?_
    refine xr_k ?_
    refine xr_iload xi_90_130 rfl ?_
    refine xr_stat xi_90_132 (by decide) rfl rfl (Nat.le_of_ble_eq_true rfl) (Nat.le_of_ble_eq_true rfl) ?_
    refine wl_many ?_
    refine xr_k ?_
    refine xr_iadd xi_90_135 (by first | exact nI_add _ _ | exact rfl) ?_
    refine xr_iload xi_90_136 rfl ?_
    refine xr_ic_ne xi_90_138 (by first | exact tI_n (by omega) | exact tI_d (by omega) | assumption | exact tI_e1 | exact tI_e2 | exact tI_e3 | exact tI_e4) (by first | exact tI_n (by omega) | exact tI_d (by omega) | assumption | exact tI_e1 | exact tI_e2 | exact tI_e3 | exact tI_e4) (fun c_ => by exfalso; omega) (fun c_ => ?_)
    refine xr_iload xi_90_141 rfl ?_
    refine xr_aload_n xi_90_143 rfl ?_
    refine xr_iconst (z := nI 0) xi_90_144 rfl ?_
    refine xr_virt xi_90_145 rfl rfl h0 rfl (Nat.le_of_ble_eq_true rfl) (Nat.le_of_ble_eq_true rfl) ?_
    refine wr_need hS3 hI ?_
    refine xr_k ?_
    refine xr_iand xi_90_148 (h2) ?_
    refine xr_if_ne xi_90_149 (by first | exact tI_n (by omega) | exact tI_d (by omega) | assumption | exact tI_e1 | exact tI_e2 | exact tI_e3 | exact tI_e4) (fun c_ => by exfalso; omega) (fun c_ => ?_)
    refine xr_iload xi_90_152 rfl ?_
    refine xr_iload xi_90_154 rfl ?_
    refine xr_stat xi_90_156 (by decide) rfl rfl (Nat.le_of_ble_eq_true rfl) (Nat.le_of_ble_eq_true rfl) ?_
    refine wl_many ?_
    refine xr_k ?_
    refine xr_ic_le xi_90_159 (by first | exact tI_n (by omega) | exact tI_d (by omega) | assumption | exact tI_e1 | exact tI_e2 | exact tI_e3 | exact tI_e4) (by first | exact tI_n (by omega) | exact tI_d (by omega) | assumption | exact tI_e1 | exact tI_e2 | exact tI_e3 | exact tI_e4) (fun c_ => ?_) (fun c_ => by exfalso; omega)
    exact wt_do hS3 hG hl ha hQ
  by_cases e : a = 0
  · subst e
    have := sYoung_0 hI
    have e2 : nI (cnt (sAged G 1) 30) + nI 0 = nI (cnt (sAged G 1) 30) := nI_add _ _
    refine xr_istore xi_90_27 (Nat.le_of_ble_eq_true rfl) rfl ?_
    refine xr_aload_n xi_90_29 rfl ?_
    refine xr_bipush (z := nI 11) xi_90_30 rfl ?_
    refine xr_virt xi_90_32 rfl rfl h0 rfl (Nat.le_of_ble_eq_true rfl) (Nat.le_of_ble_eq_true rfl) ?_
    refine wr_count hS3 hI hl (by omega) qC11 ?_
    refine xr_k ?_
    refine xr_istore xi_90_35 (Nat.le_of_ble_eq_true rfl) rfl ?_
    refine xr_aload_n xi_90_37 rfl ?_
    refine xr_iconst (z := nI 5) xi_90_38 rfl ?_
    refine xr_virt xi_90_39 rfl rfl h0 rfl (Nat.le_of_ble_eq_true rfl) (Nat.le_of_ble_eq_true rfl) ?_
    refine wr_count hS3 hI hl (by omega) qC5 ?_
    refine xr_k ?_
    refine xr_istore xi_90_42 (Nat.le_of_ble_eq_true rfl) rfl ?_
    refine xr_aload_n xi_90_44 rfl ?_
    refine xr_iconst (z := nI 3) xi_90_45 rfl ?_
    refine xr_virt xi_90_46 rfl rfl h0 rfl (Nat.le_of_ble_eq_true rfl) (Nat.le_of_ble_eq_true rfl) ?_
    refine wr_count hS3 hI hl (by omega) qC3 ?_
    refine xr_k ?_
    refine xr_iload_n xi_90_49 rfl ?_
    refine xr_iconst (z := nI 1) xi_90_50 rfl ?_
    refine xr_ic_ne xi_90_51 (by first | exact tI_n (by omega) | exact tI_d (by omega) | assumption | exact tI_e1 | exact tI_e2 | exact tI_e3 | exact tI_e4) (by first | exact tI_n (by omega) | exact tI_d (by omega) | assumption | exact tI_e1 | exact tI_e2 | exact tI_e3 | exact tI_e4) (fun c_ => ?_) (fun c_ => by exfalso; omega)
    refine xr_iconst (z := nI 0) xi_90_62 rfl ?_
    refine xr_iadd xi_90_63 (e2) ?_
    exact k64 _ (by omega)
  · have e : a = 1 := by omega
    subst e
    have := sYoung_1 hI
    refine xr_istore xi_90_27 (Nat.le_of_ble_eq_true rfl) rfl ?_
    refine xr_aload_n xi_90_29 rfl ?_
    refine xr_bipush (z := nI 11) xi_90_30 rfl ?_
    refine xr_virt xi_90_32 rfl rfl h0 rfl (Nat.le_of_ble_eq_true rfl) (Nat.le_of_ble_eq_true rfl) ?_
    refine wr_count hS3 hI hl (by omega) qC11 ?_
    refine xr_k ?_
    refine xr_istore xi_90_35 (Nat.le_of_ble_eq_true rfl) rfl ?_
    refine xr_aload_n xi_90_37 rfl ?_
    refine xr_iconst (z := nI 5) xi_90_38 rfl ?_
    refine xr_virt xi_90_39 rfl rfl h0 rfl (Nat.le_of_ble_eq_true rfl) (Nat.le_of_ble_eq_true rfl) ?_
    refine wr_count hS3 hI hl (by omega) qC5 ?_
    refine xr_k ?_
    refine xr_istore xi_90_42 (Nat.le_of_ble_eq_true rfl) rfl ?_
    refine xr_aload_n xi_90_44 rfl ?_
    refine xr_iconst (z := nI 3) xi_90_45 rfl ?_
    refine xr_virt xi_90_46 rfl rfl h0 rfl (Nat.le_of_ble_eq_true rfl) (Nat.le_of_ble_eq_true rfl) ?_
    refine wr_count hS3 hI hl (by omega) qC3 ?_
    refine xr_k ?_
    refine xr_iload_n xi_90_49 rfl ?_
    refine xr_iconst (z := nI 1) xi_90_50 rfl ?_
    refine xr_ic_ne xi_90_51 (by first | exact tI_n (by omega) | exact tI_d (by omega) | assumption | exact tI_e1 | exact tI_e2 | exact tI_e3 | exact tI_e4) (by first | exact tI_n (by omega) | exact tI_d (by omega) | assumption | exact tI_e1 | exact tI_e2 | exact tI_e3 | exact tI_e4) (fun c_ => by exfalso; omega) (fun c_ => ?_)
    refine xr_aload_n xi_90_54 rfl ?_
    refine xr_iconst (z := nI 4) xi_90_55 rfl ?_
    refine xr_virt xi_90_56 rfl rfl h0 rfl (Nat.le_of_ble_eq_true rfl) (Nat.le_of_ble_eq_true rfl) ?_
    refine wr_count hS3 hI hl (by omega) qC4 ?_
    refine xr_k ?_
    refine xr_goto xi_90_59 ?_
    refine xr_iadd xi_90_63 (nI_add _ _) ?_
    exact k64 _ (by omega)
end WT
