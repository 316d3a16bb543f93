/-! the law's isSound: what is told hangs together -/
section QT
variable {G : Nat → Nat} {t s : Nat}
theorem qT0 (h : sLive G t) : qThing G t 0 = nI 1 := if_pos (cd_t.mpr h)
theorem qT0n (h : ¬ sLive G t) : qThing G t 0 = nI 0 := if_neg (fun q => h (cd_t.mp q))
theorem qT1 (h : sLive G t) : qThing G t 1 = nI (10 * sHome G t + (G (ri t 0) - 1) % 5) := if_pos (cd_t.mpr h)
theorem qT1n (h : ¬ sLive G t) : qThing G t 1 = xE4 := if_neg (fun q => h (cd_t.mp q))
theorem qT2 (hI : sInv G) (h : sLive G t) : qThing G t 2 = nI (sAge G t - 1) := (if_pos (cd_t.mpr h)).trans (dI_pos (hI.g h))
theorem qTs0 (hs : s < 3) (h : G (ri t (2 + s)) = 0) : qThing G t (4 + s) = xE4 := by rw [qThing_t hs, if_pos h]
theorem qTs1 {u : Nat} (hs : s < 3) (h : G (ri t (2 + s)) = u + 1) : qThing G t (4 + s) = nI u := by rw [qThing_t hs, if_neg (by omega), h, dI_1]
theorem qH0 {k : Nat} (h : G (4 + k) = 0) : qHouse G k 0 = xE4 := if_pos h
theorem qH1 {k : Nat} (h : 0 < G (4 + k)) : qHouse G k 0 = nI (G (4 + k) - 1) := (if_neg (by omega)).trans (dI_pos h)
theorem qT3 : qThing G t 3 = nI (G (ri t 1)) := rfl
theorem qT7 : qThing G t 7 = mk (sHset G t) := rfl
theorem qT8 : qThing G t 8 = mk (sTfrom G t) := rfl
theorem qT9 : qThing G t 9 = nI (G (ri t 5)) := rfl
theorem qHn {k : Nat} : qHouse G k 1 = nI (cnt (sInH G k) 30) := rfl
theorem qHs {k : Nat} : qHouse G k 2 = mk (sInH G k) := rfl
theorem qC0 {st ln : Nat} : qCount G st ln 0 = nI (G 0) := rfl
theorem qC2 {st ln : Nat} : qCount G st ln 2 = nI (cnt (sPin G) 30) := rfl
theorem qC3 {st ln : Nat} : qCount G st ln 3 = nI (cnt (sAged G 1) 30) := rfl
theorem qC4 {st ln : Nat} : qCount G st ln 4 = nI (cnt (sAged G 2) 30) := rfl
theorem qC5 {st ln : Nat} : qCount G st ln 5 = nI (cnt (sAged G 3) 30) := rfl
theorem qC11 {st ln : Nat} : qCount G st ln 11 = nI (G 3) := rfl
theorem qC13 {st ln : Nat} : qCount G st ln 13 = nI ln := rfl
theorem qHa (hI : sInv G) (h : sLive G t) : qHouse G (sHome G t) 0 = nI (sAge G t - 1) := qH1 (hI.g h)
theorem qHp {k q : Nat} (hq : q < 5) : qHouse G k (3 + q) = qAt G (5 * k + q) := by
  have : q = 0 ∨ q = 1 ∨ q = 2 ∨ q = 3 ∨ q = 4 := by omega
  rcases this with rfl | rfl | rfl | rfl | rfl <;> rfl
theorem at_div {h q : Nat} (hh : h < 8) (hq : q < 5) : nI (10 * h + q) / nI 10 = nI h := by
  rw [pk_div (by omega) (by omega) (by omega), show (10 * h + q) / 10 = h by omega]
theorem at_rem {h q : Nat} (hh : h < 8) (hq : q < 5) : nI (10 * h + q) - nI (10 * h + q) / nI 10 * nI 10 = nI q := by
  rw [pk_rem (by omega) (by omega) (by omega), show (10 * h + q) % 10 = q by omega]
theorem pin_or (hI : sInv G) (ht : t < 30) : mk (fun u => u < t ∧ sPin G u) ||| (nI (G (ri t 1)) <<< (nI t &&& 31)) = mk (fun u => u < t + 1 ∧ sPin G u) := by
  by_cases c : sPin G t
  · rw [c.2]
    exact mk_step1 ht c
  · have h0 : G (ri t 1) = 0 := by
      refine Nat.eq_zero_of_not_pos fun q => c ⟨(hI.p ht).2 q, ?_⟩
      have := (hI.p ht).1
      omega
    rw [h0]
    have e : nI 0 <<< (nI t &&& 31) = nI 0 := b_ext (fun i hi => by
      rw [b_shl t (by omega) _ hi]
      have hz : ∀ j, bt (nI 0) j = false := b_0
      rw [hz, hz, Bool.and_false])
    rw [e]
    exact mk_step0 c
end QT
section SD
variable {L : Nat} {xs : Nat → Int32} {Q : Option Value → xm_H → Prop} {ln st : Nat} {tx Z G : Nat → Nat} {H : xm_H}
theorem ws_k {t : Nat} {e : Int32} {a1 a2 a3 a5 x7 : Value} (hS : wS H tx ln st Z G) (hI : sInv G) (ht : t < G 0) (he : sLive G t → e = nI 1)
    (hk : ∀ x9 x10, xw L xs 88 330 [.ref 0, a1, a2, a3, .int (nI (cnt (sNf G) (3 * (t + 1)))), a5, .int (nI t), x7, .int e, x9, x10] [] H Q) : ∀ d s x10, s + d = 3 → xw L xs 88 237 [.ref 0, a1, a2, a3, .int (nI (cnt (sNf G) (3 * t + s))), a5, .int (nI t), x7, .int e, .int (nI (4 + s)), x10] [] H Q := by
  obtain ⟨f0, h0⟩ := hS.h0
  have hc := hI.c
  intro d
  induction d with
  | zero =>
    intro s x10 hs
    have e : s = 3 := by omega
    subst e
    refine xr_iload xi_88_237 rfl ?_
    refine xr_bipush (z := nI 7) xi_88_239 rfl ?_
    refine xr_ic_ge xi_88_241 (by first | exact tI_n (by omega) | exact tI_d (by omega) | assumption | exact tI_e1 | exact tI_e2 | exact tI_e3 | exact tI_e4) (by first | exact tI_n (by omega) | exact tI_d (by omega) | assumption | exact tI_e1 | exact tI_e2 | exact tI_e3 | exact tI_e4) (fun c_ => ?_) (fun c_ => by exfalso; omega)
    exact hk _ _
  | succ d ih =>
    intro s x10 hs
    have e1 : (3 * t + s) / 3 = t := by omega
    have e2 : (3 * t + s) % 3 = s := by omega
    have e3 : sNf G (3 * t + s) ↔ sNoted G t s := by unfold sNf; rw [e1, e2]
    by_cases hv : G (ri t (2 + s)) = 0
    · have hn : ¬ sNf G (3 * t + s) := fun q => by have := (e3.mp q).2.1; omega
      refine xr_iload xi_88_237 rfl ?_
      refine xr_bipush (z := nI 7) xi_88_239 rfl ?_
      refine xr_ic_ge xi_88_241 (by first | exact tI_n (by omega) | exact tI_d (by omega) | assumption | exact tI_e1 | exact tI_e2 | exact tI_e3 | exact tI_e4) (by first | exact tI_n (by omega) | exact tI_d (by omega) | assumption | exact tI_e1 | exact tI_e2 | exact tI_e3 | exact tI_e4) (fun c_ => by exfalso; omega) (fun c_ => ?_)
      refine xr_aload_n xi_88_244 rfl ?_
      refine xr_iload xi_88_245 rfl ?_
      refine xr_iload xi_88_247 rfl ?_
      refine xr_virt xi_88_249 rfl rfl h0 rfl (Nat.le_of_ble_eq_true rfl) (Nat.le_of_ble_eq_true rfl) ?_
      refine wr_thing hS hI ht (by omega) (qTs0 (by omega) hv) ?_
      refine xr_k ?_
      refine xr_istore xi_88_252 (Nat.le_of_ble_eq_true rfl) rfl ?_
      refine xr_iload xi_88_254 rfl ?_
      refine xr_if_lt xi_88_256 (by first | exact tI_n (by omega) | exact tI_d (by omega) | assumption | exact tI_e1 | exact tI_e2 | exact tI_e3 | exact tI_e4) (fun c_ => ?_) (fun c_ => by exfalso; omega)
      refine xr_iload xi_88_292 rfl ?_
      refine xr_iload xi_88_294 rfl ?_
      refine xr_if_lt xi_88_296 (by first | exact tI_n (by omega) | exact tI_d (by omega) | assumption | exact tI_e1 | exact tI_e2 | exact tI_e3 | exact tI_e4) (fun c_ => ?_) (fun c_ => by exfalso; omega)
      refine xr_iconst (z := nI 0) xi_88_320 rfl ?_
      refine xr_iadd xi_88_321 (cnt_s0 hn) ?_
      refine xr_istore xi_88_322 (Nat.le_of_ble_eq_true rfl) rfl ?_
      refine xr_iinc xi_88_324 rfl (by first | exact nI_1 _ | exact rfl) rfl ?_
      refine xr_goto xi_88_327 ?_
      exact ih (s + 1) _ (by omega)
    · obtain ⟨u, hu⟩ : ∃ u, G (ri t (2 + s)) = u + 1 := ⟨G (ri t (2 + s)) - 1, by omega⟩
      obtain ⟨hlt, hlu⟩ := (hI.t (t := t) (k := s) (by omega) (by omega)).2 (by omega)
      rw [hu, Nat.add_sub_cancel] at hlu
      have he := he hlt
      subst he
      have hu30 := hI.lt hlu
      have g1 := hI.g hlt
      have g2 := hI.g hlu
      have g3 := hI.ag (hI.lt hlt)
      have g4 := hI.ag (hI.lt hlu)
      have hb : (mk (sTfrom G u) >>> (nI t &&& 31)) &&& nI 1 = nI 1 := by
        rcases mk_test (sTfrom G u) (n := t) (by omega) with ⟨a, -⟩ | ⟨-, a⟩
        · exact a
        · exact absurd ⟨ht, s, by omega, hu⟩ a
      have e4 : sNoted G t s ↔ sAge G u < sAge G t := by
        unfold sNoted
        rw [hu, Nat.add_sub_cancel]
        exact ⟨fun q => q.2.2, fun q => ⟨hlt, by omega, q⟩⟩
      refine xr_iload xi_88_237 rfl ?_
      refine xr_bipush (z := nI 7) xi_88_239 rfl ?_
      refine xr_ic_ge xi_88_241 (by first | exact tI_n (by omega) | exact tI_d (by omega) | assumption | exact tI_e1 | exact tI_e2 | exact tI_e3 | exact tI_e4) (by first | exact tI_n (by omega) | exact tI_d (by omega) | assumption | exact tI_e1 | exact tI_e2 | exact tI_e3 | exact tI_e4) (fun c_ => by exfalso; omega) (fun c_ => ?_)
      refine xr_aload_n xi_88_244 rfl ?_
      refine xr_iload xi_88_245 rfl ?_
      refine xr_iload xi_88_247 rfl ?_
      refine xr_virt xi_88_249 rfl rfl h0 rfl (Nat.le_of_ble_eq_true rfl) (Nat.le_of_ble_eq_true rfl) ?_
      refine wr_thing hS hI ht (by omega) (qTs1 (by omega) hu) ?_
      refine xr_k ?_
      refine xr_istore xi_88_252 (Nat.le_of_ble_eq_true rfl) rfl ?_
      refine xr_iload xi_88_254 rfl ?_
      refine xr_if_lt xi_88_256 (by first | exact tI_n (by omega) | exact tI_d (by omega) | assumption | exact tI_e1 | exact tI_e2 | exact tI_e3 | exact tI_e4) (fun c_ => by exfalso; omega) (fun c_ => ?_)
      refine xr_iload xi_88_259 rfl ?_
      refine xr_if_eq xi_88_261 (by first | exact tI_n (by omega) | exact tI_d (by omega) | assumption | exact tI_e1 | exact tI_e2 | exact tI_e3 | exact tI_e4) (fun c_ => by exfalso; omega) (fun c_ => ?_)
      refine xr_aload_n xi_88_264 rfl ?_
      refine xr_iload xi_88_265 rfl ?_
      refine xr_iconst (z := nI 0) xi_88_267 rfl ?_
      refine xr_virt xi_88_268 rfl rfl h0 rfl (Nat.le_of_ble_eq_true rfl) (Nat.le_of_ble_eq_true rfl) ?_
      refine wr_thing hS hI hlu.1 (by omega) (qT0 hlu) ?_
      refine xr_k ?_
      refine xr_if_eq xi_88_271 (by first | exact tI_n (by omega) | exact tI_d (by omega) | assumption | exact tI_e1 | exact tI_e2 | exact tI_e3 | exact tI_e4) (fun c_ => by exfalso; omega) (fun c_ => ?_)
      refine xr_aload_n xi_88_274 rfl ?_
      refine xr_iload xi_88_275 rfl ?_
      refine xr_bipush (z := nI 8) xi_88_277 rfl ?_
      refine xr_virt xi_88_279 rfl rfl h0 rfl (Nat.le_of_ble_eq_true rfl) (Nat.le_of_ble_eq_true rfl) ?_
      refine wr_thing hS hI hlu.1 (by omega) qT8 ?_
      refine xr_k ?_
      refine xr_iload xi_88_282 rfl ?_
      refine xr_ishr xi_88_284 rfl ?_
      refine xr_iconst (z := nI 1) xi_88_285 rfl ?_
      refine xr_iand xi_88_286 (hb) ?_
      refine xr_if_ne xi_88_287 (by first | exact tI_n (by omega) | exact tI_d (by omega) | assumption | exact tI_e1 | exact tI_e2 | exact tI_e3 | exact tI_e4) (fun c_ => ?_) (fun c_ => by exfalso; omega)
      refine xr_iload xi_88_292 rfl ?_
      refine xr_iload xi_88_294 rfl ?_
      refine xr_if_lt xi_88_296 (by first | exact tI_n (by omega) | exact tI_d (by omega) | assumption | exact tI_e1 | exact tI_e2 | exact tI_e3 | exact tI_e4) (fun c_ => by exfalso; omega) (fun c_ => ?_)
      refine xr_aload_n xi_88_299 rfl ?_
      refine xr_iload xi_88_300 rfl ?_
      refine xr_iconst (z := nI 2) xi_88_302 rfl ?_
      refine xr_virt xi_88_303 rfl rfl h0 rfl (Nat.le_of_ble_eq_true rfl) (Nat.le_of_ble_eq_true rfl) ?_
      refine wr_thing hS hI hlu.1 (by omega) (qT2 hI hlu) ?_
      refine xr_k ?_
      by_cases hn : sNf G (3 * t + s)
      · have := e4.mp (e3.mp hn)
        refine xr_aload_n xi_88_306 rfl ?_
        refine xr_iload xi_88_307 rfl ?_
        refine xr_iconst (z := nI 2) xi_88_309 rfl ?_
        refine xr_virt xi_88_310 rfl rfl h0 rfl (Nat.le_of_ble_eq_true rfl) (Nat.le_of_ble_eq_true rfl) ?_
        refine wr_thing hS hI ht (by omega) (qT2 hI hlt) ?_
        refine xr_k ?_
        refine xr_ic_ge xi_88_313 (by first | exact tI_n (by omega) | exact tI_d (by omega) | assumption | exact tI_e1 | exact tI_e2 | exact tI_e3 | exact tI_e4) (by first | exact tI_n (by omega) | exact tI_d (by omega) | assumption | exact tI_e1 | exact tI_e2 | exact tI_e3 | exact tI_e4) (fun c_ => by exfalso; omega) (fun c_ => ?_)
        refine xr_iconst (z := nI 1) xi_88_316 rfl ?_
        refine xr_goto xi_88_317 ?_
        refine xr_iadd xi_88_321 (cnt_s1 hn) ?_
        refine xr_istore xi_88_322 (Nat.le_of_ble_eq_true rfl) rfl ?_
        refine xr_iinc xi_88_324 rfl (by first | exact nI_1 _ | exact rfl) rfl ?_
        refine xr_goto xi_88_327 ?_
        exact ih (s + 1) _ (by omega)
      · have : ¬ sAge G u < sAge G t := fun q => hn (e3.mpr (e4.mpr q))
        refine xr_aload_n xi_88_306 rfl ?_
        refine xr_iload xi_88_307 rfl ?_
        refine xr_iconst (z := nI 2) xi_88_309 rfl ?_
        refine xr_virt xi_88_310 rfl rfl h0 rfl (Nat.le_of_ble_eq_true rfl) (Nat.le_of_ble_eq_true rfl) ?_
        refine wr_thing hS hI ht (by omega) (qT2 hI hlt) ?_
        refine xr_k ?_
        refine xr_ic_ge xi_88_313 (by first | exact tI_n (by omega) | exact tI_d (by omega) | assumption | exact tI_e1 | exact tI_e2 | exact tI_e3 | exact tI_e4) (by first | exact tI_n (by omega) | exact tI_d (by omega) | assumption | exact tI_e1 | exact tI_e2 | exact tI_e3 | exact tI_e4) (fun c_ => ?_) (fun c_ => by exfalso; omega)
        refine xr_iconst (z := nI 0) xi_88_320 rfl ?_
        refine xr_iadd xi_88_321 (cnt_s0 hn) ?_
        refine xr_istore xi_88_322 (Nat.le_of_ble_eq_true rfl) rfl ?_
        refine xr_iinc xi_88_324 rfl (by first | exact nI_1 _ | exact rfl) rfl ?_
        refine xr_goto xi_88_327 ?_
        exact ih (s + 1) _ (by omega)
theorem ws_one {t : Nat} (hS : wS H tx ln st Z G) (hI : sInv G) (hl : ln ≤ 60) (ht : t < G 0)
    (hk : ∀ x7 x8 x9 x10, xw L xs 88 15 [.ref 0, .int (mk (fun u => u < t + 1 ∧ sLive G u)), .int (mk (fun u => u < t + 1 ∧ sPin G u)), .int (mk (fun u => u < t + 1 ∧ sHeld G u)), .int (nI (cnt (sNf G) (3 * (t + 1)))), .int (nI (sumN (fun t => G (ri t 5)) (t + 1))), .int (nI (t + 1)), x7, x8, x9, x10] [] H Q) : ∀ x7 x8 x9 x10, xw L xs 88 15 [.ref 0, .int (mk (fun u => u < t ∧ sLive G u)), .int (mk (fun u => u < t ∧ sPin G u)), .int (mk (fun u => u < t ∧ sHeld G u)), .int (nI (cnt (sNf G) (3 * t))), .int (nI (sumN (fun t => G (ri t 5)) t)), .int (nI t), x7, x8, x9, x10] [] H Q := by
  intro x7 x8 x9 x10
  obtain ⟨f0, h0⟩ := hS.h0
  have hc := hI.c
  have ht30 : t < 30 := by omega
  have hm := (mk_pos (P := sHset G t)).1
  have hm2 := (mk_pos (P := sHset G t)).2
  have hsh : sHeld G t ↔ ∃ k, k < 30 ∧ sHset G t k := ⟨fun ⟨k, a, b⟩ => ⟨k, by omega, a, b⟩, fun ⟨k, a, b, c⟩ => ⟨k, b, c⟩⟩
  by_cases hlv : sLive G t
  · have hh8 := hI.ho ht30
    have hq5 : (G (ri t 0) - 1) % 5 < 5 := by omega
    have hag := hI.ag ht30
    have hb : (mk (sInH G (sHome G t)) >>> (nI t &&& 31)) &&& nI 1 = nI 1 := by
      rcases mk_test (sInH G (sHome G t)) (n := t) ht30 with ⟨a, -⟩ | ⟨-, a⟩
      · exact a
      · exact absurd ⟨hlv, rfl⟩ a
    have k87 : ∀ x9 x10, xw L xs 88 87 [.ref 0, .int (mk (fun u => u < t ∧ sLive G u)), .int (mk (fun u => u < t ∧ sPin G u)), .int (mk (fun u => u < t + 1 ∧ sHeld G u)), .int (nI (cnt (sNf G) (3 * t))), .int (nI (sumN (fun t => G (ri t 5)) (t + 1))), .int (nI t), .int (nI (10 * sHome G t + (G (ri t 0) - 1) % 5)), .int (nI 1), x9, x10] [] H Q := by
      intro x9 x10
      refine xr_iload_n xi_88_87 rfl ?_
      refine xr_aload_n xi_88_88 rfl ?_
      refine xr_iload xi_88_89 rfl ?_
      refine xr_iconst (z := nI 3) xi_88_91 rfl ?_
      refine xr_virt xi_88_92 rfl rfl h0 rfl (Nat.le_of_ble_eq_true rfl) (Nat.le_of_ble_eq_true rfl) ?_
      refine wr_thing hS hI ht (by omega) qT3 ?_
      refine xr_k ?_
      refine xr_iload xi_88_95 rfl ?_
      refine xr_ishl xi_88_97 rfl ?_
      refine xr_ior xi_88_98 (pin_or hI ht30) ?_
      refine xr_istore_n xi_88_99 (Nat.le_of_ble_eq_true rfl) rfl ?_
      refine xr_iload xi_88_100 rfl ?_
      refine xr_iload xi_88_102 rfl ?_
      refine xr_if_lt xi_88_104 (by first | exact tI_n (by omega) | exact tI_d (by omega) | assumption | exact tI_e1 | exact tI_e2 | exact tI_e3 | exact tI_e4) (fun c_ => by exfalso; omega) (fun c_ => ?_)
      refine xr_iconst (z := nI 1) xi_88_107 rfl ?_
      refine xr_goto xi_88_108 ?_
      refine xr_ic_ne xi_88_112 (by first | exact tI_n (by omega) | exact tI_d (by omega) | assumption | exact tI_e1 | exact tI_e2 | exact tI_e3 | exact tI_e4) (by first | exact tI_n (by omega) | exact tI_d (by omega) | assumption | exact tI_e1 | exact tI_e2 | exact tI_e3 | exact tI_e4) (fun c_ => by exfalso; omega) (fun c_ => ?_)
      refine xr_iload xi_88_115 rfl ?_
      refine xr_if_eq xi_88_117 (by first | exact tI_n (by omega) | exact tI_d (by omega) | assumption | exact tI_e1 | exact tI_e2 | exact tI_e3 | exact tI_e4) (fun c_ => by exfalso; omega) (fun c_ => ?_)
      refine xr_aload_n xi_88_120 rfl ?_
      refine xr_iload xi_88_121 rfl ?_
      refine xr_bipush (z := nI 10) xi_88_123 rfl ?_
      refine xr_idiv xi_88_125 (by decide) (at_div hh8 hq5) ?_
      refine xr_iconst (z := nI 3) xi_88_126 rfl ?_
      refine xr_iload xi_88_127 rfl ?_
      refine xr_bipush (z := nI 10) xi_88_129 rfl ?_
      refine xr_irem xi_88_131 (by decide) (at_rem hh8 hq5) ?_
      refine xr_iadd xi_88_132 (by first | exact nI_add _ _ | exact rfl) ?_
      refine xr_virt xi_88_133 rfl rfl h0 rfl (Nat.le_of_ble_eq_true rfl) (Nat.le_of_ble_eq_true rfl) ?_
      refine wr_house hS hI hh8 (by omega) ((qHp hq5).trans (qAt_t hI hlv)) ?_
      refine xr_k ?_
      refine xr_iload xi_88_136 rfl ?_
      refine xr_ic_ne xi_88_138 (by first | exact tI_n (by omega) | exact tI_d (by omega) | assumption | exact tI_e1 | exact tI_e2 | exact tI_e3 | exact tI_e4) (by first | exact tI_n (by omega) | exact tI_d (by omega) | assumption | exact tI_e1 | exact tI_e2 | exact tI_e3 | exact tI_e4) (fun c_ => by exfalso; omega) (fun c_ => ?_)
      refine xr_aload_n xi_88_141 rfl ?_
      refine xr_iload xi_88_142 rfl ?_
      refine xr_bipush (z := nI 10) xi_88_144 rfl ?_
      refine xr_idiv xi_88_146 (by decide) (at_div hh8 hq5) ?_
      refine xr_iconst (z := nI 0) xi_88_147 rfl ?_
      refine xr_virt xi_88_148 rfl rfl h0 rfl (Nat.le_of_ble_eq_true rfl) (Nat.le_of_ble_eq_true rfl) ?_
      refine wr_house hS hI hh8 (by omega) (qHa hI hlv) ?_
      refine xr_k ?_
      refine xr_aload_n xi_88_151 rfl ?_
      refine xr_iload xi_88_152 rfl ?_
      refine xr_iconst (z := nI 2) xi_88_154 rfl ?_
      refine xr_virt xi_88_155 rfl rfl h0 rfl (Nat.le_of_ble_eq_true rfl) (Nat.le_of_ble_eq_true rfl) ?_
      refine wr_thing hS hI ht (by omega) (qT2 hI hlv) ?_
      refine xr_k ?_
      refine xr_ic_ne xi_88_158 (by first | exact tI_n (by omega) | exact tI_d (by omega) | assumption | exact tI_e1 | exact tI_e2 | exact tI_e3 | exact tI_e4) (by first | exact tI_n (by omega) | exact tI_d (by omega) | assumption | exact tI_e1 | exact tI_e2 | exact tI_e3 | exact tI_e4) (fun c_ => by exfalso; omega) (fun c_ => ?_)
      refine xr_aload_n xi_88_161 rfl ?_
      refine xr_iload xi_88_162 rfl ?_
      refine xr_bipush (z := nI 10) xi_88_164 rfl ?_
      refine xr_idiv xi_88_166 (by decide) (at_div hh8 hq5) ?_
      refine xr_iconst (z := nI 2) xi_88_167 rfl ?_
      refine xr_virt xi_88_168 rfl rfl h0 rfl (Nat.le_of_ble_eq_true rfl) (Nat.le_of_ble_eq_true rfl) ?_
      refine wr_house hS hI hh8 (by omega) qHs ?_
      refine xr_k ?_
      refine xr_iload xi_88_171 rfl ?_
      refine xr_ishr xi_88_173 rfl ?_
      refine xr_iconst (z := nI 1) xi_88_174 rfl ?_
      refine xr_iand xi_88_175 (hb) ?_
      refine xr_if_eq xi_88_176 (by first | exact tI_n (by omega) | exact tI_d (by omega) | assumption | exact tI_e1 | exact tI_e2 | exact tI_e3 | exact tI_e4) (fun c_ => by exfalso; omega) (fun c_ => ?_)
      refine xr_iload xi_88_179 rfl ?_
      refine xr_if_ne xi_88_181 (by first | exact tI_n (by omega) | exact tI_d (by omega) | assumption | exact tI_e1 | exact tI_e2 | exact tI_e3 | exact tI_e4) (fun c_ => ?_) (fun c_ => by exfalso; omega)
      refine xr_iload_n xi_88_218 rfl ?_
      refine xr_iload xi_88_219 rfl ?_
      refine xr_if_eq xi_88_221 (by first | exact tI_n (by omega) | exact tI_d (by omega) | assumption | exact tI_e1 | exact tI_e2 | exact tI_e3 | exact tI_e4) (fun c_ => by exfalso; omega) (fun c_ => ?_)
      refine xr_iconst (z := nI 1) xi_88_224 rfl ?_
      refine xr_iload xi_88_225 rfl ?_
      refine xr_ishl xi_88_227 rfl ?_
      refine xr_goto xi_88_228 ?_
      refine xr_ior xi_88_232 (mk_step1 ht30 hlv) ?_
      refine xr_istore_n xi_88_233 (Nat.le_of_ble_eq_true rfl) rfl ?_
      refine xr_iconst (z := nI 4) xi_88_234 rfl ?_
      refine xr_istore xi_88_235 (Nat.le_of_ble_eq_true rfl) rfl ?_
      refine ws_k hS hI ht (fun _ => rfl) (fun x9 x10 => ?_) 3 0 _ rfl
      refine xr_iinc xi_88_330 rfl (by first | exact nI_1 _ | exact rfl) rfl ?_
      refine xr_goto xi_88_333 ?_
      exact hk _ _ _ _
    refine xr_iload xi_88_15 rfl ?_
    refine xr_aload_n xi_88_17 rfl ?_
    refine xr_iconst (z := nI 0) xi_88_18 rfl ?_
    refine xr_virt xi_88_19 rfl rfl h0 rfl (Nat.le_of_ble_eq_true rfl) (Nat.le_of_ble_eq_true rfl) ?_
    refine wr_count hS hI hl (by omega) qC0 ?_
    refine xr_k ?_
    refine xr_ic_ge xi_88_22 (by first | exact tI_n (by omega) | exact tI_d (by omega) | assumption | exact tI_e1 | exact tI_e2 | exact tI_e3 | exact tI_e4) (by first | exact tI_n (by omega) | exact tI_d (by omega) | assumption | exact tI_e1 | exact tI_e2 | exact tI_e3 | exact tI_e4) (fun c_ => by exfalso; omega) (fun c_ => ?_)
    refine xr_aload_n xi_88_25 rfl ?_
    refine xr_iload xi_88_26 rfl ?_
    refine xr_iconst (z := nI 1) xi_88_28 rfl ?_
    refine xr_virt xi_88_29 rfl rfl h0 rfl (Nat.le_of_ble_eq_true rfl) (Nat.le_of_ble_eq_true rfl) ?_
    refine wr_thing hS hI ht (by omega) (qT1 hlv) ?_
    refine xr_k ?_
    refine xr_istore xi_88_32 (Nat.le_of_ble_eq_true rfl) rfl ?_
    refine xr_aload_n xi_88_34 rfl ?_
    refine xr_iload xi_88_35 rfl ?_
    refine xr_iconst (z := nI 0) xi_88_37 rfl ?_
    refine xr_virt xi_88_38 rfl rfl h0 rfl (Nat.le_of_ble_eq_true rfl) (Nat.le_of_ble_eq_true rfl) ?_
    refine wr_thing hS hI ht (by omega) (qT0 hlv) ?_
    refine xr_k ?_
    refine xr_iconst (z := nI 1) xi_88_41 rfl ?_
    refine xr_ic_ne xi_88_42 (by first | exact tI_n (by omega) | exact tI_d (by omega) | assumption | exact tI_e1 | exact tI_e2 | exact tI_e3 | exact tI_e4) (by first | exact tI_n (by omega) | exact tI_d (by omega) | assumption | exact tI_e1 | exact tI_e2 | exact tI_e3 | exact tI_e4) (fun c_ => by exfalso; omega) (fun c_ => ?_)
    refine xr_iconst (z := nI 1) xi_88_45 rfl ?_
    refine xr_goto xi_88_46 ?_
    refine xr_istore xi_88_50 (Nat.le_of_ble_eq_true rfl) rfl ?_
    refine xr_iload xi_88_52 rfl ?_
    refine xr_aload_n xi_88_54 rfl ?_
    refine xr_iload xi_88_55 rfl ?_
    refine xr_bipush (z := nI 9) xi_88_57 rfl ?_
    refine xr_virt xi_88_59 rfl rfl h0 rfl (Nat.le_of_ble_eq_true rfl) (Nat.le_of_ble_eq_true rfl) ?_
    refine wr_thing hS hI ht (by omega) qT9 ?_
    refine xr_k ?_
    refine xr_iadd xi_88_62 (by first | exact nI_add _ _ | exact rfl) ?_
    refine xr_istore xi_88_63 (Nat.le_of_ble_eq_true rfl) rfl ?_
    by_cases hh : sHeld G t
    · have hne : ¬ (mk (sHset G t)).toInt = 0 := fun q => by
        obtain ⟨k, a, b⟩ := hsh.mp hh
        exact hm2.mp q k a b
      refine xr_iload_n xi_88_65 rfl ?_
      refine xr_aload_n xi_88_66 rfl ?_
      refine xr_iload xi_88_67 rfl ?_
      refine xr_bipush (z := nI 7) xi_88_69 rfl ?_
      refine xr_virt xi_88_71 rfl rfl h0 rfl (Nat.le_of_ble_eq_true rfl) (Nat.le_of_ble_eq_true rfl) ?_
      refine wr_thing hS hI ht (by omega) qT7 ?_
      refine xr_k ?_
      refine xr_if_le xi_88_74 (rfl) (fun c_ => by exfalso; omega) (fun c_ => ?_)
      refine xr_iconst (z := nI 1) xi_88_77 rfl ?_
      refine xr_iload xi_88_78 rfl ?_
      refine xr_ishl xi_88_80 rfl ?_
      refine xr_goto xi_88_81 ?_
      refine xr_ior xi_88_85 (mk_step1 ht30 hh) ?_
      refine xr_istore_n xi_88_86 (Nat.le_of_ble_eq_true rfl) rfl ?_
      exact k87 _ _
    · have hz : (mk (sHset G t)).toInt = 0 := hm2.mpr (fun k a b => hh (hsh.mpr ⟨k, a, b⟩))
      refine xr_iload_n xi_88_65 rfl ?_
      refine xr_aload_n xi_88_66 rfl ?_
      refine xr_iload xi_88_67 rfl ?_
      refine xr_bipush (z := nI 7) xi_88_69 rfl ?_
      refine xr_virt xi_88_71 rfl rfl h0 rfl (Nat.le_of_ble_eq_true rfl) (Nat.le_of_ble_eq_true rfl) ?_
      refine wr_thing hS hI ht (by omega) qT7 ?_
      refine xr_k ?_
      refine xr_if_le xi_88_74 (rfl) (fun c_ => ?_) (fun c_ => by exfalso; omega)
      refine xr_iconst (z := nI 0) xi_88_84 rfl ?_
      refine xr_ior xi_88_85 (mk_step0 hh) ?_
      refine xr_istore_n xi_88_86 (Nat.le_of_ble_eq_true rfl) rfl ?_
      exact k87 _ _
  · have hz : (mk (sHset G t)).toInt = 0 := hm2.mpr (fun k a ⟨b1, b2⟩ => hlv (by
      have := (hI.h b1).2 (by omega)
      rwa [b2] at this))
    have hh : ¬ sHeld G t := fun q => by
      obtain ⟨k, a, b⟩ := hsh.mp q
      exact hm2.mp hz k a b
    have hz8 : (mk (sTfrom G t)).toInt = 0 := (mk_pos (P := sTfrom G t)).2.mpr (fun k a ⟨b1, s, b2, b3⟩ => hlv (by
      have := ((hI.t (t := k) (k := s) a b2).2 (by omega)).2
      rwa [b3] at this))
    have hp : G (ri t 1) = 0 := Nat.eq_zero_of_not_pos fun q => hlv ((hI.p ht30).2 q)
    refine xr_iload xi_88_15 rfl ?_
    refine xr_aload_n xi_88_17 rfl ?_
    refine xr_iconst (z := nI 0) xi_88_18 rfl ?_
    refine xr_virt xi_88_19 rfl rfl h0 rfl (Nat.le_of_ble_eq_true rfl) (Nat.le_of_ble_eq_true rfl) ?_
    refine wr_count hS hI hl (by omega) qC0 ?_
    refine xr_k ?_
    refine xr_ic_ge xi_88_22 (by first | exact tI_n (by omega) | exact tI_d (by omega) | assumption | exact tI_e1 | exact tI_e2 | exact tI_e3 | exact tI_e4) (by first | exact tI_n (by omega) | exact tI_d (by omega) | assumption | exact tI_e1 | exact tI_e2 | exact tI_e3 | exact tI_e4) (fun c_ => by exfalso; omega) (fun c_ => ?_)
    refine xr_aload_n xi_88_25 rfl ?_
    refine xr_iload xi_88_26 rfl ?_
    refine xr_iconst (z := nI 1) xi_88_28 rfl ?_
    refine xr_virt xi_88_29 rfl rfl h0 rfl (Nat.le_of_ble_eq_true rfl) (Nat.le_of_ble_eq_true rfl) ?_
    refine wr_thing hS hI ht (by omega) (qT1n hlv) ?_
    refine xr_k ?_
    refine xr_istore xi_88_32 (Nat.le_of_ble_eq_true rfl) rfl ?_
    refine xr_aload_n xi_88_34 rfl ?_
    refine xr_iload xi_88_35 rfl ?_
    refine xr_iconst (z := nI 0) xi_88_37 rfl ?_
    refine xr_virt xi_88_38 rfl rfl h0 rfl (Nat.le_of_ble_eq_true rfl) (Nat.le_of_ble_eq_true rfl) ?_
    refine wr_thing hS hI ht (by omega) (qT0n hlv) ?_
    refine xr_k ?_
    refine xr_iconst (z := nI 1) xi_88_41 rfl ?_
    refine xr_ic_ne xi_88_42 (by first | exact tI_n (by omega) | exact tI_d (by omega) | assumption | exact tI_e1 | exact tI_e2 | exact tI_e3 | exact tI_e4) (by first | exact tI_n (by omega) | exact tI_d (by omega) | assumption | exact tI_e1 | exact tI_e2 | exact tI_e3 | exact tI_e4) (fun c_ => ?_) (fun c_ => by exfalso; omega)
    refine xr_iconst (z := nI 0) xi_88_49 rfl ?_
    refine xr_istore xi_88_50 (Nat.le_of_ble_eq_true rfl) rfl ?_
    refine xr_iload xi_88_52 rfl ?_
    refine xr_aload_n xi_88_54 rfl ?_
    refine xr_iload xi_88_55 rfl ?_
    refine xr_bipush (z := nI 9) xi_88_57 rfl ?_
    refine xr_virt xi_88_59 rfl rfl h0 rfl (Nat.le_of_ble_eq_true rfl) (Nat.le_of_ble_eq_true rfl) ?_
    refine wr_thing hS hI ht (by omega) qT9 ?_
    refine xr_k ?_
    refine xr_iadd xi_88_62 (by first | exact nI_add _ _ | exact rfl) ?_
    refine xr_istore xi_88_63 (Nat.le_of_ble_eq_true rfl) rfl ?_
    refine xr_iload_n xi_88_65 rfl ?_
    refine xr_aload_n xi_88_66 rfl ?_
    refine xr_iload xi_88_67 rfl ?_
    refine xr_bipush (z := nI 7) xi_88_69 rfl ?_
    refine xr_virt xi_88_71 rfl rfl h0 rfl (Nat.le_of_ble_eq_true rfl) (Nat.le_of_ble_eq_true rfl) ?_
    refine wr_thing hS hI ht (by omega) qT7 ?_
    refine xr_k ?_
    refine xr_if_le xi_88_74 (rfl) (fun c_ => ?_) (fun c_ => by exfalso; omega)
    refine xr_iconst (z := nI 0) xi_88_84 rfl ?_
    refine xr_ior xi_88_85 (mk_step0 hh) ?_
    refine xr_istore_n xi_88_86 (Nat.le_of_ble_eq_true rfl) rfl ?_
    refine xr_iload_n xi_88_87 rfl ?_
    refine xr_aload_n xi_88_88 rfl ?_
    refine xr_iload xi_88_89 rfl ?_
    refine xr_iconst (z := nI 3) xi_88_91 rfl ?_
    refine xr_virt xi_88_92 rfl rfl h0 rfl (Nat.le_of_ble_eq_true rfl) (Nat.le_of_ble_eq_true rfl) ?_
    refine wr_thing hS hI ht (by omega) qT3 ?_
    refine xr_k ?_
    refine xr_iload xi_88_95 rfl ?_
    refine xr_ishl xi_88_97 rfl ?_
    refine xr_ior xi_88_98 (pin_or hI ht30) ?_
    refine xr_istore_n xi_88_99 (Nat.le_of_ble_eq_true rfl) rfl ?_
    refine xr_iload xi_88_100 rfl ?_
    refine xr_iload xi_88_102 rfl ?_
    refine xr_if_lt xi_88_104 (by first | exact tI_n (by omega) | exact tI_d (by omega) | assumption | exact tI_e1 | exact tI_e2 | exact tI_e3 | exact tI_e4) (fun c_ => ?_) (fun c_ => by exfalso; omega)
    refine xr_iconst (z := nI 0) xi_88_111 rfl ?_
    refine xr_ic_ne xi_88_112 (by first | exact tI_n (by omega) | exact tI_d (by omega) | assumption | exact tI_e1 | exact tI_e2 | exact tI_e3 | exact tI_e4) (by first | exact tI_n (by omega) | exact tI_d (by omega) | assumption | exact tI_e1 | exact tI_e2 | exact tI_e3 | exact tI_e4) (fun c_ => by exfalso; omega) (fun c_ => ?_)
    refine xr_iload xi_88_115 rfl ?_
    refine xr_if_eq xi_88_117 (by first | exact tI_n (by omega) | exact tI_d (by omega) | assumption | exact tI_e1 | exact tI_e2 | exact tI_e3 | exact tI_e4) (fun c_ => ?_) (fun c_ => by exfalso; omega)
    refine xr_iload xi_88_179 rfl ?_
    refine xr_if_ne xi_88_181 (by first | exact tI_n (by omega) | exact tI_d (by omega) | assumption | exact tI_e1 | exact tI_e2 | exact tI_e3 | exact tI_e4) (fun c_ => by exfalso; omega) (fun c_ => ?_)
    refine xr_aload_n xi_88_184 rfl ?_
    refine xr_iload xi_88_185 rfl ?_
    refine xr_bipush (z := nI 7) xi_88_187 rfl ?_
    refine xr_virt xi_88_189 rfl rfl h0 rfl (Nat.le_of_ble_eq_true rfl) (Nat.le_of_ble_eq_true rfl) ?_
    refine wr_thing hS hI ht (by omega) qT7 ?_
    refine xr_k ?_
    refine xr_if_ne xi_88_192 (rfl) (fun c_ => by exfalso; omega) (fun c_ => ?_)
    refine xr_aload_n xi_88_195 rfl ?_
    refine xr_iload xi_88_196 rfl ?_
    refine xr_bipush (z := nI 8) xi_88_198 rfl ?_
    refine xr_virt xi_88_200 rfl rfl h0 rfl (Nat.le_of_ble_eq_true rfl) (Nat.le_of_ble_eq_true rfl) ?_
    refine wr_thing hS hI ht (by omega) qT8 ?_
    refine xr_k ?_
    refine xr_if_ne xi_88_203 (rfl) (fun c_ => by exfalso; omega) (fun c_ => ?_)
    refine xr_aload_n xi_88_206 rfl ?_
    refine xr_iload xi_88_207 rfl ?_
    refine xr_iconst (z := nI 3) xi_88_209 rfl ?_
    refine xr_virt xi_88_210 rfl rfl h0 rfl (Nat.le_of_ble_eq_true rfl) (Nat.le_of_ble_eq_true rfl) ?_
    refine wr_thing hS hI ht (by omega) qT3 ?_
    refine xr_k ?_
    refine xr_if_eq xi_88_213 (by first | exact tI_n (by omega) | exact tI_d (by omega) | assumption | exact tI_e1 | exact tI_e2 | exact tI_e3 | exact tI_e4) (fun c_213 => ?_) (fun c_213 => ?_)
    · refine xr_iload_n xi_88_218 rfl ?_
      refine xr_iload xi_88_219 rfl ?_
      refine xr_if_eq xi_88_221 (by first | exact tI_n (by omega) | exact tI_d (by omega) | assumption | exact tI_e1 | exact tI_e2 | exact tI_e3 | exact tI_e4) (fun c_ => ?_) (fun c_ => by exfalso; omega)
      refine xr_iconst (z := nI 0) xi_88_231 rfl ?_
      refine xr_ior xi_88_232 (mk_step0 hlv) ?_
      refine xr_istore_n xi_88_233 (Nat.le_of_ble_eq_true rfl) rfl ?_
      refine xr_iconst (z := nI 4) xi_88_234 rfl ?_
      refine xr_istore xi_88_235 (Nat.le_of_ble_eq_true rfl) rfl ?_
      refine ws_k hS hI ht (fun q => absurd q hlv) (fun x9 x10 => ?_) 3 0 _ rfl
      refine xr_iinc xi_88_330 rfl (by first | exact nI_1 _ | exact rfl) rfl ?_
      refine xr_goto xi_88_333 ?_
      exact hk _ _ _ _
    · omega
theorem ws_house {k : Nat} {a1 a2 a3 a4 a5 : Value} (hS : wS H tx ln st Z G) (hG : sGd G) (hh : k < 8)
    (hk : ∀ x9 x10, xw L xs 88 345 [.ref 0, a1, a2, a3, a4, a5, .int (nI (sumN (fun h => cnt (sInH G h) 30) (k + 1))), .int (nI (cnt (fun h => G (4 + h) = 0) (k + 1))), .int (nI (k + 1)), x9, x10] [] H Q) : ∀ x9 x10, xw L xs 88 345 [.ref 0, a1, a2, a3, a4, a5, .int (nI (sumN (fun h => cnt (sInH G h) 30) k)), .int (nI (cnt (fun h => G (4 + h) = 0) k)), .int (nI k), x9, x10] [] H Q := by
  intro x9 x10
  obtain ⟨f0, h0⟩ := hS.h0
  have hI := hG.1.1
  have h5 := sInH_5 hI (h := k)
  have ha := hI.a hh
  have hz := sIn_0 hG hh
  by_cases e : G (4 + k) = 0
  · have e0 := hz.mpr e
    refine xr_iload xi_88_345 rfl ?_
    refine xr_bipush (z := nI 8) xi_88_347 rfl ?_
    refine xr_ic_ge xi_88_349 (by first | exact tI_n (by omega) | exact tI_d (by omega) | assumption | exact tI_e1 | exact tI_e2 | exact tI_e3 | exact tI_e4) (by first | exact tI_n (by omega) | exact tI_d (by omega) | assumption | exact tI_e1 | exact tI_e2 | exact tI_e3 | exact tI_e4) (fun c_ => by exfalso; omega) (fun c_ => ?_)
    refine xr_aload_n xi_88_352 rfl ?_
    refine xr_iload xi_88_353 rfl ?_
    refine xr_iconst (z := nI 1) xi_88_355 rfl ?_
    refine xr_virt xi_88_356 rfl rfl h0 rfl (Nat.le_of_ble_eq_true rfl) (Nat.le_of_ble_eq_true rfl) ?_
    refine wr_house hS hI hh (by omega) qHn ?_
    refine xr_k ?_
    refine xr_istore xi_88_359 (Nat.le_of_ble_eq_true rfl) rfl ?_
    refine xr_iload xi_88_361 rfl ?_
    refine xr_iload xi_88_363 rfl ?_
    refine xr_iadd xi_88_365 (by first | exact nI_add _ _ | exact rfl) ?_
    refine xr_istore xi_88_366 (Nat.le_of_ble_eq_true rfl) rfl ?_
    refine xr_iload xi_88_368 rfl ?_
    refine xr_iload xi_88_370 rfl ?_
    refine xr_if_ne xi_88_372 (by first | exact tI_n (by omega) | exact tI_d (by omega) | assumption | exact tI_e1 | exact tI_e2 | exact tI_e3 | exact tI_e4) (fun c_ => by exfalso; omega) (fun c_ => ?_)
    refine xr_iconst (z := nI 1) xi_88_375 rfl ?_
    refine xr_goto xi_88_376 ?_
    refine xr_iadd xi_88_380 (cnt_s1 e) ?_
    refine xr_istore xi_88_381 (Nat.le_of_ble_eq_true rfl) rfl ?_
    refine xr_iload xi_88_383 rfl ?_
    refine xr_if_ne xi_88_385 (by first | exact tI_n (by omega) | exact tI_d (by omega) | assumption | exact tI_e1 | exact tI_e2 | exact tI_e3 | exact tI_e4) (fun c_ => by exfalso; omega) (fun c_ => ?_)
    refine xr_iconst (z := nI 1) xi_88_388 rfl ?_
    refine xr_goto xi_88_389 ?_
    refine xr_aload_n xi_88_393 rfl ?_
    refine xr_iload xi_88_394 rfl ?_
    refine xr_iconst (z := nI 0) xi_88_396 rfl ?_
    refine xr_virt xi_88_397 rfl rfl h0 rfl (Nat.le_of_ble_eq_true rfl) (Nat.le_of_ble_eq_true rfl) ?_
    refine wr_house hS hI hh (by omega) (qH0 e) ?_
    refine xr_k ?_
    refine xr_ldc (z := xE4) xi_88_400 rfl ?_
    refine xr_ic_ne xi_88_402 (by first | exact tI_n (by omega) | exact tI_d (by omega) | assumption | exact tI_e1 | exact tI_e2 | exact tI_e3 | exact tI_e4) (by first | exact tI_n (by omega) | exact tI_d (by omega) | assumption | exact tI_e1 | exact tI_e2 | exact tI_e3 | exact tI_e4) (fun c_ => by exfalso; omega) (fun c_ => ?_)
    refine xr_iconst (z := nI 1) xi_88_405 rfl ?_
    refine xr_goto xi_88_406 ?_
    refine xr_ic_ne xi_88_410 (by first | exact tI_n (by omega) | exact tI_d (by omega) | assumption | exact tI_e1 | exact tI_e2 | exact tI_e3 | exact tI_e4) (by first | exact tI_n (by omega) | exact tI_d (by omega) | assumption | exact tI_e1 | exact tI_e2 | exact tI_e3 | exact tI_e4) (fun c_ => by exfalso; omega) (fun c_ => ?_)
    refine xr_aload_n xi_88_413 rfl ?_
    refine xr_iload xi_88_414 rfl ?_
    refine xr_iconst (z := nI 2) xi_88_416 rfl ?_
    refine xr_virt xi_88_417 rfl rfl h0 rfl (Nat.le_of_ble_eq_true rfl) (Nat.le_of_ble_eq_true rfl) ?_
    refine wr_house hS hI hh (by omega) qHs ?_
    refine xr_k ?_
    refine xr_stat xi_88_420 (by decide) rfl rfl (Nat.le_of_ble_eq_true rfl) (Nat.le_of_ble_eq_true rfl) ?_
    refine wl_many ?_
    refine xr_k ?_
    refine xr_iload xi_88_423 rfl ?_
    refine xr_ic_ne xi_88_425 (by first | exact tI_n (by omega) | exact tI_d (by omega) | assumption | exact tI_e1 | exact tI_e2 | exact tI_e3 | exact tI_e4) (by first | exact tI_n (by omega) | exact tI_d (by omega) | assumption | exact tI_e1 | exact tI_e2 | exact tI_e3 | exact tI_e4) (fun c_ => by exfalso; omega) (fun c_ => ?_)
    refine xr_iload xi_88_428 rfl ?_
    refine xr_iconst (z := nI 5) xi_88_430 rfl ?_
    refine xr_ic_gt xi_88_431 (by first | exact tI_n (by omega) | exact tI_d (by omega) | assumption | exact tI_e1 | exact tI_e2 | exact tI_e3 | exact tI_e4) (by first | exact tI_n (by omega) | exact tI_d (by omega) | assumption | exact tI_e1 | exact tI_e2 | exact tI_e3 | exact tI_e4) (fun c_ => by exfalso; omega) (fun c_ => ?_)
    refine xr_aload_n xi_88_434 rfl ?_
    refine xr_iload xi_88_435 rfl ?_
    refine xr_iconst (z := nI 0) xi_88_437 rfl ?_
    refine xr_virt xi_88_438 rfl rfl h0 rfl (Nat.le_of_ble_eq_true rfl) (Nat.le_of_ble_eq_true rfl) ?_
    refine wr_house hS hI hh (by omega) (qH0 e) ?_
    refine xr_k ?_
    refine xr_iconst (z := nI 2) xi_88_441 rfl ?_
    refine xr_ic_le xi_88_442 (by first | exact tI_n (by omega) | exact tI_d (by omega) | assumption | exact tI_e1 | exact tI_e2 | exact tI_e3 | exact tI_e4) (by first | exact tI_n (by omega) | exact tI_d (by omega) | assumption | exact tI_e1 | exact tI_e2 | exact tI_e3 | exact tI_e4) (fun c_ => ?_) (fun c_ => by exfalso; omega)
    refine xr_iinc xi_88_447 rfl (by first | exact nI_1 _ | exact rfl) rfl ?_
    refine xr_goto xi_88_450 ?_
    exact hk _ _
  · have e0 : ¬ cnt (sInH G k) 30 = 0 := fun q => e (hz.mp q)
    refine xr_iload xi_88_345 rfl ?_
    refine xr_bipush (z := nI 8) xi_88_347 rfl ?_
    refine xr_ic_ge xi_88_349 (by first | exact tI_n (by omega) | exact tI_d (by omega) | assumption | exact tI_e1 | exact tI_e2 | exact tI_e3 | exact tI_e4) (by first | exact tI_n (by omega) | exact tI_d (by omega) | assumption | exact tI_e1 | exact tI_e2 | exact tI_e3 | exact tI_e4) (fun c_ => by exfalso; omega) (fun c_ => ?_)
    refine xr_aload_n xi_88_352 rfl ?_
    refine xr_iload xi_88_353 rfl ?_
    refine xr_iconst (z := nI 1) xi_88_355 rfl ?_
    refine xr_virt xi_88_356 rfl rfl h0 rfl (Nat.le_of_ble_eq_true rfl) (Nat.le_of_ble_eq_true rfl) ?_
    refine wr_house hS hI hh (by omega) qHn ?_
    refine xr_k ?_
    refine xr_istore xi_88_359 (Nat.le_of_ble_eq_true rfl) rfl ?_
    refine xr_iload xi_88_361 rfl ?_
    refine xr_iload xi_88_363 rfl ?_
    refine xr_iadd xi_88_365 (by first | exact nI_add _ _ | exact rfl) ?_
    refine xr_istore xi_88_366 (Nat.le_of_ble_eq_true rfl) rfl ?_
    refine xr_iload xi_88_368 rfl ?_
    refine xr_iload xi_88_370 rfl ?_
    refine xr_if_ne xi_88_372 (by first | exact tI_n (by omega) | exact tI_d (by omega) | assumption | exact tI_e1 | exact tI_e2 | exact tI_e3 | exact tI_e4) (fun c_ => ?_) (fun c_ => by exfalso; omega)
    refine xr_iconst (z := nI 0) xi_88_379 rfl ?_
    refine xr_iadd xi_88_380 (cnt_s0 e) ?_
    refine xr_istore xi_88_381 (Nat.le_of_ble_eq_true rfl) rfl ?_
    refine xr_iload xi_88_383 rfl ?_
    refine xr_if_ne xi_88_385 (by first | exact tI_n (by omega) | exact tI_d (by omega) | assumption | exact tI_e1 | exact tI_e2 | exact tI_e3 | exact tI_e4) (fun c_ => ?_) (fun c_ => by exfalso; omega)
    refine xr_iconst (z := nI 0) xi_88_392 rfl ?_
    refine xr_aload_n xi_88_393 rfl ?_
    refine xr_iload xi_88_394 rfl ?_
    refine xr_iconst (z := nI 0) xi_88_396 rfl ?_
    refine xr_virt xi_88_397 rfl rfl h0 rfl (Nat.le_of_ble_eq_true rfl) (Nat.le_of_ble_eq_true rfl) ?_
    refine wr_house hS hI hh (by omega) (qH1 (by omega)) ?_
    refine xr_k ?_
    refine xr_ldc (z := xE4) xi_88_400 rfl ?_
    refine xr_ic_ne xi_88_402 (by first | exact tI_n (by omega) | exact tI_d (by omega) | assumption | exact tI_e1 | exact tI_e2 | exact tI_e3 | exact tI_e4) (by first | exact tI_n (by omega) | exact tI_d (by omega) | assumption | exact tI_e1 | exact tI_e2 | exact tI_e3 | exact tI_e4) (fun c_ => ?_) (fun c_ => by exfalso; omega)
    refine xr_iconst (z := nI 0) xi_88_409 rfl ?_
    refine xr_ic_ne xi_88_410 (by first | exact tI_n (by omega) | exact tI_d (by omega) | assumption | exact tI_e1 | exact tI_e2 | exact tI_e3 | exact tI_e4) (by first | exact tI_n (by omega) | exact tI_d (by omega) | assumption | exact tI_e1 | exact tI_e2 | exact tI_e3 | exact tI_e4) (fun c_ => by exfalso; omega) (fun c_ => ?_)
    refine xr_aload_n xi_88_413 rfl ?_
    refine xr_iload xi_88_414 rfl ?_
    refine xr_iconst (z := nI 2) xi_88_416 rfl ?_
    refine xr_virt xi_88_417 rfl rfl h0 rfl (Nat.le_of_ble_eq_true rfl) (Nat.le_of_ble_eq_true rfl) ?_
    refine wr_house hS hI hh (by omega) qHs ?_
    refine xr_k ?_
    refine xr_stat xi_88_420 (by decide) rfl rfl (Nat.le_of_ble_eq_true rfl) (Nat.le_of_ble_eq_true rfl) ?_
    refine wl_many ?_
    refine xr_k ?_
    refine xr_iload xi_88_423 rfl ?_
    refine xr_ic_ne xi_88_425 (by first | exact tI_n (by omega) | exact tI_d (by omega) | assumption | exact tI_e1 | exact tI_e2 | exact tI_e3 | exact tI_e4) (by first | exact tI_n (by omega) | exact tI_d (by omega) | assumption | exact tI_e1 | exact tI_e2 | exact tI_e3 | exact tI_e4) (fun c_ => by exfalso; omega) (fun c_ => ?_)
    refine xr_iload xi_88_428 rfl ?_
    refine xr_iconst (z := nI 5) xi_88_430 rfl ?_
    refine xr_ic_gt xi_88_431 (by first | exact tI_n (by omega) | exact tI_d (by omega) | assumption | exact tI_e1 | exact tI_e2 | exact tI_e3 | exact tI_e4) (by first | exact tI_n (by omega) | exact tI_d (by omega) | assumption | exact tI_e1 | exact tI_e2 | exact tI_e3 | exact tI_e4) (fun c_ => by exfalso; omega) (fun c_ => ?_)
    refine xr_aload_n xi_88_434 rfl ?_
    refine xr_iload xi_88_435 rfl ?_
    refine xr_iconst (z := nI 0) xi_88_437 rfl ?_
    refine xr_virt xi_88_438 rfl rfl h0 rfl (Nat.le_of_ble_eq_true rfl) (Nat.le_of_ble_eq_true rfl) ?_
    refine wr_house hS hI hh (by omega) (qH1 (by omega)) ?_
    refine xr_k ?_
    refine xr_iconst (z := nI 2) xi_88_441 rfl ?_
    refine xr_ic_le xi_88_442 (by first | exact tI_n (by omega) | exact tI_d (by omega) | assumption | exact tI_e1 | exact tI_e2 | exact tI_e3 | exact tI_e4) (by first | exact tI_n (by omega) | exact tI_d (by omega) | assumption | exact tI_e1 | exact tI_e2 | exact tI_e3 | exact tI_e4) (fun c_ => ?_) (fun c_ => by exfalso; omega)
    refine xr_iinc xi_88_447 rfl (by first | exact nI_1 _ | exact rfl) rfl ?_
    refine xr_goto xi_88_450 ?_
    exact hk _ _
theorem ws_end {c n f : Nat} {x9 x8 x10 : Value} (hS : wS H tx ln st Z G) (hG : sGd G) (hl : ln ≤ 60) (hc : c = cnt (sNf G) 90) (hn : n = cnt (sLive G) 30) (hf : f = cnt (fun h => G (4 + h) = 0) 8) (hQ : Q (some (.int (nI 1))) H) : xw L xs 88 453 [.ref 0, .int (mk (sLive G)), .int (mk (sPin G)), .int (mk (sHeld G)), .int (nI c), .int (nI (G 3)), .int (nI n), .int (nI f), x8, x9, x10] [] H Q := by
  obtain ⟨f0, h0⟩ := hS.h0
  have hI := hG.1.1
  have b1 := cnt_le (sNf G) 90
  have b2 := cnt_le (sLive G) 30
  have b3 := cnt_le (fun h => G (4 + h) = 0) 8
  have b4 := cnt_le (sAged G 1) 30
  have b5 := cnt_le (sAged G 2) 30
  have b6 := cnt_le (sAged G 3) 30
  have b7 := cnt_le (sPin G) 30
  have hsum := sAged_sum hI
  have hor : mk (sNeed G) ||| mk (sForg G) = mk (sLive G) := by
    rw [mk_or]
    refine mk_congr (fun t _ => ⟨fun q => ?_, fun q => ?_⟩)
    · rcases q with q | q
      · exact (sAll_l hI).mp (sReach_I q)
      · exact (sAll_l hI).mp q.1
    · by_cases z : sNeed G t
      · exact Or.inl z
      · exact Or.inr ⟨(sAll_l hI).mpr q, z⟩
  have hand : mk (sNeed G) &&& mk (sForg G) = nI 0 := by
    rw [mk_and, mk_0]
    exact mk_congr (fun t _ => ⟨fun q => q.2.2 q.1, fun q => q.elim⟩)
  have hro : (mk (sHeld G) ||| mk (sPin G)) &&& (mk (sNeed G) ^^^ dI 0) = nI 0 := by
    rw [mk_or, mk_andn, mk_0]
    exact mk_congr (fun t _ => ⟨fun q => q.2 (sReach_F q.1 (sRoots_A hI q.1)), fun q => q.elim⟩)
  have q1 : qCount G st ln 1 = nI n := by rw [hn, ← sAll_cnt hI]; rfl
  have q10 : qCount G st ln 10 = nI (G 0) - nI n := by rw [hn, ← sAll_cnt hI]; rfl
  have q6 : qCount G st ln 6 = nI f := by rw [hf]; rfl
  have q7 : qCount G st ln 7 = nI c := by rw [hc]; rfl
  refine xr_aload_n xi_88_453 rfl ?_
  refine xr_iconst (z := nI 0) xi_88_454 rfl ?_
  refine xr_virt xi_88_455 rfl rfl h0 rfl (Nat.le_of_ble_eq_true rfl) (Nat.le_of_ble_eq_true rfl) ?_
  refine wr_need hS hI ?_
  refine xr_k ?_
  refine xr_istore xi_88_458 (Nat.le_of_ble_eq_true rfl) rfl ?_
  refine xr_iload xi_88_460 rfl ?_
  refine xr_aload_n xi_88_462 rfl ?_
  refine xr_iconst (z := nI 1) xi_88_463 rfl ?_
  refine xr_virt xi_88_464 rfl rfl h0 rfl (Nat.le_of_ble_eq_true rfl) (Nat.le_of_ble_eq_true rfl) ?_
  refine wr_forg hS hI ?_
  refine xr_k ?_
  refine xr_ior xi_88_467 (hor) ?_
  refine xr_iload_n xi_88_468 rfl ?_
  refine xr_ic_ne xi_88_469 (rfl) (rfl) (fun c_ => by exfalso; omega) (fun c_ => ?_)
  refine xr_iload xi_88_472 rfl ?_
  refine xr_aload_n xi_88_474 rfl ?_
  refine xr_iconst (z := nI 1) xi_88_475 rfl ?_
  refine xr_virt xi_88_476 rfl rfl h0 rfl (Nat.le_of_ble_eq_true rfl) (Nat.le_of_ble_eq_true rfl) ?_
  refine wr_forg hS hI ?_
  refine xr_k ?_
  refine xr_iand xi_88_479 (hand) ?_
  refine xr_if_ne xi_88_480 (by first | exact tI_n (by omega) | exact tI_d (by omega) | assumption | exact tI_e1 | exact tI_e2 | exact tI_e3 | exact tI_e4) (fun c_ => by exfalso; omega) (fun c_ => ?_)
  refine xr_iload_n xi_88_483 rfl ?_
  refine xr_iload_n xi_88_484 rfl ?_
  refine xr_ior xi_88_485 rfl ?_
  refine xr_iload xi_88_486 rfl ?_
  refine xr_iconst (z := dI 0) xi_88_488 xm_m1 ?_
  refine xr_ixor xi_88_489 rfl ?_
  refine xr_iand xi_88_490 (hro) ?_
  refine xr_if_ne xi_88_491 (by first | exact tI_n (by omega) | exact tI_d (by omega) | assumption | exact tI_e1 | exact tI_e2 | exact tI_e3 | exact tI_e4) (fun c_ => by exfalso; omega) (fun c_ => ?_)
  refine xr_iconst (z := nI 1) xi_88_494 rfl ?_
  refine xr_goto xi_88_495 ?_
  refine xr_istore xi_88_499 (Nat.le_of_ble_eq_true rfl) rfl ?_
  refine xr_iload xi_88_501 rfl ?_
  refine xr_if_eq xi_88_503 (by first | exact tI_n (by omega) | exact tI_d (by omega) | assumption | exact tI_e1 | exact tI_e2 | exact tI_e3 | exact tI_e4) (fun c_ => by exfalso; omega) (fun c_ => ?_)
  refine xr_iload xi_88_506 rfl ?_
  refine xr_iload_n xi_88_508 rfl ?_
  refine xr_stat xi_88_509 (by decide) rfl rfl (Nat.le_of_ble_eq_true rfl) (Nat.le_of_ble_eq_true rfl) ?_
  refine wl_many ?_
  refine xr_k ?_
  refine xr_ic_ne xi_88_512 (by first | exact tI_n (by omega) | exact tI_d (by omega) | assumption | exact tI_e1 | exact tI_e2 | exact tI_e3 | exact tI_e4) (by first | exact tI_n (by omega) | exact tI_d (by omega) | assumption | exact tI_e1 | exact tI_e2 | exact tI_e3 | exact tI_e4) (fun c_ => by exfalso; omega) (fun c_ => ?_)
  refine xr_iload xi_88_515 rfl ?_
  refine xr_aload_n xi_88_517 rfl ?_
  refine xr_iconst (z := nI 1) xi_88_518 rfl ?_
  refine xr_virt xi_88_519 rfl rfl h0 rfl (Nat.le_of_ble_eq_true rfl) (Nat.le_of_ble_eq_true rfl) ?_
  refine wr_count hS hI hl (by omega) q1 ?_
  refine xr_k ?_
  refine xr_ic_ne xi_88_522 (by first | exact tI_n (by omega) | exact tI_d (by omega) | assumption | exact tI_e1 | exact tI_e2 | exact tI_e3 | exact tI_e4) (by first | exact tI_n (by omega) | exact tI_d (by omega) | assumption | exact tI_e1 | exact tI_e2 | exact tI_e3 | exact tI_e4) (fun c_ => by exfalso; omega) (fun c_ => ?_)
  refine xr_iload xi_88_525 rfl ?_
  refine xr_aload_n xi_88_527 rfl ?_
  refine xr_bipush (z := nI 6) xi_88_528 rfl ?_
  refine xr_virt xi_88_530 rfl rfl h0 rfl (Nat.le_of_ble_eq_true rfl) (Nat.le_of_ble_eq_true rfl) ?_
  refine wr_count hS hI hl (by omega) q6 ?_
  refine xr_k ?_
  refine xr_ic_ne xi_88_533 (by first | exact tI_n (by omega) | exact tI_d (by omega) | assumption | exact tI_e1 | exact tI_e2 | exact tI_e3 | exact tI_e4) (by first | exact tI_n (by omega) | exact tI_d (by omega) | assumption | exact tI_e1 | exact tI_e2 | exact tI_e3 | exact tI_e4) (fun c_ => by exfalso; omega) (fun c_ => ?_)
  refine xr_iload_n xi_88_536 rfl ?_
  refine xr_stat xi_88_537 (by decide) rfl rfl (Nat.le_of_ble_eq_true rfl) (Nat.le_of_ble_eq_true rfl) ?_
  refine wl_many ?_
  refine xr_k ?_
  refine xr_aload_n xi_88_540 rfl ?_
  refine xr_iconst (z := nI 2) xi_88_541 rfl ?_
  refine xr_virt xi_88_542 rfl rfl h0 rfl (Nat.le_of_ble_eq_true rfl) (Nat.le_of_ble_eq_true rfl) ?_
  refine wr_count hS hI hl (by omega) qC2 ?_
  refine xr_k ?_
  refine xr_ic_ne xi_88_545 (by first | exact tI_n (by omega) | exact tI_d (by omega) | assumption | exact tI_e1 | exact tI_e2 | exact tI_e3 | exact tI_e4) (by first | exact tI_n (by omega) | exact tI_d (by omega) | assumption | exact tI_e1 | exact tI_e2 | exact tI_e3 | exact tI_e4) (fun c_ => by exfalso; omega) (fun c_ => ?_)
  refine xr_iload xi_88_548 rfl ?_
  refine xr_aload_n xi_88_550 rfl ?_
  refine xr_bipush (z := nI 7) xi_88_551 rfl ?_
  refine xr_virt xi_88_553 rfl rfl h0 rfl (Nat.le_of_ble_eq_true rfl) (Nat.le_of_ble_eq_true rfl) ?_
  refine wr_count hS hI hl (by omega) q7 ?_
  refine xr_k ?_
  refine xr_ic_ne xi_88_556 (by first | exact tI_n (by omega) | exact tI_d (by omega) | assumption | exact tI_e1 | exact tI_e2 | exact tI_e3 | exact tI_e4) (by first | exact tI_n (by omega) | exact tI_d (by omega) | assumption | exact tI_e1 | exact tI_e2 | exact tI_e3 | exact tI_e4) (fun c_ => by exfalso; omega) (fun c_ => ?_)
  refine xr_iload xi_88_559 rfl ?_
  refine xr_aload_n xi_88_561 rfl ?_
  refine xr_bipush (z := nI 11) xi_88_562 rfl ?_
  refine xr_virt xi_88_564 rfl rfl h0 rfl (Nat.le_of_ble_eq_true rfl) (Nat.le_of_ble_eq_true rfl) ?_
  refine wr_count hS hI hl (by omega) qC11 ?_
  refine xr_k ?_
  refine xr_ic_ne xi_88_567 (rfl) (rfl) (fun c_ => by exfalso; omega) (fun c_ => ?_)
  refine xr_aload_n xi_88_570 rfl ?_
  refine xr_iconst (z := nI 3) xi_88_571 rfl ?_
  refine xr_virt xi_88_572 rfl rfl h0 rfl (Nat.le_of_ble_eq_true rfl) (Nat.le_of_ble_eq_true rfl) ?_
  refine wr_count hS hI hl (by omega) qC3 ?_
  refine xr_k ?_
  refine xr_aload_n xi_88_575 rfl ?_
  refine xr_iconst (z := nI 4) xi_88_576 rfl ?_
  refine xr_virt xi_88_577 rfl rfl h0 rfl (Nat.le_of_ble_eq_true rfl) (Nat.le_of_ble_eq_true rfl) ?_
  refine wr_count hS hI hl (by omega) qC4 ?_
  refine xr_k ?_
  refine xr_iadd xi_88_580 (nI_add _ _) ?_
  refine xr_aload_n xi_88_581 rfl ?_
  refine xr_iconst (z := nI 5) xi_88_582 rfl ?_
  refine xr_virt xi_88_583 rfl rfl h0 rfl (Nat.le_of_ble_eq_true rfl) (Nat.le_of_ble_eq_true rfl) ?_
  refine wr_count hS hI hl (by omega) qC5 ?_
  refine xr_k ?_
  refine xr_iadd xi_88_586 (nI_add _ _) ?_
  refine xr_iload xi_88_587 rfl ?_
  refine xr_ic_ne xi_88_589 (by first | exact tI_n (by omega) | exact tI_d (by omega) | assumption | exact tI_e1 | exact tI_e2 | exact tI_e3 | exact tI_e4) (by first | exact tI_n (by omega) | exact tI_d (by omega) | assumption | exact tI_e1 | exact tI_e2 | exact tI_e3 | exact tI_e4) (fun c_ => by exfalso; omega) (fun c_ => ?_)
  refine xr_aload_n xi_88_592 rfl ?_
  refine xr_iconst (z := nI 0) xi_88_593 rfl ?_
  refine xr_virt xi_88_594 rfl rfl h0 rfl (Nat.le_of_ble_eq_true rfl) (Nat.le_of_ble_eq_true rfl) ?_
  refine wr_count hS hI hl (by omega) qC0 ?_
  refine xr_k ?_
  refine xr_iload xi_88_597 rfl ?_
  refine xr_isub xi_88_599 (rfl) ?_
  refine xr_aload_n xi_88_600 rfl ?_
  refine xr_bipush (z := nI 10) xi_88_601 rfl ?_
  refine xr_virt xi_88_603 rfl rfl h0 rfl (Nat.le_of_ble_eq_true rfl) (Nat.le_of_ble_eq_true rfl) ?_
  refine wr_count hS hI hl (by omega) q10 ?_
  refine xr_k ?_
  refine xr_ic_ne xi_88_606 (rfl) (rfl) (fun c_ => by exfalso; omega) (fun c_ => ?_)
  by_cases e : c = 0
  · refine xr_aload_n xi_88_609 rfl ?_
    refine xr_iload xi_88_610 rfl ?_
    refine xr_virt xi_88_612 rfl rfl h0 rfl (Nat.le_of_ble_eq_true rfl) (Nat.le_of_ble_eq_true rfl) ?_
    refine wr_note hS hI (by omega) (qNote_none (by omega)) ?_
    refine xr_k ?_
    refine xr_ldc (z := xE4) xi_88_615 rfl ?_
    refine xr_ic_ne xi_88_617 (by first | exact tI_n (by omega) | exact tI_d (by omega) | assumption | exact tI_e1 | exact tI_e2 | exact tI_e3 | exact tI_e4) (by first | exact tI_n (by omega) | exact tI_d (by omega) | assumption | exact tI_e1 | exact tI_e2 | exact tI_e3 | exact tI_e4) (fun c_ => by exfalso; omega) (fun c_ => ?_)
    refine xr_iload xi_88_620 rfl ?_
    refine xr_if_eq xi_88_622 (by first | exact tI_n (by omega) | exact tI_d (by omega) | assumption | exact tI_e1 | exact tI_e2 | exact tI_e3 | exact tI_e4) (fun c_ => ?_) (fun c_ => by exfalso; omega)
    refine xr_iconst (z := nI 1) xi_88_636 rfl ?_
    refine xr_goto xi_88_637 ?_
    refine xr_iret xi_88_641 (fun _ => (by first | exact Or.inl rfl | exact Or.inr rfl | assumption)) ?_
    exact hQ
  · obtain ⟨v, hv, hv2⟩ := qNote_last (G := G) (by omega)
    have hv3 : qNote G (c - 1) = nI v := by rw [hc]; exact hv2
    refine xr_aload_n xi_88_609 rfl ?_
    refine xr_iload xi_88_610 rfl ?_
    refine xr_virt xi_88_612 rfl rfl h0 rfl (Nat.le_of_ble_eq_true rfl) (Nat.le_of_ble_eq_true rfl) ?_
    refine wr_note hS hI (by omega) (qNote_none (by omega)) ?_
    refine xr_k ?_
    refine xr_ldc (z := xE4) xi_88_615 rfl ?_
    refine xr_ic_ne xi_88_617 (by first | exact tI_n (by omega) | exact tI_d (by omega) | assumption | exact tI_e1 | exact tI_e2 | exact tI_e3 | exact tI_e4) (by first | exact tI_n (by omega) | exact tI_d (by omega) | assumption | exact tI_e1 | exact tI_e2 | exact tI_e3 | exact tI_e4) (fun c_ => by exfalso; omega) (fun c_ => ?_)
    refine xr_iload xi_88_620 rfl ?_
    refine xr_if_eq xi_88_622 (by first | exact tI_n (by omega) | exact tI_d (by omega) | assumption | exact tI_e1 | exact tI_e2 | exact tI_e3 | exact tI_e4) (fun c_ => by exfalso; omega) (fun c_ => ?_)
    refine xr_aload_n xi_88_625 rfl ?_
    refine xr_iload xi_88_626 rfl ?_
    refine xr_iconst (z := nI 1) xi_88_628 rfl ?_
    refine xr_isub xi_88_629 (pk_sub (by omega)) ?_
    refine xr_virt xi_88_630 rfl rfl h0 rfl (Nat.le_of_ble_eq_true rfl) (Nat.le_of_ble_eq_true rfl) ?_
    refine wr_note hS hI (by omega) hv3 ?_
    refine xr_k ?_
    refine xr_if_lt xi_88_633 (by first | exact tI_n (by omega) | exact tI_d (by omega) | assumption | exact tI_e1 | exact tI_e2 | exact tI_e3 | exact tI_e4) (fun c_ => by exfalso; omega) (fun c_ => ?_)
    refine xr_iconst (z := nI 1) xi_88_636 rfl ?_
    refine xr_goto xi_88_637 ?_
    refine xr_iret xi_88_641 (fun _ => (by first | exact Or.inl rfl | exact Or.inr rfl | assumption)) ?_
    exact hQ
theorem wl_isSound (hS : wS H tx ln st Z G) (hG : sGd G) (hl : ln ≤ 60) (hQ : Q (some (.int (nI 1))) H) : xc L xs 88 [.ref 0] H Q := by
  obtain ⟨f0, h0⟩ := hS.h0
  have hI := hG.1.1
  have hc := hI.c
  have k2 : ∀ d k x9 x10, k + d = 8 → xw L xs 88 345 [.ref 0, .int (mk (sLive G)), .int (mk (sPin G)), .int (mk (sHeld G)), .int (nI (cnt (sNf G) 90)), .int (nI (G 3)), .int (nI (sumN (fun h => cnt (sInH G h) 30) k)), .int (nI (cnt (fun h => G (4 + h) = 0) k)), .int (nI k), x9, x10] [] H Q := by
    intro d
    induction d with
    | zero =>
      intro k x9 x10 hk
      have e : k = 8 := by omega
      subst e
      refine xr_iload xi_88_345 rfl ?_
      refine xr_bipush (z := nI 8) xi_88_347 rfl ?_
      refine xr_ic_ge xi_88_349 (by first | exact tI_n (by omega) | exact tI_d (by omega) | assumption | exact tI_e1 | exact tI_e2 | exact tI_e3 | exact tI_e4) (by first | exact tI_n (by omega) | exact tI_d (by omega) | assumption | exact tI_e1 | exact tI_e2 | exact tI_e3 | exact tI_e4) (fun c_ => ?_) (fun c_ => by exfalso; omega)
      exact ws_end hS hG hl rfl (sIn_sum hI) rfl hQ
    | succ d ih =>
      intro k x9 x10 hk
      exact ws_house hS hG (by omega) (fun x9 x10 => ih (k + 1) x9 x10 (by omega)) x9 x10
  have k1 : ∀ d t x7 x8 x9 x10, t + d = G 0 → xw L xs 88 15 [.ref 0, .int (mk (fun u => u < t ∧ sLive G u)), .int (mk (fun u => u < t ∧ sPin G u)), .int (mk (fun u => u < t ∧ sHeld G u)), .int (nI (cnt (sNf G) (3 * t))), .int (nI (sumN (fun t => G (ri t 5)) t)), .int (nI t), x7, x8, x9, x10] [] H Q := by
    intro d
    induction d with
    | zero =>
      intro t x7 x8 x9 x10 hk
      have e : t = G 0 := by omega
      subst e
      have g1 : mk (fun u => u < G 0 ∧ sLive G u) = mk (sLive G) := mk_all (fun u _ q => q.1)
      have g2 : mk (fun u => u < G 0 ∧ sPin G u) = mk (sPin G) := mk_all (fun u _ q => q.1.1)
      have g3 : mk (fun u => u < G 0 ∧ sHeld G u) = mk (sHeld G) := mk_all (fun u _ q => ((sAll_l hI).mp (sRoots_A hI (Or.inl q))).1)
      rw [g1, g2, g3, sNf_G hI, sMov_G hG.1]
      refine xr_iload xi_88_15 rfl ?_
      refine xr_aload_n xi_88_17 rfl ?_
      refine xr_iconst (z := nI 0) xi_88_18 rfl ?_
      refine xr_virt xi_88_19 rfl rfl h0 rfl (Nat.le_of_ble_eq_true rfl) (Nat.le_of_ble_eq_true rfl) ?_
      refine wr_count hS hI hl (by omega) qC0 ?_
      refine xr_k ?_
      refine xr_ic_ge xi_88_22 (by first | exact tI_n (by omega) | exact tI_d (by omega) | assumption | exact tI_e1 | exact tI_e2 | exact tI_e3 | exact tI_e4) (by first | exact tI_n (by omega) | exact tI_d (by omega) | assumption | exact tI_e1 | exact tI_e2 | exact tI_e3 | exact tI_e4) (fun c_ => ?_) (fun c_ => by exfalso; omega)
      refine xr_iconst (z := nI 0) xi_88_336 rfl ?_
      refine xr_istore xi_88_337 (Nat.le_of_ble_eq_true rfl) rfl ?_
      refine xr_iconst (z := nI 0) xi_88_339 rfl ?_
      refine xr_istore xi_88_340 (Nat.le_of_ble_eq_true rfl) rfl ?_
      refine xr_iconst (z := nI 0) xi_88_342 rfl ?_
      refine xr_istore xi_88_343 (Nat.le_of_ble_eq_true rfl) rfl ?_
      exact k2 8 0 _ _ rfl
    | succ d ih =>
      intro t x7 x8 x9 x10 hk
      exact ws_one hS hI hl (by omega) (fun x7 x8 x9 x10 => ih (t + 1) x7 x8 x9 x10 (by omega)) x7 x8 x9 x10
  refine xr_iconst (z := nI 0) xi_88_0 rfl ?_
  refine xr_istore_n xi_88_1 (Nat.le_of_ble_eq_true rfl) rfl ?_
  refine xr_iconst (z := nI 0) xi_88_2 rfl ?_
  refine xr_istore_n xi_88_3 (Nat.le_of_ble_eq_true rfl) rfl ?_
  refine xr_iconst (z := nI 0) xi_88_4 rfl ?_
  refine xr_istore_n xi_88_5 (Nat.le_of_ble_eq_true rfl) rfl ?_
  refine xr_iconst (z := nI 0) xi_88_6 rfl ?_
  refine xr_istore xi_88_7 (Nat.le_of_ble_eq_true rfl) rfl ?_
  refine xr_iconst (z := nI 0) xi_88_9 rfl ?_
  refine xr_istore xi_88_10 (Nat.le_of_ble_eq_true rfl) rfl ?_
  refine xr_iconst (z := nI 0) xi_88_12 rfl ?_
  refine xr_istore xi_88_13 (Nat.le_of_ble_eq_true rfl) rfl ?_
  have g1 := mk_start (sLive G)
  have g2 := mk_start (sPin G)
  have g3 := mk_start (sHeld G)
  have := k1 (G 0) 0 .null .null .null .null (by omega)
  rw [← g1, ← g2, ← g3] at this
  exact this
end SD
