/-! the law's acts: one change -/
def aOk (G : Nat → Nat) (a : Int32) (G' : Nat → Nat) : Prop := 0 ≤ a.toInt ∨ (a.toInt < -1000000 ∧ G' = G)
theorem aOk_n {G G' : Nat → Nat} {n : Nat} (h : n < 2147483648) : aOk G (nI n) G' := Or.inl (by rw [tI_n h]; omega)
theorem aOk_1 {G : Nat → Nat} : aOk G xE1 G := Or.inr ⟨by rw [tI_e1]; omega, rfl⟩
theorem aOk_2 {G : Nat → Nat} : aOk G xE2 G := Or.inr ⟨by rw [tI_e2]; omega, rfl⟩
theorem aOk_3 {G : Nat → Nat} : aOk G xE3 G := Or.inr ⟨by rw [tI_e3]; omega, rfl⟩
theorem pThing_a {G : Nat → Nat} (hI : sInv G) : aOk G (pThing G).1 (pThing G).2 := by
  have hc := hI.c
  unfold pThing
  split
  · exact aOk_2
  · split
    · exact aOk_3
    · exact aOk_n (by omega)
theorem pHold_a {G : Nat → Nat} {x y : Int32} : aOk G (pHold G x y).1 (pHold G x y).2 := by
  unfold pHold
  split
  · exact aOk_n (Nat.lt_of_le_of_lt (cnt_le _ 4) (by omega))
  · exact aOk_1
theorem pRelease_a {G : Nat → Nat} {x : Int32} (hI : sInv G) : aOk G (pRelease G x).1 (pRelease G x).2 := by
  unfold pRelease
  split
  · next hc =>
    obtain ⟨h, hh, rfl⟩ := cd_t.mp hc
    have := (hI.h hh).1
    rw [tN (by omega)]
    split
    · exact aOk_2
    · exact aOk_n (by omega)
  · exact aOk_1
theorem pTie_a {G : Nat → Nat} {x y z : Int32} : aOk G (pTie G x y z).1 (pTie G x y z).2 := by
  unfold pTie
  split
  · dsimp only
    split
    · exact aOk_n (by omega)
    · exact aOk_n (by omega)
  · exact aOk_1
theorem pLoosen_a {G : Nat → Nat} {x y : Int32} (hI : sInv G) : aOk G (pLoosen G x y).1 (pLoosen G x y).2 := by
  unfold pLoosen
  split
  · next hc =>
    obtain ⟨t, s, ht, hs, rfl, rfl⟩ := cd_t.mp hc
    have h3 := hI.lt ht
    have := (hI.t h3 hs).1
    rw [tN (by omega), tN (n := s) (by omega)]
    split
    · exact aOk_2
    · exact aOk_n (by omega)
  · exact aOk_1
theorem pPin_a {G : Nat → Nat} {x : Int32} {b : Nat} : aOk G (pPin G x b).1 (pPin G x b).2 := by
  unfold pPin
  split
  · split
    · exact aOk_2
    · exact aOk_n (Nat.lt_of_le_of_lt (cnt_le _ 30) (by omega))
  · exact aOk_1
theorem pWinter_a {G : Nat → Nat} {x : Int32} : aOk G (pWinter G x).1 (pWinter G x).2 := by
  unfold pWinter
  split
  · split
    · exact aOk_2
    · exact aOk_n (Nat.lt_of_le_of_lt (cnt_le _ 30) (by omega))
  · exact aOk_1
theorem pFull_a {G : Nat → Nat} : aOk G (pFull G).1 (pFull G).2 := aOk_n (Nat.lt_of_le_of_lt (cnt_le _ 30) (by omega))
theorem pPlay_a {tx : Nat → Nat} {ln : Nat} {G : Nat → Nat} (hI : sInv G) (hl : ln ≤ 60) : aOk G (pPlay tx ln G).1 (pPlay tx ln G).2 := by
  unfold pPlay
  split
  · have := (sGo_inv (tx := tx) (ln := ln) 61 0 0 G hI (by omega)).2.2.2
    exact aOk_n (by omega)
  · exact aOk_2
section AC
variable {L : Nat} {xs : Nat → Int32} {Q : Option Value → xm_H → Prop} {ln st : Nat} {tx Z G : Nat → Nat} {H : xm_H}
theorem wl_acts {y : Int32} (hS : wS H tx ln st Z G) (hG : sGd G) (ht : tOk tx ln) (hQ : ∀ a G' H', aOk G a G' → sGd G' → (∀ st' Z', mPost st Z G a st' Z' → wS H' tx ln st' Z' G') → Q (some (.int a)) H') : xc L xs 91 [.ref 0, .int y] H Q := by
  obtain ⟨f0, h0⟩ := hS.h0
  have hI := hG.1.1
  have hc := hI.c
  have hl := ht.1
  refine xr_aload_n xi_91_0 rfl ?_
  refine xr_iconst (z := nI 0) xi_91_1 rfl ?_
  refine xr_virt xi_91_2 rfl rfl h0 rfl (Nat.le_of_ble_eq_true rfl) (Nat.le_of_ble_eq_true rfl) ?_
  refine wr_count hS hI hl (by omega) qC0 ?_
  refine xr_k ?_
  refine xr_istore_n xi_91_5 (Nat.le_of_ble_eq_true rfl) rfl ?_
  refine xr_iload_n xi_91_6 rfl ?_
  refine xr_iconst (z := nI 5) xi_91_7 rfl ?_
  refine xr_ishr xi_91_8 rfl ?_
  refine xr_iload_n xi_91_9 rfl ?_
  refine xr_iconst (z := nI 1) xi_91_10 rfl ?_
  refine xr_iadd xi_91_11 (by first | exact nI_add _ _ | exact rfl) ?_
  refine xr_stat xi_91_12 (by decide) rfl rfl (Nat.le_of_ble_eq_true rfl) (Nat.le_of_ble_eq_true rfl) ?_
  refine wl_low (by omega) (by omega) (fun a ha => ?_)
  refine xr_k ?_
  have k32 : ∀ b, xw L xs 91 32 [.ref 0, .int y, .int (nI (G 0)), .int (nI a), .null] [.int (nI b)] H Q := by
    intro b
    refine xr_istore xi_91_32 (Nat.le_of_ble_eq_true rfl) rfl ?_
    refine xr_iload_n xi_91_34 rfl ?_
    refine xr_bipush (z := nI 24) xi_91_35 rfl ?_
    refine xr_stat xi_91_37 (by decide) rfl rfl (Nat.le_of_ble_eq_true rfl) (Nat.le_of_ble_eq_true rfl) ?_
    refine wl_low (by omega) (by omega) (fun c hcc => ?_)
    refine xr_k ?_
    have c128 : xw L xs 91 128 [.ref 0, .int y, .int (nI (G 0)), .int (nI a), .int (nI b)] [] H Q := by
      refine xr_aload_n xi_91_128 rfl ?_
      refine xr_virt xi_91_129 rfl rfl h0 rfl (Nat.le_of_ble_eq_true rfl) (Nat.le_of_ble_eq_true rfl) ?_
      refine ww_thing hS hI (fun H' hp => ?_)
      refine xr_k ?_
      refine xr_iret xi_91_132 (fun h => absurd h (by decide)) ?_
      exact hQ _ _ _ (pThing_a hI) (pThing_Gd hG) hp
    have c133 : xw L xs 91 133 [.ref 0, .int y, .int (nI (G 0)), .int (nI a), .int (nI b)] [] H Q := by
      refine xr_aload_n xi_91_133 rfl ?_
      refine xr_iload_n xi_91_134 rfl ?_
      refine xr_bipush (z := nI 15) xi_91_135 rfl ?_
      refine xr_ishr xi_91_137 rfl ?_
      refine xr_iconst (z := nI 4) xi_91_138 rfl ?_
      refine xr_stat xi_91_139 (by decide) rfl rfl (Nat.le_of_ble_eq_true rfl) (Nat.le_of_ble_eq_true rfl) ?_
      refine wl_low (by omega) (by omega) (fun r hr => ?_)
      refine xr_k ?_
      refine xr_iload_n xi_91_142 rfl ?_
      refine xr_virt xi_91_143 rfl rfl h0 rfl (Nat.le_of_ble_eq_true rfl) (Nat.le_of_ble_eq_true rfl) ?_
      refine ww_hold hS hI (fun H' hp => ?_)
      refine xr_k ?_
      refine xr_iret xi_91_146 (fun h => absurd h (by decide)) ?_
      exact hQ _ _ _ pHold_a (pHold_Gd hG) hp
    have c147 : xw L xs 91 147 [.ref 0, .int y, .int (nI (G 0)), .int (nI a), .int (nI b)] [] H Q := by
      refine xr_aload_n xi_91_147 rfl ?_
      refine xr_iload_n xi_91_148 rfl ?_
      refine xr_bipush (z := nI 15) xi_91_149 rfl ?_
      refine xr_ishr xi_91_151 rfl ?_
      refine xr_iconst (z := nI 4) xi_91_152 rfl ?_
      refine xr_stat xi_91_153 (by decide) rfl rfl (Nat.le_of_ble_eq_true rfl) (Nat.le_of_ble_eq_true rfl) ?_
      refine wl_low (by omega) (by omega) (fun r hr => ?_)
      refine xr_k ?_
      refine xr_virt xi_91_156 rfl rfl h0 rfl (Nat.le_of_ble_eq_true rfl) (Nat.le_of_ble_eq_true rfl) ?_
      refine ww_release hS hI (fun H' hp => ?_)
      refine xr_k ?_
      refine xr_iret xi_91_159 (fun h => absurd h (by decide)) ?_
      exact hQ _ _ _ (pRelease_a hI) (pRelease_Gd hG) hp
    have c160 : xw L xs 91 160 [.ref 0, .int y, .int (nI (G 0)), .int (nI a), .int (nI b)] [] H Q := by
      refine xr_aload_n xi_91_160 rfl ?_
      refine xr_iload_n xi_91_161 rfl ?_
      refine xr_iload_n xi_91_162 rfl ?_
      refine xr_bipush (z := nI 15) xi_91_163 rfl ?_
      refine xr_ishr xi_91_165 rfl ?_
      refine xr_iconst (z := nI 3) xi_91_166 rfl ?_
      refine xr_stat xi_91_167 (by decide) rfl rfl (Nat.le_of_ble_eq_true rfl) (Nat.le_of_ble_eq_true rfl) ?_
      refine wl_low (by omega) (by omega) (fun r hr => ?_)
      refine xr_k ?_
      refine xr_iload xi_91_170 rfl ?_
      refine xr_virt xi_91_172 rfl rfl h0 rfl (Nat.le_of_ble_eq_true rfl) (Nat.le_of_ble_eq_true rfl) ?_
      refine ww_tie hS hI (fun H' hp => ?_)
      refine xr_k ?_
      refine xr_iret xi_91_175 (fun h => absurd h (by decide)) ?_
      exact hQ _ _ _ pTie_a (pTie_Gd hG) hp
    have c176 : xw L xs 91 176 [.ref 0, .int y, .int (nI (G 0)), .int (nI a), .int (nI b)] [] H Q := by
      refine xr_aload_n xi_91_176 rfl ?_
      refine xr_iload_n xi_91_177 rfl ?_
      refine xr_iload_n xi_91_178 rfl ?_
      refine xr_bipush (z := nI 15) xi_91_179 rfl ?_
      refine xr_ishr xi_91_181 rfl ?_
      refine xr_iconst (z := nI 3) xi_91_182 rfl ?_
      refine xr_stat xi_91_183 (by decide) rfl rfl (Nat.le_of_ble_eq_true rfl) (Nat.le_of_ble_eq_true rfl) ?_
      refine wl_low (by omega) (by omega) (fun r hr => ?_)
      refine xr_k ?_
      refine xr_virt xi_91_186 rfl rfl h0 rfl (Nat.le_of_ble_eq_true rfl) (Nat.le_of_ble_eq_true rfl) ?_
      refine ww_loosen hS hI (fun H' hp => ?_)
      refine xr_k ?_
      refine xr_iret xi_91_189 (fun h => absurd h (by decide)) ?_
      exact hQ _ _ _ (pLoosen_a hI) (pLoosen_Gd hG) hp
    have c190 : xw L xs 91 190 [.ref 0, .int y, .int (nI (G 0)), .int (nI a), .int (nI b)] [] H Q := by
      refine xr_aload_n xi_91_190 rfl ?_
      refine xr_iload_n xi_91_191 rfl ?_
      refine xr_virt xi_91_192 rfl rfl h0 rfl (Nat.le_of_ble_eq_true rfl) (Nat.le_of_ble_eq_true rfl) ?_
      refine ww_pin hS hI (fun H' hp => ?_)
      refine xr_k ?_
      refine xr_iret xi_91_195 (fun h => absurd h (by decide)) ?_
      exact hQ _ _ _ pPin_a (pPin_Gd (by omega) hG) hp
    have c196 : xw L xs 91 196 [.ref 0, .int y, .int (nI (G 0)), .int (nI a), .int (nI b)] [] H Q := by
      refine xr_aload_n xi_91_196 rfl ?_
      refine xr_iload_n xi_91_197 rfl ?_
      refine xr_virt xi_91_198 rfl rfl h0 rfl (Nat.le_of_ble_eq_true rfl) (Nat.le_of_ble_eq_true rfl) ?_
      refine ww_unpin hS hI (fun H' hp => ?_)
      refine xr_k ?_
      refine xr_iret xi_91_201 (fun h => absurd h (by decide)) ?_
      exact hQ _ _ _ pPin_a (pPin_Gd (by omega) hG) hp
    have c202 : xw L xs 91 202 [.ref 0, .int y, .int (nI (G 0)), .int (nI a), .int (nI b)] [] H Q := by
      refine xr_iload_n xi_91_202 rfl ?_
      refine xr_bipush (z := nI 15) xi_91_203 rfl ?_
      refine xr_ishr xi_91_205 rfl ?_
      refine xr_iconst (z := nI 1) xi_91_206 rfl ?_
      refine xr_iand xi_91_207 rfl ?_
      refine xr_if_ne xi_91_208 (rfl) (fun c_208 => ?_) (fun c_208 => ?_)
      · refine xr_aload_n xi_91_218 rfl ?_
        refine xr_virt xi_91_219 rfl rfl h0 rfl (Nat.le_of_ble_eq_true rfl) (Nat.le_of_ble_eq_true rfl) ?_
        refine ww_play hS ht hI (fun H' hp => ?_)
        refine xr_k ?_
        refine xr_iret xi_91_222 (fun h => absurd h (by decide)) ?_
        exact hQ _ _ _ (pPlay_a hI hl) (pPlay_Gd hG) hp
      · refine xr_aload_n xi_91_211 rfl ?_
        refine xr_virt xi_91_212 rfl rfl h0 rfl (Nat.le_of_ble_eq_true rfl) (Nat.le_of_ble_eq_true rfl) ?_
        refine ww_full hS hI (fun H' hp => ?_)
        refine xr_k ?_
        refine xr_goto xi_91_215 ?_
        refine xr_iret xi_91_222 (fun h => absurd h (by decide)) ?_
        exact hQ _ _ _ pFull_a (pFull_Gd hG) hp
    have c223 : xw L xs 91 223 [.ref 0, .int y, .int (nI (G 0)), .int (nI a), .int (nI b)] [] H Q := by
      refine xr_aload_n xi_91_223 rfl ?_
      refine xr_iload_n xi_91_224 rfl ?_
      refine xr_bipush (z := nI 15) xi_91_225 rfl ?_
      refine xr_ishr xi_91_227 rfl ?_
      refine xr_iconst (z := nI 5) xi_91_228 rfl ?_
      refine xr_stat xi_91_229 (by decide) rfl rfl (Nat.le_of_ble_eq_true rfl) (Nat.le_of_ble_eq_true rfl) ?_
      refine wl_low (by omega) (by omega) (fun r hr => ?_)
      refine xr_k ?_
      refine xr_iconst (z := nI 2) xi_91_232 rfl ?_
      refine xr_ic_le xi_91_233 (by first | exact tI_n (by omega) | exact tI_d (by omega) | assumption | exact tI_e1 | exact tI_e2 | exact tI_e3 | exact tI_e4) (by first | exact tI_n (by omega) | exact tI_d (by omega) | assumption | exact tI_e1 | exact tI_e2 | exact tI_e3 | exact tI_e4) (fun c_233 => ?_) (fun c_233 => ?_)
      · refine xr_iconst (z := nI 0) xi_91_240 rfl ?_
        refine xr_virt xi_91_241 rfl rfl h0 rfl (Nat.le_of_ble_eq_true rfl) (Nat.le_of_ble_eq_true rfl) ?_
        refine ww_winter hS hI (fun H' hp => ?_)
        refine xr_k ?_
        refine xr_iret xi_91_244 (fun h => absurd h (by decide)) ?_
        exact hQ _ _ _ pWinter_a (pWinter_Gd hG) hp
      · refine xr_iconst (z := nI 1) xi_91_236 rfl ?_
        refine xr_goto xi_91_237 ?_
        refine xr_virt xi_91_241 rfl rfl h0 rfl (Nat.le_of_ble_eq_true rfl) (Nat.le_of_ble_eq_true rfl) ?_
        refine ww_winter hS hI (fun H' hp => ?_)
        refine xr_k ?_
        refine xr_iret xi_91_244 (fun h => absurd h (by decide)) ?_
        exact hQ _ _ _ pWinter_a (pWinter_Gd hG) hp
    have : c = 0 ∨ c = 1 ∨ c = 2 ∨ c = 3 ∨ c = 4 ∨ c = 5 ∨ c = 6 ∨ c = 7 ∨ c = 8 ∨ c = 9 ∨ c = 10 ∨ c = 11 ∨ c = 12 ∨ c = 13 ∨ c = 14 ∨ c = 15 ∨ c = 16 ∨ c = 17 ∨ c = 18 ∨ c = 19 ∨ c = 20 ∨ c = 21 ∨ c = 22 ∨ c = 23 := by omega
    rcases this with rfl | rfl | rfl | rfl | rfl | rfl | rfl | rfl | rfl | rfl | rfl | rfl | rfl | rfl | rfl | rfl | rfl | rfl | rfl | rfl | rfl | rfl | rfl | rfl
    all_goals first
      | exact xr_tsw xi_91_40 (tI_n (by omega)) (t := 128) (by decide) c128
      | exact xr_tsw xi_91_40 (tI_n (by omega)) (t := 133) (by decide) c133
      | exact xr_tsw xi_91_40 (tI_n (by omega)) (t := 147) (by decide) c147
      | exact xr_tsw xi_91_40 (tI_n (by omega)) (t := 160) (by decide) c160
      | exact xr_tsw xi_91_40 (tI_n (by omega)) (t := 176) (by decide) c176
      | exact xr_tsw xi_91_40 (tI_n (by omega)) (t := 190) (by decide) c190
      | exact xr_tsw xi_91_40 (tI_n (by omega)) (t := 196) (by decide) c196
      | exact xr_tsw xi_91_40 (tI_n (by omega)) (t := 202) (by decide) c202
      | exact xr_tsw xi_91_40 (tI_n (by omega)) (t := 223) (by decide) c223
  by_cases e : G 0 = 0
  · refine xr_istore_n xi_91_15 (Nat.le_of_ble_eq_true rfl) rfl ?_
    refine xr_iload_n xi_91_16 rfl ?_
    refine xr_bipush (z := nI 10) xi_91_17 rfl ?_
    refine xr_ishr xi_91_19 rfl ?_
    refine xr_iload_n xi_91_20 rfl ?_
    refine xr_if_ne xi_91_21 (by first | exact tI_n (by omega) | exact tI_d (by omega) | assumption | exact tI_e1 | exact tI_e2 | exact tI_e3 | exact tI_e4) (fun c_ => by exfalso; omega) (fun c_ => ?_)
    refine xr_iconst (z := nI 1) xi_91_24 rfl ?_
    refine xr_goto xi_91_25 ?_
    refine xr_stat xi_91_29 (by decide) rfl rfl (Nat.le_of_ble_eq_true rfl) (Nat.le_of_ble_eq_true rfl) ?_
    refine wl_low (by omega) (by omega) (fun b hb => ?_)
    refine xr_k ?_
    exact k32 b
  · refine xr_istore_n xi_91_15 (Nat.le_of_ble_eq_true rfl) rfl ?_
    refine xr_iload_n xi_91_16 rfl ?_
    refine xr_bipush (z := nI 10) xi_91_17 rfl ?_
    refine xr_ishr xi_91_19 rfl ?_
    refine xr_iload_n xi_91_20 rfl ?_
    refine xr_if_ne xi_91_21 (by first | exact tI_n (by omega) | exact tI_d (by omega) | assumption | exact tI_e1 | exact tI_e2 | exact tI_e3 | exact tI_e4) (fun c_ => ?_) (fun c_ => by exfalso; omega)
    refine xr_iload_n xi_91_28 rfl ?_
    refine xr_stat xi_91_29 (by decide) rfl rfl (Nat.le_of_ble_eq_true rfl) (Nat.le_of_ble_eq_true rfl) ?_
    refine wl_low (by omega) (by omega) (fun b hb => ?_)
    refine xr_k ?_
    exact k32 b
end AC
