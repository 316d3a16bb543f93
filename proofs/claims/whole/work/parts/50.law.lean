/-! the law: both sides side by side -/
theorem xc_sh {L : Nat} {xs : Nat → Int32} {Q : Option Value → xm_H → Prop} {j : Nat} {as As : List Value} {h O : xm_H} (hO : O.length = 47) (hA : as.map (fv (47 + ·)) = As) (hc : xc L xs j as h (fun r h' => h'.length = h.length ∧ Q (r.map (fv (47 + ·))) (O ++ h'.map (fe (47 + ·))))) : xc L xs j As (O ++ h.map (fe (47 + ·))) Q := by
  have hJ : fJ (47 + ·) h.length h (O ++ h.map (fe (47 + ·))) := by
    refine ⟨fun a e he => ?_, fun a b _ _ q => by dsimp only at q; omega, rfl⟩
    show (O ++ h.map (fe (47 + ·)))[47 + a]? = _
    rw [List.getElem?_append_right (by omega), show 47 + a - O.length = a by omega, List.getElem?_map, he]
    rfl
  refine xc_frame hJ hA (hc.mono (fun r h' hq => ⟨hq.1, fun H' h1 h2 => ?_⟩))
  have e : H' = O ++ h'.map (fe (47 + ·)) := by
    have hl : H'.length = 47 + h.length := by rw [h2.1, List.length_append, List.length_map, hO]
    refine List.ext_getElem? (fun i => ?_)
    by_cases hi : i < 47
    · rw [h2.2 i (fun a ha q => by dsimp only at q; omega), List.getElem?_append_left (by omega), List.getElem?_append_left (by omega)]
    · rw [List.getElem?_append_right (by omega), List.getElem?_map]
      by_cases hi2 : i - 47 < h'.length
      · have h3 : H'[47 + (i - 47)]? = _ := h1.1 (i - 47) _ (List.getElem?_eq_getElem hi2)
        rw [show 47 + (i - 47) = i by omega] at h3
        rw [h3, show i - O.length = i - 47 by omega, List.getElem?_eq_getElem hi2]
        rfl
      · rw [List.getElem?_eq_none (by rw [hl, ← hq.1]; omega), show i - O.length = i - 47 by omega, List.getElem?_eq_none (by omega)]
        rfl
  rw [e]
  exact hq.2
theorem mPost_ex (st : Nat) (Z G : Nat → Nat) (a : Int32) : ∃ st' Z', mPost st Z G a st' Z' := by
  by_cases ha : 0 ≤ a.toInt
  · refine ⟨min (st + 1) 4, fun i => if 196 * min (st + 1) 4 ≤ i ∧ i < 196 * min (st + 1) 4 + 196 then G (i - 196 * min (st + 1) 4) else Z (i + 196 * (st + 1 - min (st + 1) 4)), fun _ => ⟨rfl, fun i hi => ?_, fun s hs i hi => ?_⟩, fun q => by omega⟩
    · dsimp only
      rw [if_pos (by omega)]
      congr 1
      omega
    · dsimp only
      rw [if_neg (by omega)]
      congr 1
      omega
  · exact ⟨st, Z, fun q => absurd q ha, fun _ => ⟨rfl, fun _ _ => rfl⟩⟩
def lS (H : xm_H) : Prop := ∃ Hw st tx ln ag po le nu fa re od be Z G, H = Hw ++ (mJ st tx ln ag po le nu fa re od be Z G).map (fe (47 + ·)) ∧ wS Hw tx ln st Z G ∧ sInv G ∧ tOk tx ln ∧ ∀ s, s < st → sInv (fun i => Z (196 + 196 * s + i))
theorem wS.len {H : xm_H} {tx : Nat → Nat} {ln st : Nat} {Z G : Nat → Nat} (h : wS H tx ln st Z G) : H.length = 47 ∧ st ≤ 4 := by
  obtain ⟨fs, pr, nu, po, sta, rea, R, h1, hf, h2, h3, h4, -⟩ := h
  exact ⟨h2, h4⟩
theorem lw_W {H : xm_H} {tx : Nat → Nat} {ln st : Nat} {Z G : Nat → Nat} (h : wS H tx ln st Z G) : ∃ f, ∀ X, (H ++ X)[0]? = some (.inr (.inr (2, f))) := by
  obtain ⟨fs, pr, nu, po, sta, rea, R, rfl, -⟩ := h
  exact ⟨_, fun X => rfl⟩
theorem lw_M {H X : xm_H} {e : xm_E} (h : H.length = 47) : (H ++ e :: X)[47]? = some e := by
  rw [List.getElem?_append_right (by omega), h]
  rfl
theorem sInv_ext {G G' : Nat → Nat} (e : ∀ i, i < 196 → G' i = G i) (h : sInv G) : sInv G' := by
  have e0 : G' 0 = G 0 := e 0 (by omega)
  have er : ∀ t w, t < 30 → w < 6 → G' (ri t w) = G (ri t w) := fun t w ht hw => e _ (by unfold ri; omega)
  have hl : ∀ t, sLive G' t ↔ sLive G t := by
    intro t
    unfold sLive
    rw [e0]
    constructor
    · rintro ⟨h1, h2⟩
      rw [er t 0 (by have := h.c; omega) (by omega)] at h2
      exact ⟨h1, h2⟩
    · rintro ⟨h1, h2⟩
      refine ⟨h1, ?_⟩
      rw [er t 0 (by have := h.c; omega) (by omega)]
      exact h2
  refine ⟨by rw [e0]; exact h.c, fun t w ht hw q => by rw [er t w ht hw]; rw [e0] at q; exact h.z ht hw q, fun t ht => by rw [er t 0 ht (by omega)]; exact h.l ht, fun k hk => by rw [e _ (by omega)]; exact h.a hk, fun k hk => by rw [e (12 + k) (by omega), hl]; exact h.h hk, fun t k ht hk => by rw [er t (2 + k) ht (by omega), hl, hl]; exact h.t ht hk, fun t u ht hu q => ?_, fun t ht => ?_, fun t ht => by rw [er t 1 ht (by omega), hl]; exact h.p ht⟩
  · have ht := (hl t).mp ht
    have hu := (hl u).mp hu
    rw [er t 0 (h.lt ht) (by omega), er u 0 (h.lt hu) (by omega)] at q
    exact h.d ht hu q
  · have ht := (hl t).mp ht
    have h1 := h.g ht
    have h2 := h.ho (h.lt ht)
    unfold sAge sHome at *
    rw [er t 0 (h.lt ht) (by omega), e _ (by omega)]
    exact h1
theorem hInv {st st' : Nat} {Z Z' G : Nat → Nat} {a : Int32} (hst : st ≤ 4) (hI : sInv G) (hZ : ∀ s, s < st → sInv (fun i => Z (196 + 196 * s + i))) (hm : mPost st Z G a st' Z') : ∀ s, s < st' → sInv (fun i => Z' (196 + 196 * s + i)) := by
  intro s hs
  by_cases ha : 0 ≤ a.toInt
  · obtain ⟨m1, m2, m3⟩ := hm.1 ha
    by_cases c : s + 1 < st'
    · exact sInv_ext (fun i hi => m3 s c i hi) (hZ (s + (st + 1 - st')) (by omega))
    · refine sInv_ext (fun i hi => ?_) hI
      rw [show 196 + 196 * s + i = 196 * st' + i by omega]
      exact m2 i hi
  · obtain ⟨m1, m2⟩ := hm.2 (by omega)
    subst m1
    exact sInv_ext (fun i hi => m2 _ (by omega)) (hZ s hs)
theorem hInvZ {st : Nat} {Z Z' : Nat → Nat} (hst : st ≤ 4) (hZ : ∀ s, s < st → sInv (fun i => Z (196 + 196 * s + i))) (hz : ∀ i, i < 980 → Z' i = Z i) : ∀ s, s < st → sInv (fun i => Z' (196 + 196 * s + i)) :=
  fun s hs => sInv_ext (fun i hi => hz _ (by omega)) (hZ s hs)
theorem t_4 {L : Nat} (h : L ≤ 2048) : (nI L - nI 4).toInt = (L : Int) - 4 := by
  by_cases c : 4 ≤ L
  · rw [pk_sub c, tI_n (by omega)]
    omega
  · have : L = 0 ∨ L = 1 ∨ L = 2 ∨ L = 3 := by omega
    rcases this with rfl | rfl | rfl | rfl <;> decide +kernel
theorem and31 (x : Int32) : ∃ k, k < 32 ∧ x &&& nI 31 = nI k := by
  have h1 : (x &&& nI 31).toBitVec.toNat ≤ 31 := by
    rw [Int32.toBitVec_and, BitVec.toNat_and]
    have : (nI 31).toBitVec.toNat = 31 := by decide +kernel
    rw [this]
    exact Nat.and_le_right
  have h2 : (x &&& nI 31).toInt = ((x &&& nI 31).toBitVec.toNat : Int) := BitVec.toInt_eq_toNat_of_lt (by omega)
  exact x_of (n := 32) (by omega) (by omega) (by omega)
section LW
variable {L : Nat} {xs : Nat → Int32} {Qf : Option Value → xm_H → Prop}
theorem wl_thing {i : Nat} {H : xm_H} (hi : i + 4 ≤ L) (hL : L ≤ 2048) (hS : lS H) (hk : ∀ H', lS H' → xw L xs 167 689 [.float 0, .ref 0, .ref 47, .int (nI i)] [] H' Qf) : xw L xs 167 140 [.float 0, .ref 0, .ref 47, .int (nI i)] [] H Qf := by
  obtain ⟨Hw, st, tx, ln, ag, po, le, nu, fa, re, od, be, Z, G, rfl, hW, hI, ht, hZ⟩ := hS
  obtain ⟨hl, hst⟩ := hW.len
  obtain ⟨fW, h0⟩ := lw_W hW
  refine xr_aload_n xi_167_140 rfl ?_
  refine xr_virt xi_167_141 rfl rfl (h0 _) rfl (Nat.le_of_ble_eq_true rfl) (Nat.le_of_ble_eq_true rfl) ?_
  refine xc_app (h := Hw) (ww_thing hW hI (fun H' hp => ?_))
  obtain ⟨st0, Z0, hm0⟩ := mPost_ex st Z G _
  have hlen := (hp st0 Z0 hm0).len.1
  refine ⟨by rw [hlen, hl], ?_⟩
  refine xr_k ?_
  refine xr_aload_n xi_167_144 rfl ?_
  refine xr_virt xi_167_145 rfl rfl (lw_M hlen) rfl (Nat.le_of_ble_eq_true rfl) (Nat.le_of_ble_eq_true rfl) ?_
  refine xc_sh hlen (as := [.ref 0]) rfl (wm_thing hI hst (fun st' ag' Z' hm => ⟨rfl, ?_⟩))
  refine xr_k ?_
  refine xr_ic_eq xi_167_148 rfl rfl (fun _ => ?_) (fun q => absurd rfl q)
  exact hk _ ⟨_, _, _, _, _, _, _, _, _, _, _, _, _, _, rfl, hp _ _ hm, pThing_inv hI, ht, hInv hst hI hZ hm⟩
theorem wl_hold {i : Nat} {H : xm_H} (hi : i + 4 ≤ L) (hL : L ≤ 2048) (hS : lS H) (hk : ∀ H', lS H' → xw L xs 167 689 [.float 0, .ref 0, .ref 47, .int (nI i)] [] H' Qf) : xw L xs 167 153 [.float 0, .ref 0, .ref 47, .int (nI i)] [] H Qf := by
  obtain ⟨Hw, st, tx, ln, ag, po, le, nu, fa, re, od, be, Z, G, rfl, hW, hI, ht, hZ⟩ := hS
  obtain ⟨hl, hst⟩ := hW.len
  obtain ⟨fW, h0⟩ := lw_W hW
  refine xr_aload_n xi_167_153 rfl ?_
  refine xr_aloads xi_167_154 rfl ?_
  refine xr_iload_n xi_167_155 rfl ?_
  refine xr_iconst (z := nI 1) xi_167_156 rfl ?_
  refine xr_iadd xi_167_157 (by first | exact nI_add _ _ | exact rfl) ?_
  refine xr_sald xi_167_158 (by first | exact tI_n (by first | omega | (simp only [ri]; omega)) | exact tI_dn (by omega) (by omega) | assumption) (by omega) ?_
  refine xr_aloads xi_167_159 rfl ?_
  refine xr_iload_n xi_167_160 rfl ?_
  refine xr_iconst (z := nI 2) xi_167_161 rfl ?_
  refine xr_iadd xi_167_162 (by first | exact nI_add _ _ | exact rfl) ?_
  refine xr_sald xi_167_163 (by first | exact tI_n (by first | omega | (simp only [ri]; omega)) | exact tI_dn (by omega) (by omega) | assumption) (by omega) ?_
  refine xr_virt xi_167_164 rfl rfl (h0 _) rfl (Nat.le_of_ble_eq_true rfl) (Nat.le_of_ble_eq_true rfl) ?_
  refine xc_app (h := Hw) (ww_hold hW hI (fun H' hp => ?_))
  obtain ⟨st0, Z0, hm0⟩ := mPost_ex st Z G _
  have hlen := (hp st0 Z0 hm0).len.1
  refine ⟨by rw [hlen, hl], ?_⟩
  refine xr_k ?_
  refine xr_aload_n xi_167_167 rfl ?_
  refine xr_aloads xi_167_168 rfl ?_
  refine xr_iload_n xi_167_169 rfl ?_
  refine xr_iconst (z := nI 1) xi_167_170 rfl ?_
  refine xr_iadd xi_167_171 (by first | exact nI_add _ _ | exact rfl) ?_
  refine xr_sald xi_167_172 (by first | exact tI_n (by first | omega | (simp only [ri]; omega)) | exact tI_dn (by omega) (by omega) | assumption) (by omega) ?_
  refine xr_aloads xi_167_173 rfl ?_
  refine xr_iload_n xi_167_174 rfl ?_
  refine xr_iconst (z := nI 2) xi_167_175 rfl ?_
  refine xr_iadd xi_167_176 (by first | exact nI_add _ _ | exact rfl) ?_
  refine xr_sald xi_167_177 (by first | exact tI_n (by first | omega | (simp only [ri]; omega)) | exact tI_dn (by omega) (by omega) | assumption) (by omega) ?_
  refine xr_virt xi_167_178 rfl rfl (lw_M hlen) rfl (Nat.le_of_ble_eq_true rfl) (Nat.le_of_ble_eq_true rfl) ?_
  refine xc_sh hlen (as := [.ref 0, .int (xs (i + 1)), .int (xs (i + 2))]) rfl (wm_hold hI hst (fun st' ag' Z' hm => ⟨rfl, ?_⟩))
  refine xr_k ?_
  refine xr_ic_eq xi_167_181 rfl rfl (fun _ => ?_) (fun q => absurd rfl q)
  exact hk _ ⟨_, _, _, _, _, _, _, _, _, _, _, _, _, _, rfl, hp _ _ hm, pHold_inv hI, ht, hInv hst hI hZ hm⟩
theorem wl_release {i : Nat} {H : xm_H} (hi : i + 4 ≤ L) (hL : L ≤ 2048) (hS : lS H) (hk : ∀ H', lS H' → xw L xs 167 689 [.float 0, .ref 0, .ref 47, .int (nI i)] [] H' Qf) : xw L xs 167 186 [.float 0, .ref 0, .ref 47, .int (nI i)] [] H Qf := by
  obtain ⟨Hw, st, tx, ln, ag, po, le, nu, fa, re, od, be, Z, G, rfl, hW, hI, ht, hZ⟩ := hS
  obtain ⟨hl, hst⟩ := hW.len
  obtain ⟨fW, h0⟩ := lw_W hW
  refine xr_aload_n xi_167_186 rfl ?_
  refine xr_aloads xi_167_187 rfl ?_
  refine xr_iload_n xi_167_188 rfl ?_
  refine xr_iconst (z := nI 1) xi_167_189 rfl ?_
  refine xr_iadd xi_167_190 (by first | exact nI_add _ _ | exact rfl) ?_
  refine xr_sald xi_167_191 (by first | exact tI_n (by first | omega | (simp only [ri]; omega)) | exact tI_dn (by omega) (by omega) | assumption) (by omega) ?_
  refine xr_virt xi_167_192 rfl rfl (h0 _) rfl (Nat.le_of_ble_eq_true rfl) (Nat.le_of_ble_eq_true rfl) ?_
  refine xc_app (h := Hw) (ww_release hW hI (fun H' hp => ?_))
  obtain ⟨st0, Z0, hm0⟩ := mPost_ex st Z G _
  have hlen := (hp st0 Z0 hm0).len.1
  refine ⟨by rw [hlen, hl], ?_⟩
  refine xr_k ?_
  refine xr_aload_n xi_167_195 rfl ?_
  refine xr_aloads xi_167_196 rfl ?_
  refine xr_iload_n xi_167_197 rfl ?_
  refine xr_iconst (z := nI 1) xi_167_198 rfl ?_
  refine xr_iadd xi_167_199 (by first | exact nI_add _ _ | exact rfl) ?_
  refine xr_sald xi_167_200 (by first | exact tI_n (by first | omega | (simp only [ri]; omega)) | exact tI_dn (by omega) (by omega) | assumption) (by omega) ?_
  refine xr_virt xi_167_201 rfl rfl (lw_M hlen) rfl (Nat.le_of_ble_eq_true rfl) (Nat.le_of_ble_eq_true rfl) ?_
  refine xc_sh hlen (as := [.ref 0, .int (xs (i + 1))]) rfl (wm_release hI hst (fun st' ag' Z' hm => ⟨rfl, ?_⟩))
  refine xr_k ?_
  refine xr_ic_eq xi_167_204 rfl rfl (fun _ => ?_) (fun q => absurd rfl q)
  exact hk _ ⟨_, _, _, _, _, _, _, _, _, _, _, _, _, _, rfl, hp _ _ hm, pRelease_inv hI, ht, hInv hst hI hZ hm⟩
theorem wl_tie {i : Nat} {H : xm_H} (hi : i + 4 ≤ L) (hL : L ≤ 2048) (hS : lS H) (hk : ∀ H', lS H' → xw L xs 167 689 [.float 0, .ref 0, .ref 47, .int (nI i)] [] H' Qf) : xw L xs 167 209 [.float 0, .ref 0, .ref 47, .int (nI i)] [] H Qf := by
  obtain ⟨Hw, st, tx, ln, ag, po, le, nu, fa, re, od, be, Z, G, rfl, hW, hI, ht, hZ⟩ := hS
  obtain ⟨hl, hst⟩ := hW.len
  obtain ⟨fW, h0⟩ := lw_W hW
  refine xr_aload_n xi_167_209 rfl ?_
  refine xr_aloads xi_167_210 rfl ?_
  refine xr_iload_n xi_167_211 rfl ?_
  refine xr_iconst (z := nI 1) xi_167_212 rfl ?_
  refine xr_iadd xi_167_213 (by first | exact nI_add _ _ | exact rfl) ?_
  refine xr_sald xi_167_214 (by first | exact tI_n (by first | omega | (simp only [ri]; omega)) | exact tI_dn (by omega) (by omega) | assumption) (by omega) ?_
  refine xr_aloads xi_167_215 rfl ?_
  refine xr_iload_n xi_167_216 rfl ?_
  refine xr_iconst (z := nI 2) xi_167_217 rfl ?_
  refine xr_iadd xi_167_218 (by first | exact nI_add _ _ | exact rfl) ?_
  refine xr_sald xi_167_219 (by first | exact tI_n (by first | omega | (simp only [ri]; omega)) | exact tI_dn (by omega) (by omega) | assumption) (by omega) ?_
  refine xr_aloads xi_167_220 rfl ?_
  refine xr_iload_n xi_167_221 rfl ?_
  refine xr_iconst (z := nI 3) xi_167_222 rfl ?_
  refine xr_iadd xi_167_223 (by first | exact nI_add _ _ | exact rfl) ?_
  refine xr_sald xi_167_224 (by first | exact tI_n (by first | omega | (simp only [ri]; omega)) | exact tI_dn (by omega) (by omega) | assumption) (by omega) ?_
  refine xr_virt xi_167_225 rfl rfl (h0 _) rfl (Nat.le_of_ble_eq_true rfl) (Nat.le_of_ble_eq_true rfl) ?_
  refine xc_app (h := Hw) (ww_tie hW hI (fun H' hp => ?_))
  obtain ⟨st0, Z0, hm0⟩ := mPost_ex st Z G _
  have hlen := (hp st0 Z0 hm0).len.1
  refine ⟨by rw [hlen, hl], ?_⟩
  refine xr_k ?_
  refine xr_aload_n xi_167_228 rfl ?_
  refine xr_aloads xi_167_229 rfl ?_
  refine xr_iload_n xi_167_230 rfl ?_
  refine xr_iconst (z := nI 1) xi_167_231 rfl ?_
  refine xr_iadd xi_167_232 (by first | exact nI_add _ _ | exact rfl) ?_
  refine xr_sald xi_167_233 (by first | exact tI_n (by first | omega | (simp only [ri]; omega)) | exact tI_dn (by omega) (by omega) | assumption) (by omega) ?_
  refine xr_aloads xi_167_234 rfl ?_
  refine xr_iload_n xi_167_235 rfl ?_
  refine xr_iconst (z := nI 2) xi_167_236 rfl ?_
  refine xr_iadd xi_167_237 (by first | exact nI_add _ _ | exact rfl) ?_
  refine xr_sald xi_167_238 (by first | exact tI_n (by first | omega | (simp only [ri]; omega)) | exact tI_dn (by omega) (by omega) | assumption) (by omega) ?_
  refine xr_aloads xi_167_239 rfl ?_
  refine xr_iload_n xi_167_240 rfl ?_
  refine xr_iconst (z := nI 3) xi_167_241 rfl ?_
  refine xr_iadd xi_167_242 (by first | exact nI_add _ _ | exact rfl) ?_
  refine xr_sald xi_167_243 (by first | exact tI_n (by first | omega | (simp only [ri]; omega)) | exact tI_dn (by omega) (by omega) | assumption) (by omega) ?_
  refine xr_virt xi_167_244 rfl rfl (lw_M hlen) rfl (Nat.le_of_ble_eq_true rfl) (Nat.le_of_ble_eq_true rfl) ?_
  refine xc_sh hlen (as := [.ref 0, .int (xs (i + 1)), .int (xs (i + 2)), .int (xs (i + 3))]) rfl (wm_tie hI hst (fun st' ag' Z' hm => ⟨rfl, ?_⟩))
  refine xr_k ?_
  refine xr_ic_eq xi_167_247 rfl rfl (fun _ => ?_) (fun q => absurd rfl q)
  exact hk _ ⟨_, _, _, _, _, _, _, _, _, _, _, _, _, _, rfl, hp _ _ hm, pTie_inv hI, ht, hInv hst hI hZ hm⟩
theorem wl_loosen {i : Nat} {H : xm_H} (hi : i + 4 ≤ L) (hL : L ≤ 2048) (hS : lS H) (hk : ∀ H', lS H' → xw L xs 167 689 [.float 0, .ref 0, .ref 47, .int (nI i)] [] H' Qf) : xw L xs 167 252 [.float 0, .ref 0, .ref 47, .int (nI i)] [] H Qf := by
  obtain ⟨Hw, st, tx, ln, ag, po, le, nu, fa, re, od, be, Z, G, rfl, hW, hI, ht, hZ⟩ := hS
  obtain ⟨hl, hst⟩ := hW.len
  obtain ⟨fW, h0⟩ := lw_W hW
  refine xr_aload_n xi_167_252 rfl ?_
  refine xr_aloads xi_167_253 rfl ?_
  refine xr_iload_n xi_167_254 rfl ?_
  refine xr_iconst (z := nI 1) xi_167_255 rfl ?_
  refine xr_iadd xi_167_256 (by first | exact nI_add _ _ | exact rfl) ?_
  refine xr_sald xi_167_257 (by first | exact tI_n (by first | omega | (simp only [ri]; omega)) | exact tI_dn (by omega) (by omega) | assumption) (by omega) ?_
  refine xr_aloads xi_167_258 rfl ?_
  refine xr_iload_n xi_167_259 rfl ?_
  refine xr_iconst (z := nI 2) xi_167_260 rfl ?_
  refine xr_iadd xi_167_261 (by first | exact nI_add _ _ | exact rfl) ?_
  refine xr_sald xi_167_262 (by first | exact tI_n (by first | omega | (simp only [ri]; omega)) | exact tI_dn (by omega) (by omega) | assumption) (by omega) ?_
  refine xr_virt xi_167_263 rfl rfl (h0 _) rfl (Nat.le_of_ble_eq_true rfl) (Nat.le_of_ble_eq_true rfl) ?_
  refine xc_app (h := Hw) (ww_loosen hW hI (fun H' hp => ?_))
  obtain ⟨st0, Z0, hm0⟩ := mPost_ex st Z G _
  have hlen := (hp st0 Z0 hm0).len.1
  refine ⟨by rw [hlen, hl], ?_⟩
  refine xr_k ?_
  refine xr_aload_n xi_167_266 rfl ?_
  refine xr_aloads xi_167_267 rfl ?_
  refine xr_iload_n xi_167_268 rfl ?_
  refine xr_iconst (z := nI 1) xi_167_269 rfl ?_
  refine xr_iadd xi_167_270 (by first | exact nI_add _ _ | exact rfl) ?_
  refine xr_sald xi_167_271 (by first | exact tI_n (by first | omega | (simp only [ri]; omega)) | exact tI_dn (by omega) (by omega) | assumption) (by omega) ?_
  refine xr_aloads xi_167_272 rfl ?_
  refine xr_iload_n xi_167_273 rfl ?_
  refine xr_iconst (z := nI 2) xi_167_274 rfl ?_
  refine xr_iadd xi_167_275 (by first | exact nI_add _ _ | exact rfl) ?_
  refine xr_sald xi_167_276 (by first | exact tI_n (by first | omega | (simp only [ri]; omega)) | exact tI_dn (by omega) (by omega) | assumption) (by omega) ?_
  refine xr_virt xi_167_277 rfl rfl (lw_M hlen) rfl (Nat.le_of_ble_eq_true rfl) (Nat.le_of_ble_eq_true rfl) ?_
  refine xc_sh hlen (as := [.ref 0, .int (xs (i + 1)), .int (xs (i + 2))]) rfl (wm_loosen hI hst (fun st' ag' Z' hm => ⟨rfl, ?_⟩))
  refine xr_k ?_
  refine xr_ic_eq xi_167_280 rfl rfl (fun _ => ?_) (fun q => absurd rfl q)
  exact hk _ ⟨_, _, _, _, _, _, _, _, _, _, _, _, _, _, rfl, hp _ _ hm, pLoosen_inv hI, ht, hInv hst hI hZ hm⟩
theorem wl_pin {i : Nat} {H : xm_H} (hi : i + 4 ≤ L) (hL : L ≤ 2048) (hS : lS H) (hk : ∀ H', lS H' → xw L xs 167 689 [.float 0, .ref 0, .ref 47, .int (nI i)] [] H' Qf) : xw L xs 167 285 [.float 0, .ref 0, .ref 47, .int (nI i)] [] H Qf := by
  obtain ⟨Hw, st, tx, ln, ag, po, le, nu, fa, re, od, be, Z, G, rfl, hW, hI, ht, hZ⟩ := hS
  obtain ⟨hl, hst⟩ := hW.len
  obtain ⟨fW, h0⟩ := lw_W hW
  refine xr_aload_n xi_167_285 rfl ?_
  refine xr_aloads xi_167_286 rfl ?_
  refine xr_iload_n xi_167_287 rfl ?_
  refine xr_iconst (z := nI 1) xi_167_288 rfl ?_
  refine xr_iadd xi_167_289 (by first | exact nI_add _ _ | exact rfl) ?_
  refine xr_sald xi_167_290 (by first | exact tI_n (by first | omega | (simp only [ri]; omega)) | exact tI_dn (by omega) (by omega) | assumption) (by omega) ?_
  refine xr_virt xi_167_291 rfl rfl (h0 _) rfl (Nat.le_of_ble_eq_true rfl) (Nat.le_of_ble_eq_true rfl) ?_
  refine xc_app (h := Hw) (ww_pin hW hI (fun H' hp => ?_))
  obtain ⟨st0, Z0, hm0⟩ := mPost_ex st Z G _
  have hlen := (hp st0 Z0 hm0).len.1
  refine ⟨by rw [hlen, hl], ?_⟩
  refine xr_k ?_
  refine xr_aload_n xi_167_294 rfl ?_
  refine xr_aloads xi_167_295 rfl ?_
  refine xr_iload_n xi_167_296 rfl ?_
  refine xr_iconst (z := nI 1) xi_167_297 rfl ?_
  refine xr_iadd xi_167_298 (by first | exact nI_add _ _ | exact rfl) ?_
  refine xr_sald xi_167_299 (by first | exact tI_n (by first | omega | (simp only [ri]; omega)) | exact tI_dn (by omega) (by omega) | assumption) (by omega) ?_
  refine xr_virt xi_167_300 rfl rfl (lw_M hlen) rfl (Nat.le_of_ble_eq_true rfl) (Nat.le_of_ble_eq_true rfl) ?_
  refine xc_sh hlen (as := [.ref 0, .int (xs (i + 1))]) rfl (wm_pin hI hst (fun st' ag' Z' hm => ⟨rfl, ?_⟩))
  refine xr_k ?_
  refine xr_ic_eq xi_167_303 rfl rfl (fun _ => ?_) (fun q => absurd rfl q)
  exact hk _ ⟨_, _, _, _, _, _, _, _, _, _, _, _, _, _, rfl, hp _ _ hm, pPin_inv (by omega) hI, ht, hInv hst hI hZ hm⟩
theorem wl_unpin {i : Nat} {H : xm_H} (hi : i + 4 ≤ L) (hL : L ≤ 2048) (hS : lS H) (hk : ∀ H', lS H' → xw L xs 167 689 [.float 0, .ref 0, .ref 47, .int (nI i)] [] H' Qf) : xw L xs 167 308 [.float 0, .ref 0, .ref 47, .int (nI i)] [] H Qf := by
  obtain ⟨Hw, st, tx, ln, ag, po, le, nu, fa, re, od, be, Z, G, rfl, hW, hI, ht, hZ⟩ := hS
  obtain ⟨hl, hst⟩ := hW.len
  obtain ⟨fW, h0⟩ := lw_W hW
  refine xr_aload_n xi_167_308 rfl ?_
  refine xr_aloads xi_167_309 rfl ?_
  refine xr_iload_n xi_167_310 rfl ?_
  refine xr_iconst (z := nI 1) xi_167_311 rfl ?_
  refine xr_iadd xi_167_312 (by first | exact nI_add _ _ | exact rfl) ?_
  refine xr_sald xi_167_313 (by first | exact tI_n (by first | omega | (simp only [ri]; omega)) | exact tI_dn (by omega) (by omega) | assumption) (by omega) ?_
  refine xr_virt xi_167_314 rfl rfl (h0 _) rfl (Nat.le_of_ble_eq_true rfl) (Nat.le_of_ble_eq_true rfl) ?_
  refine xc_app (h := Hw) (ww_unpin hW hI (fun H' hp => ?_))
  obtain ⟨st0, Z0, hm0⟩ := mPost_ex st Z G _
  have hlen := (hp st0 Z0 hm0).len.1
  refine ⟨by rw [hlen, hl], ?_⟩
  refine xr_k ?_
  refine xr_aload_n xi_167_317 rfl ?_
  refine xr_aloads xi_167_318 rfl ?_
  refine xr_iload_n xi_167_319 rfl ?_
  refine xr_iconst (z := nI 1) xi_167_320 rfl ?_
  refine xr_iadd xi_167_321 (by first | exact nI_add _ _ | exact rfl) ?_
  refine xr_sald xi_167_322 (by first | exact tI_n (by first | omega | (simp only [ri]; omega)) | exact tI_dn (by omega) (by omega) | assumption) (by omega) ?_
  refine xr_virt xi_167_323 rfl rfl (lw_M hlen) rfl (Nat.le_of_ble_eq_true rfl) (Nat.le_of_ble_eq_true rfl) ?_
  refine xc_sh hlen (as := [.ref 0, .int (xs (i + 1))]) rfl (wm_unpin hI hst (fun st' ag' Z' hm => ⟨rfl, ?_⟩))
  refine xr_k ?_
  refine xr_ic_eq xi_167_326 rfl rfl (fun _ => ?_) (fun q => absurd rfl q)
  exact hk _ ⟨_, _, _, _, _, _, _, _, _, _, _, _, _, _, rfl, hp _ _ hm, pPin_inv (by omega) hI, ht, hInv hst hI hZ hm⟩
theorem wl_winter {i : Nat} {H : xm_H} (hi : i + 4 ≤ L) (hL : L ≤ 2048) (hS : lS H) (hk : ∀ H', lS H' → xw L xs 167 689 [.float 0, .ref 0, .ref 47, .int (nI i)] [] H' Qf) : xw L xs 167 331 [.float 0, .ref 0, .ref 47, .int (nI i)] [] H Qf := by
  obtain ⟨Hw, st, tx, ln, ag, po, le, nu, fa, re, od, be, Z, G, rfl, hW, hI, ht, hZ⟩ := hS
  obtain ⟨hl, hst⟩ := hW.len
  obtain ⟨fW, h0⟩ := lw_W hW
  refine xr_aload_n xi_167_331 rfl ?_
  refine xr_aloads xi_167_332 rfl ?_
  refine xr_iload_n xi_167_333 rfl ?_
  refine xr_iconst (z := nI 1) xi_167_334 rfl ?_
  refine xr_iadd xi_167_335 (by first | exact nI_add _ _ | exact rfl) ?_
  refine xr_sald xi_167_336 (by first | exact tI_n (by first | omega | (simp only [ri]; omega)) | exact tI_dn (by omega) (by omega) | assumption) (by omega) ?_
  refine xr_virt xi_167_337 rfl rfl (h0 _) rfl (Nat.le_of_ble_eq_true rfl) (Nat.le_of_ble_eq_true rfl) ?_
  refine xc_app (h := Hw) (ww_winter hW hI (fun H' hp => ?_))
  obtain ⟨st0, Z0, hm0⟩ := mPost_ex st Z G _
  have hlen := (hp st0 Z0 hm0).len.1
  refine ⟨by rw [hlen, hl], ?_⟩
  refine xr_k ?_
  refine xr_aload_n xi_167_340 rfl ?_
  refine xr_aloads xi_167_341 rfl ?_
  refine xr_iload_n xi_167_342 rfl ?_
  refine xr_iconst (z := nI 1) xi_167_343 rfl ?_
  refine xr_iadd xi_167_344 (by first | exact nI_add _ _ | exact rfl) ?_
  refine xr_sald xi_167_345 (by first | exact tI_n (by first | omega | (simp only [ri]; omega)) | exact tI_dn (by omega) (by omega) | assumption) (by omega) ?_
  refine xr_virt xi_167_346 rfl rfl (lw_M hlen) rfl (Nat.le_of_ble_eq_true rfl) (Nat.le_of_ble_eq_true rfl) ?_
  refine xc_sh hlen (as := [.ref 0, .int (xs (i + 1))]) rfl (wm_winter hI hst (fun st' ag' Z' hm => ⟨rfl, ?_⟩))
  refine xr_k ?_
  refine xr_ic_eq xi_167_349 rfl rfl (fun _ => ?_) (fun q => absurd rfl q)
  exact hk _ ⟨_, _, _, _, _, _, _, _, _, _, _, _, _, _, rfl, hp _ _ hm, pWinter_inv hI, ht, hInv hst hI hZ hm⟩
theorem wl_full {i : Nat} {H : xm_H} (hi : i + 4 ≤ L) (hL : L ≤ 2048) (hS : lS H) (hk : ∀ H', lS H' → xw L xs 167 689 [.float 0, .ref 0, .ref 47, .int (nI i)] [] H' Qf) : xw L xs 167 354 [.float 0, .ref 0, .ref 47, .int (nI i)] [] H Qf := by
  obtain ⟨Hw, st, tx, ln, ag, po, le, nu, fa, re, od, be, Z, G, rfl, hW, hI, ht, hZ⟩ := hS
  obtain ⟨hl, hst⟩ := hW.len
  obtain ⟨fW, h0⟩ := lw_W hW
  refine xr_aload_n xi_167_354 rfl ?_
  refine xr_virt xi_167_355 rfl rfl (h0 _) rfl (Nat.le_of_ble_eq_true rfl) (Nat.le_of_ble_eq_true rfl) ?_
  refine xc_app (h := Hw) (ww_full hW hI (fun H' hp => ?_))
  obtain ⟨st0, Z0, hm0⟩ := mPost_ex st Z G _
  have hlen := (hp st0 Z0 hm0).len.1
  refine ⟨by rw [hlen, hl], ?_⟩
  refine xr_k ?_
  refine xr_aload_n xi_167_358 rfl ?_
  refine xr_virt xi_167_359 rfl rfl (lw_M hlen) rfl (Nat.le_of_ble_eq_true rfl) (Nat.le_of_ble_eq_true rfl) ?_
  refine xc_sh hlen (as := [.ref 0]) rfl (wm_full hI hst (fun st' ag' Z' hm => ⟨rfl, ?_⟩))
  refine xr_k ?_
  refine xr_ic_eq xi_167_362 rfl rfl (fun _ => ?_) (fun q => absurd rfl q)
  exact hk _ ⟨_, _, _, _, _, _, _, _, _, _, _, _, _, _, rfl, hp _ _ hm, pFull_inv hI, ht, hInv hst hI hZ hm⟩
theorem wl_thingOf {i : Nat} {H : xm_H} (hi : i + 4 ≤ L) (hL : L ≤ 2048) (hS : lS H) (hk : ∀ H', lS H' → xw L xs 167 689 [.float 0, .ref 0, .ref 47, .int (nI i)] [] H' Qf) : xw L xs 167 367 [.float 0, .ref 0, .ref 47, .int (nI i)] [] H Qf := by
  obtain ⟨Hw, st, tx, ln, ag, po, le, nu, fa, re, od, be, Z, G, rfl, hW, hI, ht, hZ⟩ := hS
  obtain ⟨hl, hst⟩ := hW.len
  obtain ⟨fW, h0⟩ := lw_W hW
  refine xr_aload_n xi_167_367 rfl ?_
  refine xr_aloads xi_167_368 rfl ?_
  refine xr_iload_n xi_167_369 rfl ?_
  refine xr_iconst (z := nI 1) xi_167_370 rfl ?_
  refine xr_iadd xi_167_371 (by first | exact nI_add _ _ | exact rfl) ?_
  refine xr_sald xi_167_372 (by first | exact tI_n (by first | omega | (simp only [ri]; omega)) | exact tI_dn (by omega) (by omega) | assumption) (by omega) ?_
  refine xr_aloads xi_167_373 rfl ?_
  refine xr_iload_n xi_167_374 rfl ?_
  refine xr_iconst (z := nI 2) xi_167_375 rfl ?_
  refine xr_iadd xi_167_376 (by first | exact nI_add _ _ | exact rfl) ?_
  refine xr_sald xi_167_377 (by first | exact tI_n (by first | omega | (simp only [ri]; omega)) | exact tI_dn (by omega) (by omega) | assumption) (by omega) ?_
  refine xr_virt xi_167_378 rfl rfl (h0 _) rfl (Nat.le_of_ble_eq_true rfl) (Nat.le_of_ble_eq_true rfl) ?_
  refine xc_app (h := Hw) (ww_thingOf hW hI (fun t u ht1 hu e1 e2 => ⟨rfl, ?_⟩) (fun hn => ⟨rfl, ?_⟩))
  · have hlen := hl
    refine xr_k ?_
    refine xr_aload_n xi_167_381 rfl ?_
    refine xr_aloads xi_167_382 rfl ?_
    refine xr_iload_n xi_167_383 rfl ?_
    refine xr_iconst (z := nI 1) xi_167_384 rfl ?_
    refine xr_iadd xi_167_385 (by first | exact nI_add _ _ | exact rfl) ?_
    refine xr_sald xi_167_386 (by first | exact tI_n (by first | omega | (simp only [ri]; omega)) | exact tI_dn (by omega) (by omega) | assumption) (by omega) ?_
    refine xr_aloads xi_167_387 rfl ?_
    refine xr_iload_n xi_167_388 rfl ?_
    refine xr_iconst (z := nI 2) xi_167_389 rfl ?_
    refine xr_iadd xi_167_390 (by first | exact nI_add _ _ | exact rfl) ?_
    refine xr_sald xi_167_391 (by first | exact tI_n (by first | omega | (simp only [ri]; omega)) | exact tI_dn (by omega) (by omega) | assumption) (by omega) ?_
    refine xr_virt xi_167_392 rfl rfl (lw_M hlen) rfl (Nat.le_of_ble_eq_true rfl) (Nat.le_of_ble_eq_true rfl) ?_
    refine xc_sh hlen (as := [.ref 0, .int (xs (i + 1)), .int (xs (i + 2))]) rfl (wm_thingOf hI (fun t' u' ht' hu' e1' e2' => ⟨rfl, ?_⟩) (fun hn => absurd ⟨t, u, ht1, hu, e1, e2⟩ hn))
    have hc := hI.c
    have q1 := (nI_inj (by omega) (by omega)).mp (e1.symm.trans e1')
    have q2 := (nI_inj (by omega) (by omega)).mp (e2.symm.trans e2')
    subst q1
    subst q2
    refine xr_k ?_
    refine xr_ic_eq xi_167_395 rfl rfl (fun _ => ?_) (fun q => absurd rfl q)
    exact hk _ ⟨_, _, _, _, _, _, _, _, _, _, _, _, _, _, rfl, hW, hI, ht, hZ⟩
  · have hlen := hl
    refine xr_k ?_
    refine xr_aload_n xi_167_381 rfl ?_
    refine xr_aloads xi_167_382 rfl ?_
    refine xr_iload_n xi_167_383 rfl ?_
    refine xr_iconst (z := nI 1) xi_167_384 rfl ?_
    refine xr_iadd xi_167_385 (by first | exact nI_add _ _ | exact rfl) ?_
    refine xr_sald xi_167_386 (by first | exact tI_n (by first | omega | (simp only [ri]; omega)) | exact tI_dn (by omega) (by omega) | assumption) (by omega) ?_
    refine xr_aloads xi_167_387 rfl ?_
    refine xr_iload_n xi_167_388 rfl ?_
    refine xr_iconst (z := nI 2) xi_167_389 rfl ?_
    refine xr_iadd xi_167_390 (by first | exact nI_add _ _ | exact rfl) ?_
    refine xr_sald xi_167_391 (by first | exact tI_n (by first | omega | (simp only [ri]; omega)) | exact tI_dn (by omega) (by omega) | assumption) (by omega) ?_
    refine xr_virt xi_167_392 rfl rfl (lw_M hlen) rfl (Nat.le_of_ble_eq_true rfl) (Nat.le_of_ble_eq_true rfl) ?_
    refine xc_sh hlen (as := [.ref 0, .int (xs (i + 1)), .int (xs (i + 2))]) rfl (wm_thingOf hI (fun t' u' ht' hu' e1' e2' => absurd ⟨t', u', ht', hu', e1', e2'⟩ hn) (fun _ => ⟨rfl, ?_⟩))
    refine xr_k ?_
    refine xr_ic_eq xi_167_395 rfl rfl (fun _ => ?_) (fun q => absurd rfl q)
    exact hk _ ⟨_, _, _, _, _, _, _, _, _, _, _, _, _, _, rfl, hW, hI, ht, hZ⟩
theorem wl_houseOf {i : Nat} {H : xm_H} (hi : i + 4 ≤ L) (hL : L ≤ 2048) (hS : lS H) (hk : ∀ H', lS H' → xw L xs 167 689 [.float 0, .ref 0, .ref 47, .int (nI i)] [] H' Qf) : xw L xs 167 400 [.float 0, .ref 0, .ref 47, .int (nI i)] [] H Qf := by
  obtain ⟨Hw, st, tx, ln, ag, po, le, nu, fa, re, od, be, Z, G, rfl, hW, hI, ht, hZ⟩ := hS
  obtain ⟨hl, hst⟩ := hW.len
  obtain ⟨fW, h0⟩ := lw_W hW
  refine xr_aload_n xi_167_400 rfl ?_
  refine xr_aloads xi_167_401 rfl ?_
  refine xr_iload_n xi_167_402 rfl ?_
  refine xr_iconst (z := nI 1) xi_167_403 rfl ?_
  refine xr_iadd xi_167_404 (by first | exact nI_add _ _ | exact rfl) ?_
  refine xr_sald xi_167_405 (by first | exact tI_n (by first | omega | (simp only [ri]; omega)) | exact tI_dn (by omega) (by omega) | assumption) (by omega) ?_
  refine xr_aloads xi_167_406 rfl ?_
  refine xr_iload_n xi_167_407 rfl ?_
  refine xr_iconst (z := nI 2) xi_167_408 rfl ?_
  refine xr_iadd xi_167_409 (by first | exact nI_add _ _ | exact rfl) ?_
  refine xr_sald xi_167_410 (by first | exact tI_n (by first | omega | (simp only [ri]; omega)) | exact tI_dn (by omega) (by omega) | assumption) (by omega) ?_
  refine xr_virt xi_167_411 rfl rfl (h0 _) rfl (Nat.le_of_ble_eq_true rfl) (Nat.le_of_ble_eq_true rfl) ?_
  refine xc_app (h := Hw) (ww_houseOf hW hI (fun t u ht1 hu e1 e2 => ⟨rfl, ?_⟩) (fun hn => ⟨rfl, ?_⟩))
  · have hlen := hl
    refine xr_k ?_
    refine xr_aload_n xi_167_414 rfl ?_
    refine xr_aloads xi_167_415 rfl ?_
    refine xr_iload_n xi_167_416 rfl ?_
    refine xr_iconst (z := nI 1) xi_167_417 rfl ?_
    refine xr_iadd xi_167_418 (by first | exact nI_add _ _ | exact rfl) ?_
    refine xr_sald xi_167_419 (by first | exact tI_n (by first | omega | (simp only [ri]; omega)) | exact tI_dn (by omega) (by omega) | assumption) (by omega) ?_
    refine xr_aloads xi_167_420 rfl ?_
    refine xr_iload_n xi_167_421 rfl ?_
    refine xr_iconst (z := nI 2) xi_167_422 rfl ?_
    refine xr_iadd xi_167_423 (by first | exact nI_add _ _ | exact rfl) ?_
    refine xr_sald xi_167_424 (by first | exact tI_n (by first | omega | (simp only [ri]; omega)) | exact tI_dn (by omega) (by omega) | assumption) (by omega) ?_
    refine xr_virt xi_167_425 rfl rfl (lw_M hlen) rfl (Nat.le_of_ble_eq_true rfl) (Nat.le_of_ble_eq_true rfl) ?_
    refine xc_sh hlen (as := [.ref 0, .int (xs (i + 1)), .int (xs (i + 2))]) rfl (wm_houseOf hI (fun t' u' ht' hu' e1' e2' => ⟨rfl, ?_⟩) (fun hn => absurd ⟨t, u, ht1, hu, e1, e2⟩ hn))
    have hc := hI.c
    have q1 := (nI_inj (by omega) (by omega)).mp (e1.symm.trans e1')
    have q2 := (nI_inj (by omega) (by omega)).mp (e2.symm.trans e2')
    subst q1
    subst q2
    refine xr_k ?_
    refine xr_ic_eq xi_167_428 rfl rfl (fun _ => ?_) (fun q => absurd rfl q)
    exact hk _ ⟨_, _, _, _, _, _, _, _, _, _, _, _, _, _, rfl, hW, hI, ht, hZ⟩
  · have hlen := hl
    refine xr_k ?_
    refine xr_aload_n xi_167_414 rfl ?_
    refine xr_aloads xi_167_415 rfl ?_
    refine xr_iload_n xi_167_416 rfl ?_
    refine xr_iconst (z := nI 1) xi_167_417 rfl ?_
    refine xr_iadd xi_167_418 (by first | exact nI_add _ _ | exact rfl) ?_
    refine xr_sald xi_167_419 (by first | exact tI_n (by first | omega | (simp only [ri]; omega)) | exact tI_dn (by omega) (by omega) | assumption) (by omega) ?_
    refine xr_aloads xi_167_420 rfl ?_
    refine xr_iload_n xi_167_421 rfl ?_
    refine xr_iconst (z := nI 2) xi_167_422 rfl ?_
    refine xr_iadd xi_167_423 (by first | exact nI_add _ _ | exact rfl) ?_
    refine xr_sald xi_167_424 (by first | exact tI_n (by first | omega | (simp only [ri]; omega)) | exact tI_dn (by omega) (by omega) | assumption) (by omega) ?_
    refine xr_virt xi_167_425 rfl rfl (lw_M hlen) rfl (Nat.le_of_ble_eq_true rfl) (Nat.le_of_ble_eq_true rfl) ?_
    refine xc_sh hlen (as := [.ref 0, .int (xs (i + 1)), .int (xs (i + 2))]) rfl (wm_houseOf hI (fun t' u' ht' hu' e1' e2' => absurd ⟨t', u', ht', hu', e1', e2'⟩ hn) (fun _ => ⟨rfl, ?_⟩))
    refine xr_k ?_
    refine xr_ic_eq xi_167_428 rfl rfl (fun _ => ?_) (fun q => absurd rfl q)
    exact hk _ ⟨_, _, _, _, _, _, _, _, _, _, _, _, _, _, rfl, hW, hI, ht, hZ⟩
theorem wl_handOf {i : Nat} {H : xm_H} (hi : i + 4 ≤ L) (hL : L ≤ 2048) (hS : lS H) (hk : ∀ H', lS H' → xw L xs 167 689 [.float 0, .ref 0, .ref 47, .int (nI i)] [] H' Qf) : xw L xs 167 433 [.float 0, .ref 0, .ref 47, .int (nI i)] [] H Qf := by
  obtain ⟨Hw, st, tx, ln, ag, po, le, nu, fa, re, od, be, Z, G, rfl, hW, hI, ht, hZ⟩ := hS
  obtain ⟨hl, hst⟩ := hW.len
  obtain ⟨fW, h0⟩ := lw_W hW
  refine xr_aload_n xi_167_433 rfl ?_
  refine xr_aloads xi_167_434 rfl ?_
  refine xr_iload_n xi_167_435 rfl ?_
  refine xr_iconst (z := nI 1) xi_167_436 rfl ?_
  refine xr_iadd xi_167_437 (by first | exact nI_add _ _ | exact rfl) ?_
  refine xr_sald xi_167_438 (by first | exact tI_n (by first | omega | (simp only [ri]; omega)) | exact tI_dn (by omega) (by omega) | assumption) (by omega) ?_
  refine xr_virt xi_167_439 rfl rfl (h0 _) rfl (Nat.le_of_ble_eq_true rfl) (Nat.le_of_ble_eq_true rfl) ?_
  refine xc_app (h := Hw) (ww_handOf hW hI (fun t ht1 e1 => ⟨rfl, ?_⟩) (fun hn => ⟨rfl, ?_⟩))
  · have hlen := hl
    refine xr_k ?_
    refine xr_aload_n xi_167_442 rfl ?_
    refine xr_aloads xi_167_443 rfl ?_
    refine xr_iload_n xi_167_444 rfl ?_
    refine xr_iconst (z := nI 1) xi_167_445 rfl ?_
    refine xr_iadd xi_167_446 (by first | exact nI_add _ _ | exact rfl) ?_
    refine xr_sald xi_167_447 (by first | exact tI_n (by first | omega | (simp only [ri]; omega)) | exact tI_dn (by omega) (by omega) | assumption) (by omega) ?_
    refine xr_virt xi_167_448 rfl rfl (lw_M hlen) rfl (Nat.le_of_ble_eq_true rfl) (Nat.le_of_ble_eq_true rfl) ?_
    refine xc_sh hlen (as := [.ref 0, .int (xs (i + 1))]) rfl (wm_handOf hI (fun t' ht' e1' => ⟨rfl, ?_⟩) (fun hn => absurd e1 (hn t ht1)))
    have q1 := (nI_inj (by omega) (by omega)).mp (e1.symm.trans e1')
    subst q1
    refine xr_k ?_
    refine xr_ic_eq xi_167_451 rfl rfl (fun _ => ?_) (fun q => absurd rfl q)
    exact hk _ ⟨_, _, _, _, _, _, _, _, _, _, _, _, _, _, rfl, hW, hI, ht, hZ⟩
  · have hlen := hl
    refine xr_k ?_
    refine xr_aload_n xi_167_442 rfl ?_
    refine xr_aloads xi_167_443 rfl ?_
    refine xr_iload_n xi_167_444 rfl ?_
    refine xr_iconst (z := nI 1) xi_167_445 rfl ?_
    refine xr_iadd xi_167_446 (by first | exact nI_add _ _ | exact rfl) ?_
    refine xr_sald xi_167_447 (by first | exact tI_n (by first | omega | (simp only [ri]; omega)) | exact tI_dn (by omega) (by omega) | assumption) (by omega) ?_
    refine xr_virt xi_167_448 rfl rfl (lw_M hlen) rfl (Nat.le_of_ble_eq_true rfl) (Nat.le_of_ble_eq_true rfl) ?_
    refine xc_sh hlen (as := [.ref 0, .int (xs (i + 1))]) rfl (wm_handOf hI (fun t' ht' e1' => absurd e1' (hn t' ht')) (fun _ => ⟨rfl, ?_⟩))
    refine xr_k ?_
    refine xr_ic_eq xi_167_451 rfl rfl (fun _ => ?_) (fun q => absurd rfl q)
    exact hk _ ⟨_, _, _, _, _, _, _, _, _, _, _, _, _, _, rfl, hW, hI, ht, hZ⟩
theorem wl_noteAt {i : Nat} {H : xm_H} (hi : i + 4 ≤ L) (hL : L ≤ 2048) (hS : lS H) (hk : ∀ H', lS H' → xw L xs 167 689 [.float 0, .ref 0, .ref 47, .int (nI i)] [] H' Qf) : xw L xs 167 456 [.float 0, .ref 0, .ref 47, .int (nI i)] [] H Qf := by
  obtain ⟨Hw, st, tx, ln, ag, po, le, nu, fa, re, od, be, Z, G, rfl, hW, hI, ht, hZ⟩ := hS
  obtain ⟨hl, hst⟩ := hW.len
  obtain ⟨fW, h0⟩ := lw_W hW
  refine xr_aload_n xi_167_456 rfl ?_
  refine xr_aloads xi_167_457 rfl ?_
  refine xr_iload_n xi_167_458 rfl ?_
  refine xr_iconst (z := nI 1) xi_167_459 rfl ?_
  refine xr_iadd xi_167_460 (by first | exact nI_add _ _ | exact rfl) ?_
  refine xr_sald xi_167_461 (by first | exact tI_n (by first | omega | (simp only [ri]; omega)) | exact tI_dn (by omega) (by omega) | assumption) (by omega) ?_
  refine xr_virt xi_167_462 rfl rfl (h0 _) rfl (Nat.le_of_ble_eq_true rfl) (Nat.le_of_ble_eq_true rfl) ?_
  refine xc_app (h := Hw) (ww_noteAt hW hI (fun t ht1 e1 => ⟨rfl, ?_⟩) (fun hn => ⟨rfl, ?_⟩))
  · have hlen := hl
    refine xr_k ?_
    refine xr_aload_n xi_167_465 rfl ?_
    refine xr_aloads xi_167_466 rfl ?_
    refine xr_iload_n xi_167_467 rfl ?_
    refine xr_iconst (z := nI 1) xi_167_468 rfl ?_
    refine xr_iadd xi_167_469 (by first | exact nI_add _ _ | exact rfl) ?_
    refine xr_sald xi_167_470 (by first | exact tI_n (by first | omega | (simp only [ri]; omega)) | exact tI_dn (by omega) (by omega) | assumption) (by omega) ?_
    refine xr_virt xi_167_471 rfl rfl (lw_M hlen) rfl (Nat.le_of_ble_eq_true rfl) (Nat.le_of_ble_eq_true rfl) ?_
    refine xc_sh hlen (as := [.ref 0, .int (xs (i + 1))]) rfl (wm_noteAt hI (fun t' ht' e1' => ⟨rfl, ?_⟩) (fun hn => absurd hn (by rw [e1, tI_n ht1]; omega)))
    have q1 := (nI_inj (by omega) (by omega)).mp (e1.symm.trans e1')
    subst q1
    refine xr_k ?_
    refine xr_ic_eq xi_167_474 rfl rfl (fun _ => ?_) (fun q => absurd rfl q)
    exact hk _ ⟨_, _, _, _, _, _, _, _, _, _, _, _, _, _, rfl, hW, hI, ht, hZ⟩
  · have hlen := hl
    refine xr_k ?_
    refine xr_aload_n xi_167_465 rfl ?_
    refine xr_aloads xi_167_466 rfl ?_
    refine xr_iload_n xi_167_467 rfl ?_
    refine xr_iconst (z := nI 1) xi_167_468 rfl ?_
    refine xr_iadd xi_167_469 (by first | exact nI_add _ _ | exact rfl) ?_
    refine xr_sald xi_167_470 (by first | exact tI_n (by first | omega | (simp only [ri]; omega)) | exact tI_dn (by omega) (by omega) | assumption) (by omega) ?_
    refine xr_virt xi_167_471 rfl rfl (lw_M hlen) rfl (Nat.le_of_ble_eq_true rfl) (Nat.le_of_ble_eq_true rfl) ?_
    refine xc_sh hlen (as := [.ref 0, .int (xs (i + 1))]) rfl (wm_noteAt hI (fun t' ht' e1' => absurd hn (by rw [e1', tI_n ht']; omega)) (fun _ => ⟨rfl, ?_⟩))
    refine xr_k ?_
    refine xr_ic_eq xi_167_474 rfl rfl (fun _ => ?_) (fun q => absurd rfl q)
    exact hk _ ⟨_, _, _, _, _, _, _, _, _, _, _, _, _, _, rfl, hW, hI, ht, hZ⟩
theorem wl_needed {i : Nat} {H : xm_H} (hi : i + 4 ≤ L) (hL : L ≤ 2048) (hS : lS H) (hk : ∀ H', lS H' → xw L xs 167 689 [.float 0, .ref 0, .ref 47, .int (nI i)] [] H' Qf) : xw L xs 167 479 [.float 0, .ref 0, .ref 47, .int (nI i)] [] H Qf := by
  obtain ⟨Hw, st, tx, ln, ag, po, le, nu, fa, re, od, be, Z, G, rfl, hW, hI, ht, hZ⟩ := hS
  obtain ⟨hl, hst⟩ := hW.len
  obtain ⟨fW, h0⟩ := lw_W hW
  refine xr_aload_n xi_167_479 rfl ?_
  refine xr_aloads xi_167_480 rfl ?_
  refine xr_iload_n xi_167_481 rfl ?_
  refine xr_iconst (z := nI 1) xi_167_482 rfl ?_
  refine xr_iadd xi_167_483 (by first | exact nI_add _ _ | exact rfl) ?_
  refine xr_sald xi_167_484 (by first | exact tI_n (by first | omega | (simp only [ri]; omega)) | exact tI_dn (by omega) (by omega) | assumption) (by omega) ?_
  refine xr_virt xi_167_485 rfl rfl (h0 _) rfl (Nat.le_of_ble_eq_true rfl) (Nat.le_of_ble_eq_true rfl) ?_
  refine xc_app (h := Hw) (ww_needed hW hI (fun e => ⟨rfl, ?_⟩) (fun e => ⟨rfl, ?_⟩) (fun n0 n1 => ⟨rfl, ?_⟩))
  · have hlen := hl
    refine xr_k ?_
    refine xr_aload_n xi_167_488 rfl ?_
    refine xr_aloads xi_167_489 rfl ?_
    refine xr_iload_n xi_167_490 rfl ?_
    refine xr_iconst (z := nI 1) xi_167_491 rfl ?_
    refine xr_iadd xi_167_492 (by first | exact nI_add _ _ | exact rfl) ?_
    refine xr_sald xi_167_493 (by first | exact tI_n (by first | omega | (simp only [ri]; omega)) | exact tI_dn (by omega) (by omega) | assumption) (by omega) ?_
    refine xr_virt xi_167_494 rfl rfl (lw_M hlen) rfl (Nat.le_of_ble_eq_true rfl) (Nat.le_of_ble_eq_true rfl) ?_
    refine xc_sh hlen (as := [.ref 0, .int (xs (i + 1))]) rfl (wm_needed hI (fun _ => ⟨rfl, ?_⟩) (fun e' => absurd (e.symm.trans e') (by decide +kernel : ¬ nI 0 = nI 1)) (fun n0 _ => absurd e n0))
    refine xr_k ?_
    refine xr_ic_eq xi_167_497 rfl rfl (fun _ => ?_) (fun q => absurd rfl q)
    exact hk _ ⟨_, _, _, _, _, _, _, _, _, _, _, _, _, _, rfl, hW, hI, ht, hZ⟩
  · have hlen := hl
    refine xr_k ?_
    refine xr_aload_n xi_167_488 rfl ?_
    refine xr_aloads xi_167_489 rfl ?_
    refine xr_iload_n xi_167_490 rfl ?_
    refine xr_iconst (z := nI 1) xi_167_491 rfl ?_
    refine xr_iadd xi_167_492 (by first | exact nI_add _ _ | exact rfl) ?_
    refine xr_sald xi_167_493 (by first | exact tI_n (by first | omega | (simp only [ri]; omega)) | exact tI_dn (by omega) (by omega) | assumption) (by omega) ?_
    refine xr_virt xi_167_494 rfl rfl (lw_M hlen) rfl (Nat.le_of_ble_eq_true rfl) (Nat.le_of_ble_eq_true rfl) ?_
    refine xc_sh hlen (as := [.ref 0, .int (xs (i + 1))]) rfl (wm_needed hI (fun e' => absurd (e'.symm.trans e) (by decide +kernel : ¬ nI 0 = nI 1)) (fun _ => ⟨rfl, ?_⟩) (fun _ n1 => absurd e n1))
    refine xr_k ?_
    refine xr_ic_eq xi_167_497 rfl rfl (fun _ => ?_) (fun q => absurd rfl q)
    exact hk _ ⟨_, _, _, _, _, _, _, _, _, _, _, _, _, _, rfl, hW, hI, ht, hZ⟩
  · have hlen := hl
    refine xr_k ?_
    refine xr_aload_n xi_167_488 rfl ?_
    refine xr_aloads xi_167_489 rfl ?_
    refine xr_iload_n xi_167_490 rfl ?_
    refine xr_iconst (z := nI 1) xi_167_491 rfl ?_
    refine xr_iadd xi_167_492 (by first | exact nI_add _ _ | exact rfl) ?_
    refine xr_sald xi_167_493 (by first | exact tI_n (by first | omega | (simp only [ri]; omega)) | exact tI_dn (by omega) (by omega) | assumption) (by omega) ?_
    refine xr_virt xi_167_494 rfl rfl (lw_M hlen) rfl (Nat.le_of_ble_eq_true rfl) (Nat.le_of_ble_eq_true rfl) ?_
    refine xc_sh hlen (as := [.ref 0, .int (xs (i + 1))]) rfl (wm_needed hI (fun e' => absurd e' n0) (fun e' => absurd e' n1) (fun _ _ => ⟨rfl, ?_⟩))
    refine xr_k ?_
    refine xr_ic_eq xi_167_497 rfl rfl (fun _ => ?_) (fun q => absurd rfl q)
    exact hk _ ⟨_, _, _, _, _, _, _, _, _, _, _, _, _, _, rfl, hW, hI, ht, hZ⟩
theorem wl_survivors {i : Nat} {H : xm_H} (hi : i + 4 ≤ L) (hL : L ≤ 2048) (hS : lS H) (hk : ∀ H', lS H' → xw L xs 167 689 [.float 0, .ref 0, .ref 47, .int (nI i)] [] H' Qf) : xw L xs 167 502 [.float 0, .ref 0, .ref 47, .int (nI i)] [] H Qf := by
  obtain ⟨Hw, st, tx, ln, ag, po, le, nu, fa, re, od, be, Z, G, rfl, hW, hI, ht, hZ⟩ := hS
  obtain ⟨hl, hst⟩ := hW.len
  obtain ⟨fW, h0⟩ := lw_W hW
  refine xr_aload_n xi_167_502 rfl ?_
  refine xr_aloads xi_167_503 rfl ?_
  refine xr_iload_n xi_167_504 rfl ?_
  refine xr_iconst (z := nI 1) xi_167_505 rfl ?_
  refine xr_iadd xi_167_506 (by first | exact nI_add _ _ | exact rfl) ?_
  refine xr_sald xi_167_507 (by first | exact tI_n (by first | omega | (simp only [ri]; omega)) | exact tI_dn (by omega) (by omega) | assumption) (by omega) ?_
  refine xr_aloads xi_167_508 rfl ?_
  refine xr_iload_n xi_167_509 rfl ?_
  refine xr_iconst (z := nI 2) xi_167_510 rfl ?_
  refine xr_iadd xi_167_511 (by first | exact nI_add _ _ | exact rfl) ?_
  refine xr_sald xi_167_512 (by first | exact tI_n (by first | omega | (simp only [ri]; omega)) | exact tI_dn (by omega) (by omega) | assumption) (by omega) ?_
  refine xr_virt xi_167_513 rfl rfl (h0 _) rfl (Nat.le_of_ble_eq_true rfl) (Nat.le_of_ble_eq_true rfl) ?_
  refine xc_app (h := Hw) (ww_survivors hW hI (fun t u H' ht1 hu e1 e2 hW' => ⟨by rw [hW'.len.1, hl], ?_⟩) (fun hn => ⟨rfl, ?_⟩))
  · have hlen := hW'.len.1
    refine xr_k ?_
    refine xr_aload_n xi_167_516 rfl ?_
    refine xr_aloads xi_167_517 rfl ?_
    refine xr_iload_n xi_167_518 rfl ?_
    refine xr_iconst (z := nI 1) xi_167_519 rfl ?_
    refine xr_iadd xi_167_520 (by first | exact nI_add _ _ | exact rfl) ?_
    refine xr_sald xi_167_521 (by first | exact tI_n (by first | omega | (simp only [ri]; omega)) | exact tI_dn (by omega) (by omega) | assumption) (by omega) ?_
    refine xr_aloads xi_167_522 rfl ?_
    refine xr_iload_n xi_167_523 rfl ?_
    refine xr_iconst (z := nI 2) xi_167_524 rfl ?_
    refine xr_iadd xi_167_525 (by first | exact nI_add _ _ | exact rfl) ?_
    refine xr_sald xi_167_526 (by first | exact tI_n (by first | omega | (simp only [ri]; omega)) | exact tI_dn (by omega) (by omega) | assumption) (by omega) ?_
    refine xr_virt xi_167_527 rfl rfl (lw_M hlen) rfl (Nat.le_of_ble_eq_true rfl) (Nat.le_of_ble_eq_true rfl) ?_
    refine xc_sh hlen (as := [.ref 0, .int (xs (i + 1)), .int (xs (i + 2))]) rfl (wm_survivors hI (fun t' u' ag' Z' ht' hu' e1' e2' hz => ⟨rfl, ?_⟩) (fun hn => absurd ⟨t, u, ht1, hu, e1, e2⟩ hn))
    have q1 := (nI_inj (by omega) (by omega)).mp (e1.symm.trans e1')
    have q2 := (nI_inj (by omega) (by omega)).mp (e2.symm.trans e2')
    subst q1
    subst q2
    refine xr_k ?_
    refine xr_ic_eq xi_167_530 rfl rfl (fun _ => ?_) (fun q => absurd rfl q)
    exact hk _ ⟨_, _, _, _, _, _, _, _, _, _, _, _, _, _, rfl, wS_Z hW' hz, hI, ht, hInvZ hst hZ hz⟩
  · have hlen := hl
    refine xr_k ?_
    refine xr_aload_n xi_167_516 rfl ?_
    refine xr_aloads xi_167_517 rfl ?_
    refine xr_iload_n xi_167_518 rfl ?_
    refine xr_iconst (z := nI 1) xi_167_519 rfl ?_
    refine xr_iadd xi_167_520 (by first | exact nI_add _ _ | exact rfl) ?_
    refine xr_sald xi_167_521 (by first | exact tI_n (by first | omega | (simp only [ri]; omega)) | exact tI_dn (by omega) (by omega) | assumption) (by omega) ?_
    refine xr_aloads xi_167_522 rfl ?_
    refine xr_iload_n xi_167_523 rfl ?_
    refine xr_iconst (z := nI 2) xi_167_524 rfl ?_
    refine xr_iadd xi_167_525 (by first | exact nI_add _ _ | exact rfl) ?_
    refine xr_sald xi_167_526 (by first | exact tI_n (by first | omega | (simp only [ri]; omega)) | exact tI_dn (by omega) (by omega) | assumption) (by omega) ?_
    refine xr_virt xi_167_527 rfl rfl (lw_M hlen) rfl (Nat.le_of_ble_eq_true rfl) (Nat.le_of_ble_eq_true rfl) ?_
    refine xc_sh hlen (as := [.ref 0, .int (xs (i + 1)), .int (xs (i + 2))]) rfl (wm_survivors hI (fun t' u' ag' Z' ht' hu' e1' e2' hz => absurd ⟨t', u', ht', hu', e1', e2'⟩ hn) (fun _ => ⟨rfl, ?_⟩))
    refine xr_k ?_
    refine xr_ic_eq xi_167_530 rfl rfl (fun _ => ?_) (fun q => absurd rfl q)
    exact hk _ ⟨_, _, _, _, _, _, _, _, _, _, _, _, _, _, rfl, hW, hI, ht, hZ⟩
theorem wl_keptBy {i : Nat} {H : xm_H} (hi : i + 4 ≤ L) (hL : L ≤ 2048) (hS : lS H) (hk : ∀ H', lS H' → xw L xs 167 689 [.float 0, .ref 0, .ref 47, .int (nI i)] [] H' Qf) : xw L xs 167 535 [.float 0, .ref 0, .ref 47, .int (nI i)] [] H Qf := by
  obtain ⟨Hw, st, tx, ln, ag, po, le, nu, fa, re, od, be, Z, G, rfl, hW, hI, ht, hZ⟩ := hS
  obtain ⟨hl, hst⟩ := hW.len
  obtain ⟨fW, h0⟩ := lw_W hW
  refine xr_aload_n xi_167_535 rfl ?_
  refine xr_aloads xi_167_536 rfl ?_
  refine xr_iload_n xi_167_537 rfl ?_
  refine xr_iconst (z := nI 1) xi_167_538 rfl ?_
  refine xr_iadd xi_167_539 (by first | exact nI_add _ _ | exact rfl) ?_
  refine xr_sald xi_167_540 (by first | exact tI_n (by first | omega | (simp only [ri]; omega)) | exact tI_dn (by omega) (by omega) | assumption) (by omega) ?_
  refine xr_virt xi_167_541 rfl rfl (h0 _) rfl (Nat.le_of_ble_eq_true rfl) (Nat.le_of_ble_eq_true rfl) ?_
  refine xc_app (h := Hw) (ww_keptBy hW hI (fun t ht1 e1 => ⟨rfl, ?_⟩) (fun hn => ⟨rfl, ?_⟩))
  · have hlen := hl
    refine xr_k ?_
    refine xr_aload_n xi_167_544 rfl ?_
    refine xr_aloads xi_167_545 rfl ?_
    refine xr_iload_n xi_167_546 rfl ?_
    refine xr_iconst (z := nI 1) xi_167_547 rfl ?_
    refine xr_iadd xi_167_548 (by first | exact nI_add _ _ | exact rfl) ?_
    refine xr_sald xi_167_549 (by first | exact tI_n (by first | omega | (simp only [ri]; omega)) | exact tI_dn (by omega) (by omega) | assumption) (by omega) ?_
    refine xr_virt xi_167_550 rfl rfl (lw_M hlen) rfl (Nat.le_of_ble_eq_true rfl) (Nat.le_of_ble_eq_true rfl) ?_
    refine xc_sh hlen (as := [.ref 0, .int (xs (i + 1))]) rfl (wm_keptBy hI (fun t' ht' e1' => ⟨rfl, ?_⟩) (fun hn => absurd e1 (hn t ht1)))
    have q1 := (nI_inj (by have := hI.lt ht1; omega) (by have := hI.lt ht'; omega)).mp (e1.symm.trans e1')
    subst q1
    refine xr_k ?_
    refine xr_ic_eq xi_167_553 rfl rfl (fun _ => ?_) (fun q => absurd rfl q)
    exact hk _ ⟨_, _, _, _, _, _, _, _, _, _, _, _, _, _, rfl, hW, hI, ht, hZ⟩
  · have hlen := hl
    refine xr_k ?_
    refine xr_aload_n xi_167_544 rfl ?_
    refine xr_aloads xi_167_545 rfl ?_
    refine xr_iload_n xi_167_546 rfl ?_
    refine xr_iconst (z := nI 1) xi_167_547 rfl ?_
    refine xr_iadd xi_167_548 (by first | exact nI_add _ _ | exact rfl) ?_
    refine xr_sald xi_167_549 (by first | exact tI_n (by first | omega | (simp only [ri]; omega)) | exact tI_dn (by omega) (by omega) | assumption) (by omega) ?_
    refine xr_virt xi_167_550 rfl rfl (lw_M hlen) rfl (Nat.le_of_ble_eq_true rfl) (Nat.le_of_ble_eq_true rfl) ?_
    refine xc_sh hlen (as := [.ref 0, .int (xs (i + 1))]) rfl (wm_keptBy hI (fun t' ht' e1' => absurd e1' (hn t' ht')) (fun _ => ⟨rfl, ?_⟩))
    refine xr_k ?_
    refine xr_ic_eq xi_167_553 rfl rfl (fun _ => ?_) (fun q => absurd rfl q)
    exact hk _ ⟨_, _, _, _, _, _, _, _, _, _, _, _, _, _, rfl, hW, hI, ht, hZ⟩
theorem wl_far {i : Nat} {H : xm_H} (hi : i + 4 ≤ L) (hL : L ≤ 2048) (hS : lS H) (hk : ∀ H', lS H' → xw L xs 167 689 [.float 0, .ref 0, .ref 47, .int (nI i)] [] H' Qf) : xw L xs 167 558 [.float 0, .ref 0, .ref 47, .int (nI i)] [] H Qf := by
  obtain ⟨Hw, st, tx, ln, ag, po, le, nu, fa, re, od, be, Z, G, rfl, hW, hI, ht, hZ⟩ := hS
  obtain ⟨hl, hst⟩ := hW.len
  obtain ⟨fW, h0⟩ := lw_W hW
  refine xr_aload_n xi_167_558 rfl ?_
  refine xr_aloads xi_167_559 rfl ?_
  refine xr_iload_n xi_167_560 rfl ?_
  refine xr_iconst (z := nI 1) xi_167_561 rfl ?_
  refine xr_iadd xi_167_562 (by first | exact nI_add _ _ | exact rfl) ?_
  refine xr_sald xi_167_563 (by first | exact tI_n (by first | omega | (simp only [ri]; omega)) | exact tI_dn (by omega) (by omega) | assumption) (by omega) ?_
  refine xr_virt xi_167_564 rfl rfl (h0 _) rfl (Nat.le_of_ble_eq_true rfl) (Nat.le_of_ble_eq_true rfl) ?_
  refine xc_app (h := Hw) (ww_far hW hI (fun t ht1 e1 => ⟨rfl, ?_⟩) (fun hn => ⟨rfl, ?_⟩))
  · have hlen := hl
    refine xr_k ?_
    refine xr_aload_n xi_167_567 rfl ?_
    refine xr_aloads xi_167_568 rfl ?_
    refine xr_iload_n xi_167_569 rfl ?_
    refine xr_iconst (z := nI 1) xi_167_570 rfl ?_
    refine xr_iadd xi_167_571 (by first | exact nI_add _ _ | exact rfl) ?_
    refine xr_sald xi_167_572 (by first | exact tI_n (by first | omega | (simp only [ri]; omega)) | exact tI_dn (by omega) (by omega) | assumption) (by omega) ?_
    refine xr_virt xi_167_573 rfl rfl (lw_M hlen) rfl (Nat.le_of_ble_eq_true rfl) (Nat.le_of_ble_eq_true rfl) ?_
    refine xc_sh hlen (as := [.ref 0, .int (xs (i + 1))]) rfl (wm_far hI (fun t' ht' e1' => ⟨rfl, ?_⟩) (fun hn => absurd e1 (hn t ht1)))
    have q1 := (nI_inj (by have := hI.lt ht1; omega) (by have := hI.lt ht'; omega)).mp (e1.symm.trans e1')
    subst q1
    refine xr_k ?_
    refine xr_ic_eq xi_167_576 rfl rfl (fun _ => ?_) (fun q => absurd rfl q)
    exact hk _ ⟨_, _, _, _, _, _, _, _, _, _, _, _, _, _, rfl, hW, hI, ht, hZ⟩
  · have hlen := hl
    refine xr_k ?_
    refine xr_aload_n xi_167_567 rfl ?_
    refine xr_aloads xi_167_568 rfl ?_
    refine xr_iload_n xi_167_569 rfl ?_
    refine xr_iconst (z := nI 1) xi_167_570 rfl ?_
    refine xr_iadd xi_167_571 (by first | exact nI_add _ _ | exact rfl) ?_
    refine xr_sald xi_167_572 (by first | exact tI_n (by first | omega | (simp only [ri]; omega)) | exact tI_dn (by omega) (by omega) | assumption) (by omega) ?_
    refine xr_virt xi_167_573 rfl rfl (lw_M hlen) rfl (Nat.le_of_ble_eq_true rfl) (Nat.le_of_ble_eq_true rfl) ?_
    refine xc_sh hlen (as := [.ref 0, .int (xs (i + 1))]) rfl (wm_far hI (fun t' ht' e1' => absurd e1' (hn t' ht')) (fun _ => ⟨rfl, ?_⟩))
    refine xr_k ?_
    refine xr_ic_eq xi_167_576 rfl rfl (fun _ => ?_) (fun q => absurd rfl q)
    exact hk _ ⟨_, _, _, _, _, _, _, _, _, _, _, _, _, _, rfl, hW, hI, ht, hZ⟩
theorem wl_count {i : Nat} {H : xm_H} (hi : i + 4 ≤ L) (hL : L ≤ 2048) (hS : lS H) (hk : ∀ H', lS H' → xw L xs 167 689 [.float 0, .ref 0, .ref 47, .int (nI i)] [] H' Qf) : xw L xs 167 581 [.float 0, .ref 0, .ref 47, .int (nI i)] [] H Qf := by
  obtain ⟨Hw, st, tx, ln, ag, po, le, nu, fa, re, od, be, Z, G, rfl, hW, hI, ht, hZ⟩ := hS
  obtain ⟨hl, hst⟩ := hW.len
  obtain ⟨fW, h0⟩ := lw_W hW
  refine xr_aload_n xi_167_581 rfl ?_
  refine xr_aloads xi_167_582 rfl ?_
  refine xr_iload_n xi_167_583 rfl ?_
  refine xr_iconst (z := nI 1) xi_167_584 rfl ?_
  refine xr_iadd xi_167_585 (by first | exact nI_add _ _ | exact rfl) ?_
  refine xr_sald xi_167_586 (by first | exact tI_n (by first | omega | (simp only [ri]; omega)) | exact tI_dn (by omega) (by omega) | assumption) (by omega) ?_
  refine xr_virt xi_167_587 rfl rfl (h0 _) rfl (Nat.le_of_ble_eq_true rfl) (Nat.le_of_ble_eq_true rfl) ?_
  refine xc_app (h := Hw) (ww_count hW hI ht.1 (fun t ht1 e1 => ⟨rfl, ?_⟩) (fun hn => ⟨rfl, ?_⟩))
  · have hlen := hl
    refine xr_k ?_
    refine xr_aload_n xi_167_590 rfl ?_
    refine xr_aloads xi_167_591 rfl ?_
    refine xr_iload_n xi_167_592 rfl ?_
    refine xr_iconst (z := nI 1) xi_167_593 rfl ?_
    refine xr_iadd xi_167_594 (by first | exact nI_add _ _ | exact rfl) ?_
    refine xr_sald xi_167_595 (by first | exact tI_n (by first | omega | (simp only [ri]; omega)) | exact tI_dn (by omega) (by omega) | assumption) (by omega) ?_
    refine xr_virt xi_167_596 rfl rfl (lw_M hlen) rfl (Nat.le_of_ble_eq_true rfl) (Nat.le_of_ble_eq_true rfl) ?_
    refine xc_sh hlen (as := [.ref 0, .int (xs (i + 1))]) rfl (wm_count hI hst ht.1 (fun t' ht' e1' => ⟨rfl, ?_⟩) (fun hn => absurd e1 (hn t ht1)))
    have q1 := (nI_inj (by omega) (by omega)).mp (e1.symm.trans e1')
    subst q1
    refine xr_k ?_
    refine xr_ic_eq xi_167_599 rfl rfl (fun _ => ?_) (fun q => absurd rfl q)
    exact hk _ ⟨_, _, _, _, _, _, _, _, _, _, _, _, _, _, rfl, hW, hI, ht, hZ⟩
  · have hlen := hl
    refine xr_k ?_
    refine xr_aload_n xi_167_590 rfl ?_
    refine xr_aloads xi_167_591 rfl ?_
    refine xr_iload_n xi_167_592 rfl ?_
    refine xr_iconst (z := nI 1) xi_167_593 rfl ?_
    refine xr_iadd xi_167_594 (by first | exact nI_add _ _ | exact rfl) ?_
    refine xr_sald xi_167_595 (by first | exact tI_n (by first | omega | (simp only [ri]; omega)) | exact tI_dn (by omega) (by omega) | assumption) (by omega) ?_
    refine xr_virt xi_167_596 rfl rfl (lw_M hlen) rfl (Nat.le_of_ble_eq_true rfl) (Nat.le_of_ble_eq_true rfl) ?_
    refine xc_sh hlen (as := [.ref 0, .int (xs (i + 1))]) rfl (wm_count hI hst ht.1 (fun t' ht' e1' => absurd e1' (hn t' ht')) (fun _ => ⟨rfl, ?_⟩))
    refine xr_k ?_
    refine xr_ic_eq xi_167_599 rfl rfl (fun _ => ?_) (fun q => absurd rfl q)
    exact hk _ ⟨_, _, _, _, _, _, _, _, _, _, _, _, _, _, rfl, hW, hI, ht, hZ⟩
theorem wl_undo {i : Nat} {H : xm_H} (hi : i + 4 ≤ L) (hL : L ≤ 2048) (hS : lS H) (hk : ∀ H', lS H' → xw L xs 167 689 [.float 0, .ref 0, .ref 47, .int (nI i)] [] H' Qf) : xw L xs 167 604 [.float 0, .ref 0, .ref 47, .int (nI i)] [] H Qf := by
  obtain ⟨Hw, st, tx, ln, ag, po, le, nu, fa, re, od, be, Z, G, rfl, hW, hI, ht, hZ⟩ := hS
  obtain ⟨hl, hst⟩ := hW.len
  obtain ⟨fW, h0⟩ := lw_W hW
  refine xr_aload_n xi_167_604 rfl ?_
  refine xr_virt xi_167_605 rfl rfl (h0 _) rfl (Nat.le_of_ble_eq_true rfl) (Nat.le_of_ble_eq_true rfl) ?_
  refine xc_app (h := Hw) (ww_undo hW (fun h0 => ⟨rfl, ?_⟩) (fun h0 H' hW' => ⟨by rw [hW'.len.1, hl], ?_⟩))
  · have hlen := hl
    refine xr_k ?_
    refine xr_aload_n xi_167_608 rfl ?_
    refine xr_virt xi_167_609 rfl rfl (lw_M hlen) rfl (Nat.le_of_ble_eq_true rfl) (Nat.le_of_ble_eq_true rfl) ?_
    refine xc_sh hlen (as := [.ref 0]) rfl (wm_undo hst (fun _ => ⟨rfl, ?_⟩) (fun h => by omega))
    refine xr_k ?_
    refine xr_ic_eq xi_167_612 rfl rfl (fun _ => ?_) (fun q => absurd rfl q)
    exact hk _ ⟨_, _, _, _, _, _, _, _, _, _, _, _, _, _, rfl, hW, hI, ht, hZ⟩
  · have hlen := hW'.len.1
    refine xr_k ?_
    refine xr_aload_n xi_167_608 rfl ?_
    refine xr_virt xi_167_609 rfl rfl (lw_M hlen) rfl (Nat.le_of_ble_eq_true rfl) (Nat.le_of_ble_eq_true rfl) ?_
    refine xc_sh hlen (as := [.ref 0]) rfl (wm_undo hst (fun h => by omega) (fun _ => ⟨rfl, ?_⟩))
    refine xr_k ?_
    refine xr_ic_eq xi_167_612 rfl rfl (fun _ => ?_) (fun q => absurd rfl q)
    exact hk _ ⟨_, _, _, _, _, _, _, _, _, _, _, _, _, _, rfl, hW', sInv_ext (fun i hi => if_pos hi) (hZ (st - 1) (by omega)), ht, fun s hs => hZ s (by omega)⟩
theorem wl_type {i : Nat} {H : xm_H} (hi : i + 4 ≤ L) (hL : L ≤ 2048) (hS : lS H) (hk : ∀ H', lS H' → xw L xs 167 689 [.float 0, .ref 0, .ref 47, .int (nI i)] [] H' Qf) : xw L xs 167 617 [.float 0, .ref 0, .ref 47, .int (nI i)] [] H Qf := by
  obtain ⟨Hw, st, tx, ln, ag, po, le, nu, fa, re, od, be, Z, G, rfl, hW, hI, ht, hZ⟩ := hS
  obtain ⟨hl, hst⟩ := hW.len
  obtain ⟨fW, h0⟩ := lw_W hW
  refine xr_aload_n xi_167_617 rfl ?_
  refine xr_aloads xi_167_618 rfl ?_
  refine xr_iload_n xi_167_619 rfl ?_
  refine xr_iconst (z := nI 1) xi_167_620 rfl ?_
  refine xr_iadd xi_167_621 (by first | exact nI_add _ _ | exact rfl) ?_
  refine xr_sald xi_167_622 (by first | exact tI_n (by first | omega | (simp only [ri]; omega)) | exact tI_dn (by omega) (by omega) | assumption) (by omega) ?_
  refine xr_virt xi_167_623 rfl rfl (h0 _) rfl (Nat.le_of_ble_eq_true rfl) (Nat.le_of_ble_eq_true rfl) ?_
  refine xc_app (h := Hw) (ww_type hW ht (fun H' c h1 h2 e h60 hW' => ⟨by rw [hW'.len.1, hl], ?_⟩) (fun he h60 => ⟨rfl, ?_⟩) (fun hn => ⟨rfl, ?_⟩))
  · have hlen := hW'.len.1
    refine xr_k ?_
    refine xr_aload_n xi_167_626 rfl ?_
    refine xr_aloads xi_167_627 rfl ?_
    refine xr_iload_n xi_167_628 rfl ?_
    refine xr_iconst (z := nI 1) xi_167_629 rfl ?_
    refine xr_iadd xi_167_630 (by first | exact nI_add _ _ | exact rfl) ?_
    refine xr_sald xi_167_631 (by first | exact tI_n (by first | omega | (simp only [ri]; omega)) | exact tI_dn (by omega) (by omega) | assumption) (by omega) ?_
    refine xr_virt xi_167_632 rfl rfl (lw_M hlen) rfl (Nat.le_of_ble_eq_true rfl) (Nat.le_of_ble_eq_true rfl) ?_
    refine xc_sh hlen (as := [.ref 0, .int (xs (i + 1))]) rfl (wm_type ht (fun c' h1' h2' e' _ => ⟨rfl, ?_⟩) (fun _ h => by omega) (fun hn => absurd ⟨c, h1, h2, e⟩ hn))
    have q1 := (nI_inj (by omega) (by omega)).mp (e.symm.trans e')
    subst q1
    refine xr_k ?_
    refine xr_ic_eq xi_167_635 rfl rfl (fun _ => ?_) (fun q => absurd rfl q)
    exact hk _ ⟨_, _, _, _, _, _, _, _, _, _, _, _, _, _, rfl, hW', hI, tOk_type ht h60 h1 h2, hZ⟩
  · have hlen := hl
    refine xr_k ?_
    refine xr_aload_n xi_167_626 rfl ?_
    refine xr_aloads xi_167_627 rfl ?_
    refine xr_iload_n xi_167_628 rfl ?_
    refine xr_iconst (z := nI 1) xi_167_629 rfl ?_
    refine xr_iadd xi_167_630 (by first | exact nI_add _ _ | exact rfl) ?_
    refine xr_sald xi_167_631 (by first | exact tI_n (by first | omega | (simp only [ri]; omega)) | exact tI_dn (by omega) (by omega) | assumption) (by omega) ?_
    refine xr_virt xi_167_632 rfl rfl (lw_M hlen) rfl (Nat.le_of_ble_eq_true rfl) (Nat.le_of_ble_eq_true rfl) ?_
    refine xc_sh hlen (as := [.ref 0, .int (xs (i + 1))]) rfl (wm_type ht (fun c' h1' h2' e' h => by omega) (fun _ _ => ⟨rfl, ?_⟩) (fun hn => absurd he hn))
    refine xr_k ?_
    refine xr_ic_eq xi_167_635 rfl rfl (fun _ => ?_) (fun q => absurd rfl q)
    exact hk _ ⟨_, _, _, _, _, _, _, _, _, _, _, _, _, _, rfl, hW, hI, ht, hZ⟩
  · have hlen := hl
    refine xr_k ?_
    refine xr_aload_n xi_167_626 rfl ?_
    refine xr_aloads xi_167_627 rfl ?_
    refine xr_iload_n xi_167_628 rfl ?_
    refine xr_iconst (z := nI 1) xi_167_629 rfl ?_
    refine xr_iadd xi_167_630 (by first | exact nI_add _ _ | exact rfl) ?_
    refine xr_sald xi_167_631 (by first | exact tI_n (by first | omega | (simp only [ri]; omega)) | exact tI_dn (by omega) (by omega) | assumption) (by omega) ?_
    refine xr_virt xi_167_632 rfl rfl (lw_M hlen) rfl (Nat.le_of_ble_eq_true rfl) (Nat.le_of_ble_eq_true rfl) ?_
    refine xc_sh hlen (as := [.ref 0, .int (xs (i + 1))]) rfl (wm_type ht (fun c' h1' h2' e' _ => absurd ⟨c', h1', h2', e'⟩ hn) (fun he _ => absurd he hn) (fun _ => ⟨rfl, ?_⟩))
    refine xr_k ?_
    refine xr_ic_eq xi_167_635 rfl rfl (fun _ => ?_) (fun q => absurd rfl q)
    exact hk _ ⟨_, _, _, _, _, _, _, _, _, _, _, _, _, _, rfl, hW, hI, ht, hZ⟩
theorem wl_clearText {i : Nat} {H : xm_H} (hi : i + 4 ≤ L) (hL : L ≤ 2048) (hS : lS H) (hk : ∀ H', lS H' → xw L xs 167 689 [.float 0, .ref 0, .ref 47, .int (nI i)] [] H' Qf) : xw L xs 167 640 [.float 0, .ref 0, .ref 47, .int (nI i)] [] H Qf := by
  obtain ⟨Hw, st, tx, ln, ag, po, le, nu, fa, re, od, be, Z, G, rfl, hW, hI, ht, hZ⟩ := hS
  obtain ⟨hl, hst⟩ := hW.len
  obtain ⟨fW, h0⟩ := lw_W hW
  refine xr_aload_n xi_167_640 rfl ?_
  refine xr_virt xi_167_641 rfl rfl (h0 _) rfl (Nat.le_of_ble_eq_true rfl) (Nat.le_of_ble_eq_true rfl) ?_
  refine xc_app (h := Hw) (ww_clearText hW (fun H' hW' => ⟨by rw [hW'.len.1, hl], ?_⟩))
  have hlen := hW'.len.1
  refine xr_k ?_
  refine xr_aload_n xi_167_644 rfl ?_
  refine xr_virt xi_167_645 rfl rfl (lw_M hlen) rfl (Nat.le_of_ble_eq_true rfl) (Nat.le_of_ble_eq_true rfl) ?_
  refine xc_sh hlen (as := [.ref 0]) rfl (wm_clearText ⟨rfl, ?_⟩)
  refine xr_k ?_
  refine xr_ic_eq xi_167_648 rfl rfl (fun _ => ?_) (fun q => absurd rfl q)
  exact hk _ ⟨_, _, _, _, _, _, _, _, _, _, _, _, _, _, rfl, hW', hI, ⟨by omega, fun i hi => by omega⟩, hZ⟩
theorem wl_fault {i : Nat} {H : xm_H} (hi : i + 4 ≤ L) (hL : L ≤ 2048) (hS : lS H) (hk : ∀ H', lS H' → xw L xs 167 689 [.float 0, .ref 0, .ref 47, .int (nI i)] [] H' Qf) : xw L xs 167 653 [.float 0, .ref 0, .ref 47, .int (nI i)] [] H Qf := by
  obtain ⟨Hw, st, tx, ln, ag, po, le, nu, fa, re, od, be, Z, G, rfl, hW, hI, ht, hZ⟩ := hS
  obtain ⟨hl, hst⟩ := hW.len
  obtain ⟨fW, h0⟩ := lw_W hW
  refine xr_aload_n xi_167_653 rfl ?_
  refine xr_aloads xi_167_654 rfl ?_
  refine xr_iload_n xi_167_655 rfl ?_
  refine xr_iconst (z := nI 1) xi_167_656 rfl ?_
  refine xr_iadd xi_167_657 (by first | exact nI_add _ _ | exact rfl) ?_
  refine xr_sald xi_167_658 (by first | exact tI_n (by first | omega | (simp only [ri]; omega)) | exact tI_dn (by omega) (by omega) | assumption) (by omega) ?_
  refine xr_virt xi_167_659 rfl rfl (h0 _) rfl (Nat.le_of_ble_eq_true rfl) (Nat.le_of_ble_eq_true rfl) ?_
  refine xc_app (h := Hw) (ww_fault hW ht hI (fun u H' hu e hW' => ⟨by rw [hW'.len.1, hl], ?_⟩) (fun hn => ⟨rfl, ?_⟩))
  · have hlen := hW'.len.1
    refine xr_k ?_
    refine xr_aload_n xi_167_662 rfl ?_
    refine xr_aloads xi_167_663 rfl ?_
    refine xr_iload_n xi_167_664 rfl ?_
    refine xr_iconst (z := nI 1) xi_167_665 rfl ?_
    refine xr_iadd xi_167_666 (by first | exact nI_add _ _ | exact rfl) ?_
    refine xr_sald xi_167_667 (by first | exact tI_n (by first | omega | (simp only [ri]; omega)) | exact tI_dn (by omega) (by omega) | assumption) (by omega) ?_
    refine xr_virt xi_167_668 rfl rfl (lw_M hlen) rfl (Nat.le_of_ble_eq_true rfl) (Nat.le_of_ble_eq_true rfl) ?_
    refine xc_sh hlen (as := [.ref 0, .int (xs (i + 1))]) rfl (wm_fault ht hI (fun u' po' le' nu' fa' re' od' be' ag' Z' hu' e' hz => ⟨rfl, ?_⟩) (fun hn => absurd e (hn u hu)))
    have q1 := (nI_inj (by omega) (by omega)).mp (e.symm.trans e')
    subst q1
    refine xr_k ?_
    refine xr_ic_eq xi_167_671 rfl rfl (fun _ => ?_) (fun q => absurd rfl q)
    exact hk _ ⟨_, _, _, _, _, _, _, _, _, _, _, _, _, _, rfl, wS_Z hW' hz, hI, ht, hInvZ hst hZ hz⟩
  · have hlen := hl
    refine xr_k ?_
    refine xr_aload_n xi_167_662 rfl ?_
    refine xr_aloads xi_167_663 rfl ?_
    refine xr_iload_n xi_167_664 rfl ?_
    refine xr_iconst (z := nI 1) xi_167_665 rfl ?_
    refine xr_iadd xi_167_666 (by first | exact nI_add _ _ | exact rfl) ?_
    refine xr_sald xi_167_667 (by first | exact tI_n (by first | omega | (simp only [ri]; omega)) | exact tI_dn (by omega) (by omega) | assumption) (by omega) ?_
    refine xr_virt xi_167_668 rfl rfl (lw_M hlen) rfl (Nat.le_of_ble_eq_true rfl) (Nat.le_of_ble_eq_true rfl) ?_
    refine xc_sh hlen (as := [.ref 0, .int (xs (i + 1))]) rfl (wm_fault ht hI (fun u' po' le' nu' fa' re' od' be' ag' Z' hu' e' hz => absurd e' (hn u' hu')) (fun _ => ⟨rfl, ?_⟩))
    refine xr_k ?_
    refine xr_ic_eq xi_167_671 rfl rfl (fun _ => ?_) (fun q => absurd rfl q)
    exact hk _ ⟨_, _, _, _, _, _, _, _, _, _, _, _, _, _, rfl, hW, hI, ht, hZ⟩
theorem wl_play {i : Nat} {H : xm_H} (hi : i + 4 ≤ L) (hL : L ≤ 2048) (hS : lS H) (hk : ∀ H', lS H' → xw L xs 167 689 [.float 0, .ref 0, .ref 47, .int (nI i)] [] H' Qf) : xw L xs 167 676 [.float 0, .ref 0, .ref 47, .int (nI i)] [] H Qf := by
  obtain ⟨Hw, st, tx, ln, ag, po, le, nu, fa, re, od, be, Z, G, rfl, hW, hI, ht, hZ⟩ := hS
  obtain ⟨hl, hst⟩ := hW.len
  obtain ⟨fW, h0⟩ := lw_W hW
  refine xr_aload_n xi_167_676 rfl ?_
  refine xr_virt xi_167_677 rfl rfl (h0 _) rfl (Nat.le_of_ble_eq_true rfl) (Nat.le_of_ble_eq_true rfl) ?_
  refine xc_app (h := Hw) (ww_play hW ht hI (fun H' hp => ?_))
  obtain ⟨st0, Z0, hm0⟩ := mPost_ex st Z G _
  have hlen := (hp st0 Z0 hm0).len.1
  refine ⟨by rw [hlen, hl], ?_⟩
  refine xr_k ?_
  refine xr_aload_n xi_167_680 rfl ?_
  refine xr_virt xi_167_681 rfl rfl (lw_M hlen) rfl (Nat.le_of_ble_eq_true rfl) (Nat.le_of_ble_eq_true rfl) ?_
  refine xc_sh hlen (as := [.ref 0]) rfl (wm_play ht hI hst (fun st' po' le' nu' fa' re' od' be' ag' Z' hm => ⟨rfl, ?_⟩))
  refine xr_k ?_
  refine xr_ic_eq xi_167_684 rfl rfl (fun _ => ?_) (fun q => absurd rfl q)
  exact hk _ ⟨_, _, _, _, _, _, _, _, _, _, _, _, _, _, rfl, hp _ _ hm, pPlay_inv hI, ht, hInv hst hI hZ hm⟩
end LW
