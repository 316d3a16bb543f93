/-! the law -/
def xE0 : Int32 := Int32.ofInt (Int.negSucc 999999)
theorem tI_e0 : xE0.toInt = -1000000 := by decide +kernel
theorem sz_le {B : Nat} : ∀ H : xm_H, (∀ e, e ∈ H → xm_es e ≤ B) → xm_sz H ≤ B * H.length := by
  intro H
  induction H with
  | nil => intro _; exact Nat.zero_le _
  | cons e H ih =>
    intro h
    have h1 := ih (fun e' he => h e' (List.mem_cons_of_mem _ he))
    have h2 := h e (List.mem_cons_self ..)
    have e1 : xm_sz (e :: H) = xm_es e + xm_sz H := by
      unfold xm_sz
      rw [List.map_cons, List.sum_cons]
    rw [e1, List.length_cons, Nat.mul_succ]
    omega
theorem es_fe {ρ : Nat → Nat} {e : xm_E} : xm_es (fe ρ e) = xm_es e := by
  obtain q | ⟨n, g⟩ | ⟨ci, fs⟩ := e
  · rfl
  · rfl
  · show (fs.map (fv ρ)).length = fs.length
    rw [List.length_map]
theorem wS_size {H : xm_H} {tx : Nat → Nat} {ln st : Nat} {Z G : Nat → Nat} (hW : wS H tx ln st Z G) : H.length ≤ 600000 ∧ xm_sz H ≤ 7302250 := by
  have hl := hW.len.1
  obtain ⟨fs, pr, nu', po', sta, rea, R, hH, hf, hX⟩ := hW
  refine ⟨by omega, ?_⟩
  refine Nat.le_trans (sz_le (B := 1176) _ (fun e he => ?_)) (by rw [hl]; decide)
  obtain ⟨i, hi⟩ := List.mem_iff_getElem?.mp he
  have hil : i < 47 := by rw [← hl]; exact (List.getElem?_eq_some_iff.mp hi).1
  by_cases h5 : i < 5
  · rw [hH, List.getElem?_append_left (show i < 5 from h5)] at hi
    have : i = 0 ∨ i = 1 ∨ i = 2 ∨ i = 3 ∨ i = 4 := by omega
    rcases this with rfl | rfl | rfl | rfl | rfl <;> cases hi <;> exact Nat.le_of_ble_eq_true rfl
  · obtain ⟨v, hv⟩ := hX.2.2.2.1 ((i - 5) / 7) (by omega)
    have ha : (i - 5) % 7 < (vHt v).length := Nat.mod_lt _ (by decide)
    have h1 := hv.1 _ _ (List.getElem?_eq_getElem ha)
    have e1 : rV ((i - 5) / 7) ((i - 5) % 7) = i := by unfold rV; omega
    rw [e1, hi] at h1
    cases h1
    rw [es_fe]
    have : ∀ a (h : a < (vHt v).length), xm_es ((vHt v)[a]'h) ≤ 1176 := by
      intro a h
      have h7 : a < 7 := h
      have : a = 0 ∨ a = 1 ∨ a = 2 ∨ a = 3 ∨ a = 4 ∨ a = 5 ∨ a = 6 := by omega
      rcases this with rfl | rfl | rfl | rfl | rfl | rfl | rfl <;> exact Nat.le_of_ble_eq_true rfl
    exact this _ _
theorem G0_Gd : sGd G0 := ⟨⟨G0_inv, by
  show 0 = sumN (fun _ => 0) 30
  decide⟩, fun h _ q => absurd q (Nat.lt_irrefl 0)⟩
section LW
variable {L : Nat} {xs : Nat → Int32} {Q : Option Value → xm_H → Prop}
theorem wg_init {z : Int32} (hk : ∀ x3 H st Z G, wS H G0 0 st Z G → sGd G → xw L xs 92 62 [.float 0, .ref 0, .int z, x3, .null, .null, .null, .null] [] H Q) : ∀ d t H st Z G, t + d = 8 → wS H G0 0 st Z G → sGd G → xw L xs 92 16 [.float 0, .ref 0, .int z, .int (nI t), .null, .null, .null, .null] [] H Q := by
  intro d
  induction d with
  | zero =>
    intro t H st Z G hd hS hG
    refine xr_iload_n xi_92_16 rfl ?_
    refine xr_iconst (z := nI 3) xi_92_17 rfl ?_
    refine xr_iload_n xi_92_18 rfl ?_
    refine xr_iconst (z := nI 5) xi_92_19 rfl ?_
    refine xr_stat xi_92_20 (by decide) rfl rfl (Nat.le_of_ble_eq_true rfl) (Nat.le_of_ble_eq_true rfl) ?_
    refine wl_low (by omega) (by omega) (fun r hr => ?_)
    refine xr_k ?_
    refine xr_iadd xi_92_23 (by first | exact nI_add _ _ | exact rfl) ?_
    refine xr_ic_ge xi_92_24 (by first | exact tI_n (by omega) | exact tI_d (by omega) | assumption | exact tI_e1 | exact tI_e2 | exact tI_e3 | exact tI_e4) (by first | exact tI_n (by omega) | exact tI_d (by omega) | assumption | exact tI_e1 | exact tI_e2 | exact tI_e3 | exact tI_e4) (fun c_24 => ?_) (fun c_24 => ?_)
    · exact hk _ _ _ _ _ hS hG
    · exfalso
      omega
  | succ d ih =>
    intro t H st Z G hd hS hG
    refine xr_iload_n xi_92_16 rfl ?_
    refine xr_iconst (z := nI 3) xi_92_17 rfl ?_
    refine xr_iload_n xi_92_18 rfl ?_
    refine xr_iconst (z := nI 5) xi_92_19 rfl ?_
    refine xr_stat xi_92_20 (by decide) rfl rfl (Nat.le_of_ble_eq_true rfl) (Nat.le_of_ble_eq_true rfl) ?_
    refine wl_low (by omega) (by omega) (fun r hr => ?_)
    refine xr_k ?_
    refine xr_iadd xi_92_23 (by first | exact nI_add _ _ | exact rfl) ?_
    refine xr_ic_ge xi_92_24 (by first | exact tI_n (by omega) | exact tI_d (by omega) | assumption | exact tI_e1 | exact tI_e2 | exact tI_e3 | exact tI_e4) (by first | exact tI_n (by omega) | exact tI_d (by omega) | assumption | exact tI_e1 | exact tI_e2 | exact tI_e3 | exact tI_e4) (fun c_24 => ?_) (fun c_24 => ?_)
    · exact hk _ _ _ _ _ hS hG
    · obtain ⟨f0, h0⟩ := hS.h0
      refine xr_aload_n xi_92_27 rfl ?_
      refine xr_virt xi_92_28 rfl rfl h0 rfl (Nat.le_of_ble_eq_true rfl) (Nat.le_of_ble_eq_true rfl) ?_
      refine ww_thing hS hG.1.1 (fun H1 hp1 => ?_)
      obtain ⟨s1, Z1, hm1⟩ := mPost_ex st Z G (pThing G).1
      have hS1 := hp1 s1 Z1 hm1
      have hG1 := pThing_Gd hG
      obtain ⟨f0, h0⟩ := hS1.h0
      refine xr_k ?_
      refine xr_pop xi_92_31 ?_
      refine xr_aload_n xi_92_32 rfl ?_
      refine xr_iload_n xi_92_33 rfl ?_
      refine xr_iload_n xi_92_34 rfl ?_
      refine xr_ishr xi_92_35 rfl ?_
      refine xr_iload_n xi_92_36 rfl ?_
      refine xr_iconst (z := nI 1) xi_92_37 rfl ?_
      refine xr_iadd xi_92_38 (by first | exact nI_add _ _ | exact rfl) ?_
      refine xr_stat xi_92_39 (by decide) rfl rfl (Nat.le_of_ble_eq_true rfl) (Nat.le_of_ble_eq_true rfl) ?_
      refine wl_low (by omega) (by omega) (fun r1 hr1 => ?_)
      refine xr_k ?_
      refine xr_iload_n xi_92_42 rfl ?_
      refine xr_iconst (z := nI 3) xi_92_43 rfl ?_
      refine xr_iload_n xi_92_44 rfl ?_
      refine xr_iadd xi_92_45 (by first | exact nI_add _ _ | exact rfl) ?_
      refine xr_ishr xi_92_46 rfl ?_
      refine xr_iconst (z := nI 3) xi_92_47 rfl ?_
      refine xr_stat xi_92_48 (by decide) rfl rfl (Nat.le_of_ble_eq_true rfl) (Nat.le_of_ble_eq_true rfl) ?_
      refine wl_low (by omega) (by omega) (fun r2 hr2 => ?_)
      refine xr_k ?_
      refine xr_iload_n xi_92_51 rfl ?_
      refine xr_virt xi_92_52 rfl rfl h0 rfl (Nat.le_of_ble_eq_true rfl) (Nat.le_of_ble_eq_true rfl) ?_
      refine ww_tie hS1 hG1.1.1 (fun H2 hp2 => ?_)
      obtain ⟨s2, Z2, hm2⟩ := mPost_ex s1 Z1 (pThing G).2 (pTie (pThing G).2 (nI r1) (nI r2) (nI t)).1
      have hS2 := hp2 s2 Z2 hm2
      refine xr_k ?_
      refine xr_pop xi_92_55 ?_
      refine xr_iinc xi_92_56 rfl (by first | exact nI_1 _ | exact rfl) rfl ?_
      refine xr_goto xi_92_59 ?_
      exact ih (t + 1) _ _ _ _ (by omega) hS2 (pTie_Gd hG1)
theorem wg_loop {z : Int32} {tx : Nat → Nat} (hL : L ≤ 260) (ht : tOk tx 2) (hk : ∀ x3 x4 x5 x6 x7 H st Z G, wS H tx 2 st Z G → sGd G → xw L xs 92 239 [.float 0, .ref 0, .int z, x3, x4, x5, x6, x7] [] H Q) : ∀ d t H st Z G x4 x5 x6 x7, t + d = 28 → wS H tx 2 st Z G → sGd G → xw L xs 92 92 [.float 0, .ref 0, .int z, .int (nI t), x4, x5, x6, x7] [] H Q := by
  intro d
  induction d with
  | zero =>
    intro t H st Z G x4 x5 x6 x7 hd hS hG
    refine xr_iload_n xi_92_92 rfl ?_
    refine xr_bipush (z := nI 28) xi_92_93 rfl ?_
    refine xr_ic_ge xi_92_95 (by first | exact tI_n (by omega) | exact tI_d (by omega) | assumption | exact tI_e1 | exact tI_e2 | exact tI_e3 | exact tI_e4) (by first | exact tI_n (by omega) | exact tI_d (by omega) | assumption | exact tI_e1 | exact tI_e2 | exact tI_e3 | exact tI_e4) (fun c_ => ?_) (fun c_ => by exfalso; omega)
    exact hk _ _ _ _ _ _ _ _ _ hS hG
  | succ d ih =>
    intro t H st Z G x4 x5 x6 x7 hd hS hG
    obtain ⟨f0, h0⟩ := hS.h0
    have hI := hG.1.1
    refine xr_iload_n xi_92_92 rfl ?_
    refine xr_bipush (z := nI 28) xi_92_93 rfl ?_
    refine xr_ic_ge xi_92_95 (by first | exact tI_n (by omega) | exact tI_d (by omega) | assumption | exact tI_e1 | exact tI_e2 | exact tI_e3 | exact tI_e4) (by first | exact tI_n (by omega) | exact tI_d (by omega) | assumption | exact tI_e1 | exact tI_e2 | exact tI_e3 | exact tI_e4) (fun c_ => by exfalso; omega) (fun c_ => ?_)
    refine xr_aloads xi_92_98 rfl ?_
    refine xr_iconst (z := nI 1) xi_92_99 rfl ?_
    refine xr_iload_n xi_92_100 rfl ?_
    refine xr_iadd xi_92_101 (by first | exact nI_add _ _ | exact rfl) ?_
    refine xr_stat xi_92_102 (by decide) rfl rfl (Nat.le_of_ble_eq_true rfl) (Nat.le_of_ble_eq_true rfl) ?_
    refine wl_cell hL (by omega) (fun y => ?_)
    refine xr_k ?_
    have k176 : ∀ w a H st Z G, wS H tx 2 st Z G → sGd G → xw L xs 92 176 [.float 0, .ref 0, .int z, .int (nI t), .int y, .long w, .null, .int a] [] H Q := by
      intro w a H st Z G hS hG
      have hI := hG.1.1
      have k233 : ∀ H st Z, wS H tx 2 st Z G → xw L xs 92 233 [.float 0, .ref 0, .int z, .int (nI t), .int y, .long w, .null, .int a] [] H Q := by
        intro H st Z hS
        refine xr_iinc xi_92_233 rfl (by first | exact nI_1 _ | exact rfl) rfl ?_
        refine xr_goto xi_92_236 ?_
        exact ih (t + 1) _ _ _ _ _ _ _ _ (by omega) hS hG
      have k211 : ∀ H st Z, wS H tx 2 st Z G → xw L xs 92 211 [.float 0, .ref 0, .int z, .int (nI t), .int y, .long w, .null, .int a] [] H Q := by
        intro H st Z hS
        refine xr_iload_n xi_92_211 rfl ?_
        refine xr_bipush (z := nI 7) xi_92_212 rfl ?_
        refine xr_irem xi_92_214 (by decide) (by first | exact pk_rem (by omega) (by omega) (by omega) | exact rfl) ?_
        refine xr_iconst (z := nI 3) xi_92_215 rfl ?_
        refine xr_ic_ne xi_92_216 (by first | exact tI_n (by omega) | exact tI_d (by omega) | assumption | exact tI_e1 | exact tI_e2 | exact tI_e3 | exact tI_e4) (by first | exact tI_n (by omega) | exact tI_d (by omega) | assumption | exact tI_e1 | exact tI_e2 | exact tI_e3 | exact tI_e4) (fun c_216 => ?_) (fun c_216 => ?_)
        · exact k233 _ _ _ hS
        · refine xr_aload_n xi_92_219 rfl ?_
          refine xr_iload xi_92_220 rfl ?_
          refine xr_bipush (z := nI 9) xi_92_222 rfl ?_
          refine xr_ishr xi_92_224 rfl ?_
          refine xr_stat xi_92_225 (by decide) rfl rfl (Nat.le_of_ble_eq_true rfl) (Nat.le_of_ble_eq_true rfl) ?_
          refine wl_isFar hS hI (by omega) ?_
          refine xr_k ?_
          refine xr_if_ne xi_92_228 (by first | exact tI_n (by omega) | exact tI_d (by omega) | assumption | exact tI_e1 | exact tI_e2 | exact tI_e3 | exact tI_e4) (fun c_ => ?_) (fun c_ => by exfalso; omega)
          exact k233 _ _ _ hS
      have k190 : ∀ H st Z, wS H tx 2 st Z G → xw L xs 92 190 [.float 0, .ref 0, .int z, .int (nI t), .int y, .long w, .null, .int a] [] H Q := by
        intro H st Z hS
        refine xr_iload_n xi_92_190 rfl ?_
        refine xr_iconst (z := nI 4) xi_92_191 rfl ?_
        refine xr_irem xi_92_192 (by decide) (by first | exact pk_rem (by omega) (by omega) (by omega) | exact rfl) ?_
        refine xr_iconst (z := nI 2) xi_92_193 rfl ?_
        refine xr_ic_ne xi_92_194 (by first | exact tI_n (by omega) | exact tI_d (by omega) | assumption | exact tI_e1 | exact tI_e2 | exact tI_e3 | exact tI_e4) (by first | exact tI_n (by omega) | exact tI_d (by omega) | assumption | exact tI_e1 | exact tI_e2 | exact tI_e3 | exact tI_e4) (fun c_194 => ?_) (fun c_194 => ?_)
        · exact k211 _ _ _ hS
        · obtain ⟨b, hb, e⟩ := and1 (y >>> (nI 20 &&& 31))
          refine xr_aload_n xi_92_197 rfl ?_
          refine xr_iload xi_92_198 rfl ?_
          refine xr_bipush (z := nI 20) xi_92_200 rfl ?_
          refine xr_ishr xi_92_202 rfl ?_
          refine xr_iconst (z := nI 1) xi_92_203 rfl ?_
          refine xr_iand xi_92_204 (e) ?_
          refine xr_stat xi_92_205 (by decide) rfl rfl (Nat.le_of_ble_eq_true rfl) (Nat.le_of_ble_eq_true rfl) ?_
          refine wl_isWinter hS hG (by omega) hb (fun H1 s1 Z1 hS1 => ?_)
          refine xr_k ?_
          refine xr_if_eq xi_92_208 (by first | exact tI_n (by omega) | exact tI_d (by omega) | assumption | exact tI_e1 | exact tI_e2 | exact tI_e3 | exact tI_e4) (fun c_ => by exfalso; omega) (fun c_ => ?_)
          exact k211 _ _ _ hS1
      refine xr_iload_n xi_92_176 rfl ?_
      refine xr_iconst (z := nI 3) xi_92_177 rfl ?_
      refine xr_irem xi_92_178 (by decide) (by first | exact pk_rem (by omega) (by omega) (by omega) | exact rfl) ?_
      refine xr_iconst (z := nI 1) xi_92_179 rfl ?_
      refine xr_ic_ne xi_92_180 (by first | exact tI_n (by omega) | exact tI_d (by omega) | assumption | exact tI_e1 | exact tI_e2 | exact tI_e3 | exact tI_e4) (by first | exact tI_n (by omega) | exact tI_d (by omega) | assumption | exact tI_e1 | exact tI_e2 | exact tI_e3 | exact tI_e4) (fun c_180 => ?_) (fun c_180 => ?_)
      · exact k190 _ _ _ hS
      · refine xr_aload_n xi_92_183 rfl ?_
        refine xr_stat xi_92_184 (by decide) rfl rfl (Nat.le_of_ble_eq_true rfl) (Nat.le_of_ble_eq_true rfl) ?_
        refine wl_isSound hS hG (by omega) ?_
        refine xr_k ?_
        refine xr_if_eq xi_92_187 (by first | exact tI_n (by omega) | exact tI_d (by omega) | assumption | exact tI_e1 | exact tI_e2 | exact tI_e3 | exact tI_e4) (fun c_ => by exfalso; omega) (fun c_ => ?_)
        exact k190 _ _ _ hS
    refine xr_istore xi_92_105 (Nat.le_of_ble_eq_true rfl) rfl ?_
    refine xr_aload_n xi_92_107 rfl ?_
    refine xr_stat xi_92_108 (by decide) rfl rfl (Nat.le_of_ble_eq_true rfl) (Nat.le_of_ble_eq_true rfl) ?_
    refine wl_all hS hI (by omega) ?_
    refine xr_k ?_
    refine xr_lstore xi_92_111 (Nat.le_of_ble_eq_true rfl) rfl ?_
    refine xr_aload_n xi_92_113 rfl ?_
    refine xr_iload xi_92_114 rfl ?_
    refine xr_stat xi_92_116 (by decide) rfl rfl (Nat.le_of_ble_eq_true rfl) (Nat.le_of_ble_eq_true rfl) ?_
    refine wl_acts hS hG ht (fun a G1 H1 hok hG1 hp => ?_)
    obtain ⟨s1, Z1, hm⟩ := mPost_ex st Z G a
    have hS1 := hp s1 Z1 hm
    obtain ⟨f0, h0⟩ := hS1.h0
    refine xr_k ?_
    rcases hok with h | ⟨h, e⟩
    · refine xr_istore xi_92_119 (Nat.le_of_ble_eq_true rfl) rfl ?_
      refine xr_iload xi_92_121 rfl ?_
      refine xr_ldc (z := xE0) xi_92_123 rfl ?_
      refine xr_ic_ge xi_92_125 (rfl) (tI_e0) (fun c_ => ?_) (fun c_ => by exfalso; omega)
      refine xr_iload xi_92_140 rfl ?_
      refine xr_ldc (z := xE0) xi_92_142 rfl ?_
      refine xr_ic_le xi_92_144 (rfl) (tI_e0) (fun c_ => by exfalso; omega) (fun c_ => ?_)
      refine xr_iload xi_92_147 rfl ?_
      refine xr_bipush (z := nI 28) xi_92_149 rfl ?_
      refine xr_ishr xi_92_151 rfl ?_
      refine xr_iconst (z := nI 3) xi_92_152 rfl ?_
      refine xr_iand xi_92_153 rfl ?_
      refine xr_if_ne xi_92_154 (rfl) (fun c_154 => ?_) (fun c_154 => ?_)
      · exact k176 _ _ _ _ _ _ hS1 hG1
      · refine xr_aload_n xi_92_157 rfl ?_
        refine xr_virt xi_92_158 rfl rfl h0 rfl (Nat.le_of_ble_eq_true rfl) (Nat.le_of_ble_eq_true rfl) ?_
        refine wr_undo hI hS.len.2 h hm hS1 (fun H2 s2 hs2 hS2 => ?_)
        obtain ⟨f0, h0⟩ := hS2.h0
        refine xr_k ?_
        refine xr_if_lt xi_92_161 (by first | exact tI_n (by omega) | exact tI_d (by omega) | assumption | exact tI_e1 | exact tI_e2 | exact tI_e3 | exact tI_e4) (fun c_ => by exfalso; omega) (fun c_ => ?_)
        refine xr_aload_n xi_92_164 rfl ?_
        refine xr_stat xi_92_165 (by decide) rfl rfl (Nat.le_of_ble_eq_true rfl) (Nat.le_of_ble_eq_true rfl) ?_
        refine wl_all hS2 hI (by omega) ?_
        refine xr_k ?_
        refine xr_lload xi_92_168 rfl ?_
        refine xr_lcmp xi_92_170 (lg_s _) ?_
        refine xr_if_eq xi_92_171 (by first | exact tI_n (by omega) | exact tI_d (by omega) | assumption | exact tI_e1 | exact tI_e2 | exact tI_e3 | exact tI_e4) (fun c_ => ?_) (fun c_ => by exfalso; omega)
        exact k176 _ _ _ _ _ _ hS2 hG
    · subst e
      refine xr_istore xi_92_119 (Nat.le_of_ble_eq_true rfl) rfl ?_
      refine xr_iload xi_92_121 rfl ?_
      refine xr_ldc (z := xE0) xi_92_123 rfl ?_
      refine xr_ic_ge xi_92_125 (rfl) (tI_e0) (fun c_ => by exfalso; omega) (fun c_ => ?_)
      refine xr_aload_n xi_92_128 rfl ?_
      refine xr_stat xi_92_129 (by decide) rfl rfl (Nat.le_of_ble_eq_true rfl) (Nat.le_of_ble_eq_true rfl) ?_
      refine wl_all hS1 hI (by omega) ?_
      refine xr_k ?_
      refine xr_lload xi_92_132 rfl ?_
      refine xr_lcmp xi_92_134 (lg_s _) ?_
      refine xr_if_eq xi_92_135 (by first | exact tI_n (by omega) | exact tI_d (by omega) | assumption | exact tI_e1 | exact tI_e2 | exact tI_e3 | exact tI_e4) (fun c_ => ?_) (fun c_ => by exfalso; omega)
      refine xr_iload xi_92_140 rfl ?_
      refine xr_ldc (z := xE0) xi_92_142 rfl ?_
      refine xr_ic_le xi_92_144 (rfl) (tI_e0) (fun c_ => ?_) (fun c_ => by exfalso; omega)
      exact k176 _ _ _ _ _ _ hS1 hG1
theorem wg_end {z : Int32} {x3 x4 x5 x6 x7 : Value} {tx : Nat → Nat} {H : xm_H} {st : Nat} {Z G : Nat → Nat} (hS : wS H tx 2 st Z G) (hG : sGd G) (hQ : ∀ H tx ln st Z G, wS H tx ln st Z G → Q (some (.int (nI 1))) H) : xw L xs 92 239 [.float 0, .ref 0, .int z, x3, x4, x5, x6, x7] [] H Q := by
  obtain ⟨f0, h0⟩ := hS.h0
  have hI := hG.1.1
  have hc := hI.c
  refine xr_aload_n xi_92_239 rfl ?_
  refine xr_stat xi_92_240 (by decide) rfl rfl (Nat.le_of_ble_eq_true rfl) (Nat.le_of_ble_eq_true rfl) ?_
  refine wl_isSound hS hG (by omega) ?_
  refine xr_k ?_
  refine xr_if_eq xi_92_243 (by first | exact tI_n (by omega) | exact tI_d (by omega) | assumption | exact tI_e1 | exact tI_e2 | exact tI_e3 | exact tI_e4) (fun c_ => by exfalso; omega) (fun c_ => ?_)
  refine xr_aload_n xi_92_246 rfl ?_
  refine xr_iload_n xi_92_247 rfl ?_
  refine xr_iconst (z := nI 5) xi_92_248 rfl ?_
  refine xr_ishr xi_92_249 rfl ?_
  refine xr_stat xi_92_250 (by decide) rfl rfl (Nat.le_of_ble_eq_true rfl) (Nat.le_of_ble_eq_true rfl) ?_
  refine wl_isFar hS hI (by omega) ?_
  refine xr_k ?_
  refine xr_if_eq xi_92_253 (by first | exact tI_n (by omega) | exact tI_d (by omega) | assumption | exact tI_e1 | exact tI_e2 | exact tI_e3 | exact tI_e4) (fun c_ => by exfalso; omega) (fun c_ => ?_)
  refine xr_aload_n xi_92_256 rfl ?_
  refine xr_bipush (z := nI 14) xi_92_257 rfl ?_
  refine xr_virt xi_92_259 rfl rfl h0 rfl (Nat.le_of_ble_eq_true rfl) (Nat.le_of_ble_eq_true rfl) ?_
  refine ww_count hS hI (by omega) (fun w hw e => ?_) (fun _ => ?_)
  · have := (nI_inj (by omega) (by omega)).mp e
    omega
  refine xr_k ?_
  refine xr_ldc (z := xE1) xi_92_262 rfl ?_
  refine xr_ic_ne xi_92_264 (by first | exact tI_n (by omega) | exact tI_d (by omega) | assumption | exact tI_e1 | exact tI_e2 | exact tI_e3 | exact tI_e4) (by first | exact tI_n (by omega) | exact tI_d (by omega) | assumption | exact tI_e1 | exact tI_e2 | exact tI_e3 | exact tI_e4) (fun c_ => by exfalso; omega) (fun c_ => ?_)
  refine xr_aload_n xi_92_267 rfl ?_
  refine xr_bipush (z := nI 13) xi_92_268 rfl ?_
  refine xr_virt xi_92_270 rfl rfl h0 rfl (Nat.le_of_ble_eq_true rfl) (Nat.le_of_ble_eq_true rfl) ?_
  refine wr_count hS hI (by omega) (by omega) qC13 ?_
  refine xr_k ?_
  refine xr_iconst (z := nI 2) xi_92_273 rfl ?_
  refine xr_ic_ne xi_92_274 (by first | exact tI_n (by omega) | exact tI_d (by omega) | assumption | exact tI_e1 | exact tI_e2 | exact tI_e3 | exact tI_e4) (by first | exact tI_n (by omega) | exact tI_d (by omega) | assumption | exact tI_e1 | exact tI_e2 | exact tI_e3 | exact tI_e4) (fun c_ => by exfalso; omega) (fun c_ => ?_)
  refine xr_aload_n xi_92_277 rfl ?_
  refine xr_virt xi_92_278 rfl rfl h0 rfl (Nat.le_of_ble_eq_true rfl) (Nat.le_of_ble_eq_true rfl) ?_
  refine ww_clearText hS (fun H1 hS1 => ?_)
  obtain ⟨f0, h0⟩ := hS1.h0
  refine xr_k ?_
  refine xr_iconst (z := nI 2) xi_92_281 rfl ?_
  refine xr_ic_ne xi_92_282 (by first | exact tI_n (by omega) | exact tI_d (by omega) | assumption | exact tI_e1 | exact tI_e2 | exact tI_e3 | exact tI_e4) (by first | exact tI_n (by omega) | exact tI_d (by omega) | assumption | exact tI_e1 | exact tI_e2 | exact tI_e3 | exact tI_e4) (fun c_ => by exfalso; omega) (fun c_ => ?_)
  refine xr_aload_n xi_92_285 rfl ?_
  refine xr_bipush (z := nI 30) xi_92_286 rfl ?_
  refine xr_iconst (z := nI 0) xi_92_288 rfl ?_
  refine xr_virt xi_92_289 rfl rfl h0 rfl (Nat.le_of_ble_eq_true rfl) (Nat.le_of_ble_eq_true rfl) ?_
  refine ww_thingOf hS1 hI (fun t w h1 h2 e1 e2 => ?_) (fun _ => ?_)
  · have := (nI_inj (by omega) (by omega)).mp e1
    omega
  refine xr_k ?_
  refine xr_ldc (z := xE1) xi_92_292 rfl ?_
  refine xr_ic_ne xi_92_294 (by first | exact tI_n (by omega) | exact tI_d (by omega) | assumption | exact tI_e1 | exact tI_e2 | exact tI_e3 | exact tI_e4) (by first | exact tI_n (by omega) | exact tI_d (by omega) | assumption | exact tI_e1 | exact tI_e2 | exact tI_e3 | exact tI_e4) (fun c_ => by exfalso; omega) (fun c_ => ?_)
  refine xr_aload_n xi_92_297 rfl ?_
  refine xr_iconst (z := nI 0) xi_92_298 rfl ?_
  refine xr_iconst (z := nI 4) xi_92_299 rfl ?_
  refine xr_virt xi_92_300 rfl rfl h0 rfl (Nat.le_of_ble_eq_true rfl) (Nat.le_of_ble_eq_true rfl) ?_
  refine ww_survivors hS1 hI (fun a u H' h1 h2 e1 e2 _ => ?_) (fun _ => ?_)
  · have := (nI_inj (by omega) (by omega)).mp e2
    omega
  refine xr_k ?_
  refine xr_ldc (z := xE1) xi_92_303 rfl ?_
  refine xr_ic_ne xi_92_305 (by first | exact tI_n (by omega) | exact tI_d (by omega) | assumption | exact tI_e1 | exact tI_e2 | exact tI_e3 | exact tI_e4) (by first | exact tI_n (by omega) | exact tI_d (by omega) | assumption | exact tI_e1 | exact tI_e2 | exact tI_e3 | exact tI_e4) (fun c_ => by exfalso; omega) (fun c_ => ?_)
  refine xr_aload_n xi_92_308 rfl ?_
  refine xr_iconst (z := dI 0) xi_92_309 xm_m1 ?_
  refine xr_iconst (z := nI 0) xi_92_310 rfl ?_
  refine xr_virt xi_92_311 rfl rfl h0 rfl (Nat.le_of_ble_eq_true rfl) (Nat.le_of_ble_eq_true rfl) ?_
  refine ww_survivors hS1 hI (fun a u H' h1 h2 e1 e2 _ => ?_) (fun _ => ?_)
  · have h3 : (dI 0).toInt = -1 := by decide +kernel
    rw [e1, tI_n (by omega)] at h3
    omega
  refine xr_k ?_
  refine xr_ldc (z := xE1) xi_92_314 rfl ?_
  refine xr_ic_ne xi_92_316 (by first | exact tI_n (by omega) | exact tI_d (by omega) | assumption | exact tI_e1 | exact tI_e2 | exact tI_e3 | exact tI_e4) (by first | exact tI_n (by omega) | exact tI_d (by omega) | assumption | exact tI_e1 | exact tI_e2 | exact tI_e3 | exact tI_e4) (fun c_ => by exfalso; omega) (fun c_ => ?_)
  refine xr_aload_n xi_92_319 rfl ?_
  refine xr_iconst (z := nI 0) xi_92_320 rfl ?_
  refine xr_bipush (z := nI 8) xi_92_321 rfl ?_
  refine xr_virt xi_92_323 rfl rfl h0 rfl (Nat.le_of_ble_eq_true rfl) (Nat.le_of_ble_eq_true rfl) ?_
  refine ww_houseOf hS1 hI (fun t w h1 h2 e1 e2 => ?_) (fun _ => ?_)
  · have := (nI_inj (by omega) (by omega)).mp e2
    omega
  refine xr_k ?_
  refine xr_ldc (z := xE1) xi_92_326 rfl ?_
  refine xr_ic_ne xi_92_328 (by first | exact tI_n (by omega) | exact tI_d (by omega) | assumption | exact tI_e1 | exact tI_e2 | exact tI_e3 | exact tI_e4) (by first | exact tI_n (by omega) | exact tI_d (by omega) | assumption | exact tI_e1 | exact tI_e2 | exact tI_e3 | exact tI_e4) (fun c_ => by exfalso; omega) (fun c_ => ?_)
  refine xr_iconst (z := nI 1) xi_92_331 rfl ?_
  refine xr_goto xi_92_332 ?_
  refine xr_iret xi_92_336 (fun h => absurd h (by decide)) ?_
  exact hQ _ _ _ _ _ _ hS1
theorem wl_law (hL : L ≤ 260) (hQ : ∀ H tx ln st Z G, wS H tx ln st Z G → Q (some (.int (nI 1))) H) : xw L xs 92 0 [.float 0, .null, .null, .null, .null, .null, .null, .null] [] [] Q := by
  refine xr_new xi_92_0 ?_
  refine xr_dup xi_92_3 ?_
  refine xr_spec xi_92_4 (by decide) rfl rfl (Nat.le_of_ble_eq_true rfl) (Nat.le_of_ble_eq_true rfl) ?_
  refine wi_W (fun fs R hf hX => ?_)
  refine xr_kv ?_
  have hS : wS (wT fs 0 0 G0 G0 0 0 0 0 ++ R) G0 0 0 G0 G0 := ⟨fs, 0, G0, 0, 0, 0, R, rfl, hf, hX⟩
  refine xr_astore_n xi_92_7 (Nat.le_of_ble_eq_true rfl) rfl ?_
  refine xr_aloads xi_92_8 rfl ?_
  refine xr_iconst (z := nI 0) xi_92_9 rfl ?_
  refine xr_stat xi_92_10 (by decide) rfl rfl (Nat.le_of_ble_eq_true rfl) (Nat.le_of_ble_eq_true rfl) ?_
  refine wl_cell hL (by omega) (fun z => ?_)
  refine xr_k ?_
  refine xr_istore_n xi_92_13 (Nat.le_of_ble_eq_true rfl) rfl ?_
  refine xr_iconst (z := nI 0) xi_92_14 rfl ?_
  refine xr_istore_n xi_92_15 (Nat.le_of_ble_eq_true rfl) rfl ?_
  refine wg_init (fun x3 H st Z G hS hG => ?_) 8 0 _ _ _ _ (by omega) hS G0_Gd
  obtain ⟨f0, h0⟩ := hS.h0
  have hI := hG.1.1
  refine xr_aload_n xi_92_62 rfl ?_
  refine xr_iconst (z := nI 0) xi_92_63 rfl ?_
  refine xr_iload_n xi_92_64 rfl ?_
  refine xr_bipush (z := nI 9) xi_92_65 rfl ?_
  refine xr_ishr xi_92_67 rfl ?_
  refine xr_iconst (z := nI 3) xi_92_68 rfl ?_
  refine xr_stat xi_92_69 (by decide) rfl rfl (Nat.le_of_ble_eq_true rfl) (Nat.le_of_ble_eq_true rfl) ?_
  refine wl_low (by omega) (by omega) (fun r hr => ?_)
  refine xr_k ?_
  refine xr_virt xi_92_72 rfl rfl h0 rfl (Nat.le_of_ble_eq_true rfl) (Nat.le_of_ble_eq_true rfl) ?_
  refine ww_hold hS hI (fun H1 hp1 => ?_)
  obtain ⟨s1, Z1, hm1⟩ := mPost_ex st Z G (pHold G (nI 0) (nI r)).1
  have hS1 := hp1 s1 Z1 hm1
  have hG1 := pHold_Gd (x := nI 0) (y := nI r) hG
  obtain ⟨f0, h0⟩ := hS1.h0
  have ht0 : tOk G0 0 := ⟨by omega, fun i hi => by omega⟩
  refine xr_k ?_
  refine xr_pop xi_92_75 ?_
  refine xr_aload_n xi_92_76 rfl ?_
  refine xr_bipush (z := nI 110) xi_92_77 rfl ?_
  refine xr_virt xi_92_79 rfl rfl h0 rfl (Nat.le_of_ble_eq_true rfl) (Nat.le_of_ble_eq_true rfl) ?_
  refine ww_type hS1 ht0 (fun H2 c hc1 hc2 he hl hS2 => ?_) (fun _ q => by omega) (fun q => absurd ⟨110, by omega, by omega, rfl⟩ q)
  have ht1 : tOk (un G0 0 c) 1 := tOk_type ht0 (by omega) hc1 hc2
  obtain ⟨f0, h0⟩ := hS2.h0
  refine xr_k ?_
  refine xr_pop xi_92_82 ?_
  refine xr_aload_n xi_92_83 rfl ?_
  refine xr_bipush (z := nI 59) xi_92_84 rfl ?_
  refine xr_virt xi_92_86 rfl rfl h0 rfl (Nat.le_of_ble_eq_true rfl) (Nat.le_of_ble_eq_true rfl) ?_
  refine ww_type hS2 ht1 (fun H3 c2 hc3 hc4 he2 hl2 hS3 => ?_) (fun _ q => by omega) (fun q => absurd ⟨59, by omega, by omega, rfl⟩ q)
  have ht2 : tOk (un (un G0 0 c) 1 c2) 2 := tOk_type ht1 (by omega) hc3 hc4
  refine xr_k ?_
  refine xr_pop xi_92_89 ?_
  refine xr_iconst (z := nI 0) xi_92_90 rfl ?_
  refine xr_istore_n xi_92_91 (Nat.le_of_ble_eq_true rfl) rfl ?_
  exact wg_loop hL ht2 (fun x3 x4 x5 x6 x7 H st Z G hS hG => wg_end hS hG hQ) 28 0 _ _ _ _ _ _ _ _ (by omega) hS3 hG1
end LW
theorem xz_law (L : Nat) (xs : Nat → Int32) (hL : L ≤ 260) : ∃ (n : Nat) (hp' : xm_H), xm_ex L xs n 92 0 ([.float 0] ++ List.replicate (8 - 1) .null) [] [] = some (some (.int 1), hp') ∧ hp'.length ≤ 600000 ∧ xm_sz hp' ≤ 7302250 := by
  obtain ⟨n, r, hp', h1, h2, h3⟩ := wl_law (L := L) (xs := xs) (Q := fun r hp => r = some (.int 1) ∧ hp.length ≤ 600000 ∧ xm_sz hp ≤ 7302250) hL (fun H tx ln st Z G hS => ⟨rfl, wS_size hS⟩)
  subst h2
  exact ⟨n, hp', h1, h3⟩
