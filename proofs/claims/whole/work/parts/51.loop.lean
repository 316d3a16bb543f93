/-! the law's loop, and the heap's size behind it -/
theorem sz_le {B : Nat} : ∀ H : xm_H, (∀ e, e ∈ H → xm_es e ≤ B) → xm_sz H ≤ B * H.length := by
  intro H
  induction H with
  | nil => intro _; exact Nat.zero_le _
  | cons e H ih =>
    intro h
    have h1 := ih (fun e' he => h e' (List.mem_cons_of_mem _ he))
    have h2 := h e (List.mem_cons_self ..)
    have e1 : xm_sz (e :: H) = xm_es e + xm_sz H := by
      unfold xm_sz
      rw [List.map_cons, List.sum_cons]
    rw [e1, List.length_cons, Nat.mul_succ]
    omega
theorem es_fe {ρ : Nat → Nat} {e : xm_E} : xm_es (fe ρ e) = xm_es e := by
  obtain q | ⟨n, g⟩ | ⟨ci, fs⟩ := e
  · rfl
  · rfl
  · show (fs.map (fv ρ)).length = fs.length
    rw [List.length_map]
theorem lS_size {H : xm_H} (h : lS H) : H.length ≤ 600000 ∧ xm_sz H ≤ 7302250 := by
  obtain ⟨Hw, st, tx, ln, ag, po, le, nu, fa, re, od, be, Z, G, rfl, hW, -⟩ := h
  have hl := hW.len.1
  obtain ⟨fs, pr, nu', po', sta, rea, R, hH, hf, hX⟩ := hW
  have hlen : (Hw ++ (mJ st tx ln ag po le nu fa re od be Z G).map (fe (47 + ·))).length = 53 := by
    rw [List.length_append, List.length_map, hl]
    rfl
  refine ⟨by omega, ?_⟩
  refine Nat.le_trans (sz_le (B := 1176) _ (fun e he => ?_)) (by rw [hlen]; decide)
  rcases List.mem_append.mp he with he | he
  · obtain ⟨i, hi⟩ := List.mem_iff_getElem?.mp he
    have hil : i < 47 := by rw [← hl]; exact (List.getElem?_eq_some_iff.mp hi).1
    by_cases h5 : i < 5
    · rw [hH, List.getElem?_append_left (show i < 5 from h5)] at hi
      have : i = 0 ∨ i = 1 ∨ i = 2 ∨ i = 3 ∨ i = 4 := by omega
      rcases this with rfl | rfl | rfl | rfl | rfl <;> cases hi <;> exact Nat.le_of_ble_eq_true rfl
    · obtain ⟨v, hv⟩ := hX.2.2.2.1 ((i - 5) / 7) (by omega)
      have ha : (i - 5) % 7 < (vHt v).length := Nat.mod_lt _ (by decide)
      have h1 := hv.1 _ _ (List.getElem?_eq_getElem ha)
      have e1 : rV ((i - 5) / 7) ((i - 5) % 7) = i := by unfold rV; omega
      rw [e1, hi] at h1
      cases h1
      rw [es_fe]
      have : ∀ a (h : a < (vHt v).length), xm_es ((vHt v)[a]'h) ≤ 1176 := by
        intro a h
        have h7 : a < 7 := h
        have : a = 0 ∨ a = 1 ∨ a = 2 ∨ a = 3 ∨ a = 4 ∨ a = 5 ∨ a = 6 := by omega
        rcases this with rfl | rfl | rfl | rfl | rfl | rfl | rfl <;> exact Nat.le_of_ble_eq_true rfl
      exact this _ _
  · obtain ⟨e', h1, rfl⟩ := List.mem_map.mp he
    rw [es_fe]
    obtain ⟨i, hi⟩ := List.mem_iff_getElem?.mp h1
    have hil : i < 6 := (List.getElem?_eq_some_iff.mp hi).1
    have : i = 0 ∨ i = 1 ∨ i = 2 ∨ i = 3 ∨ i = 4 ∨ i = 5 := by omega
    rcases this with rfl | rfl | rfl | rfl | rfl | rfl <;> cases hi <;> exact Nat.le_of_ble_eq_true rfl
section LX
variable {L : Nat} {xs : Nat → Int32} {Qf : Option Value → xm_H → Prop}
theorem wl_loop (hL : L ≤ 2048) (hQ : ∀ H, lS H → Qf (some (.int (nI 1))) H) : ∀ d i H, L ≤ i + 4 * d → i ≤ L + 3 → lS H → xw L xs 167 18 [.float 0, .ref 0, .ref 47, .int (nI i)] [] H Qf := by
  intro d
  induction d with
  | zero =>
    intro i H hd hi hS
    refine xr_iload_n xi_167_18 rfl ?_
    refine xr_aloads xi_167_19 rfl ?_
    refine xr_slen xi_167_20 ?_
    refine xr_iconst (z := nI 4) xi_167_21 rfl ?_
    refine xr_isub xi_167_22 (rfl) ?_
    refine xr_ic_gt xi_167_23 (by first | exact tI_n (by omega) | exact tI_d (by omega) | assumption | exact tI_e1 | exact tI_e2 | exact tI_e3 | exact tI_e4) (t_4 hL) (fun c_ => ?_) (fun c_ => by exfalso; omega)
    refine xr_iconst (z := nI 1) xi_167_695 rfl ?_
    refine xr_iret xi_167_696 (fun h => absurd h (by decide)) ?_
    exact hQ H hS
  | succ d ih =>
    intro i H hd hi hS
    by_cases hiL : i + 4 ≤ L
    · have tail : ∀ H', lS H' → xw L xs 167 689 [.float 0, .ref 0, .ref 47, .int (nI i)] [] H' Qf := by
        intro H' hS'
        refine xr_iinc xi_167_689 rfl (by first | exact nI_add _ _ | exact rfl) rfl ?_
        refine xr_goto xi_167_692 ?_
        exact ih (i + 4) H' (by omega) (by omega) hS'
      obtain ⟨k, hk, e⟩ := and31 (xs i)
      refine xr_iload_n xi_167_18 rfl ?_
      refine xr_aloads xi_167_19 rfl ?_
      refine xr_slen xi_167_20 ?_
      refine xr_iconst (z := nI 4) xi_167_21 rfl ?_
      refine xr_isub xi_167_22 (rfl) ?_
      refine xr_ic_gt xi_167_23 (by first | exact tI_n (by omega) | exact tI_d (by omega) | assumption | exact tI_e1 | exact tI_e2 | exact tI_e3 | exact tI_e4) (t_4 hL) (fun c_ => by exfalso; omega) (fun c_ => ?_)
      refine xr_aloads xi_167_26 rfl ?_
      refine xr_iload_n xi_167_27 rfl ?_
      refine xr_sald xi_167_28 (by first | exact tI_n (by first | omega | (simp only [ri]; omega)) | exact tI_dn (by omega) (by omega) | assumption) (by omega) ?_
      refine xr_bipush (z := nI 31) xi_167_29 rfl ?_
      refine xr_iand xi_167_31 (e) ?_
      have : k = 0 ∨ k = 1 ∨ k = 2 ∨ k = 3 ∨ k = 4 ∨ k = 5 ∨ k = 6 ∨ k = 7 ∨ k = 8 ∨ k = 9 ∨ k = 10 ∨ k = 11 ∨ k = 12 ∨ k = 13 ∨ k = 14 ∨ k = 15 ∨ k = 16 ∨ k = 17 ∨ k = 18 ∨ k = 19 ∨ k = 20 ∨ k = 21 ∨ k = 22 ∨ k = 23 ∨ k = 24 ∨ k = 25 ∨ k = 26 ∨ k = 27 ∨ k = 28 ∨ k = 29 ∨ k = 30 ∨ k = 31 := by omega
      rcases this with rfl | rfl | rfl | rfl | rfl | rfl | rfl | rfl | rfl | rfl | rfl | rfl | rfl | rfl | rfl | rfl | rfl | rfl | rfl | rfl | rfl | rfl | rfl | rfl | rfl | rfl | rfl | rfl | rfl | rfl | rfl | rfl
      · exact xr_tsw xi_167_32 (tI_n (by omega)) (t := 140) (by decide) (wl_thing hiL hL hS tail)
      · exact xr_tsw xi_167_32 (tI_n (by omega)) (t := 153) (by decide) (wl_hold hiL hL hS tail)
      · exact xr_tsw xi_167_32 (tI_n (by omega)) (t := 186) (by decide) (wl_release hiL hL hS tail)
      · exact xr_tsw xi_167_32 (tI_n (by omega)) (t := 209) (by decide) (wl_tie hiL hL hS tail)
      · exact xr_tsw xi_167_32 (tI_n (by omega)) (t := 252) (by decide) (wl_loosen hiL hL hS tail)
      · exact xr_tsw xi_167_32 (tI_n (by omega)) (t := 285) (by decide) (wl_pin hiL hL hS tail)
      · exact xr_tsw xi_167_32 (tI_n (by omega)) (t := 308) (by decide) (wl_unpin hiL hL hS tail)
      · exact xr_tsw xi_167_32 (tI_n (by omega)) (t := 331) (by decide) (wl_winter hiL hL hS tail)
      · exact xr_tsw xi_167_32 (tI_n (by omega)) (t := 354) (by decide) (wl_full hiL hL hS tail)
      · exact xr_tsw xi_167_32 (tI_n (by omega)) (t := 367) (by decide) (wl_thingOf hiL hL hS tail)
      · exact xr_tsw xi_167_32 (tI_n (by omega)) (t := 400) (by decide) (wl_houseOf hiL hL hS tail)
      · exact xr_tsw xi_167_32 (tI_n (by omega)) (t := 433) (by decide) (wl_handOf hiL hL hS tail)
      · exact xr_tsw xi_167_32 (tI_n (by omega)) (t := 456) (by decide) (wl_noteAt hiL hL hS tail)
      · exact xr_tsw xi_167_32 (tI_n (by omega)) (t := 479) (by decide) (wl_needed hiL hL hS tail)
      · exact xr_tsw xi_167_32 (tI_n (by omega)) (t := 502) (by decide) (wl_survivors hiL hL hS tail)
      · exact xr_tsw xi_167_32 (tI_n (by omega)) (t := 535) (by decide) (wl_keptBy hiL hL hS tail)
      · exact xr_tsw xi_167_32 (tI_n (by omega)) (t := 558) (by decide) (wl_far hiL hL hS tail)
      · exact xr_tsw xi_167_32 (tI_n (by omega)) (t := 581) (by decide) (wl_count hiL hL hS tail)
      · exact xr_tsw xi_167_32 (tI_n (by omega)) (t := 604) (by decide) (wl_undo hiL hL hS tail)
      · exact xr_tsw xi_167_32 (tI_n (by omega)) (t := 617) (by decide) (wl_type hiL hL hS tail)
      · exact xr_tsw xi_167_32 (tI_n (by omega)) (t := 640) (by decide) (wl_clearText hiL hL hS tail)
      · exact xr_tsw xi_167_32 (tI_n (by omega)) (t := 653) (by decide) (wl_fault hiL hL hS tail)
      · exact xr_tsw xi_167_32 (tI_n (by omega)) (t := 676) (by decide) (wl_play hiL hL hS tail)
      · exact xr_tsw xi_167_32 (tI_n (by omega)) (t := 689) (by decide) (tail H hS)
      · exact xr_tsw xi_167_32 (tI_n (by omega)) (t := 689) (by decide) (tail H hS)
      · exact xr_tsw xi_167_32 (tI_n (by omega)) (t := 689) (by decide) (tail H hS)
      · exact xr_tsw xi_167_32 (tI_n (by omega)) (t := 689) (by decide) (tail H hS)
      · exact xr_tsw xi_167_32 (tI_n (by omega)) (t := 689) (by decide) (tail H hS)
      · exact xr_tsw xi_167_32 (tI_n (by omega)) (t := 689) (by decide) (tail H hS)
      · exact xr_tsw xi_167_32 (tI_n (by omega)) (t := 689) (by decide) (tail H hS)
      · exact xr_tsw xi_167_32 (tI_n (by omega)) (t := 689) (by decide) (tail H hS)
      · exact xr_tsw xi_167_32 (tI_n (by omega)) (t := 689) (by decide) (tail H hS)
    · refine xr_iload_n xi_167_18 rfl ?_
      refine xr_aloads xi_167_19 rfl ?_
      refine xr_slen xi_167_20 ?_
      refine xr_iconst (z := nI 4) xi_167_21 rfl ?_
      refine xr_isub xi_167_22 (rfl) ?_
      refine xr_ic_gt xi_167_23 (by first | exact tI_n (by omega) | exact tI_d (by omega) | assumption | exact tI_e1 | exact tI_e2 | exact tI_e3 | exact tI_e4) (t_4 hL) (fun c_ => ?_) (fun c_ => by exfalso; omega)
      refine xr_iconst (z := nI 1) xi_167_695 rfl ?_
      refine xr_iret xi_167_696 (fun h => absurd h (by decide)) ?_
      exact hQ H hS
end LX
