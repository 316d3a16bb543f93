/-! from the law's start to its loop, and the law -/
section LY
variable {L : Nat} {xs : Nat → Int32} {Qf : Option Value → xm_H → Prop}
theorem wl_start (hL : L ≤ 2048) (hQ : ∀ H, lS H → Qf (some (.int (nI 1))) H) : xw L xs 167 0 [.float 0, .null, .null, .null] [] [] Qf := by
  refine xr_new xi_167_0 ?_
  refine xr_dup xi_167_3 ?_
  refine xr_spec xi_167_4 (by decide) rfl rfl (Nat.le_of_ble_eq_true rfl) (Nat.le_of_ble_eq_true rfl) ?_
  refine wi_W (fun fs R hf hX => ?_)
  refine xr_kv ?_
  refine xr_astore_n xi_167_7 (Nat.le_of_ble_eq_true rfl) rfl ?_
  refine xr_new xi_167_8 ?_
  refine xr_dup xi_167_11 ?_
  refine xr_spec xi_167_12 (by decide) rfl rfl (Nat.le_of_ble_eq_true rfl) (Nat.le_of_ble_eq_true rfl) ?_
  rw [hX.1]
  refine xc_new (n := 47) (as := [.ref 0]) (h := [.inr (.inr (3, xm_new 3))]) hX.1 (by rw [List.map_cons, List.map_nil, fe_new]) rfl (wi_M ?_)
  refine xr_kv ?_
  refine xr_astore_n xi_167_15 (Nat.le_of_ble_eq_true rfl) rfl ?_
  refine xr_iconst (z := nI 0) xi_167_16 rfl ?_
  refine xr_istore_n xi_167_17 (Nat.le_of_ble_eq_true rfl) rfl ?_
  exact wl_loop hL hQ 513 0 _ (by omega) (by omega) ⟨_, 0, G0, 0, G0, 0, 0, G0, 0, 0, 0, G0, G0, G0, rfl, ⟨fs, 0, G0, 0, 0, 0, R, rfl, hf, hX⟩, G0_inv, ⟨by omega, fun i hi => by omega⟩, fun s hs => by omega⟩
end LY
theorem xz_law (L : Nat) (xs : Nat → Int32) (hL : L ≤ 2048) : ∃ (n : Nat) (hp' : xm_H), xm_ex L xs n 167 0 ([.float 0] ++ List.replicate (4 - 1) .null) [] [] = some (some (.int 1), hp') ∧ hp'.length ≤ 600000 ∧ xm_sz hp' ≤ 7302250 := by
  obtain ⟨n, r, hp', h1, h2, h3⟩ := wl_start (L := L) (xs := xs) (Qf := fun r hp => r = some (.int 1) ∧ hp.length ≤ 600000 ∧ xm_sz hp ≤ 7302250) hL (fun H hS => ⟨rfl, lS_size hS⟩)
  subst h2
  exact ⟨n, hp', h1, h3⟩
