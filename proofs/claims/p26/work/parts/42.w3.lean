/-! the program's changes -/
theorem pThing_err {G : Nat → Nat} (hI : sInv G) (h : ¬ 0 ≤ (pThing G).1.toInt) : (pThing G).2 = G := by
  have hc := hI.c
  cases hr : sRoom G 1 with
  | none => rw [pThing_2 hr]
  | some q =>
    obtain ⟨p, G1⟩ := q
    by_cases h30 : G 0 = 30
    · rw [pThing_3 (by rw [hr]; exact fun q => by cases q) h30]
    · rw [pThing_0 hr (by omega)] at h
      exact absurd (by show 0 ≤ (nI (G 0)).toInt; rw [tI_n (by omega)]; omega) h
theorem pHold_err {G : Nat → Nat} {x y : Int32} (h : ¬ 0 ≤ (pHold G x y).1.toInt) : (pHold G x y).2 = G := by
  unfold pHold at *
  split
  · next c =>
    rw [if_pos c] at h
    exfalso
    have := cnt_le (fun k => 0 < un G (12 + x.toInt.toNat) (y.toInt.toNat + 1) (12 + k)) 4
    apply h
    show 0 ≤ (nI _).toInt
    rw [tI_n (by omega)]
    omega
  · rfl
theorem pRelease_err {G : Nat → Nat} {x : Int32} (hI : sInv G) (h : ¬ 0 ≤ (pRelease G x).1.toInt) : (pRelease G x).2 = G := by
  unfold pRelease at *
  split
  · next c =>
    rw [if_pos c] at h
    obtain ⟨k, hk, e⟩ := cd_t.mp c
    split
    · rfl
    · next c2 =>
      rw [if_neg c2] at h
      exfalso
      rw [e, tN (by omega)] at h
      have := (hI.h hk).1
      apply h
      show 0 ≤ (nI _).toInt
      rw [tI_n (by omega)]
      omega
  · rfl
theorem pTie_err {G : Nat → Nat} {x y z : Int32} (h : ¬ 0 ≤ (pTie G x y z).1.toInt) : (pTie G x y z).2 = G := by
  unfold pTie at *
  split
  · next c =>
    rw [if_pos c] at h
    exfalso
    apply h
    dsimp only
    split
    · rw [tI_n (by omega)]; omega
    · rw [tI_n (by omega)]; omega
  · rfl
theorem pLoosen_err {G : Nat → Nat} {x y : Int32} (hI : sInv G) (h : ¬ 0 ≤ (pLoosen G x y).1.toInt) : (pLoosen G x y).2 = G := by
  unfold pLoosen at *
  split
  · next c =>
    rw [if_pos c] at h
    obtain ⟨t, s, hl, hs, e, e2⟩ := cd_t.mp c
    have ht := hI.lt hl
    split
    · rfl
    · next c2 =>
      rw [if_neg c2] at h
      exfalso
      rw [e, e2, tN (by omega), tN (by omega)] at h
      have := (hI.t ht hs).1
      apply h
      show 0 ≤ (nI _).toInt
      rw [tI_n (by omega)]
      omega
  · rfl
theorem pPin_err {G : Nat → Nat} {x : Int32} {b : Nat} (h : ¬ 0 ≤ (pPin G x b).1.toInt) : (pPin G x b).2 = G := by
  unfold pPin at *
  split
  · next c =>
    rw [if_pos c] at h
    split
    · rfl
    · next c2 =>
      rw [if_neg c2] at h
      exfalso
      have := cnt_le (sPin (un G (ri x.toInt.toNat 1) b)) 30
      apply h
      show 0 ≤ (nI _).toInt
      rw [tI_n (by omega)]
      omega
  · rfl
theorem pWinter_err {G : Nat → Nat} {x : Int32} (h : ¬ 0 ≤ (pWinter G x).1.toInt) : (pWinter G x).2 = G := by
  unfold pWinter at *
  split
  · next c =>
    rw [if_pos c] at h
    split
    · rfl
    · next G' hw =>
      rw [hw] at h
      exfalso
      have := cnt_le (sGone G x.toInt.toNat) 30
      apply h
      show 0 ≤ (nI _).toInt
      rw [tI_n (by omega)]
      omega
  · rfl
theorem pFull_err {G : Nat → Nat} (h : ¬ 0 ≤ (pFull G).1.toInt) : (pFull G).2 = G := by
  exfalso
  have := cnt_le (sForg G) 30
  apply h
  show 0 ≤ (nI _).toInt
  rw [tI_n (by omega)]
  omega
section W4
variable {L : Nat} {xs : Nat → Int32} {Q : Option Value → xm_H → Prop} {ln st : Nat} {tx Z G : Nat → Nat} {H : xm_H}
theorem ww_thing (hS : wS H tx ln st Z G) (hI : sInv G) (hQ : ∀ H', (∀ st' Z', mPost st Z G (pThing G).1 st' Z' → wS H' tx ln st' Z' (pThing G).2) → Q (some (.int (pThing G).1)) H') : xc L xs 56 [.ref 0] H Q := by
  obtain ⟨fs, pr, nu, po, sta, rea, R, rfl, hf, hX⟩ := hS
  refine xr_aload_n xi_56_0 rfl ?_
  refine xr_aload_n xi_56_1 rfl ?_
  refine xr_virt xi_56_2 rfl rfl rfl rfl (Nat.le_of_ble_eq_true rfl) (Nat.le_of_ble_eq_true rfl) ?_
  refine ww_trial hf hX (fun R' v hX' hv hr => ?_)
  refine xr_k ?_
  refine xr_virt xi_56_5 rfl rfl (hv.1 0 _ rfl) rfl (Nat.le_of_ble_eq_true rfl) (Nat.le_of_ble_eq_true rfl) ?_
  refine xc_ch (z := pThing G) (as := [.ref 0]) hv rfl (fun H' v' hv' hO hz => ?_) (fun Q' hQ' => wv_welcome hr hI hQ')
  obtain ⟨R2, rfl⟩ := fO_split rfl hO
  have hE := wS_end hf hX' hv' hO hz (pThing_err hI)
  refine xr_k ?_
  refine xr_virt xi_56_8 rfl rfl rfl rfl (Nat.le_of_ble_eq_true rfl) (Nat.le_of_ble_eq_true rfl) ?_
  refine ww_keep hX.2.1 hX.2.2.1 (fun a => ?_) (fun a => ?_)
  · refine xr_k ?_
    refine xr_iret xi_56_11 (fun h => absurd h (by decide)) ?_
    exact hQ _ (hE.1 a)
  · refine xr_k ?_
    refine xr_iret xi_56_11 (fun h => absurd h (by decide)) ?_
    exact hQ _ (hE.2 a)
theorem ww_hold {x y : Int32} (hS : wS H tx ln st Z G) (hI : sInv G) (hQ : ∀ H', (∀ st' Z', mPost st Z G (pHold G x y).1 st' Z' → wS H' tx ln st' Z' (pHold G x y).2) → Q (some (.int (pHold G x y).1)) H') : xc L xs 57 [.ref 0, .int x, .int y] H Q := by
  obtain ⟨fs, pr, nu, po, sta, rea, R, rfl, hf, hX⟩ := hS
  refine xr_aload_n xi_57_0 rfl ?_
  refine xr_aload_n xi_57_1 rfl ?_
  refine xr_virt xi_57_2 rfl rfl rfl rfl (Nat.le_of_ble_eq_true rfl) (Nat.le_of_ble_eq_true rfl) ?_
  refine ww_trial hf hX (fun R' v hX' hv hr => ?_)
  refine xr_k ?_
  refine xr_iload_n xi_57_5 rfl ?_
  refine xr_iload_n xi_57_6 rfl ?_
  refine xr_virt xi_57_7 rfl rfl (hv.1 0 _ rfl) rfl (Nat.le_of_ble_eq_true rfl) (Nat.le_of_ble_eq_true rfl) ?_
  refine xc_ch (z := pHold G x y) (as := [.ref 0, .int x, .int y]) hv rfl (fun H' v' hv' hO hz => ?_) (fun Q' hQ' => wv_grip hr hI hQ')
  obtain ⟨R2, rfl⟩ := fO_split rfl hO
  have hE := wS_end hf hX' hv' hO hz (pHold_err)
  refine xr_k ?_
  refine xr_virt xi_57_10 rfl rfl rfl rfl (Nat.le_of_ble_eq_true rfl) (Nat.le_of_ble_eq_true rfl) ?_
  refine ww_keep hX.2.1 hX.2.2.1 (fun a => ?_) (fun a => ?_)
  · refine xr_k ?_
    refine xr_iret xi_57_13 (fun h => absurd h (by decide)) ?_
    exact hQ _ (hE.1 a)
  · refine xr_k ?_
    refine xr_iret xi_57_13 (fun h => absurd h (by decide)) ?_
    exact hQ _ (hE.2 a)
theorem ww_release {x : Int32} (hS : wS H tx ln st Z G) (hI : sInv G) (hQ : ∀ H', (∀ st' Z', mPost st Z G (pRelease G x).1 st' Z' → wS H' tx ln st' Z' (pRelease G x).2) → Q (some (.int (pRelease G x).1)) H') : xc L xs 58 [.ref 0, .int x] H Q := by
  obtain ⟨fs, pr, nu, po, sta, rea, R, rfl, hf, hX⟩ := hS
  refine xr_aload_n xi_58_0 rfl ?_
  refine xr_aload_n xi_58_1 rfl ?_
  refine xr_virt xi_58_2 rfl rfl rfl rfl (Nat.le_of_ble_eq_true rfl) (Nat.le_of_ble_eq_true rfl) ?_
  refine ww_trial hf hX (fun R' v hX' hv hr => ?_)
  refine xr_k ?_
  refine xr_iload_n xi_58_5 rfl ?_
  refine xr_virt xi_58_6 rfl rfl (hv.1 0 _ rfl) rfl (Nat.le_of_ble_eq_true rfl) (Nat.le_of_ble_eq_true rfl) ?_
  refine xc_ch (z := pRelease G x) (as := [.ref 0, .int x]) hv rfl (fun H' v' hv' hO hz => ?_) (fun Q' hQ' => wv_letGo hr hI hQ')
  obtain ⟨R2, rfl⟩ := fO_split rfl hO
  have hE := wS_end hf hX' hv' hO hz (pRelease_err hI)
  refine xr_k ?_
  refine xr_virt xi_58_9 rfl rfl rfl rfl (Nat.le_of_ble_eq_true rfl) (Nat.le_of_ble_eq_true rfl) ?_
  refine ww_keep hX.2.1 hX.2.2.1 (fun a => ?_) (fun a => ?_)
  · refine xr_k ?_
    refine xr_iret xi_58_12 (fun h => absurd h (by decide)) ?_
    exact hQ _ (hE.1 a)
  · refine xr_k ?_
    refine xr_iret xi_58_12 (fun h => absurd h (by decide)) ?_
    exact hQ _ (hE.2 a)
theorem ww_tie {x y z : Int32} (hS : wS H tx ln st Z G) (hI : sInv G) (hQ : ∀ H', (∀ st' Z', mPost st Z G (pTie G x y z).1 st' Z' → wS H' tx ln st' Z' (pTie G x y z).2) → Q (some (.int (pTie G x y z).1)) H') : xc L xs 59 [.ref 0, .int x, .int y, .int z] H Q := by
  obtain ⟨fs, pr, nu, po, sta, rea, R, rfl, hf, hX⟩ := hS
  refine xr_aload_n xi_59_0 rfl ?_
  refine xr_aload_n xi_59_1 rfl ?_
  refine xr_virt xi_59_2 rfl rfl rfl rfl (Nat.le_of_ble_eq_true rfl) (Nat.le_of_ble_eq_true rfl) ?_
  refine ww_trial hf hX (fun R' v hX' hv hr => ?_)
  refine xr_k ?_
  refine xr_iload_n xi_59_5 rfl ?_
  refine xr_iload_n xi_59_6 rfl ?_
  refine xr_iload_n xi_59_7 rfl ?_
  refine xr_virt xi_59_8 rfl rfl (hv.1 0 _ rfl) rfl (Nat.le_of_ble_eq_true rfl) (Nat.le_of_ble_eq_true rfl) ?_
  refine xc_ch (z := pTie G x y z) (as := [.ref 0, .int x, .int y, .int z]) hv rfl (fun H' v' hv' hO hz => ?_) (fun Q' hQ' => wv_fasten hr hI hQ')
  obtain ⟨R2, rfl⟩ := fO_split rfl hO
  have hE := wS_end hf hX' hv' hO hz (pTie_err)
  refine xr_k ?_
  refine xr_virt xi_59_11 rfl rfl rfl rfl (Nat.le_of_ble_eq_true rfl) (Nat.le_of_ble_eq_true rfl) ?_
  refine ww_keep hX.2.1 hX.2.2.1 (fun a => ?_) (fun a => ?_)
  · refine xr_k ?_
    refine xr_iret xi_59_14 (fun h => absurd h (by decide)) ?_
    exact hQ _ (hE.1 a)
  · refine xr_k ?_
    refine xr_iret xi_59_14 (fun h => absurd h (by decide)) ?_
    exact hQ _ (hE.2 a)
theorem ww_loosen {x y : Int32} (hS : wS H tx ln st Z G) (hI : sInv G) (hQ : ∀ H', (∀ st' Z', mPost st Z G (pLoosen G x y).1 st' Z' → wS H' tx ln st' Z' (pLoosen G x y).2) → Q (some (.int (pLoosen G x y).1)) H') : xc L xs 60 [.ref 0, .int x, .int y] H Q := by
  obtain ⟨fs, pr, nu, po, sta, rea, R, rfl, hf, hX⟩ := hS
  refine xr_aload_n xi_60_0 rfl ?_
  refine xr_aload_n xi_60_1 rfl ?_
  refine xr_virt xi_60_2 rfl rfl rfl rfl (Nat.le_of_ble_eq_true rfl) (Nat.le_of_ble_eq_true rfl) ?_
  refine ww_trial hf hX (fun R' v hX' hv hr => ?_)
  refine xr_k ?_
  refine xr_iload_n xi_60_5 rfl ?_
  refine xr_iload_n xi_60_6 rfl ?_
  refine xr_virt xi_60_7 rfl rfl (hv.1 0 _ rfl) rfl (Nat.le_of_ble_eq_true rfl) (Nat.le_of_ble_eq_true rfl) ?_
  refine xc_ch (z := pLoosen G x y) (as := [.ref 0, .int x, .int y]) hv rfl (fun H' v' hv' hO hz => ?_) (fun Q' hQ' => wv_slacken hr hI hQ')
  obtain ⟨R2, rfl⟩ := fO_split rfl hO
  have hE := wS_end hf hX' hv' hO hz (pLoosen_err hI)
  refine xr_k ?_
  refine xr_virt xi_60_10 rfl rfl rfl rfl (Nat.le_of_ble_eq_true rfl) (Nat.le_of_ble_eq_true rfl) ?_
  refine ww_keep hX.2.1 hX.2.2.1 (fun a => ?_) (fun a => ?_)
  · refine xr_k ?_
    refine xr_iret xi_60_13 (fun h => absurd h (by decide)) ?_
    exact hQ _ (hE.1 a)
  · refine xr_k ?_
    refine xr_iret xi_60_13 (fun h => absurd h (by decide)) ?_
    exact hQ _ (hE.2 a)
theorem ww_pin {x : Int32} (hS : wS H tx ln st Z G) (hI : sInv G) (hQ : ∀ H', (∀ st' Z', mPost st Z G (pPin G x 1).1 st' Z' → wS H' tx ln st' Z' (pPin G x 1).2) → Q (some (.int (pPin G x 1).1)) H') : xc L xs 61 [.ref 0, .int x] H Q := by
  obtain ⟨fs, pr, nu, po, sta, rea, R, rfl, hf, hX⟩ := hS
  refine xr_aload_n xi_61_0 rfl ?_
  refine xr_aload_n xi_61_1 rfl ?_
  refine xr_virt xi_61_2 rfl rfl rfl rfl (Nat.le_of_ble_eq_true rfl) (Nat.le_of_ble_eq_true rfl) ?_
  refine ww_trial hf hX (fun R' v hX' hv hr => ?_)
  refine xr_k ?_
  refine xr_iload_n xi_61_5 rfl ?_
  refine xr_virt xi_61_6 rfl rfl (hv.1 0 _ rfl) rfl (Nat.le_of_ble_eq_true rfl) (Nat.le_of_ble_eq_true rfl) ?_
  refine xc_ch (z := pPin G x 1) (as := [.ref 0, .int x]) hv rfl (fun H' v' hv' hO hz => ?_) (fun Q' hQ' => wv_setPin hr hI hQ')
  obtain ⟨R2, rfl⟩ := fO_split rfl hO
  have hE := wS_end hf hX' hv' hO hz (pPin_err)
  refine xr_k ?_
  refine xr_virt xi_61_9 rfl rfl rfl rfl (Nat.le_of_ble_eq_true rfl) (Nat.le_of_ble_eq_true rfl) ?_
  refine ww_keep hX.2.1 hX.2.2.1 (fun a => ?_) (fun a => ?_)
  · refine xr_k ?_
    refine xr_iret xi_61_12 (fun h => absurd h (by decide)) ?_
    exact hQ _ (hE.1 a)
  · refine xr_k ?_
    refine xr_iret xi_61_12 (fun h => absurd h (by decide)) ?_
    exact hQ _ (hE.2 a)
theorem ww_unpin {x : Int32} (hS : wS H tx ln st Z G) (hI : sInv G) (hQ : ∀ H', (∀ st' Z', mPost st Z G (pPin G x 0).1 st' Z' → wS H' tx ln st' Z' (pPin G x 0).2) → Q (some (.int (pPin G x 0).1)) H') : xc L xs 62 [.ref 0, .int x] H Q := by
  obtain ⟨fs, pr, nu, po, sta, rea, R, rfl, hf, hX⟩ := hS
  refine xr_aload_n xi_62_0 rfl ?_
  refine xr_aload_n xi_62_1 rfl ?_
  refine xr_virt xi_62_2 rfl rfl rfl rfl (Nat.le_of_ble_eq_true rfl) (Nat.le_of_ble_eq_true rfl) ?_
  refine ww_trial hf hX (fun R' v hX' hv hr => ?_)
  refine xr_k ?_
  refine xr_iload_n xi_62_5 rfl ?_
  refine xr_virt xi_62_6 rfl rfl (hv.1 0 _ rfl) rfl (Nat.le_of_ble_eq_true rfl) (Nat.le_of_ble_eq_true rfl) ?_
  refine xc_ch (z := pPin G x 0) (as := [.ref 0, .int x]) hv rfl (fun H' v' hv' hO hz => ?_) (fun Q' hQ' => wv_takePin hr hI hQ')
  obtain ⟨R2, rfl⟩ := fO_split rfl hO
  have hE := wS_end hf hX' hv' hO hz (pPin_err)
  refine xr_k ?_
  refine xr_virt xi_62_9 rfl rfl rfl rfl (Nat.le_of_ble_eq_true rfl) (Nat.le_of_ble_eq_true rfl) ?_
  refine ww_keep hX.2.1 hX.2.2.1 (fun a => ?_) (fun a => ?_)
  · refine xr_k ?_
    refine xr_iret xi_62_12 (fun h => absurd h (by decide)) ?_
    exact hQ _ (hE.1 a)
  · refine xr_k ?_
    refine xr_iret xi_62_12 (fun h => absurd h (by decide)) ?_
    exact hQ _ (hE.2 a)
theorem ww_winter {x : Int32} (hS : wS H tx ln st Z G) (hI : sInv G) (hQ : ∀ H', (∀ st' Z', mPost st Z G (pWinter G x).1 st' Z' → wS H' tx ln st' Z' (pWinter G x).2) → Q (some (.int (pWinter G x).1)) H') : xc L xs 63 [.ref 0, .int x] H Q := by
  obtain ⟨fs, pr, nu, po, sta, rea, R, rfl, hf, hX⟩ := hS
  refine xr_aload_n xi_63_0 rfl ?_
  refine xr_aload_n xi_63_1 rfl ?_
  refine xr_virt xi_63_2 rfl rfl rfl rfl (Nat.le_of_ble_eq_true rfl) (Nat.le_of_ble_eq_true rfl) ?_
  refine ww_trial hf hX (fun R' v hX' hv hr => ?_)
  refine xr_k ?_
  refine xr_iload_n xi_63_5 rfl ?_
  refine xr_virt xi_63_6 rfl rfl (hv.1 0 _ rfl) rfl (Nat.le_of_ble_eq_true rfl) (Nat.le_of_ble_eq_true rfl) ?_
  refine xc_ch (z := pWinter G x) (as := [.ref 0, .int x]) hv rfl (fun H' v' hv' hO hz => ?_) (fun Q' hQ' => wv_passWinter hr hI hQ')
  obtain ⟨R2, rfl⟩ := fO_split rfl hO
  have hE := wS_end hf hX' hv' hO hz (pWinter_err)
  refine xr_k ?_
  refine xr_virt xi_63_9 rfl rfl rfl rfl (Nat.le_of_ble_eq_true rfl) (Nat.le_of_ble_eq_true rfl) ?_
  refine ww_keep hX.2.1 hX.2.2.1 (fun a => ?_) (fun a => ?_)
  · refine xr_k ?_
    refine xr_iret xi_63_12 (fun h => absurd h (by decide)) ?_
    exact hQ _ (hE.1 a)
  · refine xr_k ?_
    refine xr_iret xi_63_12 (fun h => absurd h (by decide)) ?_
    exact hQ _ (hE.2 a)
theorem ww_full (hS : wS H tx ln st Z G) (hI : sInv G) (hQ : ∀ H', (∀ st' Z', mPost st Z G (pFull G).1 st' Z' → wS H' tx ln st' Z' (pFull G).2) → Q (some (.int (pFull G).1)) H') : xc L xs 64 [.ref 0] H Q := by
  obtain ⟨fs, pr, nu, po, sta, rea, R, rfl, hf, hX⟩ := hS
  refine xr_aload_n xi_64_0 rfl ?_
  refine xr_aload_n xi_64_1 rfl ?_
  refine xr_virt xi_64_2 rfl rfl rfl rfl (Nat.le_of_ble_eq_true rfl) (Nat.le_of_ble_eq_true rfl) ?_
  refine ww_trial hf hX (fun R' v hX' hv hr => ?_)
  refine xr_k ?_
  refine xr_virt xi_64_5 rfl rfl (hv.1 0 _ rfl) rfl (Nat.le_of_ble_eq_true rfl) (Nat.le_of_ble_eq_true rfl) ?_
  refine xc_ch (z := pFull G) (as := [.ref 0]) hv rfl (fun H' v' hv' hO hz => ?_) (fun Q' hQ' => wv_turnFully hr hI hQ')
  obtain ⟨R2, rfl⟩ := fO_split rfl hO
  have hE := wS_end hf hX' hv' hO hz (pFull_err)
  refine xr_k ?_
  refine xr_virt xi_64_8 rfl rfl rfl rfl (Nat.le_of_ble_eq_true rfl) (Nat.le_of_ble_eq_true rfl) ?_
  refine ww_keep hX.2.1 hX.2.2.1 (fun a => ?_) (fun a => ?_)
  · refine xr_k ?_
    refine xr_iret xi_64_11 (fun h => absurd h (by decide)) ?_
    exact hQ _ (hE.1 a)
  · refine xr_k ?_
    refine xr_iret xi_64_11 (fun h => absurd h (by decide)) ?_
    exact hQ _ (hE.2 a)
end W4
