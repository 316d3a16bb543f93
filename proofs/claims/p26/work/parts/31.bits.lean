/-! the builtin count of bits: its sum of bits, over natural numbers, byte by byte -/
theorem bs_step (M K : Nat) : M &&& K = (M % 256 &&& K % 256) + 256 * (M / 256 &&& K / 256) := by
  have h1 : (M &&& K) % 2 ^ 8 = (M % 2 ^ 8) &&& (K % 2 ^ 8) := Nat.and_mod_two_pow
  have h2 : (M &&& K) / 2 ^ 8 = (M / 2 ^ 8) &&& (K / 2 ^ 8) := Nat.and_div_two_pow
  have e : (2 : Nat) ^ 8 = 256 := by decide
  rw [e] at h1 h2
  rw [← h1, ← h2]
  exact (Nat.mod_add_div _ _).symm
theorem bs_lo {a Y : Nat} (ha : a < 256) : (a + 256 * Y) % 256 = a := by rw [Nat.add_mul_mod_self_left, Nat.mod_eq_of_lt ha]
theorem bs_hi {a Y : Nat} (ha : a < 256) : (a + 256 * Y) / 256 = Y := by rw [Nat.add_mul_div_left _ _ (by decide), Nat.div_eq_of_lt ha, Nat.zero_add]
theorem bs_and {M c K : Nat} (hc : c < 256) : M &&& (c + 256 * K) = (M % 256 &&& c) + 256 * (M / 256 &&& K) := by
  rw [bs_step M (c + 256 * K), bs_lo hc, bs_hi hc]
theorem bs_2 {a Y : Nat} (ha : a < 256) : (a + 256 * Y) / 2 = (a / 2 + 128 * (Y % 2)) + 256 * (Y / 2) := by omega
theorem bs_4 {a Y : Nat} (ha : a < 256) : (a + 256 * Y) / 4 = (a / 4 + 64 * (Y % 4)) + 256 * (Y / 4) := by omega
theorem bs_16 {a Y : Nat} (ha : a < 256) : (a + 256 * Y) / 16 = (a / 16 + 16 * (Y % 16)) + 256 * (Y / 16) := by omega
def bg (b : Nat) : Nat := b - (b / 2 &&& 85)
def bh (b : Nat) : Nat := (bg b &&& 51) + (bg b / 4 &&& 51)
def bp (b : Nat) : Nat := (bh b + bh b / 16) % 16
theorem bg_f : ∀ b, b < 256 → (b / 2 &&& 85) ≤ b ∧ ((b / 2 + 128) &&& 85) = (b / 2 &&& 85) := by decide +kernel
theorem bh_f : ∀ c, c < 256 → ∀ e, e < 4 → ((c / 4 + 64 * e) &&& 51) = (c / 4 &&& 51) := by decide +kernel
theorem bh_b : ∀ b, b < 256 → bh b % 16 ≤ 4 ∧ bh b / 16 ≤ 4 := by decide +kernel
theorem bp_f : ∀ n, n < 256 → (n &&& 15) = n % 16 := by decide +kernel
theorem bp_b : ∀ b, b < 256 → bp b = b % 2 + (b / 2 % 2 + (b / 4 % 2 + (b / 8 % 2 + (b / 16 % 2 + (b / 32 % 2 + (b / 64 % 2 + b / 128 % 2)))))) := by decide +kernel
theorem bp_8 : ∀ b, b < 256 → bp b ≤ 8 := by decide +kernel
def s1 (N : Nat) : Nat := N - (N / 2 &&& 1431655765)
def s2 (N : Nat) : Nat := (s1 N &&& 858993459) + (s1 N / 4 &&& 858993459)
def s3 (N : Nat) : Nat := (s2 N + s2 N / 16) &&& 252645135
theorem s1_t {a Y K : Nat} (ha : a < 256) : (a + 256 * Y) - ((a + 256 * Y) / 2 &&& (85 + 256 * K)) = bg a + 256 * (Y - (Y / 2 &&& K)) := by
  have h1 := bg_f a ha
  have h2 : Y / 2 &&& K ≤ Y := Nat.le_trans Nat.and_le_left (Nat.div_le_self _ _)
  have h3 : (a / 2 + 128 * (Y % 2)) &&& 85 = a / 2 &&& 85 := by
    have : Y % 2 = 0 ∨ Y % 2 = 1 := by omega
    rcases this with e | e
    · rw [e, Nat.mul_zero, Nat.add_zero]
    · rw [e, Nat.mul_one, h1.2]
  have h4 : a / 2 + 128 * (Y % 2) < 256 := by omega
  rw [bs_and (c := 85) (by decide), bs_2 ha, bs_lo h4, bs_hi h4, h3]
  have h5 := h1.1
  unfold bg
  generalize (a / 2 &&& 85) = u at *
  generalize (Y / 2 &&& K) = v at *
  omega
theorem s1_e {a b c d : Nat} (ha : a < 256) (hb : b < 256) (hc : c < 256) : s1 (a + 256 * (b + 256 * (c + 256 * d))) = bg a + 256 * (bg b + 256 * (bg c + 256 * bg d)) := by
  unfold s1
  rw [show (1431655765 : Nat) = 85 + 256 * (85 + 256 * (85 + 256 * 85)) from rfl, s1_t ha, s1_t hb, s1_t hc]
  rfl
theorem bg_l {b : Nat} (hb : b < 256) : bg b < 256 := Nat.lt_of_le_of_lt (Nat.sub_le _ _) hb
theorem s2_t {a Y K : Nat} (ha : a < 256) : ((a + 256 * Y) &&& (51 + 256 * K)) + ((a + 256 * Y) / 4 &&& (51 + 256 * K)) = ((a &&& 51) + (a / 4 &&& 51)) + 256 * ((Y &&& K) + (Y / 4 &&& K)) := by
  have h4 : a / 4 + 64 * (Y % 4) < 256 := by omega
  rw [bs_and (M := a + 256 * Y) (c := 51) (by decide), bs_and (M := (a + 256 * Y) / 4) (c := 51) (by decide), bs_4 ha, bs_lo h4, bs_hi h4, bs_lo ha, bs_hi ha, bh_f a ha _ (Nat.mod_lt _ (by decide))]
  generalize (a &&& 51) = u
  generalize (a / 4 &&& 51) = v
  generalize (Y &&& K) = w
  generalize (Y / 4 &&& K) = z
  omega
theorem s2_e {a b c d : Nat} (ha : a < 256) (hb : b < 256) (hc : c < 256) : s2 (a + 256 * (b + 256 * (c + 256 * d))) = bh a + 256 * (bh b + 256 * (bh c + 256 * bh d)) := by
  unfold s2
  rw [s1_e ha hb hc, show (858993459 : Nat) = 51 + 256 * (51 + 256 * (51 + 256 * 51)) from rfl, s2_t (bg_l ha), s2_t (bg_l hb), s2_t (bg_l hc)]
  rfl
theorem s3_t {a Y K : Nat} (h1 : a % 16 ≤ 4) (h2 : a / 16 ≤ 4) (hY : Y % 16 ≤ 4) : ((a + 256 * Y) + (a + 256 * Y) / 16) &&& (15 + 256 * K) = (a + a / 16) % 16 + 256 * ((Y + Y / 16) &&& K) := by
  have e : (a + 256 * Y) + (a + 256 * Y) / 16 = (a + a / 16 + 16 * (Y % 16)) + 256 * (Y + Y / 16) := by
    rw [bs_16 (by omega)]
    generalize Y % 16 = u
    generalize Y / 16 = v
    generalize a / 16 = w
    omega
  have h4 : a + a / 16 + 16 * (Y % 16) < 256 := by omega
  have h5 : (a + a / 16 + 16 * (Y % 16)) % 16 = (a + a / 16) % 16 := Nat.add_mul_mod_self_left _ _ _
  rw [e, bs_and (c := 15) (by decide), bs_lo h4, bs_hi h4, bp_f _ h4, h5]
theorem s3_e {a b c d : Nat} (ha : a < 256) (hb : b < 256) (hc : c < 256) (hd : d < 256) : s3 (a + 256 * (b + 256 * (c + 256 * d))) = bp a + 256 * (bp b + 256 * (bp c + 256 * bp d)) := by
  unfold s3
  have A := bh_b a ha
  have B := bh_b b hb
  have C := bh_b c hc
  have D := bh_b d hd
  have q : ∀ x Z : Nat, x % 16 ≤ 4 → (x + 256 * Z) % 16 ≤ 4 := by
    intro x Z h
    omega
  rw [s2_e ha hb hc, show (252645135 : Nat) = 15 + 256 * (15 + 256 * (15 + 256 * 15)) from rfl, s3_t A.1 A.2 (q _ _ B.1), s3_t B.1 B.2 (q _ _ C.1), s3_t C.1 C.2 D.1, bp_f _ (by omega)]
  rfl
theorem bq_ushr {n k : Nat} (hk : k < 32) (hn : n < 4294967296) : ((nI n).toUInt32 >>> ((nI k).toUInt32 &&& Int32.toUInt32 31)).toInt32 = nI (n / 2 ^ k) := pk_ushrN hn (nI k) k (s_u k hk)
theorem bq_and (a b : Nat) : nI a &&& nI b = nI (a &&& b) := Int32.toBitVec_inj.mp (by rw [Int32.toBitVec_and]; exact BitVec.ofNat_and.symm)
theorem bq_mk (P : Nat → Prop) : ∃ N : Nat, N < 1073741824 ∧ mk P = nI N ∧ ∀ i, i < 30 → N / 2 ^ i % 2 = if cd (P i) = true then 1 else 0 := by
  have hb : ∀ i, (mk P).toBitVec.toNat.testBit i = bt (mk P) i := fun i => rfl
  have hlt : (mk P).toBitVec.toNat < 2 ^ 30 := by
    refine Nat.lt_pow_two_of_testBit _ (fun i hi => ?_)
    rw [hb i]
    by_cases h : i < 32
    · cases hc : bt (mk P) i
      · rfl
      · have := ((bt_mk h).mp hc).1
        omega
    · exact b_big (by omega)
  refine ⟨(mk P).toBitVec.toNat, hlt, ?_, fun i hi => ?_⟩
  · refine Int32.toBitVec_inj.mp (BitVec.eq_of_toNat_eq ?_)
    rw [pk_tn (Nat.lt_of_lt_of_le hlt (by decide))]
  · have h1 := hb i
    rw [Nat.testBit_eq_decide_div_mod_eq] at h1
    by_cases h : P i
    · rw [if_pos (cd_t.mpr h)]
      rw [(bt_mk (by omega)).mpr ⟨hi, h⟩] at h1
      exact of_decide_eq_true h1
    · rw [if_neg (fun q => h (cd_t.mp q))]
      have h2 : bt (mk P) i = false := by
        cases hc : bt (mk P) i
        · rfl
        · exact absurd ((bt_mk (by omega)).mp hc).2 h
      rw [h2] at h1
      have h3 := of_decide_eq_false h1
      rcases Nat.mod_two_eq_zero_or_one ((mk P).toBitVec.toNat / 2 ^ i) with q | q
      · exact q
      · exact absurd q h3
theorem bq_d (N s i : Nat) (hi : i < 8) : N / 2 ^ s % 256 / 2 ^ i % 2 = N / 2 ^ (s + i) % 2 := by
  rw [Nat.pow_add, ← Nat.div_div_eq_div_mul]
  generalize N / 2 ^ s = x
  match i, hi with
  | 0, _ => omega
  | 1, _ => omega
  | 2, _ => omega
  | 3, _ => omega
  | 4, _ => omega
  | 5, _ => omega
  | 6, _ => omega
  | 7, _ => omega
  | i + 8, h => omega
theorem bq_z (x : Nat) : x % 256 % 2 = x % 2 := Nat.mod_mod_of_dvd _ (by decide)
theorem bq_b0 {N : Nat} {t : Nat → Nat} (hN : N < 1073741824) (h : ∀ i, i < 30 → N / 2 ^ i % 2 = t i) : bp (N % 256) = t 0 + (t 1 + (t 2 + (t 3 + (t 4 + (t 5 + (t 6 + t 7)))))) := by
  have z : N / 2 ^ 0 = N := Nat.div_one N
  have e0 : (N % 256) % 2 = t 0 := (bq_z _).trans ((congrArg (· % 2) z).symm.trans (h 0 (by decide)))
  have e1 : (N % 256) / 2 % 2 = t 1 := by have q := bq_d N 0 1 (by decide); rw [z] at q; exact q.trans (h 1 (by decide))
  have e2 : (N % 256) / 4 % 2 = t 2 := by have q := bq_d N 0 2 (by decide); rw [z] at q; exact q.trans (h 2 (by decide))
  have e3 : (N % 256) / 8 % 2 = t 3 := by have q := bq_d N 0 3 (by decide); rw [z] at q; exact q.trans (h 3 (by decide))
  have e4 : (N % 256) / 16 % 2 = t 4 := by have q := bq_d N 0 4 (by decide); rw [z] at q; exact q.trans (h 4 (by decide))
  have e5 : (N % 256) / 32 % 2 = t 5 := by have q := bq_d N 0 5 (by decide); rw [z] at q; exact q.trans (h 5 (by decide))
  have e6 : (N % 256) / 64 % 2 = t 6 := by have q := bq_d N 0 6 (by decide); rw [z] at q; exact q.trans (h 6 (by decide))
  have e7 : (N % 256) / 128 % 2 = t 7 := by have q := bq_d N 0 7 (by decide); rw [z] at q; exact q.trans (h 7 (by decide))
  rw [bp_b _ (Nat.mod_lt _ (by decide)), e0, e1, e2, e3, e4, e5, e6, e7]
theorem bq_b1 {N : Nat} {t : Nat → Nat} (hN : N < 1073741824) (h : ∀ i, i < 30 → N / 2 ^ i % 2 = t i) : bp (N / 256 % 256) = t 8 + (t 9 + (t 10 + (t 11 + (t 12 + (t 13 + (t 14 + t 15)))))) := by
  have e0 : N / 256 % 256 % 2 = t 8 := (bq_z _).trans (h 8 (by decide))
  have e1 : N / 256 % 256 / 2 % 2 = t 9 := (bq_d N 8 1 (by decide)).trans (h 9 (by decide))
  have e2 : N / 256 % 256 / 4 % 2 = t 10 := (bq_d N 8 2 (by decide)).trans (h 10 (by decide))
  have e3 : N / 256 % 256 / 8 % 2 = t 11 := (bq_d N 8 3 (by decide)).trans (h 11 (by decide))
  have e4 : N / 256 % 256 / 16 % 2 = t 12 := (bq_d N 8 4 (by decide)).trans (h 12 (by decide))
  have e5 : N / 256 % 256 / 32 % 2 = t 13 := (bq_d N 8 5 (by decide)).trans (h 13 (by decide))
  have e6 : N / 256 % 256 / 64 % 2 = t 14 := (bq_d N 8 6 (by decide)).trans (h 14 (by decide))
  have e7 : N / 256 % 256 / 128 % 2 = t 15 := (bq_d N 8 7 (by decide)).trans (h 15 (by decide))
  rw [bp_b _ (Nat.mod_lt _ (by decide)), e0, e1, e2, e3, e4, e5, e6, e7]
theorem bq_b2 {N : Nat} {t : Nat → Nat} (hN : N < 1073741824) (h : ∀ i, i < 30 → N / 2 ^ i % 2 = t i) : bp (N / 65536 % 256) = t 16 + (t 17 + (t 18 + (t 19 + (t 20 + (t 21 + (t 22 + t 23)))))) := by
  have e0 : N / 65536 % 256 % 2 = t 16 := (bq_z _).trans (h 16 (by decide))
  have e1 : N / 65536 % 256 / 2 % 2 = t 17 := (bq_d N 16 1 (by decide)).trans (h 17 (by decide))
  have e2 : N / 65536 % 256 / 4 % 2 = t 18 := (bq_d N 16 2 (by decide)).trans (h 18 (by decide))
  have e3 : N / 65536 % 256 / 8 % 2 = t 19 := (bq_d N 16 3 (by decide)).trans (h 19 (by decide))
  have e4 : N / 65536 % 256 / 16 % 2 = t 20 := (bq_d N 16 4 (by decide)).trans (h 20 (by decide))
  have e5 : N / 65536 % 256 / 32 % 2 = t 21 := (bq_d N 16 5 (by decide)).trans (h 21 (by decide))
  have e6 : N / 65536 % 256 / 64 % 2 = t 22 := (bq_d N 16 6 (by decide)).trans (h 22 (by decide))
  have e7 : N / 65536 % 256 / 128 % 2 = t 23 := (bq_d N 16 7 (by decide)).trans (h 23 (by decide))
  rw [bp_b _ (Nat.mod_lt _ (by decide)), e0, e1, e2, e3, e4, e5, e6, e7]
theorem bq_b3 {N : Nat} {t : Nat → Nat} (hN : N < 1073741824) (h : ∀ i, i < 30 → N / 2 ^ i % 2 = t i) : bp (N / 16777216 % 256) = t 24 + (t 25 + (t 26 + (t 27 + (t 28 + t 29)))) := by
  have e0 : N / 16777216 % 256 % 2 = t 24 := (bq_z _).trans (h 24 (by decide))
  have e1 : N / 16777216 % 256 / 2 % 2 = t 25 := (bq_d N 24 1 (by decide)).trans (h 25 (by decide))
  have e2 : N / 16777216 % 256 / 4 % 2 = t 26 := (bq_d N 24 2 (by decide)).trans (h 26 (by decide))
  have e3 : N / 16777216 % 256 / 8 % 2 = t 27 := (bq_d N 24 3 (by decide)).trans (h 27 (by decide))
  have e4 : N / 16777216 % 256 / 16 % 2 = t 28 := (bq_d N 24 4 (by decide)).trans (h 28 (by decide))
  have e5 : N / 16777216 % 256 / 32 % 2 = t 29 := (bq_d N 24 5 (by decide)).trans (h 29 (by decide))
  have e6 : N / 16777216 % 256 / 64 % 2 = 0 := (bq_d N 24 6 (by decide)).trans (by rw [Nat.div_eq_of_lt (Nat.lt_of_lt_of_le hN (by decide))])
  have e7 : N / 16777216 % 256 / 128 % 2 = 0 := (bq_d N 24 7 (by decide)).trans (by rw [Nat.div_eq_of_lt (Nat.lt_of_lt_of_le hN (by decide))])
  rw [bp_b _ (Nat.mod_lt _ (by decide)), e0, e1, e2, e3, e4, e5, e6, e7, Nat.add_zero]
theorem bq_cnt {P : Nat → Prop} {N : Nat} (hN : N < 1073741824) (h : ∀ i, i < 30 → N / 2 ^ i % 2 = if cd (P i) = true then 1 else 0) : cnt P 30 = bp (N % 256) + (bp (N / 256 % 256) + (bp (N / 65536 % 256) + bp (N / 16777216 % 256))) := by
  rw [bq_b0 hN h, bq_b1 hN h, bq_b2 hN h, bq_b3 hN h]
  simp only [cnt, Nat.zero_add, Nat.add_assoc]
theorem bq_v {x y z w : Nat} (h1 : x ≤ 8) (h2 : y ≤ 8) (h3 : z ≤ 8) (h4 : w ≤ 8) {S : Nat} (hS : S = x + 256 * (y + 256 * (z + 256 * w))) : (S + S / 256 + (S + S / 256) / 65536) % 64 = x + (y + (z + w)) := by
  have e1 : S / 256 = y + 256 * (z + 256 * w) := by rw [hS, bs_hi (by omega)]
  have e2 : S + S / 256 = (x + y + 256 * (y + z)) + 65536 * (z + w + 256 * w) := by rw [e1, hS]; omega
  have e3 : (S + S / 256) / 65536 = z + w + 256 * w := by rw [e2, Nat.add_mul_div_left _ _ (by decide), Nat.div_eq_of_lt (by omega), Nat.zero_add]
  have e4 : S + S / 256 + (S + S / 256) / 65536 = (x + (y + (z + w))) + 64 * (4 * (y + z) + 1024 * (z + w + 256 * w) + 4 * w) := by rw [e3, e2]; omega
  rw [e4, Nat.add_mul_mod_self_left, Nat.mod_eq_of_lt (by omega)]
theorem bq_by (N : Nat) (hN : N < 1073741824) : N = N % 256 + 256 * (N / 256 % 256 + 256 * (N / 65536 % 256 + 256 * (N / 16777216 % 256))) := by
  have a1 := Nat.mod_add_div N 256
  have a2 := Nat.mod_add_div (N / 256) 256
  have a3 := Nat.mod_add_div (N / 65536) 256
  have b2 : N / 256 / 256 = N / 65536 := Nat.div_div_eq_div_mul N 256 256
  have b3 : N / 65536 / 256 = N / 16777216 := Nat.div_div_eq_div_mul N 65536 256
  have b4 : N / 16777216 % 256 = N / 16777216 := Nat.mod_eq_of_lt (Nat.lt_of_le_of_lt (Nat.div_le_div_right (Nat.le_of_lt hN)) (by decide))
  rw [b4, ← b3, a3, ← b2, a2, a1]
theorem bq_end {P : Nat → Prop} {N : Nat} (hN : N < 1073741824) (h : ∀ i, i < 30 → N / 2 ^ i % 2 = if cd (P i) = true then 1 else 0) : (s3 N + s3 N / 256 + (s3 N + s3 N / 256) / 65536) % 64 = cnt P 30 := by
  rw [bq_cnt hN h]
  have A : N % 256 < 256 := Nat.mod_lt _ (by decide)
  have B : N / 256 % 256 < 256 := Nat.mod_lt _ (by decide)
  have C : N / 65536 % 256 < 256 := Nat.mod_lt _ (by decide)
  have D : N / 16777216 % 256 < 256 := Nat.mod_lt _ (by decide)
  refine bq_v (bp_8 _ A) (bp_8 _ B) (bp_8 _ C) (bp_8 _ D) ?_
  rw [← s3_e A B C D, ← bq_by N hN]
theorem wj_bc {L : Nat} {xs : Nat → Int32} {Q : Option Value → xm_H → Prop} {hp : xm_H} {P : Nat → Prop} (hQ : Q (some (.int (nI (cnt P 30)))) hp) : xc L xs 84 [.int (mk P)] hp Q := by
  obtain ⟨N, hN, hm, hb⟩ := bq_mk P
  have he := bq_end hN hb
  rw [hm]
  have l1 : s1 N ≤ N := Nat.sub_le _ _
  have l2 : s2 N ≤ 858993459 + 858993459 := Nat.add_le_add Nat.and_le_right Nat.and_le_right
  have l3 : s3 N ≤ 252645135 := Nat.and_le_right
  have q1 : ((nI N).toUInt32 >>> ((nI 1).toUInt32 &&& Int32.toUInt32 31)).toInt32 = nI (N / 2) := bq_ushr (k := 1) (by decide) (by omega)
  have q3 : nI N - nI (N / 2 &&& 1431655765) = nI (s1 N) := pk_sub (Nat.le_trans Nat.and_le_left (Nat.div_le_self _ _))
  have q4 : ((nI (s1 N)).toUInt32 >>> ((nI 2).toUInt32 &&& Int32.toUInt32 31)).toInt32 = nI (s1 N / 4) := bq_ushr (k := 2) (by decide) (by omega)
  have q5 : nI (s1 N &&& 858993459) + nI (s1 N / 4 &&& 858993459) = nI (s2 N) := nI_add _ _
  have q6 : ((nI (s2 N)).toUInt32 >>> ((nI 4).toUInt32 &&& Int32.toUInt32 31)).toInt32 = nI (s2 N / 16) := bq_ushr (k := 4) (by decide) (by omega)
  have q7 : nI (s2 N + s2 N / 16) &&& nI 252645135 = nI (s3 N) := bq_and _ _
  have q8 : ((nI (s3 N)).toUInt32 >>> ((nI 8).toUInt32 &&& Int32.toUInt32 31)).toInt32 = nI (s3 N / 256) := bq_ushr (k := 8) (by decide) (by omega)
  have q9 : ((nI (s3 N + s3 N / 256)).toUInt32 >>> ((nI 16).toUInt32 &&& Int32.toUInt32 31)).toInt32 = nI ((s3 N + s3 N / 256) / 65536) := bq_ushr (k := 16) (by decide) (by omega)
  have q10 : nI (s3 N + s3 N / 256 + (s3 N + s3 N / 256) / 65536) &&& nI 63 = nI (cnt P 30) := by
    rw [← he]
    exact pk_andN (by omega) 6 (by decide +kernel)
  refine xr_iload_n xi_84_0 rfl ?_
  refine xr_iload_n xi_84_1 rfl ?_
  refine xr_iconst (z := nI 1) xi_84_2 rfl ?_
  refine xr_iushr xi_84_3 (q1) ?_
  refine xr_ldc_w (z := nI 1431655765) xi_84_4 rfl ?_
  refine xr_iand xi_84_7 (bq_and _ _) ?_
  refine xr_isub xi_84_8 (q3) ?_
  refine xr_istore_n xi_84_9 (Nat.le_of_ble_eq_true rfl) rfl ?_
  refine xr_iload_n xi_84_10 rfl ?_
  refine xr_ldc_w (z := nI 858993459) xi_84_11 rfl ?_
  refine xr_iand xi_84_14 (bq_and _ _) ?_
  refine xr_iload_n xi_84_15 rfl ?_
  refine xr_iconst (z := nI 2) xi_84_16 rfl ?_
  refine xr_iushr xi_84_17 (q4) ?_
  refine xr_ldc_w (z := nI 858993459) xi_84_18 rfl ?_
  refine xr_iand xi_84_21 (bq_and _ _) ?_
  refine xr_iadd xi_84_22 (q5) ?_
  refine xr_istore_n xi_84_23 (Nat.le_of_ble_eq_true rfl) rfl ?_
  refine xr_iload_n xi_84_24 rfl ?_
  refine xr_iload_n xi_84_25 rfl ?_
  refine xr_iconst (z := nI 4) xi_84_26 rfl ?_
  refine xr_iushr xi_84_27 (q6) ?_
  refine xr_iadd xi_84_28 (nI_add _ _) ?_
  refine xr_ldc_w (z := nI 252645135) xi_84_29 rfl ?_
  refine xr_iand xi_84_32 (q7) ?_
  refine xr_istore_n xi_84_33 (Nat.le_of_ble_eq_true rfl) rfl ?_
  refine xr_iload_n xi_84_34 rfl ?_
  refine xr_iload_n xi_84_35 rfl ?_
  refine xr_bipush (z := nI 8) xi_84_36 rfl ?_
  refine xr_iushr xi_84_38 (q8) ?_
  refine xr_iadd xi_84_39 (nI_add _ _) ?_
  refine xr_istore_n xi_84_40 (Nat.le_of_ble_eq_true rfl) rfl ?_
  refine xr_iload_n xi_84_41 rfl ?_
  refine xr_iload_n xi_84_42 rfl ?_
  refine xr_bipush (z := nI 16) xi_84_43 rfl ?_
  refine xr_iushr xi_84_45 (q9) ?_
  refine xr_iadd xi_84_46 (nI_add _ _) ?_
  refine xr_istore_n xi_84_47 (Nat.le_of_ble_eq_true rfl) rfl ?_
  refine xr_iload_n xi_84_48 rfl ?_
  refine xr_bipush (z := nI 63) xi_84_49 rfl ?_
  refine xr_iand xi_84_51 (q10) ?_
  refine xr_iret xi_84_52 (fun h => absurd h (by decide)) ?_
  exact hQ
