/-! numbers: counted ones (nI), and ones less by one (dI: none is -1) -/
def dI (n : Nat) : Int32 := nI n - nI 1
def xE1 : Int32 := Int32.ofInt (Int.negSucc 1000000)
def xE2 : Int32 := Int32.ofInt (Int.negSucc 1000001)
def xE3 : Int32 := Int32.ofInt (Int.negSucc 1000002)
def xE4 : Int32 := Int32.ofInt (Int.negSucc 1000003)
theorem xm_m1 : xm_i (-1) = dI 0 := by decide +kernel
theorem tI_n {n : Nat} (h : n < 2147483648) : (nI n).toInt = (n : Int) := nI_toInt h
theorem nI_d (n : Nat) : nI n - nI 1 = dI n := rfl
theorem dI_1 (n : Nat) : dI (n + 1) = nI n := by
  unfold dI
  rw [pk_sub (by omega)]
  congr 1
theorem dI_0 : dI 0 = -1 := by decide +kernel
theorem tI_d {n : Nat} (h : n < 2147483648) : (dI n).toInt = (n : Int) - 1 := by
  cases n with
  | zero => decide +kernel
  | succ n =>
    rw [dI_1, tI_n (by omega)]
    omega
theorem tI_dn {n : Nat} (h1 : 0 < n) (h : n < 2147483648) : (dI n).toInt = ((n - 1 : Nat) : Int) := by
  rw [tI_d h]
  omega
theorem dI_pos {n : Nat} (h : 0 < n) : dI n = nI (n - 1) := by
  obtain ⟨m, rfl⟩ : ∃ m, n = m + 1 := ⟨n - 1, by omega⟩
  exact dI_1 m
theorem tI_e1 : xE1.toInt = -1000001 := by decide +kernel
theorem tI_e2 : xE2.toInt = -1000002 := by decide +kernel
theorem tI_e3 : xE3.toInt = -1000003 := by decide +kernel
theorem tI_e4 : xE4.toInt = -1000004 := by decide +kernel
theorem nI_m1 {n : Nat} (h : 0 < n) : nI n + xm_i (-1) = nI (n - 1) := by
  rw [xm_m1, ← dI_pos h]
  unfold dI
  rw [show nI 0 - nI 1 = -nI 1 by decide +kernel, ← Int32.sub_eq_add_neg]
theorem nI_inj {a b : Nat} (ha : a < 2147483648) (hb : b < 2147483648) : nI a = nI b ↔ a = b := nI_eq ha hb
theorem dI_inj {a b : Nat} (ha : a < 2147483648) (hb : b < 2147483648) : dI a = dI b ↔ a = b := by
  constructor
  · intro h
    have h1 := congrArg Int32.toInt h
    rw [tI_d ha, tI_d hb] at h1
    omega
  · intro h
    rw [h]
theorem xr_ialz {L : Nat} {xs : Nat → Int32} {k pc nx x y : Nat} {v : Int} {ls st : List Value} {hp : xm_H} {Q : Option Value → xm_H → Prop} {j z : Int32} {i a n : Nat} {f : Nat → Int32} (hi : xm_ins k pc = some (.iaload, nx, x, y, v)) (ha : hp[a]? = some (.inl (n, f))) (hj : j.toInt = (i : Int)) (hn : i < n) (hz : f i = z) (hk : xw L xs k nx ls (.int z :: st) hp Q) : xw L xs k pc ls (.int j :: .ref a :: st) hp Q := by
  subst hz
  exact xr_iald hi ha hj hn hk
