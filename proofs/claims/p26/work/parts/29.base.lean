/-! rows that the program's side shares with the reference's -/
def mF (f : Nat → Nat) : Nat → Int32 := fun i => nI (f i)
theorem mF_at (f : Nat → Nat) (i : Nat) : mF f i = nI (f i) := rfl
theorem xr_if_eqz {L : Nat} {xs : Nat → Int32} {k pc nx x y : Nat} {v : Int} {ls st : List Value} {hp : xm_H} {Q : Option Value → xm_H → Prop} {z : Int} {a : Int32} (hi : xm_ins k pc = some (.ifCond .eq z, nx, x, y, v)) (kt : a = 0 → xw L xs k x ls st hp Q) (kf : ¬ a = 0 → xw L xs k nx ls st hp Q) : xw L xs k pc ls (.int a :: st) hp Q :=
  xr_ifj hi (fun h => kt (of_decide_eq_true h)) (fun h => kf (fun q => h (decide_eq_true q)))
def mg (ns nu : Nat → Nat) (k : Nat) : Nat → Nat := fun i => if i < k then ns i else nu i
theorem mg_s (ns nu : Nat → Nat) (k v : Nat) : un (mg ns nu k) k v = mg (un ns k v) nu (k + 1) := by
  funext i
  unfold un mg
  by_cases e : i = k
  · subst e
    simp
  · rw [if_neg e]
    by_cases c : i < k
    · rw [if_pos c, if_pos (by omega)]
      simp [e]
    · rw [if_neg c, if_neg (by omega)]
theorem sWant_in {le w : Nat} (h : sWant le = some w) : le = 110 ∨ le = 104 ∨ le = 108 ∨ le = 115 ∨ le = 117 ∨ le = 112 ∨ le = 119 ∨ le = 102 := by
  unfold sWant at h
  split at h
  · omega
  · split at h
    · omega
    · split at h
      · omega
      · split at h
        · omega
        · cases h
theorem sDo_110 {G ns : Nat → Nat} : sDo G 110 ns = pThing G := if_pos rfl
theorem sDo_104 {G ns : Nat → Nat} : sDo G 104 ns = pHold G (nI (ns 0)) (nI (ns 1)) := by unfold sDo; rw [if_neg (by decide), if_pos rfl]
theorem sDo_108 {G ns : Nat → Nat} : sDo G 108 ns = pRelease G (nI (ns 0)) := by unfold sDo; rw [if_neg (by decide), if_neg (by decide), if_pos rfl]
theorem sDo_115 {G ns : Nat → Nat} : sDo G 115 ns = pTie G (nI (ns 0)) (nI (ns 1)) (nI (ns 2)) := by unfold sDo; rw [if_neg (by decide), if_neg (by decide), if_neg (by decide), if_pos rfl]
theorem sDo_117 {G ns : Nat → Nat} : sDo G 117 ns = pLoosen G (nI (ns 0)) (nI (ns 1)) := by unfold sDo; rw [if_neg (by decide), if_neg (by decide), if_neg (by decide), if_neg (by decide), if_pos rfl]
theorem sDo_112 {G ns : Nat → Nat} : sDo G 112 ns = pPin G (nI (ns 0)) 1 := by unfold sDo; rw [if_neg (by decide), if_neg (by decide), if_neg (by decide), if_neg (by decide), if_neg (by decide), if_pos rfl]
theorem sDo_119 {G ns : Nat → Nat} : sDo G 119 ns = pWinter G (nI (ns 0)) := by unfold sDo; rw [if_neg (by decide), if_neg (by decide), if_neg (by decide), if_neg (by decide), if_neg (by decide), if_neg (by decide), if_pos rfl]
theorem sDo_102 {G ns : Nat → Nat} : sDo G 102 ns = pFull G := by unfold sDo; rw [if_neg (by decide), if_neg (by decide), if_neg (by decide), if_neg (by decide), if_neg (by decide), if_neg (by decide), if_neg (by decide)]
