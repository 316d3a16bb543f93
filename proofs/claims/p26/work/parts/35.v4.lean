/-! the village's relation to a row is kept by single writes -/
section V4
variable {A Gs Sp Ti Mv Hd G : Nat → Nat} {pin : Int32} {c w f m : Nat}
theorem vR.age {k0 x : Nat} (hk0 : k0 < 8) (h : vR A Gs Sp Ti Mv Hd pin c w f m G) : vR (un A k0 x) Gs Sp Ti Mv Hd pin c w f m (un G (4 + k0) x) :=
  ⟨fun k hk => by
    by_cases e : k = k0
    · subst e; rw [un_s, un_s]
    · rw [un_n e, un_n (by omega)]; exact h.a hk,
   fun u hu => by rw [un_n (by first | omega | (unfold ri; omega))]; exact h.s hu,
   fun u k hu hk => by rw [un_n (by first | omega | (unfold ri; omega))]; exact h.t hu hk,
   fun k hk => by rw [un_n (by first | omega | (unfold ri; omega))]; exact h.h hk,
   fun u hu => by rw [un_n (by first | omega | (unfold ri; omega))]; exact h.mv hu,
   h.pp.trans (mk_congr (fun u hu => by rw [un_n (by first | omega | (unfold ri; omega))])),
   ⟨by rw [un_n (by first | omega | (unfold ri; omega))]; exact h.2.2.2.2.2.2.1.1, by rw [un_n (by first | omega | (unfold ri; omega))]; exact h.2.2.2.2.2.2.1.2.1, by rw [un_n (by first | omega | (unfold ri; omega))]; exact h.2.2.2.2.2.2.1.2.2.1, by rw [un_n (by first | omega | (unfold ri; omega))]; exact h.2.2.2.2.2.2.1.2.2.2⟩,
   fun p hp => h.g30 hp,
   fun p u hp hu => by rw [un_n (by first | omega | (unfold ri; omega)), un_n (by first | omega | (unfold ri; omega))]; exact h.g hp hu⟩
theorem vR.hand {k0 x : Nat} (hk0 : k0 < 4) (h : vR A Gs Sp Ti Mv Hd pin c w f m G) : vR A Gs Sp Ti Mv (un Hd k0 x) pin c w f m (un G (12 + k0) x) :=
  ⟨fun k hk => by rw [un_n (by first | omega | (unfold ri; omega))]; exact h.a hk,
   fun u hu => by rw [un_n (by first | omega | (unfold ri; omega))]; exact h.s hu,
   fun u k hu hk => by rw [un_n (by first | omega | (unfold ri; omega))]; exact h.t hu hk,
   fun k hk => by
    by_cases e : k = k0
    · subst e; rw [un_s, un_s]
    · rw [un_n e, un_n (by omega)]; exact h.h hk,
   fun u hu => by rw [un_n (by first | omega | (unfold ri; omega))]; exact h.mv hu,
   h.pp.trans (mk_congr (fun u hu => by rw [un_n (by first | omega | (unfold ri; omega))])),
   ⟨by rw [un_n (by first | omega | (unfold ri; omega))]; exact h.2.2.2.2.2.2.1.1, by rw [un_n (by first | omega | (unfold ri; omega))]; exact h.2.2.2.2.2.2.1.2.1, by rw [un_n (by first | omega | (unfold ri; omega))]; exact h.2.2.2.2.2.2.1.2.2.1, by rw [un_n (by first | omega | (unfold ri; omega))]; exact h.2.2.2.2.2.2.1.2.2.2⟩,
   fun p hp => h.g30 hp,
   fun p u hp hu => by rw [un_n (by first | omega | (unfold ri; omega)), un_n (by first | omega | (unfold ri; omega))]; exact h.g hp hu⟩
theorem vR.tie {t0 k0 x : Nat} (ht0 : t0 < 30) (hk0 : k0 < 3) (h : vR A Gs Sp Ti Mv Hd pin c w f m G) : vR A Gs Sp (un Ti (3 * t0 + k0) x) Mv Hd pin c w f m (un G (ri t0 (2 + k0)) x) :=
  ⟨fun k hk => by rw [un_n (by first | omega | (unfold ri; omega))]; exact h.a hk,
   fun u hu => by rw [un_n (by first | omega | (unfold ri; omega))]; exact h.s hu,
   fun u k hu hk => by
    by_cases e : u = t0 ∧ k = k0
    · obtain ⟨rfl, rfl⟩ := e; rw [un_s, un_s]
    · rw [un_n (by omega), un_n (by first | omega | (unfold ri; omega))]; exact h.t hu hk,
   fun k hk => by rw [un_n (by first | omega | (unfold ri; omega))]; exact h.h hk,
   fun u hu => by rw [un_n (by first | omega | (unfold ri; omega))]; exact h.mv hu,
   h.pp.trans (mk_congr (fun u hu => by rw [un_n (by first | omega | (unfold ri; omega))])),
   ⟨by rw [un_n (by first | omega | (unfold ri; omega))]; exact h.2.2.2.2.2.2.1.1, by rw [un_n (by first | omega | (unfold ri; omega))]; exact h.2.2.2.2.2.2.1.2.1, by rw [un_n (by first | omega | (unfold ri; omega))]; exact h.2.2.2.2.2.2.1.2.2.1, by rw [un_n (by first | omega | (unfold ri; omega))]; exact h.2.2.2.2.2.2.1.2.2.2⟩,
   fun p hp => h.g30 hp,
   fun p u hp hu => by rw [un_n (by first | omega | (unfold ri; omega)), un_n (by first | omega | (unfold ri; omega))]; exact h.g hp hu⟩
theorem vR.mvd {t0 : Nat} (ht0 : t0 < 30) (h : vR A Gs Sp Ti Mv Hd pin c w f m G) : vR A Gs Sp Ti (un Mv t0 (Mv t0 + 1)) Hd pin c w f m (un G (ri t0 5) (G (ri t0 5) + 1)) :=
  ⟨fun k hk => by rw [un_n (by first | omega | (unfold ri; omega))]; exact h.a hk,
   fun u hu => by rw [un_n (by first | omega | (unfold ri; omega))]; exact h.s hu,
   fun u k hu hk => by rw [un_n (by first | omega | (unfold ri; omega))]; exact h.t hu hk,
   fun k hk => by rw [un_n (by first | omega | (unfold ri; omega))]; exact h.h hk,
   fun u hu => by
    by_cases e : u = t0
    · subst e; rw [un_s, un_s, h.mv hu]
    · rw [un_n e, un_n (by first | omega | (unfold ri; omega))]; exact h.mv hu,
   h.pp.trans (mk_congr (fun u hu => by rw [un_n (by first | omega | (unfold ri; omega))])),
   ⟨by rw [un_n (by first | omega | (unfold ri; omega))]; exact h.2.2.2.2.2.2.1.1, by rw [un_n (by first | omega | (unfold ri; omega))]; exact h.2.2.2.2.2.2.1.2.1, by rw [un_n (by first | omega | (unfold ri; omega))]; exact h.2.2.2.2.2.2.1.2.2.1, by rw [un_n (by first | omega | (unfold ri; omega))]; exact h.2.2.2.2.2.2.1.2.2.2⟩,
   fun p hp => h.g30 hp,
   fun p u hp hu => by rw [un_n (by first | omega | (unfold ri; omega)), un_n (by first | omega | (unfold ri; omega))]; exact h.g hp hu⟩
theorem vR.com (hz : ∀ t, t < 30 → G 0 ≤ t → G (ri t 0) = 0) (h : vR A Gs Sp Ti Mv Hd pin c w f m G) : vR A Gs Sp Ti Mv Hd pin (c + 1) w f m (un G 0 (G 0 + 1)) :=
  ⟨fun k hk => by rw [un_n (by first | omega | (unfold ri; omega))]; exact h.a hk,
   fun u hu => by rw [un_n (by first | omega | (unfold ri; omega))]; exact h.s hu,
   fun u k hu hk => by rw [un_n (by first | omega | (unfold ri; omega))]; exact h.t hu hk,
   fun k hk => by rw [un_n (by first | omega | (unfold ri; omega))]; exact h.h hk,
   fun u hu => by rw [un_n (by first | omega | (unfold ri; omega))]; exact h.mv hu,
   h.pp.trans (mk_congr (fun u hu => by rw [un_n (by first | omega | (unfold ri; omega))])),
   ⟨by rw [un_s]; exact congrArg (· + 1) h.2.2.2.2.2.2.1.1, by rw [un_n (by omega)]; exact h.2.2.2.2.2.2.1.2.1, by rw [un_n (by omega)]; exact h.2.2.2.2.2.2.1.2.2.1, by rw [un_n (by omega)]; exact h.2.2.2.2.2.2.1.2.2.2⟩,
   fun p hp => h.g30 hp,
   fun p u hp hu => by
    rw [un_s, un_n (by first | omega | (unfold ri; omega)), h.g hp hu]
    refine ⟨fun q => ⟨by omega, q.2⟩, fun q => ⟨?_, q.2⟩⟩
    have := hz u hu
    omega⟩
theorem vR.win  (h : vR A Gs Sp Ti Mv Hd pin c w f m G) : vR A Gs Sp Ti Mv Hd pin c (w + 1) f m (un G 1 (G 1 + 1)) :=
  ⟨fun k hk => by rw [un_n (by first | omega | (unfold ri; omega))]; exact h.a hk,
   fun u hu => by rw [un_n (by first | omega | (unfold ri; omega))]; exact h.s hu,
   fun u k hu hk => by rw [un_n (by first | omega | (unfold ri; omega))]; exact h.t hu hk,
   fun k hk => by rw [un_n (by first | omega | (unfold ri; omega))]; exact h.h hk,
   fun u hu => by rw [un_n (by first | omega | (unfold ri; omega))]; exact h.mv hu,
   h.pp.trans (mk_congr (fun u hu => by rw [un_n (by first | omega | (unfold ri; omega))])),
   ⟨by rw [un_n (by omega)]; exact h.2.2.2.2.2.2.1.1, by rw [un_s]; exact congrArg (· + 1) h.2.2.2.2.2.2.1.2.1, by rw [un_n (by omega)]; exact h.2.2.2.2.2.2.1.2.2.1, by rw [un_n (by omega)]; exact h.2.2.2.2.2.2.1.2.2.2⟩,
   fun p hp => h.g30 hp,
   fun p u hp hu => by rw [un_n (by first | omega | (unfold ri; omega)), un_n (by first | omega | (unfold ri; omega))]; exact h.g hp hu⟩
theorem vR.ful  (h : vR A Gs Sp Ti Mv Hd pin c w f m G) : vR A Gs Sp Ti Mv Hd pin c w (f + 1) m (un G 2 (G 2 + 1)) :=
  ⟨fun k hk => by rw [un_n (by first | omega | (unfold ri; omega))]; exact h.a hk,
   fun u hu => by rw [un_n (by first | omega | (unfold ri; omega))]; exact h.s hu,
   fun u k hu hk => by rw [un_n (by first | omega | (unfold ri; omega))]; exact h.t hu hk,
   fun k hk => by rw [un_n (by first | omega | (unfold ri; omega))]; exact h.h hk,
   fun u hu => by rw [un_n (by first | omega | (unfold ri; omega))]; exact h.mv hu,
   h.pp.trans (mk_congr (fun u hu => by rw [un_n (by first | omega | (unfold ri; omega))])),
   ⟨by rw [un_n (by omega)]; exact h.2.2.2.2.2.2.1.1, by rw [un_n (by omega)]; exact h.2.2.2.2.2.2.1.2.1, by rw [un_s]; exact congrArg (· + 1) h.2.2.2.2.2.2.1.2.2.1, by rw [un_n (by omega)]; exact h.2.2.2.2.2.2.1.2.2.2⟩,
   fun p hp => h.g30 hp,
   fun p u hp hu => by rw [un_n (by first | omega | (unfold ri; omega)), un_n (by first | omega | (unfold ri; omega))]; exact h.g hp hu⟩
theorem vR.mvs  (h : vR A Gs Sp Ti Mv Hd pin c w f m G) : vR A Gs Sp Ti Mv Hd pin c w f (m + 1) (un G 3 (G 3 + 1)) :=
  ⟨fun k hk => by rw [un_n (by first | omega | (unfold ri; omega))]; exact h.a hk,
   fun u hu => by rw [un_n (by first | omega | (unfold ri; omega))]; exact h.s hu,
   fun u k hu hk => by rw [un_n (by first | omega | (unfold ri; omega))]; exact h.t hu hk,
   fun k hk => by rw [un_n (by first | omega | (unfold ri; omega))]; exact h.h hk,
   fun u hu => by rw [un_n (by first | omega | (unfold ri; omega))]; exact h.mv hu,
   h.pp.trans (mk_congr (fun u hu => by rw [un_n (by first | omega | (unfold ri; omega))])),
   ⟨by rw [un_n (by omega)]; exact h.2.2.2.2.2.2.1.1, by rw [un_n (by omega)]; exact h.2.2.2.2.2.2.1.2.1, by rw [un_n (by omega)]; exact h.2.2.2.2.2.2.1.2.2.1, by rw [un_s]; exact congrArg (· + 1) h.2.2.2.2.2.2.1.2.2.2⟩,
   fun p hp => h.g30 hp,
   fun p u hp hu => by rw [un_n (by first | omega | (unfold ri; omega)), un_n (by first | omega | (unfold ri; omega))]; exact h.g hp hu⟩
theorem vR.pint {t0 x : Nat} {z : Int32} (hz : z = mk (fun t => un G (ri t0 1) x (ri t 1) = 1)) (h : vR A Gs Sp Ti Mv Hd pin c w f m G) : vR A Gs Sp Ti Mv Hd z c w f m (un G (ri t0 1) x) :=
  ⟨fun k hk => by rw [un_n (by first | omega | (unfold ri; omega))]; exact h.a hk,
   fun u hu => by rw [un_n (by first | omega | (unfold ri; omega))]; exact h.s hu,
   fun u k hu hk => by rw [un_n (by first | omega | (unfold ri; omega))]; exact h.t hu hk,
   fun k hk => by rw [un_n (by first | omega | (unfold ri; omega))]; exact h.h hk,
   fun u hu => by rw [un_n (by first | omega | (unfold ri; omega))]; exact h.mv hu,
   hz,
   ⟨by rw [un_n (by first | omega | (unfold ri; omega))]; exact h.2.2.2.2.2.2.1.1, by rw [un_n (by first | omega | (unfold ri; omega))]; exact h.2.2.2.2.2.2.1.2.1, by rw [un_n (by first | omega | (unfold ri; omega))]; exact h.2.2.2.2.2.2.1.2.2.1, by rw [un_n (by first | omega | (unfold ri; omega))]; exact h.2.2.2.2.2.2.1.2.2.2⟩,
   fun p hp => h.g30 hp,
   fun p u hp hu => by rw [un_n (by first | omega | (unfold ri; omega)), un_n (by first | omega | (unfold ri; omega))]; exact h.g hp hu⟩
theorem vR.out {t0 s : Nat} (ht0 : t0 < 30) (hs : G (ri t0 0) = s + 1) (hs4 : s < 40) (hlt : t0 < G 0) (h : vR A Gs Sp Ti Mv Hd pin c w f m G) : vR A (un Gs s 0) (un Sp t0 0) Ti Mv Hd pin c w f m (un G (ri t0 0) 0) :=
  ⟨fun k hk => by rw [un_n (by first | omega | (unfold ri; omega))]; exact h.a hk,
   fun u hu => by
    by_cases e : u = t0
    · subst e; rw [un_s, un_s]
    · rw [un_n e, un_n (by first | omega | (unfold ri; omega))]; exact h.s hu,
   fun u k hu hk => by rw [un_n (by first | omega | (unfold ri; omega))]; exact h.t hu hk,
   fun k hk => by rw [un_n (by first | omega | (unfold ri; omega))]; exact h.h hk,
   fun u hu => by rw [un_n (by first | omega | (unfold ri; omega))]; exact h.mv hu,
   h.pp.trans (mk_congr (fun u hu => by rw [un_n (by first | omega | (unfold ri; omega))])),
   ⟨by rw [un_n (by first | omega | (unfold ri; omega))]; exact h.2.2.2.2.2.2.1.1, by rw [un_n (by first | omega | (unfold ri; omega))]; exact h.2.2.2.2.2.2.1.2.1, by rw [un_n (by first | omega | (unfold ri; omega))]; exact h.2.2.2.2.2.2.1.2.2.1, by rw [un_n (by first | omega | (unfold ri; omega))]; exact h.2.2.2.2.2.2.1.2.2.2⟩,
   fun p hp => by
    unfold un
    split
    · omega
    · exact h.g30 hp,
   fun p u hp hu => by
    have ht := (h.g hs4 ht0).mpr ⟨hlt, hs⟩
    rw [un_n (show (0 : Nat) ≠ ri t0 0 by first | omega | (unfold ri; omega))]
    by_cases e1 : p = s
    · subst e1
      rw [un_s]
      by_cases e : u = t0
      · subst e
        rw [un_s]
        omega
      · rw [un_n (by first | omega | (unfold ri; omega)), ← h.g hs4 hu]
        omega
    · rw [un_n e1]
      by_cases e : u = t0
      · subst e
        rw [un_s, h.g hp hu]
        omega
      · rw [un_n (by first | omega | (unfold ri; omega))]
        exact h.g hp hu⟩
theorem vR.inn {t0 p0 : Nat} (ht0 : t0 < 30) (hp0 : p0 < 40) (hlt : t0 < G 0) (he : sEmp G p0) (h0 : G (ri t0 0) = 0) (h : vR A Gs Sp Ti Mv Hd pin c w f m G) : vR A (un Gs p0 (t0 + 1)) (un Sp t0 (p0 + 1)) Ti Mv Hd pin c w f m (un G (ri t0 0) (p0 + 1)) :=
  ⟨fun k hk => by rw [un_n (by first | omega | (unfold ri; omega))]; exact h.a hk,
   fun u hu => by
    by_cases e : u = t0
    · subst e; rw [un_s, un_s]
    · rw [un_n e, un_n (by first | omega | (unfold ri; omega))]; exact h.s hu,
   fun u k hu hk => by rw [un_n (by first | omega | (unfold ri; omega))]; exact h.t hu hk,
   fun k hk => by rw [un_n (by first | omega | (unfold ri; omega))]; exact h.h hk,
   fun u hu => by rw [un_n (by first | omega | (unfold ri; omega))]; exact h.mv hu,
   h.pp.trans (mk_congr (fun u hu => by rw [un_n (by first | omega | (unfold ri; omega))])),
   ⟨by rw [un_n (by first | omega | (unfold ri; omega))]; exact h.2.2.2.2.2.2.1.1, by rw [un_n (by first | omega | (unfold ri; omega))]; exact h.2.2.2.2.2.2.1.2.1, by rw [un_n (by first | omega | (unfold ri; omega))]; exact h.2.2.2.2.2.2.1.2.2.1, by rw [un_n (by first | omega | (unfold ri; omega))]; exact h.2.2.2.2.2.2.1.2.2.2⟩,
   fun p hp => by
    unfold un
    split
    · omega
    · exact h.g30 hp,
   fun p u hp hu => by
    rw [un_n (show (0 : Nat) ≠ ri t0 0 by first | omega | (unfold ri; omega))]
    by_cases e1 : p = p0
    · subst e1
      rw [un_s]
      by_cases e : u = t0
      · subst e
        rw [un_s]
        omega
      · rw [un_n (by first | omega | (unfold ri; omega))]
        exact ⟨fun q => by omega, fun q => absurd q.2 (he u q.1)⟩
    · rw [un_n e1]
      by_cases e : u = t0
      · subst e
        rw [un_s, h.g hp hu]
        omega
      · rw [un_n (by first | omega | (unfold ri; omega))]
        exact h.g hp hu⟩
/-- what holds behind a change -/
def vP (Q : Option Value → xm_H → Prop) (r : Option Value) (G : Nat → Nat) : Prop := ∀ A Gs Sp Ti Mv Hd pin c w f m, vR A Gs Sp Ti Mv Hd pin c w f m G → Q r (vH A Gs Sp Ti Mv Hd pin c w f m)
def vC (Q : Option Value → xm_H → Prop) (q : Int32 × (Nat → Nat)) : Prop := ∀ A Gs Sp Ti Mv Hd pin c w f m, (0 ≤ q.1.toInt → vR A Gs Sp Ti Mv Hd pin c w f m q.2) → Q (some (.int q.1)) (vH A Gs Sp Ti Mv Hd pin c w f m)
theorem dI_up (x : Nat) : dI x + nI 1 = dI (x + 1) := by
  rw [dI_1]
  unfold dI
  exact Int32.sub_add_cancel _ _
end V4
