/-! a run on a small heap is a run on a heap that holds it under other numbers -/
def fv (ρ : Nat → Nat) (u : Value) : Value := match u with
  | .ref a => .ref (ρ a)
  | u => u
def fe (ρ : Nat → Nat) (e : xm_E) : xm_E := match e with
  | .inl q => .inl q
  | .inr (.inl (n, g)) => .inr (.inl (n, fun i => (g i).map ρ))
  | .inr (.inr (ci, fs)) => .inr (.inr (ci, fs.map (fv ρ)))
def fJ (ρ : Nat → Nat) (m : Nat) (h H : xm_H) : Prop := (∀ a e, h[a]? = some e → H[ρ a]? = some (fe ρ e)) ∧ (∀ a b, a < m → b < m → ρ a = ρ b → a = b) ∧ h.length = m
def fO (ρ : Nat → Nat) (m : Nat) (H H' : xm_H) : Prop := H'.length = H.length ∧ ∀ b, (∀ a, a < m → ¬ ρ a = b) → H'[b]? = H[b]?
theorem fO.refl {ρ : Nat → Nat} {m : Nat} {H : xm_H} : fO ρ m H H := ⟨rfl, fun _ _ => rfl⟩
theorem fO.trans {ρ : Nat → Nat} {m : Nat} {H H' H'' : xm_H} (h1 : fO ρ m H H') (h2 : fO ρ m H' H'') : fO ρ m H H'' := ⟨h2.1.trans h1.1, fun b hb => (h2.2 b hb).trans (h1.2 b hb)⟩
theorem fJ.set {ρ : Nat → Nat} {m a : Nat} {h H : xm_H} {e0 e : xm_E} (hJ : fJ ρ m h H) (h0 : h[a]? = some e0) : fJ ρ m (h.set a e) (H.set (ρ a) (fe ρ e)) ∧ fO ρ m H (H.set (ρ a) (fe ρ e)) := by
  obtain ⟨h1, h2, h3⟩ := hJ
  have ha : a < h.length := (List.getElem?_eq_some_iff.mp h0).1
  have hA : ρ a < H.length := (List.getElem?_eq_some_iff.mp (h1 a e0 h0)).1
  refine ⟨⟨fun b e' hb => ?_, h2, by rw [List.length_set]; exact h3⟩, by rw [List.length_set], fun b hb => ?_⟩
  · by_cases hab : a = b
    · subst hab
      rw [List.getElem?_set_self ha] at hb
      rw [List.getElem?_set_self hA]
      cases hb
      rfl
    · rw [List.getElem?_set_ne hab] at hb
      have hbl : b < h.length := (List.getElem?_eq_some_iff.mp hb).1
      rw [List.getElem?_set_ne (fun q => hab (h2 a b (by omega) (by omega) q))]
      exact h1 b e' hb
  · exact List.getElem?_set_ne (hb a (by omega))
def fP (ρ : Nat → Nat) (m : Nat) (h H : xm_H) (s : Option xm_O) (o : xm_O) : Prop := match o with
  | .inl (pc', ls', st', h') => m ≤ h'.length ∧ (h'.length = m → ∃ H', s = some (.inl (pc', ls'.map (fv ρ), st'.map (fv ρ), H')) ∧ fJ ρ m h' H' ∧ fO ρ m H H')
  | .inr (.inl (r, h')) => h' = h ∧ s = some (.inr (.inl (r.map (fv ρ), H)))
  | .inr (.inr (j, as, nx, ls', rest, h1)) => h1 = h ∧ s = some (.inr (.inr (j, as.map (fv ρ), nx, ls'.map (fv ρ), rest.map (fv ρ), H)))
theorem fP.keep {ρ : Nat → Nat} {m pc' : Nat} {h H : xm_H} {s : Option xm_O} {ls' st' : List Value} (hJ : fJ ρ m h H) (hs : s = some (.inl (pc', ls'.map (fv ρ), st'.map (fv ρ), H))) : fP ρ m h H s (.inl (pc', ls', st', h)) :=
  ⟨Nat.le_of_eq hJ.2.2.symm, fun _ => ⟨H, hs, hJ, fO.refl⟩⟩
theorem fP.put {ρ : Nat → Nat} {m a pc' : Nat} {h H : xm_H} {s : Option xm_O} {ls' st' : List Value} {e0 e : xm_E} (hJ : fJ ρ m h H) (h0 : h[a]? = some e0) (hs : s = some (.inl (pc', ls'.map (fv ρ), st'.map (fv ρ), H.set (ρ a) (fe ρ e)))) : fP ρ m h H s (.inl (pc', ls', st', h.set a e)) :=
  ⟨by rw [List.length_set]; exact Nat.le_of_eq hJ.2.2.symm, fun _ => ⟨_, hs, (hJ.set h0).1, (hJ.set h0).2⟩⟩
theorem fP.more {ρ : Nat → Nat} {m pc' : Nat} {h H : xm_H} {s : Option xm_O} {ls' st' : List Value} {e : xm_E} (hJ : fJ ρ m h H) : fP ρ m h H s (.inl (pc', ls', st', h ++ [e])) := by
  have h3 := hJ.2.2
  refine ⟨by rw [List.length_append]; omega, fun h => ?_⟩
  rw [List.length_append, List.length_singleton] at h
  omega
theorem fl_get {ρ : Nat → Nat} {ls : List Value} {x : Nat} {u : Value} (h : ls[x]? = some u) : (ls.map (fv ρ))[x]? = some (fv ρ u) := by
  rw [List.getElem?_map, h]
  rfl
theorem fl_set {ρ : Nat → Nat} {ls : List Value} {x : Nat} {u : Value} : (ls.set x u).map (fv ρ) = (ls.map (fv ρ)).set x (fv ρ u) := List.map_set ..
theorem fl_take {ρ : Nat → Nat} {st as : List Value} {y a : Nat} (h : (st.take y).reverse = .ref a :: as) : ((st.map (fv ρ)).take y).reverse = .ref (ρ a) :: as.map (fv ρ) := by
  rw [← List.map_take, ← List.map_reverse, h]
  rfl
theorem fl_up {ρ : Nat → Nat} {g : Nat → Option Nat} {i t : Nat} : (fun j => (va_up g i (some t) j).map ρ) = va_up (fun j => (g j).map ρ) i (some (ρ t)) := by
  funext j
  unfold va_up
  split <;> rfl
theorem fl_nl {ρ : Nat → Nat} {a : Value} : xm_nl (fv ρ a) = xm_nl a := by cases a <;> rfl
theorem fl_all {ρ : Nat → Nat} {as : List Value} : (as.map (fv ρ)).all xm_nl = as.all xm_nl := by
  rw [List.all_map]
  congr 1
  funext a
  exact fl_nl
theorem fl_all2 {ρ : Nat → Nat} {as : List Value} {y : Nat} : ((as.map (fv ρ)).take y).all xm_nl = (as.take y).all xm_nl := by
  rw [← List.map_take]
  exact fl_all
set_option maxHeartbeats 4000000 in
theorem fr_step {L : Nat} {xs : Nat → Int32} {rb : Bool} {ρ : Nat → Nat} {m pc : Nat} {q : xm_Q} {ls st : List Value} {h H : xm_H} {o : xm_O} (hJ : fJ ρ m h H) (hs : xm_step L xs rb pc q ls st h = some o) : fP ρ m h H (xm_step L xs rb pc q (ls.map (fv ρ)) (st.map (fv ρ)) H) o := by
  obtain ⟨i, nx, x, y, v⟩ := q
  have hG := hJ.1
  by_cases hd : ∃ a b r z, st = .int b :: .int a :: r ∧ xm_bin i a b = some z
  · obtain ⟨a, b, r, z, rfl, hz⟩ := hd
    have : o = .inl (nx, ls, .int z :: r, h) ∧ xm_step L xs rb pc (i, nx, x, y, v) (ls.map (fv ρ)) ((Value.int b :: .int a :: r).map (fv ρ)) H = some (.inl (nx, ls.map (fv ρ), .int z :: r.map (fv ρ), H)) := by
      cases i <;> first
        | (exfalso; cases hz; done)
        | (simp only [xm_step, hz, Option.some.injEq] at hs
           simp only [xm_step, List.map, fv, hz]
           exact ⟨hs.symm, trivial⟩)
    obtain ⟨rfl, h2⟩ := this
    exact fP.keep hJ h2
  · unfold xm_step at hs
    dsimp only at hs
    split at hs
    · cases hs; exact fP.keep hJ rfl
    · cases hs; exact fP.keep hJ rfl
    · cases hs; exact fP.keep hJ rfl
    · cases hs; exact fP.keep hJ rfl
    · cases hs; exact fP.keep hJ rfl
    · split at hs
      · next hl => cases hs; exact fP.keep hJ (by simp only [xm_step, fl_get hl, fv]; rfl)
      · cases hs
    · split at hs
      · next hl => cases hs; exact fP.keep hJ (by simp only [xm_step, fl_get hl, fv]; rfl)
      · cases hs
    · split at hs
      · next hl => cases hs; exact fP.keep hJ (by simp only [xm_step, fl_get hl, fv]; rfl)
      · next hl => cases hs; exact fP.keep hJ (by simp only [xm_step, fl_get hl, fv]; rfl)
      · cases hs
    · split at hs
      · split at hs
        · next hx => cases hs; exact fP.keep hJ (by simp only [xm_step, List.map, fv, List.length_map, if_pos hx, fl_set])
        · cases hs
      · cases hs
    · split at hs
      · split at hs
        · next hx => cases hs; exact fP.keep hJ (by simp only [xm_step, List.map, fv, List.length_map, if_pos hx, fl_set])
        · cases hs
      · cases hs
    · split at hs
      · split at hs
        · next hx => cases hs; exact fP.keep hJ (by simp only [xm_step, List.map, fv, List.length_map, if_pos hx, fl_set])
        · cases hs
      · cases hs
    · split at hs
      · next hl => cases hs; exact fP.keep hJ (by simp only [xm_step, fl_get hl, fv, fl_set])
      · cases hs
    · split at hs
      · cases hs; exact fP.keep hJ rfl
      · cases hs
    · split at hs
      · cases hs; exact fP.keep hJ rfl
      · cases hs
    · cases hs; exact fP.keep hJ rfl
    · split at hs
      · split at hs
        · next hx => cases hs; exact fP.keep hJ (by simp only [xm_step, List.map, fl_nl, if_pos hx])
        · cases hs
      · cases hs
    · split at hs
      · split at hs
        · next hx => cases hs; exact fP.keep hJ (by simp only [xm_step, List.map, fl_nl, if_pos hx])
        · cases hs
      · cases hs
    · split at hs
      · split at hs
        · next hx => cases hs; exact fP.keep hJ (by simp only [xm_step, List.map, fl_nl, if_pos hx])
        · cases hs
      · cases hs
    · cases hs; exact fP.keep hJ rfl
    · split at hs
      · next hl => cases hs; exact fP.keep hJ (by simp only [xm_step, fl_get hl, fv]; rfl)
      · cases hs
    · split at hs
      · next hl => cases hs; exact fP.keep hJ (by simp only [xm_step, fl_get hl, fv]; rfl)
      · cases hs
    · split at hs
      · split at hs
        · next hx => cases hs; exact fP.keep hJ (by simp only [xm_step, List.map, fv, List.length_map, if_pos hx, fl_set])
        · cases hs
      · cases hs
    · split at hs
      · split at hs
        · next hx => cases hs; exact fP.keep hJ (by simp only [xm_step, List.map, fv, List.length_map, if_pos hx, fl_set])
        · cases hs
      · cases hs
    · split at hs
      · cases hs; exact fP.keep hJ rfl
      · cases hs
    · split at hs
      · cases hs; exact fP.keep hJ rfl
      · cases hs
    · split at hs
      · cases hs; exact fP.keep hJ rfl
      · cases hs
    · split at hs
      · cases hs; exact fP.keep hJ rfl
      · cases hs
    · split at hs
      · cases hs; exact ⟨rfl, rfl⟩
      · cases hs
    · split at hs
      · split at hs
        · next hc =>
          split at hs
          · next hx =>
            split at hs
            · next hf => cases hs; exact fP.keep hJ (by simp only [xm_step, List.map, fv, hG _ _ hc, fe, if_pos hx, fl_get hf])
            · cases hs
          · cases hs
        · cases hs
      · cases hs
    · split at hs
      · split at hs
        · next hc =>
          split at hs
          · next hx => cases hs; exact fP.put hJ hc (by simp only [xm_step, List.map, fv, hG _ _ hc, fe, List.length_map, if_pos hx, fl_set])
          · cases hs
        · cases hs
      · split at hs
        · next hc =>
          split at hs
          · next hx => cases hs; exact fP.put hJ hc (by simp only [xm_step, List.map, fv, hG _ _ hc, fe, List.length_map, if_pos hx, fl_set])
          · cases hs
        · cases hs
      · cases hs
    · split at hs
      · split at hs
        · next hc =>
          split at hs
          · cases hs
          · next hx => cases hs; exact fP.keep hJ (by simp only [xm_step, List.map, fv, hG _ _ hc, fe, if_neg hx])
        · cases hs
      · split at hs
        · cases hs
        · next hx => cases hs; exact fP.keep hJ (by simp only [xm_step, List.map, fv, if_neg hx])
      · cases hs
    · split at hs
      · split at hs
        · next hc =>
          split at hs
          · cases hs
          · next hx => cases hs; exact fP.put hJ hc (by simp only [xm_step, List.map, fv, hG _ _ hc, fe, if_neg hx])
        · cases hs
      · cases hs
    · split at hs
      · split at hs
        · next hc =>
          split at hs
          · cases hs
          · next hx =>
            split at hs
            · next hf => cases hs; exact fP.keep hJ (by simp only [xm_step, List.map, fv, hG _ _ hc, fe, if_neg hx, hf, Option.map])
            · cases hs
        · cases hs
      · cases hs
    · split at hs
      · split at hs
        · next hc =>
          split at hs
          · cases hs
          · next hx =>
            split at hs
            · next hf =>
              split at hs
              · next hy => cases hs; exact fP.put hJ hc (by simp only [xm_step, List.map, fv, hG _ _ hc, hG _ _ hf, fe, if_neg hx, if_pos hy, fl_up])
              · cases hs
            · cases hs
        · cases hs
      · cases hs
    · split at hs
      · split at hs
        · next hc => cases hs; exact fP.keep hJ (by simp only [xm_step, List.map, fv, hG _ _ hc, fe])
        · cases hs
      · cases hs; exact fP.keep hJ rfl
      · cases hs
    · split at hs
      · split at hs
        · cases hs
        · cases hs; exact fP.more hJ
      · cases hs
    · split at hs
      · split at hs
        · cases hs
        · cases hs; exact fP.more hJ
      · cases hs
    · cases hs; exact fP.more hJ
    · split at hs
      · split at hs
        · next hx =>
          split at hs
          · next ht => cases hs; exact fP.keep hJ (by simp only [xm_step, List.map, fv, if_pos hx, ht])
          · cases hs
        · next hx =>
          split at hs
          · next ho =>
            split at hs
            · next ht => cases hs; exact fP.keep hJ (by simp only [xm_step, List.map, fv, if_neg hx, ho, ht])
            · cases hs
          · cases hs
      · cases hs
    · split at hs
      · split at hs
        · next ht => cases hs; exact fP.keep hJ (by simp only [xm_step, List.map, fv, ht])
        · cases hs
      · cases hs
    · split at hs
      · split at hs
        · cases hs
        · next hx => cases hs; exact ⟨rfl, by simp only [xm_step, List.map, fv, if_neg hx]; rfl⟩
      · cases hs
    · split at hs
      · cases hs; exact ⟨rfl, rfl⟩
      · cases hs
    · split at hs
      · cases hs; exact ⟨rfl, rfl⟩
      · cases hs
    · split at hs
      · next ht =>
        split at hs
        · next hc =>
          split at hs
          · next hx =>
            cases hs
            refine ⟨rfl, ?_⟩
            have e1 := fl_take (ρ := ρ) ht
            simp only [xm_step, e1, hG _ _ hc, fe, List.length_map, ← List.map_drop, fl_all2, if_pos hx]
            rfl
          · cases hs
        · cases hs
      · cases hs
    · split at hs
      · next hx =>
        split at hs
        · split at hs
          · next hc hd =>
            split at hs
            · cases hs
            · next hy => cases hs; exact fP.put hJ hd (by simp only [xm_step, if_pos hx, List.map, fv, hG _ _ hc, hG _ _ hd, fe, List.length_map, if_neg hy])
          · cases hs
        · cases hs
      · next hx =>
        split at hs
        · next hy =>
          split at hs
          · split at hs
            · cases hs
            · next hz => cases hs; exact fP.keep hJ (by simp only [xm_step, if_neg hx, if_pos hy, List.map, fv, List.length_map, if_neg hz])
          · cases hs
        · next hy =>
          split at hs
          · next hz =>
            cases hs
            exact ⟨rfl, by simp only [xm_step, if_neg hx, if_neg hy, List.length_map, ← List.map_drop, ← List.map_take, ← List.map_reverse, fl_all, if_pos hz]⟩
          · cases hs
    · split at hs
      · next hx =>
        split at hs
        · split at hs
          · cases hs
          · next hz => cases hs; exact fP.keep hJ (by simp only [xm_step, if_pos hx, List.map, fv, List.length_map, if_neg hz])
        · cases hs
      · next hx =>
        split at hs
        · next ht =>
          split at hs
          · next hz =>
            cases hs
            have e1 := fl_take (ρ := ρ) ht
            refine ⟨rfl, ?_⟩
            simp only [xm_step, if_neg hx, e1, List.length_map, ← List.map_drop, fl_all2, if_pos hz]
            rfl
          · cases hs
        · cases hs
    · split at hs
      · split at hs
        · next hz => exact absurd ⟨_, _, _, _, rfl, hz⟩ hd
        · cases hs
      · cases hs
theorem fl_pad {ρ : Nat → Nat} {j : Nat} {as : List Value} : (xm_pad j as).map (fv ρ) = xm_pad j (as.map (fv ρ)) := by
  unfold xm_pad
  rw [List.map_append, List.map_replicate, List.length_map]
  rfl
theorem fr_ex {L : Nat} {xs : Nat → Int32} {ρ : Nat → Nat} {m : Nat} : ∀ (n k pc : Nat) (ls st : List Value) (h H : xm_H) (r : Option Value) (h' : xm_H), fJ ρ m h H → xm_ex L xs n k pc ls st h = some (r, h') → h'.length = m → ∃ H', xm_ex L xs n k pc (ls.map (fv ρ)) (st.map (fv ρ)) H = some (r.map (fv ρ), H') ∧ fJ ρ m h' H' ∧ fO ρ m H H' := by
  intro n
  induction n with
  | zero => intro k pc ls st h H r h' hJ he; cases he
  | succ n ih =>
    intro k pc ls st h H r h' hJ he hl
    rw [xm_ex] at he ⊢
    cases hq : xm_ins k pc with
    | none => rw [hq] at he; cases he
    | some q =>
      rw [hq] at he
      dsimp only at he ⊢
      cases hs : xm_step L xs (xm_rb k) pc q ls st h with
      | none => rw [hs] at he; cases he
      | some o =>
        rw [hs] at he
        have hP := fr_step hJ hs
        obtain ⟨pc', ls', st', h1⟩ | ⟨r', h1⟩ | ⟨j, as, nx, ls', rest, h1⟩ := o
        · dsimp only at he
          obtain ⟨hm, hP⟩ := hP
          have hmono := (xm_ex_mono _ _ _ _ _ _ _ he).1
          dsimp only at hmono
          obtain ⟨H1, e1, hJ1, hO1⟩ := hP (by omega)
          rw [e1]
          obtain ⟨H', e2, hJ2, hO2⟩ := ih _ _ _ _ _ H1 _ _ hJ1 he hl
          exact ⟨H', e2, hJ2, hO1.trans hO2⟩
        · obtain ⟨rfl, e1⟩ := hP
          cases he
          rw [e1]
          exact ⟨H, rfl, hJ, fO.refl⟩
        · obtain ⟨rfl, e1⟩ := hP
          rw [e1]
          dsimp only at he ⊢
          cases hc : xm_ex L xs n j 0 (xm_pad j as) [] h1 with
          | none => rw [hc] at he; cases he
          | some w =>
            rw [hc] at he
            obtain ⟨u, h2⟩ := w
            have hm1 := (xm_ex_mono _ _ _ _ _ _ _ hc).1
            dsimp only at hm1
            have h3 := hJ.2.2
            cases u with
            | none =>
              dsimp only at he
              have hm2 := (xm_ex_mono _ _ _ _ _ _ _ he).1
              dsimp only at hm2
              obtain ⟨H1, e2, hJ1, hO1⟩ := ih _ _ _ _ _ H _ _ hJ hc (by omega)
              rw [fl_pad] at e2
              rw [show ([] : List Value) = ([] : List Value).map (fv ρ) from rfl, e2]
              obtain ⟨H', e3, hJ2, hO2⟩ := ih _ _ _ _ _ H1 _ _ hJ1 he hl
              exact ⟨H', e3, hJ2, hO1.trans hO2⟩
            | some u =>
              dsimp only at he
              have hm2 := (xm_ex_mono _ _ _ _ _ _ _ he).1
              dsimp only at hm2
              obtain ⟨H1, e2, hJ1, hO1⟩ := ih _ _ _ _ _ H _ _ hJ hc (by omega)
              rw [fl_pad] at e2
              rw [show ([] : List Value) = ([] : List Value).map (fv ρ) from rfl, e2]
              obtain ⟨H', e3, hJ2, hO2⟩ := ih _ _ _ _ _ H1 _ _ hJ1 he hl
              exact ⟨H', e3, hJ2, hO1.trans hO2⟩
/-- a call's rule, from its run on the small heap -/
theorem xc_frame {L : Nat} {xs : Nat → Int32} {ρ : Nat → Nat} {j : Nat} {as As : List Value} {h H : xm_H} {Q : Option Value → xm_H → Prop} (hJ : fJ ρ h.length h H) (hA : as.map (fv ρ) = As) (hc : xc L xs j as h (fun r h' => h'.length = h.length ∧ ∀ H', fJ ρ h.length h' H' → fO ρ h.length H H' → Q (r.map (fv ρ)) H')) : xc L xs j As H Q := by
  obtain ⟨n, r, h', he, hl, hQ⟩ := hc
  obtain ⟨H', e1, hJ1, hO1⟩ := fr_ex _ _ _ _ _ _ H _ _ hJ he hl
  rw [fl_pad, hA] at e1
  exact ⟨n, _, H', e1, hQ H' hJ1 hO1⟩
