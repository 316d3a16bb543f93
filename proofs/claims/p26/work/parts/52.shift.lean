/-! a run on a small heap, with new cells, is a run behind other cells -/
def sJ (ρ : Nat → Nat) (O h H : xm_H) : Prop := H = O ++ h.map (fe ρ) ∧ ∀ a, ρ a = O.length + a
theorem sJ.at {ρ : Nat → Nat} {O h H : xm_H} (hJ : sJ ρ O h H) : ∀ a e, h[a]? = some e → H[ρ a]? = some (fe ρ e) := by
  intro a e he
  rw [hJ.1, hJ.2, List.getElem?_append_right (by omega), show O.length + a - O.length = a by omega, List.getElem?_map, he]
  rfl
def sP (ρ : Nat → Nat) (O : xm_H) (s : Option xm_O) (o : xm_O) : Prop := match o with
  | .inl (pc', ls', st', h') => s = some (.inl (pc', ls'.map (fv ρ), st'.map (fv ρ), O ++ h'.map (fe ρ)))
  | .inr (.inl (r, h')) => s = some (.inr (.inl (r.map (fv ρ), O ++ h'.map (fe ρ))))
  | .inr (.inr (j, as, nx, ls', rest, h1)) => s = some (.inr (.inr (j, as.map (fv ρ), nx, ls'.map (fv ρ), rest.map (fv ρ), O ++ h1.map (fe ρ))))
theorem sP.keep {ρ : Nat → Nat} {pc' : Nat} {O h H : xm_H} {s : Option xm_O} {ls' st' : List Value} (hJ : sJ ρ O h H) (hs : s = some (.inl (pc', ls'.map (fv ρ), st'.map (fv ρ), H))) : sP ρ O s (.inl (pc', ls', st', h)) := by
  rw [hs, hJ.1]
  rfl
theorem sP.end {ρ : Nat → Nat} {O h H : xm_H} {s : Option xm_O} {r : Option Value} (hJ : sJ ρ O h H) (hs : s = some (.inr (.inl (r.map (fv ρ), H)))) : sP ρ O s (.inr (.inl (r, h))) := by
  rw [hs, hJ.1]
  rfl
theorem sP.call {ρ : Nat → Nat} {j nx : Nat} {O h H : xm_H} {s : Option xm_O} {as ls' rest : List Value} (hJ : sJ ρ O h H) (hs : s = some (.inr (.inr (j, as.map (fv ρ), nx, ls'.map (fv ρ), rest.map (fv ρ), H)))) : sP ρ O s (.inr (.inr (j, as, nx, ls', rest, h))) := by
  rw [hs, hJ.1]
  rfl
theorem sP.put {ρ : Nat → Nat} {a pc' : Nat} {O h H : xm_H} {s : Option xm_O} {ls' st' : List Value} {e0 e : xm_E} (hJ : sJ ρ O h H) (h0 : h[a]? = some e0) (hs : s = some (.inl (pc', ls'.map (fv ρ), st'.map (fv ρ), H.set (ρ a) (fe ρ e)))) : sP ρ O s (.inl (pc', ls', st', h.set a e)) := by
  show s = some (.inl (pc', ls'.map (fv ρ), st'.map (fv ρ), O ++ (h.set a e).map (fe ρ)))
  rw [hs, hJ.1, hJ.2, List.set_append, if_neg (by omega), show O.length + a - O.length = a by omega, List.map_set]
theorem sP.more {ρ : Nat → Nat} {pc' : Nat} {O h H : xm_H} {s : Option xm_O} {ls' st' : List Value} {e : xm_E} (hJ : sJ ρ O h H) (hs : s = some (.inl (pc', ls'.map (fv ρ), .ref H.length :: st'.map (fv ρ), H ++ [fe ρ e]))) : sP ρ O s (.inl (pc', ls', .ref h.length :: st', h ++ [e])) := by
  have e1 : ρ h.length = H.length := by rw [hJ.1, hJ.2, List.length_append, List.length_map]
  show s = some (.inl (pc', ls'.map (fv ρ), .ref (ρ h.length) :: st'.map (fv ρ), O ++ (h ++ [e]).map (fe ρ)))
  rw [hs, e1, hJ.1, List.map_append, List.append_assoc]
  rfl
theorem fe_new {ρ : Nat → Nat} {x : Nat} : fe ρ (.inr (.inr (x, xm_new x))) = .inr (.inr (x, xm_new x)) := by
  show Sum.inr (Sum.inr (x, (xm_new x).map (fv ρ))) = _
  congr 3
  unfold xm_new
  split <;> rfl
set_option maxHeartbeats 4000000 in
theorem sh_step {L : Nat} {xs : Nat → Int32} {rb : Bool} {ρ : Nat → Nat} {pc : Nat} {q : xm_Q} {ls st : List Value} {h O H : xm_H} {o : xm_O} (hJ : sJ ρ O h H) (hs : xm_step L xs rb pc q ls st h = some o) : sP ρ O (xm_step L xs rb pc q (ls.map (fv ρ)) (st.map (fv ρ)) H) o := by
  obtain ⟨i, nx, x, y, v⟩ := q
  have hG := hJ.at
  by_cases hd : ∃ a b r z, st = .int b :: .int a :: r ∧ xm_bin i a b = some z
  · obtain ⟨a, b, r, z, rfl, hz⟩ := hd
    have : o = .inl (nx, ls, .int z :: r, h) ∧ xm_step L xs rb pc (i, nx, x, y, v) (ls.map (fv ρ)) ((Value.int b :: .int a :: r).map (fv ρ)) H = some (.inl (nx, ls.map (fv ρ), .int z :: r.map (fv ρ), H)) := by
      cases i <;> first
        | (exfalso; cases hz; done)
        | (simp only [xm_step, hz, Option.some.injEq] at hs
           simp only [xm_step, List.map, fv, hz]
           exact ⟨hs.symm, trivial⟩)
    obtain ⟨rfl, h2⟩ := this
    exact sP.keep hJ h2
  · unfold xm_step at hs
    dsimp only at hs
    split at hs
    · cases hs; exact sP.keep hJ rfl
    · cases hs; exact sP.keep hJ rfl
    · cases hs; exact sP.keep hJ rfl
    · cases hs; exact sP.keep hJ rfl
    · cases hs; exact sP.keep hJ rfl
    · split at hs
      · next hl => cases hs; exact sP.keep hJ (by simp only [xm_step, fl_get hl, fv]; rfl)
      · cases hs
    · split at hs
      · next hl => cases hs; exact sP.keep hJ (by simp only [xm_step, fl_get hl, fv]; rfl)
      · cases hs
    · split at hs
      · next hl => cases hs; exact sP.keep hJ (by simp only [xm_step, fl_get hl, fv]; rfl)
      · next hl => cases hs; exact sP.keep hJ (by simp only [xm_step, fl_get hl, fv]; rfl)
      · cases hs
    · split at hs
      · split at hs
        · next hx => cases hs; exact sP.keep hJ (by simp only [xm_step, List.map, fv, List.length_map, if_pos hx, fl_set])
        · cases hs
      · cases hs
    · split at hs
      · split at hs
        · next hx => cases hs; exact sP.keep hJ (by simp only [xm_step, List.map, fv, List.length_map, if_pos hx, fl_set])
        · cases hs
      · cases hs
    · split at hs
      · split at hs
        · next hx => cases hs; exact sP.keep hJ (by simp only [xm_step, List.map, fv, List.length_map, if_pos hx, fl_set])
        · cases hs
      · cases hs
    · split at hs
      · next hl => cases hs; exact sP.keep hJ (by simp only [xm_step, fl_get hl, fv, fl_set])
      · cases hs
    · split at hs
      · cases hs; exact sP.keep hJ rfl
      · cases hs
    · split at hs
      · cases hs; exact sP.keep hJ rfl
      · cases hs
    · cases hs; exact sP.keep hJ rfl
    · split at hs
      · split at hs
        · next hx => cases hs; exact sP.keep hJ (by simp only [xm_step, List.map, fl_nl, if_pos hx])
        · cases hs
      · cases hs
    · split at hs
      · split at hs
        · next hx => cases hs; exact sP.keep hJ (by simp only [xm_step, List.map, fl_nl, if_pos hx])
        · cases hs
      · cases hs
    · split at hs
      · split at hs
        · next hx => cases hs; exact sP.keep hJ (by simp only [xm_step, List.map, fl_nl, if_pos hx])
        · cases hs
      · cases hs
    · cases hs; exact sP.keep hJ rfl
    · split at hs
      · next hl => cases hs; exact sP.keep hJ (by simp only [xm_step, fl_get hl, fv]; rfl)
      · cases hs
    · split at hs
      · next hl => cases hs; exact sP.keep hJ (by simp only [xm_step, fl_get hl, fv]; rfl)
      · cases hs
    · split at hs
      · split at hs
        · next hx => cases hs; exact sP.keep hJ (by simp only [xm_step, List.map, fv, List.length_map, if_pos hx, fl_set])
        · cases hs
      · cases hs
    · split at hs
      · split at hs
        · next hx => cases hs; exact sP.keep hJ (by simp only [xm_step, List.map, fv, List.length_map, if_pos hx, fl_set])
        · cases hs
      · cases hs
    · split at hs
      · cases hs; exact sP.keep hJ rfl
      · cases hs
    · split at hs
      · cases hs; exact sP.keep hJ rfl
      · cases hs
    · split at hs
      · cases hs; exact sP.keep hJ rfl
      · cases hs
    · split at hs
      · cases hs; exact sP.keep hJ rfl
      · cases hs
    · split at hs
      · cases hs; exact sP.end hJ rfl
      · cases hs
    · split at hs
      · split at hs
        · next hc =>
          split at hs
          · next hx =>
            split at hs
            · next hf => cases hs; exact sP.keep hJ (by simp only [xm_step, List.map, fv, hG _ _ hc, fe, if_pos hx, fl_get hf])
            · cases hs
          · cases hs
        · cases hs
      · cases hs
    · split at hs
      · split at hs
        · next hc =>
          split at hs
          · next hx => cases hs; exact sP.put hJ hc (by simp only [xm_step, List.map, fv, hG _ _ hc, fe, List.length_map, if_pos hx, fl_set])
          · cases hs
        · cases hs
      · split at hs
        · next hc =>
          split at hs
          · next hx => cases hs; exact sP.put hJ hc (by simp only [xm_step, List.map, fv, hG _ _ hc, fe, List.length_map, if_pos hx, fl_set])
          · cases hs
        · cases hs
      · cases hs
    · split at hs
      · split at hs
        · next hc =>
          split at hs
          · cases hs
          · next hx => cases hs; exact sP.keep hJ (by simp only [xm_step, List.map, fv, hG _ _ hc, fe, if_neg hx])
        · cases hs
      · split at hs
        · cases hs
        · next hx => cases hs; exact sP.keep hJ (by simp only [xm_step, List.map, fv, if_neg hx])
      · cases hs
    · split at hs
      · split at hs
        · next hc =>
          split at hs
          · cases hs
          · next hx => cases hs; exact sP.put hJ hc (by simp only [xm_step, List.map, fv, hG _ _ hc, fe, if_neg hx])
        · cases hs
      · cases hs
    · split at hs
      · split at hs
        · next hc =>
          split at hs
          · cases hs
          · next hx =>
            split at hs
            · next hf => cases hs; exact sP.keep hJ (by simp only [xm_step, List.map, fv, hG _ _ hc, fe, if_neg hx, hf, Option.map])
            · cases hs
        · cases hs
      · cases hs
    · split at hs
      · split at hs
        · next hc =>
          split at hs
          · cases hs
          · next hx =>
            split at hs
            · next hf =>
              split at hs
              · next hy => cases hs; exact sP.put hJ hc (by simp only [xm_step, List.map, fv, hG _ _ hc, hG _ _ hf, fe, if_neg hx, if_pos hy, fl_up])
              · cases hs
            · cases hs
        · cases hs
      · cases hs
    · split at hs
      · split at hs
        · next hc => cases hs; exact sP.keep hJ (by simp only [xm_step, List.map, fv, hG _ _ hc, fe])
        · cases hs
      · cases hs; exact sP.keep hJ rfl
      · cases hs
    · split at hs
      · split at hs
        · cases hs
        · next hx => cases hs; exact sP.more hJ (by simp only [xm_step, List.map, fv, if_neg hx]; rfl)
      · cases hs
    · split at hs
      · split at hs
        · cases hs
        · next hx => cases hs; exact sP.more hJ (by simp only [xm_step, List.map, fv, if_neg hx]; rfl)
      · cases hs
    · cases hs; exact sP.more hJ (by rw [fe_new]; rfl)
    · split at hs
      · split at hs
        · next hx =>
          split at hs
          · next ht => cases hs; exact sP.keep hJ (by simp only [xm_step, List.map, fv, if_pos hx, ht])
          · cases hs
        · next hx =>
          split at hs
          · next ho =>
            split at hs
            · next ht => cases hs; exact sP.keep hJ (by simp only [xm_step, List.map, fv, if_neg hx, ho, ht])
            · cases hs
          · cases hs
      · cases hs
    · split at hs
      · split at hs
        · next ht => cases hs; exact sP.keep hJ (by simp only [xm_step, List.map, fv, ht])
        · cases hs
      · cases hs
    · split at hs
      · split at hs
        · cases hs
        · next hx => cases hs; exact sP.end hJ (by simp only [xm_step, List.map, fv, if_neg hx]; rfl)
      · cases hs
    · split at hs
      · cases hs; exact sP.end hJ rfl
      · cases hs
    · split at hs
      · cases hs; exact sP.end hJ rfl
      · cases hs
    · split at hs
      · next ht =>
        split at hs
        · next hc =>
          split at hs
          · next hx =>
            cases hs
            refine sP.call hJ ?_
            have e1 := fl_take (ρ := ρ) ht
            simp only [xm_step, e1, hG _ _ hc, fe, List.length_map, ← List.map_drop, fl_all2, if_pos hx]
            rfl
          · cases hs
        · cases hs
      · cases hs
    · split at hs
      · next hx =>
        split at hs
        · split at hs
          · next hc hd =>
            split at hs
            · cases hs
            · next hy => cases hs; exact sP.put hJ hd (by simp only [xm_step, if_pos hx, List.map, fv, hG _ _ hc, hG _ _ hd, fe, List.length_map, if_neg hy])
          · cases hs
        · cases hs
      · next hx =>
        split at hs
        · next hy =>
          split at hs
          · split at hs
            · cases hs
            · next hz => cases hs; exact sP.keep hJ (by simp only [xm_step, if_neg hx, if_pos hy, List.map, fv, List.length_map, if_neg hz])
          · cases hs
        · next hy =>
          split at hs
          · next hz =>
            cases hs
            exact sP.call hJ (by simp only [xm_step, if_neg hx, if_neg hy, List.length_map, ← List.map_drop, ← List.map_take, ← List.map_reverse, fl_all, if_pos hz])
          · cases hs
    · split at hs
      · next hx =>
        split at hs
        · split at hs
          · cases hs
          · next hz => cases hs; exact sP.keep hJ (by simp only [xm_step, if_pos hx, List.map, fv, List.length_map, if_neg hz])
        · cases hs
      · next hx =>
        split at hs
        · next ht =>
          split at hs
          · next hz =>
            cases hs
            have e1 := fl_take (ρ := ρ) ht
            refine sP.call hJ ?_
            simp only [xm_step, if_neg hx, e1, List.length_map, ← List.map_drop, fl_all2, if_pos hz]
            rfl
          · cases hs
        · cases hs
    · split at hs
      · split at hs
        · next hz => exact absurd ⟨_, _, _, _, rfl, hz⟩ hd
        · cases hs
      · cases hs
theorem sh_ex {L : Nat} {xs : Nat → Int32} {ρ : Nat → Nat} {O : xm_H} : ∀ (n k pc : Nat) (ls st : List Value) (h H : xm_H) (r : Option Value) (h' : xm_H), sJ ρ O h H → xm_ex L xs n k pc ls st h = some (r, h') → xm_ex L xs n k pc (ls.map (fv ρ)) (st.map (fv ρ)) H = some (r.map (fv ρ), O ++ h'.map (fe ρ)) := by
  intro n
  induction n with
  | zero => intro k pc ls st h H r h' hJ he; cases he
  | succ n ih =>
    intro k pc ls st h H r h' hJ he
    rw [xm_ex] at he ⊢
    cases hq : xm_ins k pc with
    | none => rw [hq] at he; cases he
    | some q =>
      rw [hq] at he
      dsimp only at he ⊢
      cases hs : xm_step L xs (xm_rb k) pc q ls st h with
      | none => rw [hs] at he; cases he
      | some o =>
        rw [hs] at he
        have hP := sh_step hJ hs
        have again : ∀ h1 : xm_H, sJ ρ O h1 (O ++ h1.map (fe ρ)) := fun h1 => ⟨rfl, hJ.2⟩
        obtain ⟨pc', ls', st', h1⟩ | ⟨r', h1⟩ | ⟨j, as, nx, ls', rest, h1⟩ := o
        · dsimp only at he
          have hP : xm_step L xs (xm_rb k) pc q (ls.map (fv ρ)) (st.map (fv ρ)) H = _ := hP
          rw [hP]
          exact ih _ _ _ _ _ _ _ _ (again h1) he
        · cases he
          have hP : xm_step L xs (xm_rb k) pc q (ls.map (fv ρ)) (st.map (fv ρ)) H = _ := hP
          rw [hP]
        · have hP : xm_step L xs (xm_rb k) pc q (ls.map (fv ρ)) (st.map (fv ρ)) H = _ := hP
          rw [hP]
          dsimp only at he ⊢
          cases hc : xm_ex L xs n j 0 (xm_pad j as) [] h1 with
          | none => rw [hc] at he; cases he
          | some w =>
            rw [hc] at he
            obtain ⟨u, h2⟩ := w
            have e2 := ih _ _ _ _ _ _ _ _ (again h1) hc
            rw [fl_pad] at e2
            rw [show ([] : List Value) = ([] : List Value).map (fv ρ) from rfl, e2]
            cases u with
            | none => exact ih _ _ _ _ _ _ _ _ (again h2) he
            | some u => exact ih _ _ _ _ _ _ _ _ (again h2) he
theorem xc_new {L : Nat} {xs : Nat → Int32} {Q : Option Value → xm_H → Prop} {j n : Nat} {as As : List Value} {h O H : xm_H} (hn : O.length = n) (hH : H = O ++ h.map (fe (n + ·))) (hA : as.map (fv (n + ·)) = As) (hc : xc L xs j as h (fun r h' => Q (r.map (fv (n + ·))) (O ++ h'.map (fe (n + ·))))) : xc L xs j As H Q := by
  obtain ⟨g, r, h', he, hQ⟩ := hc
  have h1 := sh_ex (ρ := (n + ·)) (O := O) _ _ _ _ _ _ H _ _ ⟨hH, fun a => by rw [hn]⟩ he
  rw [fl_pad, hA] at h1
  exact ⟨g, _, _, h1, hQ⟩
