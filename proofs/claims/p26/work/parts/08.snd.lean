/-! a run of the abstract machine is a run of the machine -/
def xm_wk (M : xm_M) : List Jvm.Cond := Jvm.Cond.code M.2.1 M.2.2.1 M.2.2.2.1 M.2.2.2.2.1 :: xm_ws
def xm_rm (M : xm_M) (mc ms : Nat) : Room := { frames := M.2.2.2.2.2.1, cells := mc, slots := ms, locals := M.2.2.2.2.2.2 }
def xm_Pc (D : va_G) (B bs : Nat) (cI cV : ClassId) (L : Nat) (xs : Nat → Int32) (H0 : Heap) (as : List Value) (hp : xm_H) : Array Value → State → Prop := fun a U => a = (as.map (xm_va B bs)).toArray ∧ xm_P D B bs cI cV H0 hp U.heap ∧ xm_K D B bs cI cV L xs H0 U
def xm_Qc (D : va_G) (B bs : Nat) (cI cV : ClassId) (H0 : Heap) (r : Option Value) (hp' : xm_H) : Array Value → State → Outcome → State → Prop := fun _ _ o t => o = .returned (r.map (xm_va B bs)) ∧ xm_P D B bs cI cV H0 hp' t.heap
theorem xm_K.moved {D : va_G} {B bs : Nat} {cI cV : ClassId} {L : Nat} {xs : Nat → Int32} {H0 : Heap} {s U : State} (hW : s.WarmedH U.vm) (h : xm_K D B bs cI cV L xs H0 s) : xm_K D B bs cI cV L xs H0 U :=
  ⟨va_K.moved hW.alike h.1, va_X.moved hW.alike h.2.1, h.2.2.1, va_Nw.warmM hW h.2.2.2.1, va_Nw.warmM hW h.2.2.2.2.1, va_AO.moved hW.alike h.2.2.2.2.2⟩
theorem xm_blind {D : va_G} {B bs : Nat} {cI cV : ClassId} {L : Nat} {xs : Nat → Int32} {H0 : Heap} {as : List Value} {hp : xm_H} : FrameBlind (xm_Pc D B bs cI cV L xs H0 as hp) := by
  intro a U g mk h
  obtain ⟨h1, h2, h⟩ := h
  exact ⟨h1, h2, va_K.moved (u := U) (U := U.calling g mk a) (Vm.Alike.refl U.vm) h.1, va_X.moved (u := U) (U := U.calling g mk a) (Vm.Alike.refl U.vm) h.2.1, h.2.2.1, va_Nw.same rfl rfl h.2.2.2.1, va_Nw.same rfl rfl h.2.2.2.2.1, va_AO.moved (u := U) (U := U.calling g mk a) (Vm.Alike.refl U.vm) h.2.2.2.2.2⟩
def xm_Ws (B bs : Nat) (cI cV : ClassId) (hp : xm_H) : va_W := hp.mapIdx (fun i e => (bs + i, xm_ce B bs cI cV e))
theorem xm_Ws_at {B bs : Nat} {cI cV : ClassId} {hp : xm_H} {a : Nat} {e : xm_E} (h : hp[a]? = some e) : (xm_Ws B bs cI cV hp)[a]? = some (bs + a, xm_ce B bs cI cV e) := by
  unfold xm_Ws
  rw [List.getElem?_mapIdx, h]
  rfl
theorem xm_P.ws {D : va_G} {B bs : Nat} {cI cV : ClassId} {H0 H : Heap} {hp : xm_H} (h : xm_P D B bs cI cV H0 hp H) : va_P D vwCl (xm_Ws B bs cI cV hp) H := by
  intro k q hq
  unfold xm_Ws at hq
  rw [List.getElem?_mapIdx] at hq
  cases he : hp[k]? with
  | none => rw [he] at hq; cases hq
  | some e =>
    rw [he] at hq
    cases hq
    exact h.2.2 k e he
/-- a method's end -/
def xm_end (cc : ByteArray) (rt : Option FieldType) (k : Nat) (r : Option Value) (pc : Nat) (st : List Value) : Prop :=
  (decode cc pc = .ok (.ireturn, 1) ∧ (rt = some .int ∨ rt = some .boolean) ∧ ∃ u, st = [.int u] ∧ r = some (.int u) ∧ (xm_rb k = true → u = 0 ∨ u = 1)) ∨
  (decode cc pc = .ok (.areturn, 1) ∧ (∃ ty, rt = some ty ∧ ((∃ n, ty = .object n) ∨ ∃ t, ty = .array t)) ∧ ∃ u, st = [.ref u] ∧ r = some (.ref u)) ∨
  (decode cc pc = .ok (.return_, 1) ∧ rt = none ∧ st = [] ∧ r = none) ∨
  (decode cc pc = .ok (.lreturn, 1) ∧ rt = some .long ∧ ∃ u, st = [.long u] ∧ r = some (.long u))
def xm_SW (l : Launch) (D : va_G) (B bs : Nat) (cI cV : ClassId) (L : Nat) (xs : Nat → Int32) (H0 : Heap) (n : Nat) : Prop :=
  ∀ (p : Program) (e : Env) (R : Room) (s : State) (m : MethodId) (args : Array Value) (below : List Frame) (meth : Method) (c : Code) (Q : State → Prop) (k : Nat) (own : String) (yk : MethodName) (cc : ByteArray) (nL : Nat) (rt : Option FieldType) (fr lo mc ms : Nat) (r : Option Value) (hp' : xm_H),
    xm_ms[k]? = some (own, yk, cc, nL, rt, fr, lo) → p.tables.exec = Jvm.exec → c.code = cc → c.maxLocals = nL → s.vm.findClass own = some m.cls → (yk.name = "<init>" → meth.name = "<init>") → (∀ w ∈ xm_ws, w.before args s = true) → xm_K D B bs cI cV L xs H0 s → fr ≤ R.frames → lo ≤ R.locals → mc ≤ R.cells → ms ≤ R.slots →
    (∀ (pc : Nat) (st : List Value) (lsC : Array Slot) (H : Heap) (locs : List Loc), xm_end cc rt k r pc st → xm_P D B bs cI cV H0 hp' H → (∀ q ∈ locs, bs ≤ q.base) → W p l e R s m args below meth c H locs mc ms Q (F0 m pc lsC (st.map (xm_va B bs)))) →
    ∀ (pc : Nat) (ls st : List Value) (hp : xm_H) (H : Heap) (lsC : Array Slot) (locs : List Loc) (cells slots : Nat), xm_ex L xs n k pc ls st hp = some (r, hp') → xm_L (xm_lg k) B bs nL ls lsC → xm_P D B bs cI cV H0 hp H → (∀ q ∈ locs, bs ≤ q.base) → cells + hp'.length ≤ mc + hp.length → slots + xm_sz hp' ≤ ms + xm_sz hp → W p l e R s m args below meth c H locs cells slots Q (F0 m pc lsC (st.map (xm_va B bs)))
theorem xm_rb_of {k : Nat} {own : String} {yk : MethodName} {cc : ByteArray} {nL fr lo : Nat} (h : xm_ms[k]? = some (own, yk, cc, nL, some .boolean, fr, lo)) (hk : k < 92) : xm_rb k = true := by
  unfold xm_rb
  rw [h]
  show (k != 92) = true
  simp
  omega
set_option maxHeartbeats 4000000 in
theorem xm_met {l : Launch} {D : va_G} {B bs : Nat} {cI cV : ClassId} {L : Nat} {xs : Nat → Int32} {H0 : Heap} {n : Nat} (hS : xm_SW l D B bs cI cV L xs H0 n) {j : Nat} {M : xm_M} (hM : xm_ms[j]? = some M) (hj : j < 92) (hpl : plainName M.2.1.cls = true) (hown : M.1 = M.2.1.cls) {as : List Value} {hp : xm_H} {r : Option Value} {hp' : xm_H} (hlen : as.length ≤ M.2.2.2.1) (hnl : as.all xm_nl = true) (h : xm_ex L xs n j 0 (xm_pad j as) [] hp = some (r, hp')) :
    Met l M.2.1 (xm_wk M) (xm_rm M (hp'.length - hp.length) (xm_sz hp' - xm_sz hp)) (xm_Pc D B bs cI cV L xs H0 as hp) (xm_Qc D B bs cI cV H0 r hp') (hp'.length - hp.length) (xm_sz hp' - xm_sz hp) (fun q => bs ≤ q) := by
  obtain ⟨own, yk, cc, nL, rt, fr, lo⟩ := M
  refine Met.ofW (cc := cc) (maxL := nL) (ret := rt) (ws' := xm_ws) hpl rfl ?_
  intro p e s m args below meth c s₁ Bd hml hv
  obtain ⟨rfl, hP, hK⟩ := hv
  have hts := atoms_spec (ws := xm_wk (own, yk, cc, nL, rt, fr, lo)) Bd.pre
  have hmono := xm_ex_mono _ _ _ _ _ _ _ h
  have hmono1 : hp.length ≤ hp'.length := hmono.1
  have hmono2 : xm_sz hp ≤ xm_sz hp' := hmono.2
  have hx := Bd.exec
  have hb := Bd.bytes
  have hr := Bd.returns
  have hlocks := Bd.notSynchronized
  rw [lg_entry_eq]
  have hown' : own = yk.cls := hown
  refine hS p e _ s m _ below meth c _ j own yk cc nL rt fr lo (hp'.length - hp.length) (xm_sz hp' - xm_sz hp) r hp' hM hx hb hml (by rw [hown']; exact findClass_of_methodNamed Bd.named) (fun h => ((name_of_methodNamed Bd.named Bd.method).1).trans h) (fun w h => hts w (List.mem_cons_of_mem _ h)) hK (Nat.le_refl _) (Nat.le_refl _) (Nat.le_refl _) (Nat.le_refl _) ?_ 0 (xm_pad j as) [] hp s.heap _ [] 0 0 h ?_ hP (fun _ h => by cases h) (by omega) (by omega)
  · intro pc st lsC H locs hend hP' hl
    rcases hend with ⟨hd, hrt, u, rfl, rfl, hu⟩ | ⟨hd, ⟨ty, rfl, hty⟩, u, rfl, rfl⟩ | ⟨hd, rfl, rfl, rfl⟩ | ⟨hd, rfl, u, rfl, rfl⟩
    · rcases hrt with rfl | rfl
      · exact W.iret (v := u) hx hb hr (fun t ht _ => ⟨rfl, by rw [ht]; exact hP'⟩) hl hd
      · have h01 := hu (xm_rb_of hM hj)
        exact W.zret (v := u) hx hb hr (by rcases h01 with rfl | rfl <;> rfl) (fun t ht _ => ⟨rfl, by rw [ht]; exact hP'⟩) hl hd
    · exact W.aret (v := .ref (bs + u)) hx hb hr hty (Or.inr ⟨_, rfl⟩) (fun t ht _ => ⟨rfl, by rw [ht]; exact hP'⟩) hl hd
    · exact W.vret hx hb hr (fun t ht _ => ⟨rfl, by rw [ht]; exact hP'⟩) hl hd
    · exact W.lret (v := u) hx hb hr (fun t ht _ => ⟨rfl, by rw [ht]; exact hP'⟩) hl hd
  · have e1 : xm_ml j = nL := by unfold xm_ml; rw [hM]
    unfold xm_pad
    rw [e1]
    exact xm_entry (xm_lg j) B bs hlen hnl
def xm_cont (L : Nat) (xs : Nat → Int32) (n k : Nat) (r : Option Value) (hp' : xm_H) (o : xm_O) : Prop := match o with
  | .inl (pc', ls', st', hp1) => xm_ex L xs n k pc' ls' st' hp1 = some (r, hp')
  | .inr (.inl q) => q = (r, hp')
  | .inr (.inr (j, as, nx, ls', rest, hp1)) => ∃ u hp2, xm_ex L xs n j 0 (xm_pad j as) [] hp1 = some (u, hp2) ∧ xm_ex L xs n k nx ls' (u.toList ++ rest) hp2 = some (r, hp')
theorem xm_ex_cases {L : Nat} {xs : Nat → Int32} {n k pc : Nat} {ls st : List Value} {hp hp' : xm_H} {r : Option Value} (h : xm_ex L xs (n + 1) k pc ls st hp = some (r, hp')) : ∃ q o, xm_ins k pc = some q ∧ xm_step L xs (xm_rb k) pc q ls st hp = some o ∧ xm_cont L xs n k r hp' o := by
  unfold xm_ex at h
  split at h
  · cases h
  · next q hq =>
    split at h
    · cases h
    · next pc' ls' st' hp1 hs => exact ⟨q, _, hq, hs, h⟩
    · next r' hs => exact ⟨q, _, hq, hs, Option.some.inj h⟩
    · next j as nx ls' rest hp1 hs =>
      split at h
      · cases h
      · next hp2 hc => exact ⟨q, _, hq, hs, none, hp2, hc, h⟩
      · next u hp2 hc => exact ⟨q, _, hq, hs, some u, hp2, hc, h⟩
section XSND
variable {p : Program} {l : Launch} {e : Env} {R : Room} {s : State} {m : MethodId} {args : Array Value} {below : List Frame} {meth : Method} {c : Code} {H : Heap} {locs : List Loc} {cells slots : Nat} {Q : State → Prop}
variable {pc : Nat} {ls : Array Slot} {rest st0 : List Value} {a : Array Value} {mc ms : Nat}
theorem xm_callW {D : va_G} {B bs : Nat} {cI cV : ClassId} {H0 : Heap} {r : Option Value} {hp' : xm_H} (hr : va_Run p l e R s m args below meth c H locs cells slots mc ms (F0 m pc ls st0) rest (xm_Qc D B bs cI cV H0 r hp' a) (fun q => bs ≤ q)) (hl : ∀ q ∈ locs, bs ≤ q.base)
    (kk : ∀ (H1 : Heap) (locs1 : List Loc), xm_P D B bs cI cV H0 hp' H1 → (∀ q ∈ locs1, bs ≤ q.base) → W p l e R s m args below meth c H1 locs1 (cells + mc) (slots + ms) Q (F0 m (pc + 3) ls ((r.map (xm_va B bs)).toList ++ rest))) : W p l e R s m args below meth c H locs cells slots Q (F0 m pc ls st0) := by
  intro T hT X
  obtain ⟨v, st₀, t, T', Lc, h0, X', hL, e1, e2, ⟨hv, hP⟩, st⟩ := hr T hT X
  cases hv
  obtain ⟨t2, a1, b1⟩ := kk T'.heap (locs ++ Lc) (by rw [e1]; exact hP) (fun q hq => by
      rcases List.mem_append.mp hq with h | h
      · exact hl q h
      · exact hL q h) T' rfl X'
  exact ⟨t2, st t2 a1, b1⟩
theorem xm_putf {cc : ByteArray} {D : va_G} {tys : List (ClassId × FieldType)} (hexec : p.tables.exec = Jvm.exec) (hb : c.code = cc) {own C : String} {T : u_T} {N ci index : Nat} (hts : ∀ w ∈ xm_ws, w.before args s = true) (hown : s.vm.findClass own = some m.cls) (hK : va_K D vwCl tys s) (hc : vwCl[ci]? = some (C, T, N)) {k : Nat} (hk : k < N)
    (hlink : (Jvm.Cond.fieldLink own index (T k).1 (T k).2.1 (T k).2.2.1).before args s = true) (hfin : (T k).2.2.2 = false ∨ ((T k).2.2.2 = true ∧ meth.name = "<init>" ∧ (T k).1 = own)) {ty : FieldType} {v : Value} (hd : parseFieldDescriptor (T k).2.2.1 = some ty) (hn : narrow ty v = v) (hfit : fits ty v = true) {fs : List Value} (hl : k < fs.length) {a : Nat} (hat : va_at D vwCl (a, .inr (ci, fs)) H) (hdg : decode cc pc = .ok (.putfield index, 3))
    (kk : ∀ (H1 : Heap) (z : Loc), va_at D vwCl (a, .inr (ci, fs.set k v)) H1 → H1.size = H.size → (∀ q, q ≠ a → H1[q]? = H[q]?) → z.base = a → W p l e R s m args below meth c H1 (locs ++ [z]) cells slots Q (F0 m (pc + 3) ls rest)) : W p l e R s m args below meth c H locs cells slots Q (F0 m pc ls (v :: .ref a :: rest)) := by
  have hin := xm_cls_ws ci _ hc
  obtain ⟨ty0, hty, hnm, -, -⟩ := xm_cls_ty ci _ hc
  have hap := va_apart (own := own) hts hin ty0 hty hnm hK hc
  obtain ⟨r, h1, cell, q1, q2, q3, q4⟩ := hat
  have hr : r = (C, T, N) := Option.some.inj (h1.symm.trans hc)
  subst hr
  obtain ⟨hS, hfc, kC, hkC, hkind⟩ := hK.1 ci _ hc
  obtain ⟨cf, kf, fi, f, hi, hsl⟩ := hS k hk
  have hlay := hts _ (hin _ (u_in_lay hk))
  have hst := (u_facts hfc hkC (u_lays hts hin hk) hi).1
  unfold u_lay at hlay
  rcases hfin with hfin | ⟨hfin, hin2, hdecl⟩
  · rw [if_neg (by rw [hfin]; decide)] at hlay
    have h6 := u_store hfc hkC hkind hlay hi hd hn hfit
    refine W.putK hexec hb (f := f) ⟨hown, hlink, ⟨_, _, _, hi⟩, hst⟩ (by rw [q2]; exact h6) q1 q3 (by rw [hsl]; exact k2_hasslot (q4 k hk)) rfl rfl hdg fun H' e1 e2 e3 => ?_
    rw [hsl] at e1 ⊢
    exact kk H' _ ⟨_, hc, t_OB.to (V := updV (vp_V fs) k v) ⟨_, e1, q2, q3, t_set q4 hap hk v⟩ (fun j _ => vp_updV_set hl v j)⟩ e2 e3 rfl
  · rw [if_pos hfin] at hlay
    have hcf : m.cls = cf := by
      obtain ⟨_, _, c', _, _, _, -, -, hf', -, -, -, hown2, -⟩ := Cond.laysFinal_spec hlay
      have e1 : c' = cf := by have := hi.symm.trans hf'; simp at this; exact this.1.symm
      rw [hdecl] at hown2
      rw [← e1]; exact Option.some.inj (hown.symm.trans hown2)
    have h6 := u_fits hfc hkC hkind (Or.inr hlay) hi hd hn hfit
    refine W.putFinK hexec hb hown hlink hi hst hcf hin2 (by rw [q2]; exact h6) q1 q3 (by rw [hsl]; exact k2_hasslot (q4 k hk)) rfl rfl hdg fun H' e1 e2 e3 => ?_
    rw [hsl] at e1 ⊢
    exact kk H' _ ⟨_, hc, t_OB.to (V := updV (vp_V fs) k v) ⟨_, e1, q2, q3, t_set q4 hap hk v⟩ (fun j _ => vp_updV_set hl v j)⟩ e2 e3 rfl
end XSND
theorem xm_toList (B bs : Nat) (u : Option Value) (rest : List Value) : (u.map (xm_va B bs)).toList ++ rest.map (xm_va B bs) = (u.toList ++ rest).map (xm_va B bs) := by
  cases u <;> simp
theorem xm_locs {bs : Nat} {locs : List Loc} {z : Loc} (h : ∀ q ∈ locs, bs ≤ q.base) (hz : bs ≤ z.base) : ∀ q ∈ locs ++ [z], bs ≤ q.base := by
  intro q hq
  rcases List.mem_append.mp hq with h1 | h1
  · exact h q h1
  · rw [List.mem_singleton.mp h1]; exact hz
