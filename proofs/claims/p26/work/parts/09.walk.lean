/-! every instruction: the abstract step is the machine's step -/
/-- a callee's room and words, out of the check -/
theorem xm_CB {R : Room} {s : State} {args : Array Value} {own : String} {n fr lo x y pn mc ms : Nat} {ps : List Nat} {M : xm_M} (hts : ∀ w ∈ xm_ws, w.before args s = true) (hM : xm_ms[x]? = some M) (hC : xm_okC ps fr lo x M y pn = true) (hfr : fr ≤ R.frames) (hlo : lo ≤ R.locals) (hl : (Jvm.Cond.methodLink own n M.2.1).before args s = true) :
    CallB R s args own n M.2.1 M.2.2.1 M.2.2.2.1 M.2.2.2.2.1 (xm_wk M) (xm_rm M mc ms) mc ms pn ∧ x < 92 ∧ y ≤ M.2.2.2.1 ∧ M.1 = M.2.1.cls ∧ plainName M.2.1.cls = true := by
  obtain ⟨own', yk, cc, nL, rt, frj, loj⟩ := M
  simp only [xm_okC, Bool.and_eq_true, decide_eq_true_eq] at hC
  obtain ⟨h1, h2, h3, h4, h5, h6, h7, h8⟩ := hC
  have hcode := xm_code h1 hM
  have hG : GoodIn xm_ws (xm_wk (own', yk, cc, nL, rt, frj, loj)) := by
    intro w hw
    rcases List.mem_cons.mp hw with rfl | hw
    · exact xm_ws_good _ hcode
    · exact xm_ws_good _ hw
  exact ⟨callB_of (Ts := xm_ws) (ws' := xm_ws) pn hts hG rfl rfl rfl (hts _ (xm_mem_ws h2)) hl ⟨h3.1, h3.2, h4⟩ ⟨Nat.le_trans h5.1 hfr, Nat.le_trans h5.2 hlo⟩, h1, h6, h7, h8⟩
theorem xm_CN {R : Room} {s : State} {args : Array Value} {own : String} {n fr lo x y pn mc ms : Nat} {ps : List Nat} {M : xm_M} (host : String) (hts : ∀ w ∈ xm_ws, w.before args s = true) (hM : xm_ms[x]? = some M) (hC : xm_okC ps fr lo x M y pn = true) (hfr : fr ≤ R.frames) (hlo : lo ≤ R.locals) (hl : va_Nw (.methodLinkNest own n M.2.1 host) s) :
    va_CN R s args own n M.2.1 host M.2.2.1 M.2.2.2.1 M.2.2.2.2.1 (xm_wk M) (xm_rm M mc ms) mc ms pn ∧ x < 92 ∧ y ≤ M.2.2.2.1 ∧ M.1 = M.2.1.cls ∧ plainName M.2.1.cls = true := by
  obtain ⟨own', yk, cc, nL, rt, frj, loj⟩ := M
  simp only [xm_okC, Bool.and_eq_true, decide_eq_true_eq] at hC
  obtain ⟨h1, h2, h3, h4, h5, h6, h7, h8⟩ := hC
  have hcode := xm_code h1 hM
  have hG : GoodIn xm_ws (xm_wk (own', yk, cc, nL, rt, frj, loj)) := by
    intro w hw
    rcases List.mem_cons.mp hw with rfl | hw
    · exact xm_ws_good _ hcode
    · exact xm_ws_good _ hw
  exact ⟨va_cnB (Ts := xm_ws) (ws' := xm_ws) pn hts hG rfl rfl rfl hl (hts _ (xm_mem_ws h2)) ⟨h3.1, h3.2, h4⟩ ⟨Nat.le_trans h5.1 hfr, Nat.le_trans h5.2 hlo⟩, h1, h6, h7, h8⟩
theorem xm_preS {D : va_G} {B bs : Nat} {cI cV : ClassId} {L : Nat} {xs : Nat → Int32} {H0 H : Heap} {s : State} {hp : xm_H} (hP : xm_P D B bs cI cV H0 hp H) (hK : xm_K D B bs cI cV L xs H0 s) (as : List Value) : PreS s H (xm_Pc D B bs cI cV L xs H0 as hp) (as.map (xm_va B bs)) :=
  ⟨xm_blind, fun U hU hW => ⟨rfl, by rw [hU]; exact hP, hK.moved hW⟩⟩
set_option maxHeartbeats 4000000 in
theorem xm_walk (l : Launch) (D : va_G) (B bs : Nat) (cI cV : ClassId) (L : Nat) (xs : Nat → Int32) (H0 : Heap) : ∀ n, xm_SW l D B bs cI cV L xs H0 n := by
  intro n
  induction n with
  | zero =>
    intro p e R s m args below meth c Q k own yk cc nL rt fr lo mc ms r hp' _ _ _ _ _ _ _ _ _ _ _ _ _ pc ls st hp H lsC locs cells slots h
    cases h
  | succ n ih =>
    intro p e R s m args below meth c Q k own yk cc nL rt fr lo mc ms r hp' hM hx hb hml hown hname hts hK hfr hlo hmc hms hret pc ls st hp H lsC locs cells slots h hL hP hlocs hcl hsl
    have go := ih p e R s m args below meth c Q k own yk cc nL rt fr lo mc ms r hp' hM hx hb hml hown hname hts hK hfr hlo hmc hms hret
    have hmono := xm_ex_mono _ _ _ _ _ _ _ h
    have hmA : hp.length ≤ hp'.length := hmono.1
    have hmB : xm_sz hp ≤ xm_sz hp' := hmono.2
    obtain ⟨q, o, hq, hs, hk⟩ := xm_ex_cases h
    obtain ⟨i, nx, x, y, v⟩ := q
    obtain ⟨hd, hn, ps, hX⟩ := xm_ok hM hq
    have hlg := xm_lgok hq
    cases i
    case iconst z =>
      cases xv_iconst hs
      simp only [xm_okX, decide_eq_true_eq] at hX
      have hn : nx = pc + 1 := hn
      subst hn
      exact lv_iconst hx hb hd hX (go _ _ _ _ _ _ _ _ _ hk hL hP hlocs hcl hsl)
    case bipush z =>
      cases xv_bipush hs
      simp only [xm_okX, decide_eq_true_eq] at hX
      have hn : nx = pc + 2 := hn
      subst hn
      exact lv_bipush hx hb hd hX (go _ _ _ _ _ _ _ _ _ hk hL hP hlocs hcl hsl)
    case sipush z =>
      cases xv_sipush hs
      simp only [xm_okX, decide_eq_true_eq] at hX
      have hn : nx = pc + 3 := hn
      subst hn
      exact lv_sipush hx hb hd hX (go _ _ _ _ _ _ _ _ _ hk hL hP hlocs hcl hsl)
    case ldc z =>
      cases xv_ldc hs
      simp only [xm_okX] at hX
      have hn : nx = pc + 2 := hn
      subst hn
      exact lv_ldc hx hb hown (hts _ (xm_mem_ws hX)) hd (go _ _ _ _ _ _ _ _ _ hk hL hP hlocs hcl hsl)
    case ldc_w z =>
      cases xv_ldc_w hs
      simp only [xm_okX] at hX
      have hn : nx = pc + 3 := hn
      subst hn
      exact lv_ldcw hx hb hown (hts _ (xm_mem_ws hX)) hd (go _ _ _ _ _ _ _ _ _ hk hL hP hlocs hcl hsl)
    case iload_n z =>
      obtain ⟨u, hu, rfl⟩ := xv_iload_n hs
      simp only [xm_okX, decide_eq_true_eq] at hX
      have hn : nx = pc + 1 := hn
      subst hn
      exact lv_iload_n (x := u) hx hb hd hX (hL.get hu (fun h => by cases h)) (go _ _ _ _ _ _ _ _ _ hk hL hP hlocs hcl hsl)
    case iload z =>
      obtain ⟨u, hu, rfl⟩ := xv_iload hs
      simp only [xm_okX, decide_eq_true_eq] at hX
      subst hX
      have hn : nx = pc + 2 := hn
      subst hn
      exact lv_iload (x := u) hx hb hd (hL.get hu (fun h => by cases h)) (go _ _ _ _ _ _ _ _ _ hk hL hP hlocs hcl hsl)
    case aload_n z =>
      obtain ⟨w, hw, hw2, rfl⟩ := xv_aload_n hs
      simp only [xm_okX, decide_eq_true_eq] at hX
      have hn : nx = pc + 1 := hn
      subst hn
      rcases hw2 with ⟨a, rfl⟩ | ⟨a, rfl⟩
      · exact lv_aload_n (x := bs + a) hx hb hd hX (hL.get hw (fun h => by cases h)) (go _ _ _ _ _ _ _ _ _ hk hL hP hlocs hcl hsl)
      · exact lv_aload_n (x := B) hx hb hd hX (hL.get hw (fun h => by cases h)) (go _ _ _ _ _ _ _ _ _ hk hL hP hlocs hcl hsl)
    case istore_n z =>
      obtain ⟨u, r0, rfl, hxl, rfl⟩ := xv_istore_n hs
      simp only [xm_okX, decide_eq_true_eq] at hX
      have hn : nx = pc + 1 := hn
      subst hn
      obtain ⟨hlen, lst, hl1, hl2, hl3⟩ := hL
      exact lv_istore_n (x := u) (i := x) hx hb hd hX hl1 (by omega) rfl (fun ls' hl' => go _ _ _ _ _ _ _ _ _ hk (xm_L.put (v := .int u) rfl (xm_lgn hlg) hlen hl3 hl2 hl') hP hlocs hcl hsl)
    case istore z =>
      obtain ⟨u, r0, rfl, hxl, rfl⟩ := xv_istore hs
      simp only [xm_okX, decide_eq_true_eq] at hX
      subst hX
      have hn : nx = pc + 2 := hn
      subst hn
      obtain ⟨hlen, lst, hl1, hl2, hl3⟩ := hL
      exact lv_istore (x := u) hx hb hd hl1 (by omega) rfl (fun ls' hl' => go _ _ _ _ _ _ _ _ _ hk (xm_L.put (v := .int u) rfl (xm_lgn hlg) hlen hl3 hl2 hl') hP hlocs hcl hsl)
    case astore_n z =>
      obtain ⟨u, r0, rfl, hxl, rfl⟩ := xv_astore_n hs
      simp only [xm_okX, decide_eq_true_eq] at hX
      have hn : nx = pc + 1 := hn
      subst hn
      obtain ⟨hlen, lst, hl1, hl2, hl3⟩ := hL
      exact lv_astore_n (x := bs + u) (i := x) hx hb hd hX hl1 (by omega) rfl (fun ls' hl' => go _ _ _ _ _ _ _ _ _ hk (xm_L.put (v := .ref u) rfl (xm_lgn hlg) hlen hl3 hl2 hl') hP hlocs hcl hsl)
    case iinc z z2 =>
      obtain ⟨u, hu, rfl⟩ := xv_iinc hs
      simp only [xm_okX, decide_eq_true_eq] at hX
      obtain ⟨hX1, hX2⟩ := hX
      subst hX1
      have hn : nx = pc + 3 := hn
      subst hn
      obtain ⟨hlen, lst, hl1, hl2, hl3⟩ := hL
      obtain ⟨kk, hkk⟩ := List.getElem?_of_mem (hl3 z (.int u) hu (fun h => by cases h))
      have hzl : z < ls.length := (List.getElem?_eq_some_iff.mp hu).1
      exact lv_iinc (x := u) hx hb hd hl1 hkk (by rw [hX2]) (by omega) rfl (fun ls' hl' => go _ _ _ _ _ _ _ _ _ hk (xm_L.put (v := .int (u + xm_i v)) rfl (xm_lgn hlg) hlen hl3 hl2 hl') hP hlocs hcl hsl)
    case ifCond c z =>
      obtain ⟨a, r0, rfl, rfl⟩ := xv_ifCond hs
      simp only [xm_okX, decide_eq_true_eq] at hX
      have hn : nx = pc + 3 := hn
      subst hn
      have hk : xm_ex L xs n k (if xm_cb c a 0 then x else pc + 3) ls r0 hp = some (r, hp') := hk
      cases c
      case eq =>
        simp only [xm_cb, decide_eq_true_eq] at hk
        exact lv_if_eq (x := a) hx hb hd hX (fun hc => go _ _ _ _ _ _ _ _ _ (by rw [if_pos hc] at hk; exact hk) hL hP hlocs hcl hsl) (fun hc => go _ _ _ _ _ _ _ _ _ (by rw [if_neg hc] at hk; exact hk) hL hP hlocs hcl hsl)
      case ne =>
        simp only [xm_cb, decide_eq_true_eq] at hk
        exact lv_if_ne (x := a) hx hb hd hX (fun hc => go _ _ _ _ _ _ _ _ _ (by rw [if_pos hc] at hk; exact hk) hL hP hlocs hcl hsl) (fun hc => go _ _ _ _ _ _ _ _ _ (by rw [if_neg (fun q => q hc)] at hk; exact hk) hL hP hlocs hcl hsl)
      case lt =>
        simp only [xm_cb, decide_eq_true_eq] at hk
        exact lv_if_lt (x := a) hx hb hd hX (fun hc => go _ _ _ _ _ _ _ _ _ (by rw [if_pos hc] at hk; exact hk) hL hP hlocs hcl hsl) (fun hc => go _ _ _ _ _ _ _ _ _ (by rw [if_neg hc] at hk; exact hk) hL hP hlocs hcl hsl)
      case ge =>
        simp only [xm_cb, decide_eq_true_eq] at hk
        exact lv_if_ge (x := a) hx hb hd hX (fun hc => go _ _ _ _ _ _ _ _ _ (by rw [if_pos hc] at hk; exact hk) hL hP hlocs hcl hsl) (fun hc => go _ _ _ _ _ _ _ _ _ (by rw [if_neg hc] at hk; exact hk) hL hP hlocs hcl hsl)
      case gt =>
        simp only [xm_cb, decide_eq_true_eq] at hk
        exact lv_if_gt (x := a) hx hb hd hX (fun hc => go _ _ _ _ _ _ _ _ _ (by rw [if_pos hc] at hk; exact hk) hL hP hlocs hcl hsl) (fun hc => go _ _ _ _ _ _ _ _ _ (by rw [if_neg hc] at hk; exact hk) hL hP hlocs hcl hsl)
      case le =>
        simp only [xm_cb, decide_eq_true_eq] at hk
        exact lv_if_le (x := a) hx hb hd hX (fun hc => go _ _ _ _ _ _ _ _ _ (by rw [if_pos hc] at hk; exact hk) hL hP hlocs hcl hsl) (fun hc => go _ _ _ _ _ _ _ _ _ (by rw [if_neg hc] at hk; exact hk) hL hP hlocs hcl hsl)
    case if_icmp c z =>
      obtain ⟨a, b, r0, rfl, rfl⟩ := xv_icmp hs
      simp only [xm_okX, decide_eq_true_eq] at hX
      have hn : nx = pc + 3 := hn
      subst hn
      have hk : xm_ex L xs n k (if xm_cb c a b then x else pc + 3) ls r0 hp = some (r, hp') := hk
      cases c
      case eq =>
        simp only [xm_cb, decide_eq_true_eq] at hk
        exact lv_icmp_eq (x := a) (y := b) hx hb hd hX (fun hc => go _ _ _ _ _ _ _ _ _ (by rw [if_pos hc] at hk; exact hk) hL hP hlocs hcl hsl) (fun hc => go _ _ _ _ _ _ _ _ _ (by rw [if_neg hc] at hk; exact hk) hL hP hlocs hcl hsl)
      case ne =>
        simp only [xm_cb, decide_eq_true_eq] at hk
        exact lv_icmp_ne (x := a) (y := b) hx hb hd hX (fun hc => go _ _ _ _ _ _ _ _ _ (by rw [if_pos hc] at hk; exact hk) hL hP hlocs hcl hsl) (fun hc => go _ _ _ _ _ _ _ _ _ (by rw [if_neg (fun q => q hc)] at hk; exact hk) hL hP hlocs hcl hsl)
      case lt =>
        simp only [xm_cb, decide_eq_true_eq] at hk
        exact lv_icmp_lt (x := a) (y := b) hx hb hd hX (fun hc => go _ _ _ _ _ _ _ _ _ (by rw [if_pos hc] at hk; exact hk) hL hP hlocs hcl hsl) (fun hc => go _ _ _ _ _ _ _ _ _ (by rw [if_neg hc] at hk; exact hk) hL hP hlocs hcl hsl)
      case ge =>
        simp only [xm_cb, decide_eq_true_eq] at hk
        exact lv_icmp_ge (x := a) (y := b) hx hb hd hX (fun hc => go _ _ _ _ _ _ _ _ _ (by rw [if_pos hc] at hk; exact hk) hL hP hlocs hcl hsl) (fun hc => go _ _ _ _ _ _ _ _ _ (by rw [if_neg hc] at hk; exact hk) hL hP hlocs hcl hsl)
      case gt =>
        simp only [xm_cb, decide_eq_true_eq] at hk
        exact lv_icmp_gt (x := a) (y := b) hx hb hd hX (fun hc => go _ _ _ _ _ _ _ _ _ (by rw [if_pos hc] at hk; exact hk) hL hP hlocs hcl hsl) (fun hc => go _ _ _ _ _ _ _ _ _ (by rw [if_neg hc] at hk; exact hk) hL hP hlocs hcl hsl)
      case le =>
        simp only [xm_cb, decide_eq_true_eq] at hk
        exact lv_icmp_le (x := a) (y := b) hx hb hd hX (fun hc => go _ _ _ _ _ _ _ _ _ (by rw [if_pos hc] at hk; exact hk) hL hP hlocs hcl hsl) (fun hc => go _ _ _ _ _ _ _ _ _ (by rw [if_neg hc] at hk; exact hk) hL hP hlocs hcl hsl)
    case goto z =>
      cases xv_goto hs
      simp only [xm_okX, decide_eq_true_eq] at hX
      exact lv_goto hx hb hd hX (go _ _ _ _ _ _ _ _ _ hk hL hP hlocs hcl hsl)
    case pop =>
      obtain ⟨a, r0, rfl, hna, rfl⟩ := xv_pop hs
      have hn : nx = pc + 1 := hn
      subst hn
      exact lv_pop hx hb hd (xm_va_cat B bs hna) (go _ _ _ _ _ _ _ _ _ hk hL hP hlocs hcl hsl)
    case dup =>
      obtain ⟨a, r0, rfl, hna, rfl⟩ := xv_dup hs
      have hn : nx = pc + 1 := hn
      subst hn
      exact lv_dup hx hb hd (xm_va_cat B bs hna) (go _ _ _ _ _ _ _ _ _ hk hL hP hlocs hcl hsl)
    case dup2 =>
      obtain ⟨a, b, r0, rfl, ⟨hna, hnb⟩, rfl⟩ := xv_dup2 hs
      have hn : nx = pc + 1 := hn
      subst hn
      exact lv_dup2_11 hx hb hd (xm_va_cat B bs hna) (xm_va_cat B bs hnb) (go _ _ _ _ _ _ _ _ _ hk hL hP hlocs hcl hsl)
    case ldc2_w z =>
      cases xv_ldc2w hs
      simp only [xm_okX] at hX
      have hn : nx = pc + 3 := hn
      subst hn
      exact lv_ldc2 hx hb hown (hts _ (xm_mem_ws hX)) hd (go _ _ _ _ _ _ _ _ _ hk hL hP hlocs hcl hsl)
    case lload_n z =>
      obtain ⟨u, hu, rfl⟩ := xv_lload_n hs
      simp only [xm_okX, decide_eq_true_eq] at hX
      have hn : nx = pc + 1 := hn
      subst hn
      exact lv_lload_n (x := u) hx hb hd hX (hL.get hu (fun h => by cases h)) (go _ _ _ _ _ _ _ _ _ hk hL hP hlocs hcl hsl)
    case lload z =>
      obtain ⟨u, hu, rfl⟩ := xv_lload hs
      simp only [xm_okX, decide_eq_true_eq] at hX
      subst hX
      have hn : nx = pc + 2 := hn
      subst hn
      exact lv_lload (x := u) hx hb hd (hL.get hu (fun h => by cases h)) (go _ _ _ _ _ _ _ _ _ hk hL hP hlocs hcl hsl)
    case lstore_n z =>
      obtain ⟨u, r0, rfl, hxl, rfl⟩ := xv_lstore_n hs
      simp only [xm_okX, decide_eq_true_eq] at hX
      have hn : nx = pc + 1 := hn
      subst hn
      obtain ⟨hlen, lst, hl1, hl2, hl3⟩ := hL
      simp only [xm_lgq, Bool.and_eq_true] at hlg
      exact lv_lstore_n (x := u) (i := x) hx hb hd hX hl1 (by omega) rfl (fun ls' hl' => go _ _ _ _ _ _ _ _ _ hk (xm_L.putl (xm_lgn hlg.1) (by simpa using hlg.2) hlen hl3 hl2 hl') hP hlocs hcl hsl)
    case lstore z =>
      obtain ⟨u, r0, rfl, hxl, rfl⟩ := xv_lstore hs
      simp only [xm_okX, decide_eq_true_eq] at hX
      subst hX
      have hn : nx = pc + 2 := hn
      subst hn
      obtain ⟨hlen, lst, hl1, hl2, hl3⟩ := hL
      simp only [xm_lgq, Bool.and_eq_true] at hlg
      exact lv_lstore (x := u) hx hb hd hl1 (by omega) rfl (fun ls' hl' => go _ _ _ _ _ _ _ _ _ hk (xm_L.putl (xm_lgn hlg.1) (by simpa using hlg.2) hlen hl3 hl2 hl') hP hlocs hcl hsl)
    case i2l =>
      obtain ⟨a, r0, rfl, rfl⟩ := xv_i2l hs
      have hn : nx = pc + 1 := hn
      subst hn
      exact lv_i2l hx hb hd rfl (go _ _ _ _ _ _ _ _ _ hk hL hP hlocs hcl hsl)
    case ladd =>
      obtain ⟨a, b, r0, rfl, rfl⟩ := xv_ladd hs
      have hn : nx = pc + 1 := hn
      subst hn
      exact lv_ladd hx hb hd (go _ _ _ _ _ _ _ _ _ hk hL hP hlocs hcl hsl)
    case lmul =>
      obtain ⟨a, b, r0, rfl, rfl⟩ := xv_lmul hs
      have hn : nx = pc + 1 := hn
      subst hn
      exact lv_lmul hx hb hd (go _ _ _ _ _ _ _ _ _ hk hL hP hlocs hcl hsl)
    case lcmp =>
      obtain ⟨a, b, r0, rfl, rfl⟩ := xv_lcmp hs
      have hn : nx = pc + 1 := hn
      subst hn
      exact W.lcmp hx hb hd (go _ _ _ _ _ _ _ _ _ hk hL hP hlocs hcl hsl)
    case lreturn =>
      obtain ⟨u, rfl, rfl⟩ := xv_lreturn hs
      cases hk
      simp only [xm_okX, decide_eq_true_eq] at hX
      exact W.widen (by omega) (by omega) (hret pc [.long u] lsC H locs (Or.inr (Or.inr (Or.inr ⟨hd, hX, u, rfl, rfl⟩))) hP hlocs)
    case getfield z =>
      obtain ⟨a, r0, fs, u, rfl, ha, hu, rfl⟩ := xv_getfield hs
      have hn : nx = pc + 3 := hn
      subst hn
      simp only [xm_okX] at hX
      split at hX
      · next C T N hc =>
        simp only [Bool.and_eq_true, decide_eq_true_eq] at hX
        have hv : (fs.map (xm_va B bs))[y]? = some (xm_va B bs u) := by rw [List.getElem?_map, hu]; rfl
        exact va_get (D := D) (cl := vwCl) (C := C) (T := T) (N := N) (ci := x) hx hb hts (xm_cls_ws x _ hc) hown hK.1 hP.ws a (xm_Ws_at ha) hc y hX.1 (hts _ (xm_mem_ws hX.2)) (fun _ h => h) hv hd (go _ _ _ _ _ _ _ _ _ hk hL hP hlocs hcl hsl)
      · cases hX
    case putfield z =>
      obtain ⟨u, a, r0, fs, rfl, ha, hy, hu, rfl⟩ := xv_putfield hs
      have hn : nx = pc + 3 := hn
      subst hn
      simp only [xm_okX] at hX
      split at hX
      · next C T N hc =>
        simp only [Bool.and_eq_true, decide_eq_true_eq] at hX
        obtain ⟨hX1, hX2, hX3, hX4⟩ := hX
        have hX3 : (T y).2.2.2 = false ∨ ((T y).2.2.2 = true ∧ meth.name = "<init>" ∧ (T y).1 = own) := by
          rcases hX3 with h1 | h1
          · exact Or.inl h1
          · exact Or.inr ⟨h1.1, hname h1.2.1, h1.2.2⟩
        have hty : ∃ ty, parseFieldDescriptor (T y).2.2.1 = some ty ∧ narrow ty (xm_va B bs u) = xm_va B bs u ∧ fits ty (xm_va B bs u) = true := by
          split at hX4
          · next hp =>
            have hv := of_decide_eq_true hX4
            rcases hu with ⟨z, rfl, -⟩ | ⟨z, rfl, h1⟩
            · exact ⟨_, hp, rfl, rfl⟩
            · omega
          · next hp =>
            have hv := of_decide_eq_true hX4
            rcases hu with ⟨z, rfl, h1⟩ | ⟨z, rfl, h1⟩
            · omega
            · exact ⟨_, hp, rfl, rfl⟩
          · next hp =>
            have hv := of_decide_eq_true hX4
            rcases hu with ⟨z, rfl, h1⟩ | ⟨z, rfl, h1⟩
            · omega
            · exact ⟨_, hp, rfl, rfl⟩
          · cases hX4
        obtain ⟨ty, hp, hn, hfit⟩ := hty
        refine xm_putf (own := own) hx hb hts hown hK.1 hc hX1 (hts _ (xm_mem_ws hX2)) hX3 hp hn hfit (fs := fs.map (xm_va B bs)) (by rw [List.length_map]; exact hy) (hP.2.2 a _ ha) hd (fun H1 z h1 h2 h3 h4 => ?_)
        rw [← List.map_set] at h1
        exact go _ _ _ _ _ _ _ _ _ hk hL (hP.set h1 h2 h3) (xm_locs hlocs (by rw [h4]; exact Nat.le_add_right _ _)) (by rw [List.length_set]; exact hcl) (by rw [xm_sz_set ha (by simp [xm_es])]; exact hsl)
      · cases hX
    case iaload =>
      have hn : nx = pc + 1 := hn
      subst hn
      rcases xv_iaload hs with ⟨j, a, r0, N, f, rfl, ha, hj, rfl⟩ | ⟨j, b, r0, rfl, hj, rfl⟩
      · exact va_iald (D := D) (cl := vwCl) (cA := cI) hx hb hK.1 hP.ws a 0 (xm_Ws_at ha) rfl hj hd (go _ _ _ _ _ _ _ _ _ hk hL hP hlocs hcl hsl)
      · obtain ⟨hB, hbs⟩ := hK.2.2.1
        have hS : va_S (fun q => bs ≤ q) H0 H locs := ⟨by rw [hP.1]; omega, fun q h1 _ => hP.2.1 q (by omega), hlocs⟩
        exact va_sld hx hb hK.2.1 (by omega) (by omega) hS hj hd (go _ _ _ _ _ _ _ _ _ hk hL hP hlocs hcl hsl)
    case iastore =>
      obtain ⟨u, j, a, r0, N, f, rfl, ha, hj, rfl⟩ := xv_iastore hs
      have hn : nx = pc + 1 := hn
      subst hn
      refine W.iast hx hb (hP.2.2 a _ ha) ((hK.1.2 0 _ rfl).1 N (fun j => .int (f j))) (fun q => by cases q) (by show ¬ (j < 0 ∨ (arrV _ _ _).slots.size ≤ _); rw [arrV_size]; exact hj) rfl rfl hd fun H1 e1 z oq => ?_
      refine go _ _ _ _ _ _ _ _ _ hk hL (hP.set ?_ z oq) (xm_locs hlocs (Nat.le_add_right _ _)) (by rw [List.length_set]; exact hcl) (by rw [xm_sz_set ha (by simp [xm_es])]; exact hsl)
      show H1[bs + a]? = some (vp_cell _ _)
      rw [e1]
      rw [vp_cell_i, vp_cell_i, arrV_store]
      congr 2
      funext q
      by_cases hq : q = j.toNatClampNeg
      · subst hq
        simp [updV, upd]
      · simp [updV, upd, hq]
    case aaload =>
      obtain ⟨j, a, r0, N, f, t, rfl, ha, hj, ht, rfl⟩ := xv_aaload hs
      have hn : nx = pc + 1 := hn
      subst hn
      refine va_aldq (D := D) (cl := vwCl) (cA := cV) hx hb hK.1 hP.ws a 1 (xm_Ws_at ha) rfl hj hd ?_
      have e1 : va_rf ((f j.toNatClampNeg).map (fun t => bs + t)) = .ref (bs + t) := by rw [ht]; rfl
      rw [e1]
      exact go _ _ _ _ _ _ _ _ _ hk hL hP hlocs hcl hsl
    case aastore =>
      obtain ⟨t, j, a, r0, N, f, fs, rfl, ha, hj, ht, rfl⟩ := xv_aastore hs
      have hn : nx = pc + 1 := hn
      subst hn
      have hlt : j.toNatClampNeg < N := Nat.not_le.mp fun q => hj (Or.inr q)
      have h0 : ¬ j < 0 := fun q => hj (Or.inl q)
      obtain ⟨r', hr', cellV, g1, g2, g3, -⟩ := hP.2.2 t _ ht
      have hcls := (hK.1.1 1 _ rfl).2
      obtain ⟨kA, comp, k1, k2, k3, -⟩ := (hK.1.2 1 _ rfl).2
      have hcomp : comp = D.1 1 := Option.some.inj (k3.symm.trans hcls.1)
      subst hcomp
      obtain ⟨kC, hkC, -⟩ := hcls.2
      refine W.aast hx hb (hP.2.2 a _ ha) (fun q h => by cases h) (fun h => by cases h) k1 k2 rfl hkC ⟨h0, by show _ < (arrV _ _ _).slots.size; rw [arrV_size]; exact hlt⟩ g1 (fun q h => by rw [g3] at h; cases h) (by rw [g2]; exact hkC) (by rw [g2]; exact va_assign hcls) rfl rfl hd fun H1 e1 z oq => ?_
      refine go _ _ _ _ _ _ _ _ _ hk hL (hP.set ?_ z oq) (xm_locs hlocs (Nat.le_add_right _ _)) (by rw [List.length_set]; exact hcl) (by rw [xm_sz_set ha (by simp [xm_es])]; exact hsl)
      show H1[bs + a]? = some (vp_cell _ _)
      rw [e1]
      rw [vp_cell_q, vp_cell_q, arrV_store]
      congr 2
      funext q
      by_cases hq : q = j.toNatClampNeg
      · subst hq
        simp [updV, va_up, va_rf]
      · simp [updV, va_up, hq]
    case arraylength =>
      have hn : nx = pc + 1 := hn
      subst hn
      rcases xv_alen hs with ⟨a, r0, N, f, rfl, ha, rfl⟩ | ⟨b, r0, rfl, rfl⟩
      · exact va_alen (D := D) (cl := vwCl) (cA := cI) hx hb hK.1 hP.ws a 0 (xm_Ws_at ha) rfl rfl hd (go _ _ _ _ _ _ _ _ _ hk hL hP hlocs hcl hsl)
      · obtain ⟨hB, hbs⟩ := hK.2.2.1
        have hS : va_S (fun q => bs ≤ q) H0 H locs := ⟨by rw [hP.1]; omega, fun q h1 _ => hP.2.1 q (by omega), hlocs⟩
        exact va_slen hx hb hK.2.1 (by omega) (by omega) hS hd (go _ _ _ _ _ _ _ _ _ hk hL hP hlocs hcl hsl)
    case newarray t =>
      obtain ⟨N, r0, rfl, hN0, hNb, rfl⟩ := xv_newarray hs
      simp only [xm_okX, Bool.and_eq_true, decide_eq_true_eq] at hX
      obtain ⟨rfl, hX2⟩ := hX
      have hn : nx = pc + 2 := hn
      subst hn
      have hm2 := xm_ex_mono _ _ _ _ _ _ _ hk
      have hm3 : hp.length + 1 ≤ hp'.length := by have := hm2.1; rw [List.length_append] at this; exact this
      have hm4 : xm_sz hp + N.toNatClampNeg ≤ xm_sz hp' := by have := hm2.2; rw [xm_sz_push] at this; exact this
      refine va_newaK (atype := .int) hx hb (hts _ (xm_mem_ws hX2)) rfl hd rfl hN0 rfl (by show N.toNatClampNeg * 4 ≤ _; omega) (by omega) (by omega) rfl fun H1 cA e1 z1 o1 _ hNm => ?_
      have hcA : cA = cI := Option.some.inj (hNm.symm.trans (hK.1.2 0 _ rfl).2)
      subst hcA
      have hsz : bs + hp.length = H.size := hP.1.symm
      rw [hP.1]
      refine go _ _ _ _ _ _ _ _ _ hk hL (hP.push (by rw [hsz]; exact e1) z1 o1) hlocs (by rw [List.length_append]; simp only [List.length_cons, List.length_nil]; omega) (by rw [xm_sz_push]; simp only [xm_es]; omega)
    case anewarray t =>
      obtain ⟨N, r0, rfl, hN0, hNb, rfl⟩ := xv_anewarray hs
      simp only [xm_okX] at hX
      have hn : nx = pc + 3 := hn
      subst hn
      have hm2 := xm_ex_mono _ _ _ _ _ _ _ hk
      have hm3 : hp.length + 1 ≤ hp'.length := by have := hm2.1; rw [List.length_append] at this; exact this
      have hm4 : xm_sz hp + N.toNatClampNeg ≤ xm_sz hp' := by have := hm2.2; rw [xm_sz_push] at this; exact this
      refine W.anew hx hb hown (hts _ (xm_mem_ws hX)) (va_AO.use hK.2.2.2.2.2) rfl hd rfl hN0 (by omega) (by omega) (by omega) fun cA kA comp f1 f2 f3 f4 => ?_
      obtain ⟨kA', comp', k1, k2, k3, k4⟩ := (hK.1.2 1 _ rfl).2
      have hcA : cA = cV := Option.some.inj (f1.symm.trans k4)
      subst hcA
      have hsz : bs + hp.length = H.size := hP.1.symm
      generalize hH1 : H.push ({ cls := cA, slots := Array.replicate N.toNatClampNeg .null, vm := .none } : Cell) = H1
      have z1 : H1.size = H.size + 1 := by rw [← hH1, Array.size_push]
      have e1 : H1[H.size]? = some (arrV cA N.toNatClampNeg (fun _ => .null)) := by rw [← hH1, Array.getElem?_push_size, ← arrV_new]
      have o1 : ∀ q : Nat, q < H.size → H1[q]? = H[q]? := fun q hq => by rw [← hH1, Array.getElem?_push, if_neg (Nat.ne_of_lt hq)]
      rw [hP.1]
      refine go _ _ _ _ _ _ _ _ _ hk hL (hP.push (by rw [hsz]; exact e1) z1 o1) hlocs (by rw [List.length_append]; simp only [List.length_cons, List.length_nil]; omega) (by rw [xm_sz_push]; simp only [xm_es]; omega)
    case new t =>
      cases xv_new hs
      have hn : nx = pc + 3 := hn
      subst hn
      simp only [xm_okX] at hX
      split at hX
      · next C T N hc =>
        simp only [Bool.and_eq_true] at hX
        obtain ⟨hX1, hX2, hX3⟩ := hX
        obtain ⟨ty0, hty, hnm, hdef, hlen⟩ := xm_cls_ty x _ hc
        have hm2 := xm_ex_mono _ _ _ _ _ _ _ hk
        have hm3 : hp.length + 1 ≤ hp'.length := by have := hm2.1; rw [List.length_append] at this; exact this
        have hm4 : xm_sz hp + N ≤ xm_sz hp' := by have := hm2.2; rw [xm_sz_push] at this; simp only [xm_es] at this; rw [hlen] at this; exact this
        have hKn := hK.1.1 x _ hc
        refine W.newcK hx hb hown (hts _ (xm_mem_ws hX1)) (hts _ (xm_mem_ws hX2)) (hts _ (xm_mem_ws hX3)) rfl hd (by omega) (by omega) hKn.2.1 rfl fun H1 kC hkC e1 z1 o1 => ?_
        have hsz : bs + hp.length = H.size := hP.1.symm
        have hat : va_at D vwCl (bs + hp.length, xm_ce B bs cI cV (.inr (.inr (x, xm_new x)))) H1 := by
          rw [hsz]
          refine ⟨_, hc, (u_born ty0 hts (xm_cls_ws x _ hc) hKn hkC e1 hty).to (fun j hj => (hdef j hj).trans ?_)⟩
          show vp_V (xm_new x) j = vp_V ((xm_new x).map (xm_va B bs)) j
          have hx4 : x < 3 := (List.getElem?_eq_some_iff.mp hc).1
          have key : (xm_new x).map (xm_va B bs) = xm_new x := by
            match x, hx4 with
            | 0, _ => rfl
            | 1, _ => rfl
            | 2, _ => rfl
          rw [key]
        rw [hP.1]
        refine go _ _ _ _ _ _ _ _ _ hk hL (hP.push hat z1 o1) hlocs (by rw [List.length_append]; simp only [List.length_cons, List.length_nil]; omega) (by rw [xm_sz_push]; simp only [xm_es]; rw [hlen]; show slots + N + _ ≤ _ + (_ + N); omega)
      · cases hX
    case tableswitch d lo hi offs =>
      obtain ⟨u, r0, t, rfl, ht, rfl⟩ := xv_tsw hs
      rcases ht with ⟨h1, h2⟩ | ⟨h1, h2, f, h3, h4⟩
      · exact lv_tableOut (x := u) hx hb hd h1 h2 (go _ _ _ _ _ _ _ _ _ hk hL hP hlocs hcl hsl)
      · exact lv_tableIn (x := u) hx hb hd h1 h2 h3 h4 (go _ _ _ _ _ _ _ _ _ hk hL hP hlocs hcl hsl)
    case lookupswitch d qs =>
      obtain ⟨u, r0, t, rfl, ht, rfl⟩ := xv_lsw hs
      exact lv_lookup (x := u) hx hb hd hX rfl ht (go _ _ _ _ _ _ _ _ _ hk hL hP hlocs hcl hsl)
    case ireturn =>
      obtain ⟨u, rfl, hu, rfl⟩ := xv_ireturn hs
      cases hk
      simp only [xm_okX, decide_eq_true_eq] at hX
      exact W.widen (by omega) (by omega) (hret pc [.int u] lsC H locs (Or.inl ⟨hd, hX, u, rfl, rfl, hu⟩) hP hlocs)
    case areturn =>
      obtain ⟨u, rfl, rfl⟩ := xv_areturn hs
      cases hk
      simp only [xm_okX] at hX
      refine W.widen (by omega) (by omega) (hret pc [.ref u] lsC H locs (Or.inr (Or.inl ⟨hd, ?_, u, rfl, rfl⟩)) hP hlocs)
      split at hX
      · exact ⟨_, rfl, Or.inl ⟨_, rfl⟩⟩
      · exact ⟨_, rfl, Or.inr ⟨_, rfl⟩⟩
      · cases hX
    case return_ =>
      obtain ⟨rfl, rfl⟩ := xv_return hs
      cases hk
      simp only [xm_okX, decide_eq_true_eq] at hX
      exact W.widen (by omega) (by omega) (hret pc [] lsC H locs (Or.inr (Or.inr (Or.inl ⟨hd, hX, rfl, rfl⟩))) hP hlocs)
    case invokevirtual z =>
      obtain ⟨a, as, ci, fs, hst, ha, hci, hlen, h8, hnl, rfl⟩ := xv_virt hs
      obtain ⟨u, hp2, h1, h2⟩ := hk
      have hn : nx = pc + 3 := hn
      subst hn
      have hm1 := xm_ex_mono _ _ _ _ _ _ _ h1
      have hm2 := xm_ex_mono _ _ _ _ _ _ _ h2
      have hm1a : hp.length ≤ hp2.length := hm1.1
      have hm1b : xm_sz hp ≤ xm_sz hp2 := hm1.2
      have hm2a : hp2.length ≤ hp'.length := hm2.1
      have hm2b : xm_sz hp2 ≤ xm_sz hp' := hm2.2
      simp only [xm_okX] at hX
      split at hX
      · next M hM' =>
        simp only [Bool.and_eq_true] at hX
        obtain ⟨hC, hX1, hX2, hX3, hX4⟩ := hX
        generalize st.drop y = rest at hst h8 h2
        obtain ⟨cb, hj, hyl, hcl', hpl⟩ := xm_CB (mc := hp2.length - hp.length) (ms := xm_sz hp2 - xm_sz hp) hts hM' hC hfr hlo (hts _ (xm_mem_ws hX1))
        have hmet := xm_met ih hM' hj hpl hcl' (by rw [List.length_cons, hlen]; exact hyl) hnl h1
        have hrecv : ∃ cellB : Cell, H[bs + a]? = some cellB ∧ cellB.vm.isStatics = false ∧ s.vm.findClass M.2.1.cls = some cellB.cls := by
          split at hX4
          · next C T N hc =>
            have hC := of_decide_eq_true hX4
            have hci' : v.toNat = ci := by omega
            rw [hci'] at hc
            have hq := va_recv hK.1 hP.ws hc (xm_Ws_at ha)
            rw [hC] at hq
            exact hq
          · cases hX4
        have hpre := xm_preS hP hK (.ref a :: as)
        have hstk : st.map (xm_va B bs) = (as.map (xm_va B bs)).reverse ++ .ref (bs + a) :: rest.map (xm_va B bs) := by
          rw [hst]
          simp [xm_va]
        rw [hstk]
        refine xm_callW (va_runV (C := M.2.1.cls) (b := bs + a) (As := as.map (xm_va B bs)) (rest := rest.map (xm_va B bs)) ⟨hx, hb, hml, hown, hts⟩ hmet ⟨cb, hts _ (xm_mem_ws hX2), hts _ (xm_mem_ws hX3)⟩ ⟨hpre.1, hrecv, hpre.2⟩ rfl (by rw [List.length_map]; omega) hL.2.choose_spec.1.1 rfl (lv_room (Nat.le_trans (xm_cats B bs _) (by omega))) hd ⟨by omega, by omega⟩) hlocs (fun H1 locs1 hP1 hl1 => ?_)
        rw [xm_toList]
        exact go _ _ _ _ _ _ _ _ _ h2 hL hP1 hl1 (by omega) (by omega)
      · cases hX
    case invokestatic z =>
      have hn : nx = pc + 3 := hn
      subst hn
      rcases xv_stat hs with ⟨hx1, N, dp, d, sp, sa, r0, n0, n1, f, g, rfl, hsa, hda, g1, g2, g3, g4, g5, g6, rfl⟩ | ⟨hx2, a, b, r0, rfl, h8, rfl⟩ | ⟨hx1, hx2, as, hst, hlen, h8, hnl, rfl⟩
      · simp only [xm_okX, if_pos hx1, Bool.and_eq_true, decide_eq_true_eq] at hX
        obtain ⟨hX1, hX2, hX3, hX4, hX5⟩ := hX
        have hh : ∀ q : Nat, q < hp.length → bs + q < H.size := fun q hq => by rw [hP.1]; omega
        intro T hT X
        have hc0 : H[bs + sa]? = some (vp_cell cI (n0, .inl f)) := hP.2.2 sa _ hsa
        have hc1 : H[bs + d]? = some (vp_cell cI (n1, .inl g)) := hP.2.2 d _ hda
        have hD : va_D (fun q => bs ≤ q) (xm_Ws B bs cI cV hp) := by
          refine ⟨fun i j p q hi hj hpq => ?_, fun k q hk => ?_⟩
          · unfold xm_Ws at hi hj
            rw [List.getElem?_mapIdx] at hi hj
            cases hi' : hp[i]? with
            | none => rw [hi'] at hi; cases hi
            | some ei =>
              cases hj' : hp[j]? with
              | none => rw [hj'] at hj; cases hj
              | some ej =>
                rw [hi'] at hi
                rw [hj'] at hj
                cases hi
                cases hj
                have : bs + i = bs + j := hpq
                omega
          · unfold xm_Ws at hk
            rw [List.getElem?_mapIdx] at hk
            cases hk' : hp[k]? with
            | none => rw [hk'] at hk; cases hk
            | some ek =>
              rw [hk'] at hk
              cases hk
              exact Nat.le_add_right _ _
        have nn : ∀ z : Int32, ¬ z < 0 → z.toInt = (z.toNatClampNeg : Int) := by
          intro z hz
          have hz0 : (0 : Int) ≤ z.toInt := by
            have := Int32.not_lt.mp hz
            simpa using Int32.le_iff_toInt_le.mp this
          show z.toInt = ((z.toInt.toNat : Nat) : Int)
          omega
        obtain ⟨-, k0, hk0, cm0, hkk0⟩ := (hK.1.2 0 _ rfl).1 n0 (fun j => .int (f j))
        obtain ⟨-, k1, hk1, cm1, hkk1⟩ := (hK.1.2 0 _ rfl).1 n1 (fun j => .int (g j))
        obtain ⟨vm', X', step⟩ := X.arraycopy hx hown (hts _ (xm_mem_ws hX1)) (hts _ (xm_mem_ws hX2)) (hts _ (xm_mem_ws hX3)) (hts _ (xm_mem_ws hX4)) (src := bs + sa) (dst := bs + d) (cs := vp_cell cI (n0, .inl f)) (cd := vp_cell cI (n1, .inl g)) (srcPos := sp) (destPos := dp) (n := N) (by rw [hT]; exact hc0) (by rw [hT]; exact hc1)
          (fun _ h => by cases h) (fun _ h => by cases h) (fun h => by cases h) (fun h => by cases h) hk0 hk1 hkk0 hkk1 (by rfl) g1 g2 g3
          (by rw [nn sp g1, nn N g3]; show ¬ _ > ((arrV cI n0 (fun j => .int (f j))).slots.size : Int); rw [arrV_size]; omega)
          (by rw [nn dp g2, nn N g3]; show ¬ _ > ((arrV cI n1 (fun j => .int (g j))).slots.size : Int); rw [arrV_size]; omega)
          (fun vm₁ _ i hi => by
            have e : (vp_cell cI (n0, .inl f)).slots.getD (sp.toNatClampNeg + i) .null = .int (f (sp.toNatClampNeg + i)) := by
              show (arrV cI n0 (fun j => .int (f j))).slots.getD _ _ = _
              rw [Array.getD_eq_getD_getElem?, arrV_read _ _ (by omega)]
              rfl
            refine ⟨?_, ?_⟩
            · rw [e]
              rfl
            · rw [e]
              exact trivial)
          (g := F0 m pc lsC (.int N :: .int dp :: .ref (bs + d) :: .int sp :: .ref (bs + sa) :: r0.map (xm_va B bs))) rfl (by rw [hml]; exact hL.2.choose_spec.1.1) (rest := r0.map (xm_va B bs)) rfl (by rw [hb]; exact hd) (by omega) (by have hcat := xm_cats B bs r0; show 2 * 0 + _ + _ ≤ _; omega)
        have e1 : copied (vp_cell cI (n0, .inl f)) (vp_cell cI (n1, .inl g)) sp dp N = vp_cell cI (n1, .inl (va_cpy f g sp.toNatClampNeg dp.toNatClampNeg N.toNatClampNeg)) := va_copied (fun z => .int z) cI cI f g g4
        rw [e1] at X' step
        have hl : bs + d < H.size := (Array.getElem?_eq_some_iff.mp hc1).1
        have hheap : ((T.setVm vm').setCell (bs + d) (vp_cell cI (n1, .inl (va_cpy f g sp.toNatClampNeg dp.toNatClampNeg N.toNatClampNeg)))).heap = H.setIfInBounds (bs + d) (vp_cell cI (n1, .inl (va_cpy f g sp.toNatClampNeg dp.toNatClampNeg N.toNatClampNeg))) := by rw [← hT]; rfl
        have oq : ∀ q : Nat, q ≠ bs + d → (H.setIfInBounds (bs + d) (vp_cell cI (n1, .inl (va_cpy f g sp.toNatClampNeg dp.toNatClampNeg N.toNatClampNeg))))[q]? = H[q]? := fun q hq => by simp [Array.getElem?_setIfInBounds, Ne.symm hq]
        obtain ⟨t, a1, b1⟩ := go _ _ _ _ _ _ _ cells slots hk hL (hP.set (e' := .inl (n1, va_cpy f g sp.toNatClampNeg dp.toNatClampNeg N.toNatClampNeg)) (show (H.setIfInBounds (bs + d) _)[bs + d]? = some _ by simp [Array.getElem?_setIfInBounds, hl, xm_ce]) (by simp) oq) (fun q hq => by
            rcases List.mem_append.mp hq with h | h
            · exact hlocs q h
            · obtain ⟨z, -, hz⟩ := List.mem_map.mp h
              rw [← hz]
              exact Nat.le_add_right _ _) (by rw [List.length_set]; exact hcl) (by rw [xm_sz_set hda (by simp [xm_es])]; exact hsl) _ hheap X'
        exact ⟨t, step t a1, b1⟩
      · have hx1 : ¬ x = 1001 := by omega
        simp only [xm_okX, if_neg hx1, if_pos hx2, Bool.and_eq_true, decide_eq_true_eq] at hX
        obtain ⟨hX1, hX2, hX3, hX4, hX5⟩ := hX
        exact va_mmin hx hb (by rw [hml]; exact hL.2.choose_spec.1.1.symm) hown (hts _ (xm_mem_ws hX1)) (hts _ (xm_mem_ws hX2)) (hts _ (xm_mem_ws hX3)) (hts _ (xm_mem_ws hX4)) (by omega) (by have hcat := xm_cats B bs r0; omega) (by omega) (by omega) hd (go _ _ _ _ _ _ _ _ _ hk hL hP hlocs hcl hsl)
      · obtain ⟨u, hp2, h1, h2⟩ := hk
        have hm1 := xm_ex_mono _ _ _ _ _ _ _ h1
        have hm2 := xm_ex_mono _ _ _ _ _ _ _ h2
        have hm1a : hp.length ≤ hp2.length := hm1.1
        have hm1b : xm_sz hp ≤ xm_sz hp2 := hm1.2
        have hm2a : hp2.length ≤ hp'.length := hm2.1
        have hm2b : xm_sz hp2 ≤ xm_sz hp' := hm2.2
        simp only [xm_okX, if_neg hx1, if_neg hx2] at hX
        split at hX
        · next M hM' =>
          simp only [Bool.and_eq_true, Bool.or_eq_true, decide_eq_true_eq] at hX
          obtain ⟨hC, hX1, hX2⟩ := hX
          generalize st.drop y = rest at hst h8 h2
          have hpre := xm_preS hP hK as
          have hstk : st.map (xm_va B bs) = (as.map (xm_va B bs)).reverse ++ rest.map (xm_va B bs) := by
            rw [hst]
            simp
          rw [hstk]
          rcases hX1 with hX1 | ⟨rfl, rfl, hyj⟩
          · obtain ⟨cb, hj, hyl, hcl', hpl⟩ := xm_CB (mc := hp2.length - hp.length) (ms := xm_sz hp2 - xm_sz hp) hts hM' hC hfr hlo (hts _ (xm_mem_ws hX1))
            have hmet := xm_met ih hM' hj hpl hcl' (by rw [hlen]; exact hyl) hnl h1
            refine xm_callW (va_runS (As := as.map (xm_va B bs)) (rest := rest.map (xm_va B bs)) ⟨hx, hb, hml, hown, hts⟩ hmet ⟨cb, hts _ (xm_mem_ws hX2)⟩ hpre rfl (by rw [List.length_map]; exact hlen) hL.2.choose_spec.1.1 rfl (lv_room (Nat.le_trans (xm_cats B bs _) (by omega))) hd ⟨by omega, by omega⟩) hlocs (fun H1 locs1 hP1 hl1 => ?_)
            rw [xm_toList]
            exact go _ _ _ _ _ _ _ _ _ h2 hL hP1 hl1 (by omega) (by omega)
          · obtain ⟨cb, hj, hyl, hcl', hpl⟩ := xm_CN (mc := hp2.length - hp.length) (ms := xm_sz hp2 - xm_sz hp) RX2 hts hM' hC hfr hlo (by rw [hyj]; exact hK.2.2.2.2.1)
            have hmet := xm_met ih hM' hj hpl hcl' (by rw [hlen]; exact hyl) hnl h1
            refine xm_callW (va_runSN (As := as.map (xm_va B bs)) (rest := rest.map (xm_va B bs)) ⟨hx, hb, hml, hown, hts⟩ hmet ⟨cb, hts _ (xm_mem_ws hX2), trivial⟩ hpre rfl (by rw [List.length_map]; exact hlen) hL.2.choose_spec.1.1 rfl (lv_room (Nat.le_trans (xm_cats B bs _) (by omega))) hd ⟨by omega, by omega⟩) hlocs (fun H1 locs1 hP1 hl1 => ?_)
            rw [xm_toList]
            exact go _ _ _ _ _ _ _ _ _ h2 hL hP1 hl1 (by omega) (by omega)
        · cases hX
    case invokespecial z =>
      have hn : nx = pc + 3 := hn
      subst hn
      rcases xv_spec hs with ⟨hx1, a, r0, rfl, h8, rfl⟩ | ⟨hx1, a, as, hst, hlen, h8, hnl, rfl⟩
      · simp only [xm_okX, if_pos hx1, Bool.and_eq_true, decide_eq_true_eq] at hX
        obtain ⟨hX1, hX2, hX3, hX4⟩ := hX
        refine W.objInit hx hb hown (hts _ (xm_mem_ws hX1)) (hts _ (xm_mem_ws hX2)) (hts _ (xm_mem_ws hX3)) rfl (by rw [hml]; exact hL.2.choose_spec.1.1) rfl hd (by omega) (by have hcat := xm_cats B bs r0; show 2 * 0 + _ + 12 ≤ _; omega) ?_
        exact go _ _ _ _ _ _ _ _ _ hk hL hP hlocs hcl hsl
      · obtain ⟨u, hp2, h1, h2⟩ := hk
        have hm1 := xm_ex_mono _ _ _ _ _ _ _ h1
        have hm2 := xm_ex_mono _ _ _ _ _ _ _ h2
        have hm1a : hp.length ≤ hp2.length := hm1.1
        have hm1b : xm_sz hp ≤ xm_sz hp2 := hm1.2
        have hm2a : hp2.length ≤ hp'.length := hm2.1
        have hm2b : xm_sz hp2 ≤ xm_sz hp' := hm2.2
        simp only [xm_okX, if_neg hx1] at hX
        split at hX
        · next M hM' =>
          simp only [Bool.and_eq_true, Bool.or_eq_true, decide_eq_true_eq] at hX
          obtain ⟨hC, hX1, hX2, hX3, hX4⟩ := hX
          generalize st.drop y = rest at hst h8 h2
          have hpre := xm_preS hP hK (.ref a :: as)
          have hstk : st.map (xm_va B bs) = (as.map (xm_va B bs)).reverse ++ .ref (bs + a) :: rest.map (xm_va B bs) := by
            rw [hst]
            simp [xm_va]
          rw [hstk]
          rcases hX1 with hX1 | ⟨rfl, rfl, hyj⟩
          · obtain ⟨cb, hj, hyl, hcl', hpl⟩ := xm_CB (mc := hp2.length - hp.length) (ms := xm_sz hp2 - xm_sz hp) hts hM' hC hfr hlo (hts _ (xm_mem_ws hX1))
            have hmet := xm_met ih hM' hj hpl hcl' (by rw [List.length_cons, hlen]; exact hyl) hnl h1
            rw [hX4] at cb
            refine xm_callW (va_runI (b := bs + a) (As := as.map (xm_va B bs)) (rest := rest.map (xm_va B bs)) ⟨hx, hb, hml, hown, hts⟩ hmet ⟨cb, hX3, hts _ (xm_mem_ws hX2)⟩ hpre rfl (by rw [List.length_map]; omega) hL.2.choose_spec.1.1 rfl (lv_room (Nat.le_trans (xm_cats B bs _) (by omega))) hd ⟨by omega, by omega⟩) hlocs (fun H1 locs1 hP1 hl1 => ?_)
            rw [xm_toList]
            exact go _ _ _ _ _ _ _ _ _ h2 hL hP1 hl1 (by omega) (by omega)
          · obtain ⟨cb, hj, hyl, hcl', hpl⟩ := xm_CN (mc := hp2.length - hp.length) (ms := xm_sz hp2 - xm_sz hp) RX2 hts hM' hC hfr hlo (by rw [hyj]; exact hK.2.2.2.1)
            have hmet := xm_met ih hM' hj hpl hcl' (by rw [List.length_cons, hlen]; exact hyl) hnl h1
            rw [hX4] at cb
            refine xm_callW (va_runIN (b := bs + a) (As := as.map (xm_va B bs)) (rest := rest.map (xm_va B bs)) ⟨hx, hb, hml, hown, hts⟩ hmet ⟨cb, hX3, hts _ (xm_mem_ws hX2)⟩ hpre rfl (by rw [List.length_map]; omega) hL.2.choose_spec.1.1 rfl (lv_room (Nat.le_trans (xm_cats B bs _) (by omega))) hd ⟨by omega, by omega⟩) hlocs (fun H1 locs1 hP1 hl1 => ?_)
            rw [xm_toList]
            exact go _ _ _ _ _ _ _ _ _ h2 hL hP1 hl1 (by omega) (by omega)
        · cases hX
    case iadd =>
      obtain ⟨a, b, r0, z, rfl, hz, rfl⟩ := xv_iadd hs
      cases hz
      have hn : nx = pc + 1 := hn
      subst hn
      exact lv_iadd hx hb hd (go _ _ _ _ _ _ _ _ _ hk hL hP hlocs hcl hsl)
    case isub =>
      obtain ⟨a, b, r0, z, rfl, hz, rfl⟩ := xv_isub hs
      cases hz
      have hn : nx = pc + 1 := hn
      subst hn
      exact lv_isub hx hb hd (go _ _ _ _ _ _ _ _ _ hk hL hP hlocs hcl hsl)
    case imul =>
      obtain ⟨a, b, r0, z, rfl, hz, rfl⟩ := xv_imul hs
      cases hz
      have hn : nx = pc + 1 := hn
      subst hn
      exact lv_imul hx hb hd (go _ _ _ _ _ _ _ _ _ hk hL hP hlocs hcl hsl)
    case iand =>
      obtain ⟨a, b, r0, z, rfl, hz, rfl⟩ := xv_iand hs
      cases hz
      have hn : nx = pc + 1 := hn
      subst hn
      exact lv_iand hx hb hd (go _ _ _ _ _ _ _ _ _ hk hL hP hlocs hcl hsl)
    case ior =>
      obtain ⟨a, b, r0, z, rfl, hz, rfl⟩ := xv_ior hs
      cases hz
      have hn : nx = pc + 1 := hn
      subst hn
      exact lv_ior hx hb hd (go _ _ _ _ _ _ _ _ _ hk hL hP hlocs hcl hsl)
    case ixor =>
      obtain ⟨a, b, r0, z, rfl, hz, rfl⟩ := xv_ixor hs
      cases hz
      have hn : nx = pc + 1 := hn
      subst hn
      exact lv_ixor hx hb hd (go _ _ _ _ _ _ _ _ _ hk hL hP hlocs hcl hsl)
    case ishl =>
      obtain ⟨a, b, r0, z, rfl, hz, rfl⟩ := xv_ishl hs
      cases hz
      have hn : nx = pc + 1 := hn
      subst hn
      exact lv_ishl hx hb hd (go _ _ _ _ _ _ _ _ _ hk hL hP hlocs hcl hsl)
    case ishr =>
      obtain ⟨a, b, r0, z, rfl, hz, rfl⟩ := xv_ishr hs
      cases hz
      have hn : nx = pc + 1 := hn
      subst hn
      exact lv_ishr hx hb hd (go _ _ _ _ _ _ _ _ _ hk hL hP hlocs hcl hsl)
    case iushr =>
      obtain ⟨a, b, r0, z, rfl, hz, rfl⟩ := xv_iushr hs
      cases hz
      have hn : nx = pc + 1 := hn
      subst hn
      exact lv_iushr hx hb hd rfl (go _ _ _ _ _ _ _ _ _ hk hL hP hlocs hcl hsl)
    case idiv =>
      obtain ⟨a, b, r0, z, rfl, hz, rfl⟩ := xv_idiv hs
      have hn : nx = pc + 1 := hn
      subst hn
      simp only [xm_bin] at hz
      split at hz
      · cases hz
      · next hb0 =>
        cases hz
        exact lv_idiv hx hb hd hb0 (go _ _ _ _ _ _ _ _ _ hk hL hP hlocs hcl hsl)
    case irem =>
      obtain ⟨a, b, r0, z, rfl, hz, rfl⟩ := xv_irem hs
      have hn : nx = pc + 1 := hn
      subst hn
      simp only [xm_bin] at hz
      split at hz
      · cases hz
      · next hb0 =>
        cases hz
        exact lv_irem hx hb hd hb0 (go _ _ _ _ _ _ _ _ _ hk hL hP hlocs hcl hsl)
    all_goals
      exfalso
      simp only [xm_step, xm_bin] at hs
      split at hs <;> cases hs
