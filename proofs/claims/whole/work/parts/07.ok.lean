/-! the tables hold what the machine's tables say: checked by program -/
def xm_ws : List Jvm.Cond := lw_tbl.filter goodWord
def xm_tb (t : Nat) : List Jvm.Cond := match t with
  | 0 => k2_sels lw_privs
  | 1 => tables_1_1
  | 2 => tables_1_2
  | 3 => tables_1_3
  | _ => tables_1_4
theorem xm_tb_in {t : Nat} {w : Jvm.Cond} (h : w ∈ xm_tb t) : w ∈ lw_tbl := by
  unfold xm_tb at h
  unfold lw_tbl tables_1
  simp only [List.mem_append]
  split at h
  · exact Or.inl h
  · exact Or.inr (Or.inl h)
  · exact Or.inr (Or.inr (Or.inl h))
  · exact Or.inr (Or.inr (Or.inr (Or.inl h)))
  · exact Or.inr (Or.inr (Or.inr (Or.inr h)))
/-- a word, by its place -/
def xm_mem (ps : List Nat) (j : Nat) (w : Jvm.Cond) : Bool := decide ((xm_tb (ps.getD j 0 / 1000))[ps.getD j 0 % 1000]? = some w) && goodWord w
theorem xm_mem_good {ps : List Nat} {j : Nat} {w : Jvm.Cond} (h : xm_mem ps j w = true) : w ∈ xm_ws ∧ ((w.onTables && w.keeps) = true ∨ ∃ ty, w = .arrayClass ty) := by
  simp only [xm_mem, Bool.and_eq_true, decide_eq_true_eq] at h
  exact ⟨List.mem_filter.mpr ⟨xm_tb_in (List.mem_of_getElem? h.1), h.2⟩, good_of_word h.2⟩
theorem xm_mem_ws {ps : List Nat} {j : Nat} {w : Jvm.Cond} (h : xm_mem ps j w = true) : w ∈ xm_ws := (xm_mem_good h).1
theorem xm_ws_good : GoodIn xm_ws xm_ws := fun _ h => ⟨h, good_of_word (List.mem_filter.mp h).2⟩
def xm_len (i : Instr) (pc nx : Nat) : Nat := match i with
  | .bipush _ => 2
  | .sipush _ => 3
  | .ldc _ => 2
  | .ldc_w _ => 3
  | .iload _ => 2
  | .aload _ => 2
  | .istore _ => 2
  | .iinc _ _ => 3
  | .ifCond _ _ => 3
  | .if_icmp _ _ => 3
  | .goto _ => 3
  | .getfield _ => 3
  | .putfield _ => 3
  | .new _ => 3
  | .anewarray _ => 3
  | .newarray _ => 2
  | .invokevirtual _ => 3
  | .invokestatic _ => 3
  | .invokespecial _ => 3
  | .tableswitch _ _ _ _ => nx - pc
  | .lookupswitch _ _ => nx - pc
  | _ => 1
/-- a callee: its code, its class, its arguments, its room -/
def xm_okC (ps : List Nat) (fr lo : Nat) (x : Nat) (j : xm_M) (y pn : Nat) : Bool := match j with
  | (ownj, yj, _, nLj, _, frj, loj) => decide (x < 167) && (xm_mem ps 0 (.initialized yj.cls) && (decide (yj.cls ≠ "java/lang/invoke/MethodHandle" ∧ yj.cls ≠ "java/lang/invoke/VarHandle") && (decide ((parseMethodDescriptor yj.desc).map (fun d => d.parameters.length) = some pn) && (decide (frj + 1 ≤ fr ∧ 8 + (nLj + 11) + loj ≤ lo) && (decide (y ≤ nLj) && (decide (ownj = yj.cls) && plainName yj.cls))))))
def xm_okX (ps : List Nat) (M : xm_M) (pc : Nat) (q : xm_Q) : Bool := match M with
  | (own, yk, _, _, rt, fr, lo) => match q with
    | (i, _, x, y, v) => match i with
      | .iconst n => decide (Int32.ofInt n = xm_i v)
      | .bipush n => decide ((Int8.ofInt n).toInt32 = xm_i v)
      | .sipush n => decide ((Int16.ofInt n).toInt32 = xm_i v)
      | .ldc n => xm_mem ps 0 (.constant own n (xm_i v))
      | .ldc_w n => xm_mem ps 0 (.constant own n (xm_i v))
      | .iload_n n => decide ((n : Nat) = x)
      | .iload n => decide (n = x)
      | .aload_n n => decide ((n : Nat) = x)
      | .istore_n n => decide ((n : Nat) = x)
      | .istore n => decide (n = x)
      | .astore_n n => decide ((n : Nat) = x)
      | .iinc n z => decide (n = x ∧ Int32.ofInt z = xm_i v)
      | .ifCond _ z => decide ((pc : Int) + z = (x : Int))
      | .if_icmp _ z => decide ((pc : Int) + z = (x : Int))
      | .goto z => decide ((pc : Int) + z = (x : Int))
      | .getfield n => match vwCl[x]? with
        | some (_, T, N) => decide (y < N) && xm_mem ps 0 (.fieldLink own n (T y).1 (T y).2.1 (T y).2.2.1)
        | none => false
      | .putfield n => match vwCl[x]? with
        | some (_, T, N) => decide (y < N) && (xm_mem ps 0 (.fieldLink own n (T y).1 (T y).2.1 (T y).2.2.1) && (decide ((T y).2.2.2 = false ∨ ((T y).2.2.2 = true ∧ yk.name = "<init>" ∧ (T y).1 = own)) && (match parseFieldDescriptor (T y).2.2.1 with
          | some .int => decide (v = 0)
          | some (.object _) => decide (v = 1)
          | some (.array _) => decide (v = 1)
          | _ => false)))
        | none => false
      | .new n => match vwCl[x]? with
        | some (C, _, N) => xm_mem ps 0 (.classLink own n C) && (xm_mem ps 1 (.instantiable C N) && xm_mem ps 2 (.initialized C))
        | none => false
      | .newarray t => decide (t = .int) && xm_mem ps 0 (.arrayClass .int)
      | .anewarray n => xm_mem ps 0 (.classLink own n RX1)
      | .lookupswitch _ ps => (ps.toList.zip (ps.toList.drop 1)).all (fun (a, next) => a.1 < next.1)
      | .ireturn => decide (rt = some .int ∨ rt = some .boolean)
      | .areturn => match rt with
        | some (.object _) => true
        | some (.array _) => true
        | _ => false
      | .return_ => decide (rt = none)
      | .invokevirtual n => match xm_ms[x]? with
        | some j => xm_okC ps fr lo x j y (y - 1) && (xm_mem ps 1 (.methodLink own n j.2.1) && (xm_mem ps 2 (.instanceMethod j.2.1) && (xm_mem ps 3 (.selects j.2.1.cls j.2.1 j.2.1) && (match vwCl[v.toNat]? with
          | some (C, _, _) => decide (C = j.2.1.cls)
          | none => false))))
        | none => false
      | .invokestatic n => if x = 1001 then xm_mem ps 0 (.methodLink own n arraycopyName) && (xm_mem ps 1 (.native arraycopyName) && (xm_mem ps 2 (.static arraycopyName) && (xm_mem ps 3 (.initialized "java/lang/System") && decide (1 ≤ fr ∧ 8 + (nativeFrameWords "java/lang/System" "arraycopy" 5 + 11) ≤ lo))))
        else if x = 1002 then xm_mem ps 0 (.methodLink own n Lib.Math.min.name) && (xm_mem ps 1 (.static Lib.Math.min.name) && (xm_mem ps 2 (.initialized "java/lang/Math") && (xm_mem ps 3 (.code Lib.Math.min.name Lib.Math.min.code 2 (some .int)) && decide (1 ≤ fr ∧ 21 ≤ lo))))
        else match xm_ms[x]? with
        | some j => xm_okC ps fr lo x j y y && ((xm_mem ps 1 (.methodLink own n j.2.1) || decide (own = RX1 ∧ n = 89 ∧ j.2.1 = ⟨RX2, "has", "(II)Z"⟩)) && xm_mem ps 2 (.static j.2.1))
        | none => false
      | .invokespecial n => if x = 1000 then xm_mem ps 0 (.methodLink own n objectInit) && (xm_mem ps 1 (.instanceMethod objectInit) && (xm_mem ps 2 (.code objectInit ⟨#[0xb1]⟩ 1 none) && decide (1 ≤ fr ∧ 20 ≤ lo)))
        else match xm_ms[x]? with
        | some j => xm_okC ps fr lo x j y (y - 1) && ((xm_mem ps 1 (.methodLink own n j.2.1) || decide (own = RX2 ∧ n = 17 ∧ j.2.1 = ⟨RX0, "<init>", "()V"⟩)) && (xm_mem ps 2 (.instanceMethod j.2.1) && decide (j.2.1.name = "<init>" ∧ j.2.2.2.2.1 = none)))
        | none => false
      | _ => true
def xm_okB (M : xm_M) (ps : List Nat) (e : Nat × xm_Q) : Bool := decide (decode M.2.2.1 e.1 = .ok (e.2.1, xm_len e.2.1 e.1 e.2.2.1)) && (decide (e.2.2.1 = e.1 + xm_len e.2.1 e.1 e.2.2.1) && xm_okX ps M e.1 e.2)
def xm_okT (M : xm_M) : List (Nat × xm_Q) → List (List Nat) → Bool
  | e :: t, p :: ps => xm_okB M p e && xm_okT M t ps
  | [], _ => true
  | _, _ => false
def xm_okP : List (List (Nat × xm_Q)) → List xm_M → Prop
  | t :: ts, m :: ms => (∃ ps, xm_okT m t ps = true) ∧ xm_okP ts ms
  | _, _ => True
theorem xm_okT_app {M : xm_M} : ∀ (a b : List (Nat × xm_Q)) (p q : List (List Nat)), a.length = p.length → xm_okT M a p = true → xm_okT M b q = true → xm_okT M (a ++ b) (p ++ q) = true := by
  intro a
  induction a with
  | nil =>
    intro b p q h1 h2 h3
    cases p with
    | nil => exact h3
    | cons _ _ => cases h1
  | cons e a ih =>
    intro b p q h1 h2 h3
    cases p with
    | nil => cases h1
    | cons x p =>
      simp only [xm_okT, Bool.and_eq_true, List.cons_append] at h2 ⊢
      exact ⟨h2.1, ih b p q (by simpa using h1) h2.2 h3⟩
theorem xm_okT_get {M : xm_M} : ∀ (t : List (Nat × xm_Q)) (ps : List (List Nat)) (e : Nat × xm_Q), xm_okT M t ps = true → e ∈ t → ∃ p, xm_okB M p e = true := by
  intro t
  induction t with
  | nil => intro ps e _ h; cases h
  | cons a t ih =>
    intro ps e h he
    cases ps with
    | nil => cases h
    | cons p ps =>
      simp only [xm_okT, Bool.and_eq_true] at h
      rcases List.mem_cons.mp he with rfl | he
      · exact ⟨p, h.1⟩
      · exact ih ps e h.2 he
theorem xk_0 : ∃ ps, xm_okT xq_0 xt_0 ps = true := ⟨[[], [1023, 1014, 1015], [], [], [1046], [1024], [], [], [1046], [1025], [], [], [1026], [], [], [1028], [], [], [1029], [], [], [1031], []], by decide +kernel⟩
theorem xk_1 : ∃ ps, xm_okT xq_1 xt_1 ps = true := ⟨[[], [1026], [], [], [2172], [], [], [1024], [], [1026], [], [], [], [], [1026], [], [], [1026], [], [1026], []], by decide +kernel⟩
theorem xk_2 : ∃ ps, xm_okT xq_2 xt_2 ps = true := ⟨[[], [], [], [], [1028], [], [], [1031], [], [], [], [], [1028], [], [1026], [], [], [1031], [], [], [], [], [1028], [1029], [], [1002, 2185, 2187, 12], [], [], [], [], [1002, 2189, 2191, 13], [], [], [], [], [1002, 2207, 2209, 16], [1002, 2219, 2220], [], [], [1031], [], [], []], by decide +kernel⟩
theorem xk_3 : ∃ ps, xm_okT xq_3 xt_3 ps = true := ⟨[[], [1002, 2193, 2194], [], [], [], [], [], [], [], [], [1028], [], [], [1028], [], [], [], [], [], [], [], [], [], [], [], [], [1002, 2196, 2198, 14], [], [], [], [], [1002, 2200, 2202, 15], [], [], [], [], [], [], [], [1025], [], [], [], [], [], [], [], [1002, 2196, 2198, 14], []], by decide +kernel⟩
theorem xk_4 : ∃ ps, xm_okT xq_4 xt_4 ps = true := ⟨[[], [], [], [], [], [], [], [], [], [], [], []], by decide +kernel⟩
theorem xk_5 : ∃ ps, xm_okT xq_5 xt_5 ps = true := ⟨[[], [1002, 2185, 2187, 12], [1002, 2204, 2205], [], [], [], [], [1002, 2185, 2187, 12], [], [], [], [], [], [1028], [], [], [1028], [], [1002, 2185, 2187, 12], [1002, 2204, 2205], [], [], [], [], [], [1002, 2185, 2187, 12], [], [], [], [], [], [], [1028], [], [], [1028], [], []], by decide +kernel⟩
theorem xk_6 : ∃ ps, xm_okT xq_6 xt_6 ps = true := ⟨[[], [1028], [], [], [1028], [], [1026], [], [], [1028], [], [], [], [1024], [], [1028], [], [], [], []], by decide +kernel⟩
theorem xk_7 : ∃ ps, xm_okT xq_7 xt_7 ps = true := ⟨[[], [1002, 2185, 2187, 12], [], [], [], [], [], [], [1028], [], [], [1028], [], []], by decide +kernel⟩
theorem xk_8 : ∃ ps, xm_okT xq_8 xt_8 ps = true := ⟨[[], [], [], [], [], [], [], [], [], []], by decide +kernel⟩
theorem xk_9_0 : xm_okT xq_9 [(0, .iload_n 2, 1, 2, 0, 0), (1, .tableswitch 174 104 119 #[84, 174, 174, 174, 101, 174, 79, 174, 152, 174, 174, 112, 174, 135, 174, 163], 80, 0, 0, 0), (80, .aload_n 1, 81, 1, 0, 0), (81, .invokevirtual 60, 84, 14, 1, 1), (84, .ireturn, 85, 0, 0, 0), (85, .aload_n 1, 86, 1, 0, 0), (86, .aload_n 0, 87, 0, 0, 0), (87, .getfield 15, 90, 0, 1, 1), (90, .iconst 0, 91, 0, 0, 0), (91, .iaload, 92, 0, 0, 0), (92, .aload_n 0, 93, 0, 0, 0), (93, .getfield 15, 96, 0, 1, 1), (96, .iconst 1, 97, 0, 0, 1), (97, .iaload, 98, 0, 0, 0), (98, .invokevirtual 65, 101, 15, 3, 1), (101, .ireturn, 102, 0, 0, 0), (102, .aload_n 1, 103, 1, 0, 0), (103, .aload_n 0, 104, 0, 0, 0), (104, .getfield 15, 107, 0, 1, 1), (107, .iconst 0, 108, 0, 0, 0), (108, .iaload, 109, 0, 0, 0), (109, .invokevirtual 69, 112, 16, 2, 1), (112, .ireturn, 113, 0, 0, 0), (113, .aload_n 1, 114, 1, 0, 0), (114, .aload_n 0, 115, 0, 0, 0), (115, .getfield 15, 118, 0, 1, 1), (118, .iconst 0, 119, 0, 0, 0), (119, .iaload, 120, 0, 0, 0), (120, .aload_n 0, 121, 0, 0, 0), (121, .getfield 15, 124, 0, 1, 1), (124, .iconst 1, 125, 0, 0, 1), (125, .iaload, 126, 0, 0, 0), (126, .aload_n 0, 127, 0, 0, 0), (127, .getfield 15, 130, 0, 1, 1), (130, .iconst 2, 131, 0, 0, 2), (131, .iaload, 132, 0, 0, 0), (132, .invokevirtual 72, 135, 17, 4, 1), (135, .ireturn, 136, 0, 0, 0), (136, .aload_n 1, 137, 1, 0, 0), (137, .aload_n 0, 138, 0, 0, 0), (138, .getfield 15, 141, 0, 1, 1), (141, .iconst 0, 142, 0, 0, 0), (142, .iaload, 143, 0, 0, 0), (143, .aload_n 0, 144, 0, 0, 0), (144, .getfield 15, 147, 0, 1, 1), (147, .iconst 1, 148, 0, 0, 1), (148, .iaload, 149, 0, 0, 0), (149, .invokevirtual 76, 152, 18, 3, 1), (152, .ireturn, 153, 0, 0, 0), (153, .aload_n 1, 154, 1, 0, 0), (154, .aload_n 0, 155, 0, 0, 0), (155, .getfield 15, 158, 0, 1, 1), (158, .iconst 0, 159, 0, 0, 0), (159, .iaload, 160, 0, 0, 0), (160, .invokevirtual 79, 163, 19, 2, 1), (163, .ireturn, 164, 0, 0, 0), (164, .aload_n 1, 165, 1, 0, 0), (165, .aload_n 0, 166, 0, 0, 0), (166, .getfield 15, 169, 0, 1, 1), (169, .iconst 0, 170, 0, 0, 0)] [[], [], [], [1003, 2211, 1130, 1131], [], [], [], [1025], [], [], [], [1025], [], [], [1003, 2212, 1159, 1160], [], [], [], [1025], [], [], [1003, 2213, 1179, 1180], [], [], [], [1025], [], [], [], [1025], [], [], [], [1025], [], [], [1003, 2214, 1187, 1188], [], [], [], [1025], [], [], [], [1025], [], [], [1003, 2215, 1214, 1215], [], [], [], [1025], [], [], [1003, 2216, 1222, 1223], [], [], [], [1025], []] = true := by decide +kernel
theorem xk_9_1 : xm_okT xq_9 [(170, .iaload, 171, 0, 0, 0), (171, .invokevirtual 82, 174, 21, 2, 1), (174, .ireturn, 175, 0, 0, 0), (175, .aload_n 1, 176, 1, 0, 0), (176, .invokevirtual 85, 179, 22, 1, 1), (179, .ireturn, 180, 0, 0, 0)] [[], [1003, 2217, 2007, 2008], [], [], [1003, 2218, 2071, 2072], []] = true := by decide +kernel
set_option maxRecDepth 100000 in
theorem xk_9 : ∃ ps, xm_okT xq_9 xt_9 ps = true := ⟨_, (xm_okT_app _ _ _ _ rfl xk_9_0 xk_9_1)⟩
theorem xk_10 : ∃ ps, xm_okT xq_10 xt_10 ps = true := ⟨[[], [], [], [], [], [2222], [], [], [], [], []], by decide +kernel⟩
theorem xk_11 : ∃ ps, xm_okT xq_11 xt_11 ps = true := ⟨[[], [1051, 1014, 1015], [], [], [1046], [1055], [], [], [1046], [1057], [], [], [1046], [1059], [], [], [1046], [1060], [], [], [1046], [1061], [], [], [1046], [1062], [], [], [1064], [], [], [1066], [], [], [1068], [], [], [1070], [], [], [1072], [], [1055], [1003, 1052, 1053], [], [1057], [1003, 1052, 1053], [], [1059], [1003, 1052, 1053], [], [1060], [1003, 1052, 1053], [], [1062], [1003, 1052, 1053], []], by decide +kernel⟩
theorem xk_12 : ∃ ps, xm_okT xq_12 xt_12 ps = true := ⟨[[], [], [], [], [], [], [], [], [], [], [], [], []], by decide +kernel⟩
theorem xk_13_0 : xm_okT xq_13 [(0, .aload_n 1, 1, 1, 0, 0), (1, .getfield 9, 4, 1, 0, 1), (4, .iconst 0, 5, 0, 0, 0), (5, .aload_n 0, 6, 0, 0, 0), (6, .getfield 9, 9, 1, 0, 1), (9, .iconst 0, 10, 0, 0, 0), (10, .bipush 8, 12, 0, 0, 8), (12, .invokestatic 50, 15, 1001, 0, 0), (15, .aload_n 1, 16, 1, 0, 0), (16, .getfield 15, 19, 1, 1, 1), (19, .iconst 0, 20, 0, 0, 0), (20, .aload_n 0, 21, 0, 0, 0), (21, .getfield 15, 24, 1, 1, 1), (24, .iconst 0, 25, 0, 0, 0), (25, .bipush 40, 27, 0, 0, 40), (27, .invokestatic 50, 30, 1001, 0, 0), (30, .aload_n 1, 31, 1, 0, 0), (31, .getfield 18, 34, 1, 2, 1), (34, .iconst 0, 35, 0, 0, 0), (35, .aload_n 0, 36, 0, 0, 0), (36, .getfield 18, 39, 1, 2, 1), (39, .iconst 0, 40, 0, 0, 0), (40, .bipush 30, 42, 0, 0, 30), (42, .invokestatic 50, 45, 1001, 0, 0), (45, .aload_n 1, 46, 1, 0, 0), (46, .getfield 21, 49, 1, 3, 1), (49, .iconst 0, 50, 0, 0, 0), (50, .aload_n 0, 51, 0, 0, 0), (51, .getfield 21, 54, 1, 3, 1), (54, .iconst 0, 55, 0, 0, 0), (55, .bipush 90, 57, 0, 0, 90), (57, .invokestatic 50, 60, 1001, 0, 0), (60, .aload_n 1, 61, 1, 0, 0), (61, .getfield 24, 64, 1, 4, 1), (64, .iconst 0, 65, 0, 0, 0), (65, .aload_n 0, 66, 0, 0, 0), (66, .getfield 24, 69, 1, 4, 1), (69, .iconst 0, 70, 0, 0, 0), (70, .bipush 30, 72, 0, 0, 30), (72, .invokestatic 50, 75, 1001, 0, 0), (75, .aload_n 1, 76, 1, 0, 0), (76, .getfield 27, 79, 1, 5, 1), (79, .iconst 0, 80, 0, 0, 0), (80, .aload_n 0, 81, 0, 0, 0), (81, .getfield 27, 84, 1, 5, 1), (84, .iconst 0, 85, 0, 0, 0), (85, .iconst 4, 86, 0, 0, 4), (86, .invokestatic 50, 89, 1001, 0, 0), (89, .aload_n 0, 90, 0, 0, 0), (90, .aload_n 1, 91, 1, 0, 0), (91, .getfield 30, 94, 1, 6, 0), (94, .putfield 30, 97, 1, 6, 0), (97, .aload_n 0, 98, 0, 0, 0), (98, .aload_n 1, 99, 1, 0, 0), (99, .getfield 34, 102, 1, 7, 0), (102, .putfield 34, 105, 1, 7, 0), (105, .aload_n 0, 106, 0, 0, 0), (106, .aload_n 1, 107, 1, 0, 0), (107, .getfield 37, 110, 1, 8, 0), (110, .putfield 37, 113, 1, 8, 0)] [[], [1055], [], [], [1055], [], [], [1126, 1128, 1127, 1005], [], [1057], [], [], [1057], [], [], [1126, 1128, 1127, 1005], [], [1059], [], [], [1059], [], [], [1126, 1128, 1127, 1005], [], [1060], [], [], [1060], [], [], [1126, 1128, 1127, 1005], [], [1061], [], [], [1061], [], [], [1126, 1128, 1127, 1005], [], [1062], [], [], [1062], [], [], [1126, 1128, 1127, 1005], [], [], [1064], [1064], [], [], [1066], [1066], [], [], [1068], [1068]] = true := by decide +kernel
theorem xk_13_1 : xm_okT xq_13 [(113, .aload_n 0, 114, 0, 0, 0), (114, .aload_n 1, 115, 1, 0, 0), (115, .getfield 40, 118, 1, 9, 0), (118, .putfield 40, 121, 1, 9, 0), (121, .aload_n 0, 122, 0, 0, 0), (122, .aload_n 1, 123, 1, 0, 0), (123, .getfield 43, 126, 1, 10, 0), (126, .putfield 43, 129, 1, 10, 0), (129, .return_, 130, 0, 0, 0)] [[], [], [1070], [1070], [], [], [1072], [1072], []] = true := by decide +kernel
set_option maxRecDepth 100000 in
theorem xk_13 : ∃ ps, xm_okT xq_13 xt_13 ps = true := ⟨_, (xm_okT_app _ _ _ _ rfl xk_13_0 xk_13_1)⟩
theorem xk_14 : ∃ ps, xm_okT xq_14 xt_14 ps = true := ⟨[[], [], [1003, 1133, 1135, 2], [], [], [], [], [1141], [], [], [1066], [], [], [1142], [], [], [1066], [], [], [], [1066], [], [], [1066], [], [], [], [], [1003, 1143, 1145, 4], [], []], by decide +kernel⟩
theorem xk_15 : ∃ ps, xm_okT xq_15 xt_15 ps = true := ⟨[[], [1003, 1162, 1163], [], [], [], [1003, 1165, 1166, 1167], [], [1169], [], [], [1062], [], [], [], [], [1003, 1170, 1171, 1172], []], by decide +kernel⟩
theorem xk_16 : ∃ ps, xm_okT xq_16 xt_16 ps = true := ⟨[[], [1003, 1162, 1163], [], [1169], [], [], [1062], [], [], [], [], [], [], [1141], [], [], [1062], [], [], [], [], []], by decide +kernel⟩
theorem xk_17 : ∃ ps, xm_okT xq_17 xt_17 ps = true := ⟨[[], [], [1003, 1165, 1166, 1167], [], [], [1003, 1190, 1191], [], [], [], [1003, 1165, 1166, 1167], [], [1169], [], [], [1060], [], [], [], [], [], [], [], [], [], [], [1003, 1193, 1194, 1195], [], [], [], [], []], by decide +kernel⟩
theorem xk_18 : ∃ ps, xm_okT xq_18 xt_18 ps = true := ⟨[[], [], [1003, 1165, 1166, 1167], [], [], [1003, 1190, 1191], [], [1169], [], [], [], [], [1003, 1197, 1198, 1199], [], [], [], [], [1141], [], [], [1060], [], [], [], [], [], [], [], [], []], by decide +kernel⟩
theorem xk_19 : ∃ ps, xm_okT xq_19 xt_19 ps = true := ⟨[[], [], [1003, 1165, 1166, 1167], [], [1169], [], [], [1064], [], [1001, 9999, 1226], [], [1141], [], [], [], [1064], [], [], [], [], [1064], [], [1064], [1007, 1228, 1229], []], by decide +kernel⟩
theorem xk_20 : ∃ ps, xm_okT xq_20 xt_20 ps = true := ⟨[[], [], [1003, 1165, 1166, 1167], [], [1169], [], [], [1064], [], [1001, 9999, 1226], [], [1141], [], [], [], [1064], [], [], [], [], [], [], [1064], [], [1064], [1007, 1228, 1229], []], by decide +kernel⟩
theorem xk_21_0 : xm_okT xq_21 [(0, .iload_n 1, 1, 1, 0, 0), (1, .ifCond .lt 8, 4, 9, 0, 0), (4, .iload_n 1, 5, 1, 0, 0), (5, .iconst 2, 6, 0, 0, 2), (6, .if_icmp .lt 6, 9, 12, 0, 0), (9, .ldc 73, 11, 0, 0, (-1000001)), (11, .ireturn, 12, 0, 0, 0), (12, .aload_n 0, 13, 0, 0, 0), (13, .iload_n 1, 14, 1, 0, 0), (14, .invokevirtual 97, 17, 52, 2, 1), (17, .istore_n 2, 18, 2, 0, 0), (18, .aload_n 0, 19, 0, 0, 0), (19, .iload_n 1, 20, 1, 0, 0), (20, .invokevirtual 100, 23, 48, 2, 1), (23, .iload_n 2, 24, 2, 0, 0), (24, .iconst (-1), 25, 0, 0, (-1)), (25, .ixor, 26, 0, 0, 0), (26, .iand, 27, 0, 0, 0), (27, .istore_n 3, 28, 3, 0, 0), (28, .aload_n 0, 29, 0, 0, 0), (29, .iconst 0, 30, 0, 0, 0), (30, .invokevirtual 103, 33, 46, 2, 1), (33, .istore 4, 35, 4, 0, 0), (35, .aload_n 0, 36, 0, 0, 0), (36, .iload_n 2, 37, 2, 0, 0), (37, .aload_n 0, 38, 0, 0, 0), (38, .getfield 30, 41, 1, 6, 0), (41, .iand, 42, 0, 0, 0), (42, .invokevirtual 106, 45, 23, 2, 1), (45, .iconst 0, 46, 0, 0, 0), (46, .istore 5, 48, 5, 0, 0), (48, .iload 5, 50, 5, 0, 0), (50, .bipush 30, 52, 0, 0, 30), (52, .if_icmp .ge 52, 55, 104, 0, 0), (55, .iload_n 2, 56, 2, 0, 0), (56, .aload_n 0, 57, 0, 0, 0), (57, .getfield 30, 60, 1, 6, 0), (60, .iconst (-1), 61, 0, 0, (-1)), (61, .ixor, 62, 0, 0, 0), (62, .iand, 63, 0, 0, 0), (63, .iload 5, 65, 5, 0, 0), (65, .invokestatic 89, 68, 83, 2, 2), (68, .ifCond .eq 30, 71, 98, 0, 0), (71, .aload_n 0, 72, 0, 0, 0), (72, .iload 5, 74, 5, 0, 0), (74, .iload 4, 76, 4, 0, 0), (76, .iload 5, 78, 5, 0, 0), (78, .invokestatic 89, 81, 83, 2, 2), (81, .ifCond .eq 7, 84, 88, 0, 0), (84, .iconst 1, 85, 0, 0, 1), (85, .goto 4, 88, 89, 0, 0), (88, .iconst 2, 89, 0, 0, 2), (89, .invokevirtual 110, 92, 24, 3, 1), (92, .ifCond .ne 6, 95, 98, 0, 0), (95, .ldc 60, 97, 0, 0, (-1000002)), (97, .ireturn, 98, 0, 0, 0), (98, .iinc 5 1, 101, 5, 0, 1), (101, .goto (-53), 104, 48, 0, 0), (104, .aload_n 0, 105, 0, 0, 0), (105, .iload_n 3, 106, 3, 0, 0)] [[], [], [], [], [], [1169], [], [], [], [1003, 2010, 2011, 2012], [], [], [], [1003, 2014, 2015, 2016], [], [], [], [], [], [], [], [1003, 2038, 2039, 2040], [], [], [], [], [1064], [], [1003, 2042, 2044, 7], [], [], [], [], [], [], [], [1064], [], [], [], [], [1001, 9999, 1226], [], [], [], [], [], [1001, 9999, 1226], [], [], [], [], [1003, 2050, 2052, 8], [], [1141], [], [], [], [], []] = true := by decide +kernel
theorem xk_21_1 : xm_okT xq_21 [(106, .invokevirtual 113, 109, 27, 2, 1), (109, .aload_n 0, 110, 0, 0, 0), (110, .dup, 111, 0, 0, 0), (111, .getfield 37, 114, 1, 8, 0), (114, .iconst 1, 115, 0, 0, 1), (115, .iadd, 116, 0, 0, 0), (116, .putfield 37, 119, 1, 8, 0), (119, .iload_n 3, 120, 3, 0, 0), (120, .invokestatic 92, 123, 166, 1, 0), (123, .ireturn, 124, 0, 0, 0)] [[1003, 2058, 2060, 10], [], [], [1068], [], [], [1068], [], [1007, 1228, 1229], []] = true := by decide +kernel
set_option maxRecDepth 100000 in
theorem xk_21 : ∃ ps, xm_okT xq_21 xt_21 ps = true := ⟨_, (xm_okT_app _ _ _ _ rfl xk_21_0 xk_21_1)⟩
theorem xk_22 : ∃ ps, xm_okT xq_22 xt_22 ps = true := ⟨[[], [1003, 2022, 2023, 2024], [], [1003, 2074, 2075, 2076], [], [], [], [], [], [], [1003, 2058, 2060, 10], [], [], [1070], [], [], [1070], [], [1007, 1228, 1229], []], by decide +kernel⟩
theorem xk_23 : ∃ ps, xm_okT xq_23 xt_23 ps = true := ⟨[[], [], [], [], [], [], [], [1003, 2046, 2047, 2048], [], [], [], [], [1055], [], [], [], [], [], [], [], [], []], by decide +kernel⟩
theorem xk_24 : ∃ ps, xm_okT xq_24 xt_24 ps = true := ⟨[[], [], [1003, 1133, 1135, 2], [], [], [], [], [], [], [], [], [1003, 2054, 2056, 9], [], [], [], [], [1003, 1143, 1145, 4], [], [1061], [], [], [], [], [], [], [], [], [1072], [], [], [1072], [], []], by decide +kernel⟩
theorem xk_25 : ∃ ps, xm_okT xq_25 xt_25 ps = true := ⟨[[], [1055], [], [], [], [], [], [], [1057], [], [], [], [], [1059], [], [], [], []], by decide +kernel⟩
theorem xk_26 : ∃ ps, xm_okT xq_26 xt_26 ps = true := ⟨[[], [1059], [], [], [], [], [], [], [], [1057], [], [], [], [], [1059], [], [], [], []], by decide +kernel⟩
theorem xk_27 : ∃ ps, xm_okT xq_27 xt_27 ps = true := ⟨[[], [], [], [], [], [], [], [1001, 9999, 1226], [], [], [], [1003, 2054, 2056, 9], [], [], [], [], [], [], [1060], [], [], [], [], [], [], [], [], [], [], [], [], [1003, 2062, 2064, 11], []], by decide +kernel⟩
theorem xk_28 : ∃ ps, xm_okT xq_28 xt_28 ps = true := ⟨[[], [], [], [], [], [], [], [1003, 2046, 2047, 2048], [], [], [1055], [], [], [], [], [], []], by decide +kernel⟩
theorem xk_29 : ∃ ps, xm_okT xq_29 xt_29 ps = true := ⟨[[], [], [], [], [], [], [1055], [], [], [], [], [], [], [1003, 1137, 1139, 3], [], [], [], [], [], [], [], [], [], [], [], [], [], [], [1055], [], [], [], [], [], [], [], [], [], [], [], []], by decide +kernel⟩
theorem xk_30 : ∃ ps, xm_okT xq_30 xt_30 ps = true := ⟨[[], [], [], [], [], [], [], [], [], [], [], [], [1057], [], [], [], [], [], [], [], [], [], []], by decide +kernel⟩
theorem xk_31 : ∃ ps, xm_okT xq_31 xt_31 ps = true := ⟨[[], [], [], [], [], [], [], [], []], by decide +kernel⟩
theorem xk_32 : ∃ ps, xm_okT xq_32 xt_32 ps = true := ⟨[[], [], [], [], [], [], [], [], []], by decide +kernel⟩
theorem xk_33 : ∃ ps, xm_okT xq_33 xt_33 ps = true := ⟨[[], [], [], [], [], [], [], [1066], [], [], [], [], []], by decide +kernel⟩
theorem xk_34 : ∃ ps, xm_okT xq_34 xt_34 ps = true := ⟨[[], [], [], [], [], [], [1059], [], [], [], [], [], [], [], []], by decide +kernel⟩
theorem xk_35 : ∃ ps, xm_okT xq_35 xt_35 ps = true := ⟨[[], [], [1003, 1165, 1166, 1167], [], [], [], [], [1059], [], [], [], [], [], [], [], [1059], [], [], [], [], [], []], by decide +kernel⟩
theorem xk_36 : ∃ ps, xm_okT xq_36 xt_36 ps = true := ⟨[[], [], [1003, 1165, 1166, 1167], [], [], [1055], [], [1059], [], [], [], [], [], [], [], []], by decide +kernel⟩
theorem xk_37 : ∃ ps, xm_okT xq_37 xt_37 ps = true := ⟨[[], [], [1003, 1201, 1202, 1203], [], [], [1061], [], [], [], [], []], by decide +kernel⟩
theorem xk_38 : ∃ ps, xm_okT xq_38 xt_38 ps = true := ⟨[[], [], [1003, 1201, 1202, 1203], [], [], [1003, 1190, 1191], [], [], [], [], [1060], [], [], [], [], [], [], []], by decide +kernel⟩
theorem xk_39 : ∃ ps, xm_okT xq_39 xt_39 ps = true := ⟨[[], [], [], [1003, 1197, 1198, 1199], [], [], [], [], [], [], [1003, 1205, 1206, 1207], [], [], [1003, 1205, 1206, 1207], [], [], [], [], []], by decide +kernel⟩
theorem xk_40 : ∃ ps, xm_okT xq_40 xt_40 ps = true := ⟨[[], [], [], [], [], [], [], [], [1062], [], [], [], [], [], [], [], [], [], [], [], [], [], []], by decide +kernel⟩
theorem xk_41 : ∃ ps, xm_okT xq_41 xt_41 ps = true := ⟨[[], [], [], [], [], [], [], [], [], [], [], [], [], [1060], [], [], [], [], [], [], [], [], [], [], [], [], [], [], [], [], [], [], [], []], by decide +kernel⟩
theorem xk_42 : ∃ ps, xm_okT xq_42 xt_42 ps = true := ⟨[[], [], [], [], [], [], [], [], [], [], [], [], [], [1057], [], [], [], [], [], [], [], [], [], [], [], [], [], [], [], [], [], [], [], []], by decide +kernel⟩
theorem xk_43 : ∃ ps, xm_okT xq_43 xt_43 ps = true := ⟨[[], [], [], [], [], [], [], [], [1062], [], [], [], [], [], [], [], [], []], by decide +kernel⟩
theorem xk_44 : ∃ ps, xm_okT xq_44 xt_44 ps = true := ⟨[[], [], [], [], [], [], [], [], [1055], [], [], [], [], [], [], [], [], []], by decide +kernel⟩
theorem xk_45 : ∃ ps, xm_okT xq_45 xt_45 ps = true := ⟨[[], [], [], [], [], [], [], [], [], [], [], [], [], [], [], [1003, 1193, 1194, 1195], [], [], [], [], [], [], [], []], by decide +kernel⟩
theorem xk_46 : ∃ ps, xm_okT xq_46 xt_46 ps = true := ⟨[[], [], [], [1003, 2018, 2020, 6], []], by decide +kernel⟩
theorem xk_47 : ∃ ps, xm_okT xq_47 xt_47 ps = true := ⟨[[], [], [], [1003, 2018, 2020, 6], []], by decide +kernel⟩
theorem xk_48 : ∃ ps, xm_okT xq_48 xt_48 ps = true := ⟨[[], [], [], [1003, 2018, 2020, 6], []], by decide +kernel⟩
theorem xk_49 : ∃ ps, xm_okT xq_49 xt_49 ps = true := ⟨[[], [], [], [], [], [], [], [], [1059], [], [], [], [], [], [], [], [1055], [], [], [], [], [], [], [], [], [], [], [], [], [], [], [], [], [], [], [], [], []], by decide +kernel⟩
theorem xk_50 : ∃ ps, xm_okT xq_50 xt_50 ps = true := ⟨[[], [1064], [], [], [], [], [], [], [], [1062], [], [], [], [], [], [], [], [1062], [], [], [], [], [], [], [], [], []], by decide +kernel⟩
theorem xk_51 : ∃ ps, xm_okT xq_51 xt_51 ps = true := ⟨[[], [], [1003, 2030, 2031, 2032], [], [1003, 2022, 2023, 2024], [1003, 2034, 2035, 2036], []], by decide +kernel⟩
theorem xk_52 : ∃ ps, xm_okT xq_52 xt_52 ps = true := ⟨[[], [], [1003, 2014, 2015, 2016], [], [], [], [1003, 2022, 2023, 2024], [], [], [], [], [1003, 2026, 2027, 2028], [], [], [], [1003, 2030, 2031, 2032], [], [], [], [1003, 2034, 2035, 2036], []], by decide +kernel⟩
theorem xk_53 : ∃ ps, xm_okT xq_53 xt_53 ps = true := ⟨[[], [], [], [], [], [], [], [], [], [], [], [], [], [], [], [], [], [], [], [1060], [], [], [], [], [], [], [], [], [], [], [], [], [], [], [], [], [], [], [], [], [], []], by decide +kernel⟩
theorem xk_54 : ∃ ps, xm_okT xq_54 xt_54 ps = true := ⟨[[], [], [], [], [], [], [], [], [], [], [], [], [], [], [], [1003, 2026, 2027, 2028], [], [], [], [], [], [], [], [], [], [], [], [], [], [], []], by decide +kernel⟩
theorem xk_55 : ∃ ps, xm_okT xq_55 xt_55 ps = true := ⟨[[], [1013, 1014, 1015], [], [], [1016], [1097], [], [1018, 1019, 1002], [], [1002, 9999, 1021], [1098], [], [], [1099], [], [], [1100], [], [], [], [], [], [], [1097], [], [1016, 1047, 1003], [], [1003, 1048, 1049], [], [], [], []], by decide +kernel⟩
theorem xk_56 : ∃ ps, xm_okT xq_56 xt_56 ps = true := ⟨[[], [], [1001, 1114, 1116, 0], [1003, 1129, 1130, 1131], [1001, 1147, 1149, 5], []], by decide +kernel⟩
theorem xk_57 : ∃ ps, xm_okT xq_57 xt_57 ps = true := ⟨[[], [], [1001, 1114, 1116, 0], [], [], [1003, 1158, 1159, 1160], [1001, 1147, 1149, 5], []], by decide +kernel⟩
theorem xk_58 : ∃ ps, xm_okT xq_58 xt_58 ps = true := ⟨[[], [], [1001, 1114, 1116, 0], [], [1003, 1178, 1179, 1180], [1001, 1147, 1149, 5], []], by decide +kernel⟩
theorem xk_59 : ∃ ps, xm_okT xq_59 xt_59 ps = true := ⟨[[], [], [1001, 1114, 1116, 0], [], [], [], [1003, 1186, 1187, 1188], [1001, 1147, 1149, 5], []], by decide +kernel⟩
theorem xk_60 : ∃ ps, xm_okT xq_60 xt_60 ps = true := ⟨[[], [], [1001, 1114, 1116, 0], [], [], [1003, 1213, 1214, 1215], [1001, 1147, 1149, 5], []], by decide +kernel⟩
theorem xk_61 : ∃ ps, xm_okT xq_61 xt_61 ps = true := ⟨[[], [], [1001, 1114, 1116, 0], [], [1003, 1221, 1222, 1223], [1001, 1147, 1149, 5], []], by decide +kernel⟩
theorem xk_62 : ∃ ps, xm_okT xq_62 xt_62 ps = true := ⟨[[], [], [1001, 1114, 1116, 0], [], [1003, 1238, 1239, 2000], [1001, 1147, 1149, 5], []], by decide +kernel⟩
theorem xk_63 : ∃ ps, xm_okT xq_63 xt_63 ps = true := ⟨[[], [], [1001, 1114, 1116, 0], [], [1003, 2006, 2007, 2008], [1001, 1147, 1149, 5], []], by decide +kernel⟩
theorem xk_64 : ∃ ps, xm_okT xq_64 xt_64 ps = true := ⟨[[], [], [1001, 1114, 1116, 0], [1003, 2070, 2071, 2072], [1001, 1147, 1149, 5], []], by decide +kernel⟩
theorem xk_65 : ∃ ps, xm_okT xq_65 xt_65 ps = true := ⟨[[], [1001, 1118, 1120, 1], [], [], [], [1003, 2082, 1202, 1203], [], [2083], [], [], [], [], [], [1003, 2084, 1166, 1167], [], [], [], [], [], [], [], [1003, 2085, 2086, 2087], [1001, 2089, 2090], [], [], [], [1003, 2093, 1206, 1207], [1001, 2089, 2090], [], [], [1065], [], [1001, 2094, 1226], [], [], [], [], [], [], [], [], [], [], [1003, 2095, 1198, 1199], [1001, 2089, 2090], [], [], [], [1003, 2096, 2097, 2098], [], [], [], [1003, 2100, 2101, 2102], [], [], [], [1003, 2104, 2105, 2106], [], [2083], []], by decide +kernel⟩
theorem xk_66 : ∃ ps, xm_okT xq_66 xt_66 ps = true := ⟨[[], [], [], [], [], [2083], [], [], [1001, 1118, 1120, 1], [], [], [], [], [1056], [], [], [1001, 2089, 2090], [], [], [], [1003, 2112, 2047, 2048], [1007, 2113, 1229], [], [], [], [1003, 2112, 2047, 2048], [], [], [1058], [], [], [], [], [], [], [], [], [1001, 2089, 2090], [], [2083], []], by decide +kernel⟩
theorem xk_67 : ∃ ps, xm_okT xq_67 xt_67 ps = true := ⟨[[], [], [], [], [], [2083], [], [], [1001, 1118, 1120, 1], [1063], [], [], [1001, 2089, 2090], []], by decide +kernel⟩
theorem xk_68 : ∃ ps, xm_okT xq_68 xt_68 ps = true := ⟨[[], [], [2083], [], [], [1001, 1118, 1120, 1], [], [], [], [], [], [], [], [], [], [], [], [], [], [], [], [], [1003, 2122, 1194, 1195], [], [], [], [], [], [], [], [], [], [], [], [], [], [], [2092], []], by decide +kernel⟩
theorem xk_69 : ∃ ps, xm_okT xq_69 xt_69 ps = true := ⟨[[], [1001, 1118, 1120, 1], [], [], [], [], [1003, 2127, 2075, 2076], [], [], [1003, 2128, 2023, 2024], [], [1003, 2127, 2075, 2076], [], [], [], [], [2083], []], by decide +kernel⟩
theorem xk_70 : ∃ ps, xm_okT xq_70 xt_70 ps = true := ⟨[[], [], [], [], [], [2083], [], [], [1001, 1118, 1120, 1], [], [], [], [1003, 2133, 2011, 2012], [], [], [], [], [], [], [], [1003, 2134, 2015, 2016], [], [], [], [], [], [], [], [1065], [], [], [], [1007, 2113, 1229], [], [], [1001, 1114, 1116, 0], [], [1003, 2006, 2007, 2008], [], [], [], [], [], [2083], []], by decide +kernel⟩
theorem xk_71 : ∃ ps, xm_okT xq_71 xt_71 ps = true := ⟨[[], [1001, 1118, 1120, 1], [], [], [], [1003, 2084, 1166, 1167], [], [2083], [], [], [1003, 2128, 2023, 2024], [], [], [], [], [], [], [], [], [], [1003, 2139, 2031, 2032], [], [1003, 2140, 2035, 2036], [], [], [1003, 2127, 2075, 2076], [], [], [], [], [], [], []], by decide +kernel⟩
theorem xk_72 : ∃ ps, xm_okT xq_72 xt_72 ps = true := ⟨[[], [1001, 1118, 1120, 1], [], [], [], [1003, 2084, 1166, 1167], [], [2083], [], [], [1003, 2139, 2031, 2032], [], [], [], [], [], [], [], [], [1001, 2094, 1226], [], [], [], [], [], [], [1003, 2145, 2027, 2028], [], [], [], [], [2092], []], by decide +kernel⟩
theorem xk_73 : ∃ ps, xm_okT xq_73 xt_73 ps = true := ⟨[[], [1001, 1118, 1120, 1], [], [], [1003, 2128, 2023, 2024], [1007, 2113, 1229], [], [], [], [], [1067], [], [], [], [], [1065], [1007, 2113, 1229], [], [], [], [], [], [1003, 2150, 2039, 2040], [1007, 2113, 1229], [], [], [1003, 2151, 2152, 2153], [], [], [1003, 2155, 2156, 2157], [], [], [1069], [], [], [1071], [], [], [1067], [], [], [], [], [1073], [], [], [1100], [], [], [1098], [1027], [], [2083], []], by decide +kernel⟩
theorem xk_74 : ∃ ps, xm_okT xq_74 xt_74 ps = true := ⟨[[], [1100], [], [2163], [], [], [], [1099], [], [], [], [], [], [], [1099], [], [], [1100], [], [], [1100], [], [1100], []], by decide +kernel⟩
theorem xk_75 : ∃ ps, xm_okT xq_75 xt_75 ps = true := ⟨[[], [], [], [], [], [], [2083], [], [], [1098], [], [1002, 2168, 2169, 2170], []], by decide +kernel⟩
theorem xk_76 : ∃ ps, xm_okT xq_76 xt_76 ps = true := ⟨[[], [1098], [1027], [], [], [1098], [], [1027], [], []], by decide +kernel⟩
theorem xk_77 : ∃ ps, xm_okT xq_77 xt_77 ps = true := ⟨[[], [], [], [], [], [2083], [], [], [1098], [], [1001, 1114, 1116, 0], [1002, 2181, 2182, 2183], [], [], [1098], [1032], [], [2092], [], [], [], [], [1098], [1030], [], [], [1098], [1032], []], by decide +kernel⟩
theorem xk_78 : ∃ ps, xm_okT xq_78 xt_78 ps = true := ⟨[[], [1098], [], [1001, 1114, 1116, 0], [1002, 2181, 2182, 2183], [], [], [], [1098], [1032], [], [], [], [2163], [1001, 1147, 1149, 5], []], by decide +kernel⟩
theorem xk_79 : ∃ ps, xm_okT xq_79 xt_79 ps = true := ⟨[[], [1097], [], [1099], [], []], by decide +kernel⟩
theorem xk_80 : ∃ ps, xm_okT xq_80 xt_80 ps = true := ⟨[[], [1097], [], [1099], [], [], [], [], [], [], [], [], [1001, 1118, 1120, 1], [1003, 1122, 1123, 1124], [], []], by decide +kernel⟩
theorem xk_81 : ∃ ps, xm_okT xq_81 xt_81 ps = true := ⟨[[], [], [], [], [1099], [], [], [], [], [1099], [], [], [1100], [], [], [], [1151, 1152, 1006, 1153], [1100], [], []], by decide +kernel⟩
theorem xk_82 : ∃ ps, xm_okT xq_82 xt_82 ps = true := ⟨[[], [], [], [2092], [], [], []], by decide +kernel⟩
theorem xk_83 : ∃ ps, xm_okT xq_83 xt_83 ps = true := ⟨[[], [], [], [], [], [], [], [], [], []], by decide +kernel⟩
theorem xk_84 : ∃ ps, xm_okT xq_84 xt_84 ps = true := ⟨[[], [2232, 1014, 1015], [], [], [1046], [2233], [], [], [1046], [2235], [], [], [1046], [2237], [], [], [1046], [3000], [], [], [1046], [3004], []], by decide +kernel⟩
theorem xk_85 : ∃ ps, xm_okT xq_85 xt_85 ps = true := ⟨[[], [], [], [], [], [], [], [], [], []], by decide +kernel⟩
theorem xk_86 : ∃ ps, xm_okT xq_86 xt_86 ps = true := ⟨[[], [], [], [], [], [], [], []], by decide +kernel⟩
theorem xk_87 : ∃ ps, xm_okT xq_87 xt_87 ps = true := ⟨[[], [], [], [2233], [], [], [], [], [1004, 3083, 3084], [], [], [2233], [], [], [1004, 3059, 3060], [], [], [], [], [], []], by decide +kernel⟩
theorem xk_88 : ∃ ps, xm_okT xq_88 xt_88 ps = true := ⟨[[], [], [], [1004, 3083, 3084], []], by decide +kernel⟩
theorem xk_89 : ∃ ps, xm_okT xq_89 xt_89 ps = true := ⟨[[], [], [], [1004, 3083, 3084], []], by decide +kernel⟩
theorem xk_90 : ∃ ps, xm_okT xq_90 xt_90 ps = true := ⟨[[], [], [], [], [], [], [], [], [], [], []], by decide +kernel⟩
theorem xk_91 : ∃ ps, xm_okT xq_91 xt_91 ps = true := ⟨[[], [], [], [], [], [], [], [], [], [], [], [], [], [], [], [], [], [], []], by decide +kernel⟩
theorem xk_92 : ∃ ps, xm_okT xq_92 xt_92 ps = true := ⟨[[], [], [], [], [], [], [2233], [], [], [], [], [2233], [], [], [], [], [], [], [], []], by decide +kernel⟩
theorem xk_93 : ∃ ps, xm_okT xq_93 xt_93 ps = true := ⟨[[], [2234], [], [], [], [], [], [], [], [], [], [], [], [], [], [], [], [], [1004, 3035, 3037, 17], [], [], [], [], [2234], [], [], [2234], [], [], [], [], [], [2234], [], [], [1004, 3035, 3037, 17], [], [], [2234], [], [], [2234], []], by decide +kernel⟩
theorem xk_94 : ∃ ps, xm_okT xq_94 xt_94 ps = true := ⟨[[], [2234], [], [3034], [], [], [], [2234], [], [], [2234], [], [], [], [], [2234], [], [], [], [1004, 3035, 3037, 17], [], [2234], []], by decide +kernel⟩
theorem xk_95 : ∃ ps, xm_okT xq_95 xt_95 ps = true := ⟨[[], [2233], [], [], [1004, 3059, 3060], [], [], [], [], [], []], by decide +kernel⟩
theorem xk_96 : ∃ ps, xm_okT xq_96 xt_96 ps = true := ⟨[[], [2233], [], [], [], [1004, 3126, 3128, 32], [], [], [], [], []], by decide +kernel⟩
theorem xk_97 : ∃ ps, xm_okT xq_97 xt_97 ps = true := ⟨[[], [], [], [], [], [], [2233], [], [], [], [], [], [], [1004, 3086, 3088, 25], [], [], [], [1004, 3122, 3124, 31], [], [], [], [], [], [], [], [], [], [], [], [], []], by decide +kernel⟩
theorem xk_98 : ∃ ps, xm_okT xq_98 xt_98 ps = true := ⟨[[], [], [], [], [2233], [], [], [], [], [2233], [], [], [1004, 3059, 3060], [], [], [], [], [], [], [], [], [], [3062], []], by decide +kernel⟩
theorem xk_99 : ∃ ps, xm_okT xq_99 xt_99 ps = true := ⟨[[], [], [], [], [], [], [], [], [], [], [], [], [], [1004, 3055, 3057, 21], [3062], [], [], [], [], [], [3062], []], by decide +kernel⟩
theorem xk_100 : ∃ ps, xm_okT xq_100 xt_100 ps = true := ⟨[[], [], [], [], [], [], [2233], [], [], [], [], [], [], [], [], [], [], [1004, 3051, 3053, 20], [3062], [], [], [], [1004, 3051, 3053, 20], [], [], [], [], [], [], [], [], [], [2233], [], [], [], [], [], [], [2233], [], [], [], [], [], [], [], [], [], [], [], [], [], [3062], []], by decide +kernel⟩
theorem xk_101 : ∃ ps, xm_okT xq_101 xt_101 ps = true := ⟨[[], [], [], [], [], [], [], [], [], [], [], [], [], [], [], [], [], [], [], [], [], [], [1004, 3055, 3057, 21], [3062], [], [], [], [], [], [], [], [], [2233], [], [], [], [], [], [], [], [], [2233], [], [], [], [], [], [], [], []], by decide +kernel⟩
theorem xk_102 : ∃ ps, xm_okT xq_102 xt_102 ps = true := ⟨[[], [], [], [1004, 3035, 3037, 17], [], [], [1004, 3047, 3049, 19], [3062], [], [], [], [], [], [], [], [], [1004, 3035, 3037, 17], [], [], [3034], [], [], [2233], [], [], [], [], [3063], [], [], []], by decide +kernel⟩
theorem xk_103 : ∃ ps, xm_okT xq_103 xt_103 ps = true := ⟨[[], [2233], [], [], [], [], [], [1004, 3047, 3049, 19], [], [], [], [], [], [], [], [2233], [], [], [1004, 3059, 3060], [], [], [], [], [], [2233], [], [], [1004, 3059, 3060], [], [], [], [], [], [2233], [], [], [], [], [], [], [], []], by decide +kernel⟩
theorem xk_104 : ∃ ps, xm_okT xq_104 xt_104 ps = true := ⟨[[], [1004, 3043, 3045, 18], [], [], [], [], [], [], [], [1004, 3064, 3066, 22], [], [1004, 3068, 3070, 23], []], by decide +kernel⟩
theorem xk_105 : ∃ ps, xm_okT xq_105 xt_105 ps = true := ⟨[[], [1004, 3080, 3081], [], [], [], [1004, 3086, 3088, 25], [], [], [], [3090], []], by decide +kernel⟩
theorem xk_106 : ∃ ps, xm_okT xq_106 xt_106 ps = true := ⟨[[], [2233], [], [], [], [], [], [], [], [], [], [], [], [], [], [], [], [], [2233], [], [], [], [], [], [], [], [], [], [], [], [], [], []], by decide +kernel⟩
theorem xk_107 : ∃ ps, xm_okT xq_107 xt_107 ps = true := ⟨[[], [], [], [1004, 3076, 3078, 24], [], [], [], [], [], [], [], [1004, 3064, 3066, 22], [], [], [], [1004, 3091, 3093, 26], []], by decide +kernel⟩
theorem xk_108 : ∃ ps, xm_okT xq_108 xt_108 ps = true := ⟨[[], [1004, 3080, 3081], [], [3090], [], [], [2233], [], [], [], [], [], [3034], [], [], []], by decide +kernel⟩
theorem xk_109 : ∃ ps, xm_okT xq_109 xt_109 ps = true := ⟨[[], [2233], [], [], [], [], [], [], [], [], [2233], [], [], [], [], [], [], []], by decide +kernel⟩
theorem xk_110 : ∃ ps, xm_okT xq_110 xt_110 ps = true := ⟨[[], [], [1004, 3099, 3101, 27], [], [], [], [], [], [], [], [1004, 3064, 3066, 22], [], [], [1004, 3103, 3105, 28], []], by decide +kernel⟩
theorem xk_111 : ∃ ps, xm_okT xq_111 xt_111 ps = true := ⟨[[], [], [1004, 3086, 3088, 25], [], [], [1004, 3115, 3116], [], [], [], [1004, 3086, 3088, 25], [], [], [], [3090], []], by decide +kernel⟩
theorem xk_112 : ∃ ps, xm_okT xq_112 xt_112 ps = true := ⟨[[], [2233], [], [], [], [], [1004, 3059, 3060], [], [], [], [], [], [], [1004, 3122, 3124, 31], [], [], [1004, 3122, 3124, 31], [], [], [], [], []], by decide +kernel⟩
theorem xk_113 : ∃ ps, xm_okT xq_113 xt_113 ps = true := ⟨[[], [], [], [], [1004, 3111, 3113, 29], [], [], [], [], [], [], [], [1004, 3064, 3066, 22], [], [], [], [], [1004, 3118, 3120, 30], []], by decide +kernel⟩
theorem xk_114 : ∃ ps, xm_okT xq_114 xt_114 ps = true := ⟨[[], [], [1004, 3086, 3088, 25], [], [], [1004, 3115, 3116], [], [3090], [], [], [2233], [], [], [], [], [1004, 3059, 3060], [], [], [3034], [], [], []], by decide +kernel⟩
theorem xk_115 : ∃ ps, xm_okT xq_115 xt_115 ps = true := ⟨[[], [2233], [], [], [], [], [1004, 3059, 3060], [], [], [], [], [], [2233], [], [], [], [], [1004, 3059, 3060], [], [], [], []], by decide +kernel⟩
theorem xk_116 : ∃ ps, xm_okT xq_116 xt_116 ps = true := ⟨[[], [], [], [1004, 3134, 3136, 33], [], [], [], [], [], [], [], [1004, 3064, 3066, 22], [], [], [], [1004, 3138, 3140, 34], []], by decide +kernel⟩
theorem xk_117 : ∃ ps, xm_okT xq_117 xt_117 ps = true := ⟨[[], [], [], [], [], [], [2233], [], [], [], [], [], [], [1004, 3086, 3088, 25], [], [], [2233], [], [], [1004, 3059, 3060], [], [], [], [], [], [], [], [], [], [], [], [], [], []], by decide +kernel⟩
theorem xk_118 : ∃ ps, xm_okT xq_118 xt_118 ps = true := ⟨[[], [], [1004, 3086, 3088, 25], [], [3090], [], [], [2233], [], [], [1004, 3059, 3060], [], [], [], [3034], [], [], []], by decide +kernel⟩
theorem xk_119 : ∃ ps, xm_okT xq_119 xt_119 ps = true := ⟨[[], [2233], [], [], [1004, 3059, 3060], [], [], [], [1004, 3154, 3156, 37], [1004, 3158, 3159], []], by decide +kernel⟩
theorem xk_120 : ∃ ps, xm_okT xq_120 xt_120 ps = true := ⟨[[], [], [], [1004, 3146, 3148, 35], [], [], [], [], [], [], [], [1004, 3064, 3066, 22], [], [], [], [1004, 3150, 3152, 36], []], by decide +kernel⟩
theorem xk_121 : ∃ ps, xm_okT xq_121 xt_121 ps = true := ⟨[[], [], [], [1004, 3146, 3148, 35], [], [], [], [], [], [], [], [1004, 3064, 3066, 22], [], [], [], [1004, 3150, 3152, 36], []], by decide +kernel⟩
theorem xk_122 : ∃ ps, xm_okT xq_122 xt_122 ps = true := ⟨[[], [], [], [], [], [], [], [], [], [2233], [], [], [], [], [], [], [], [2233], [], [], [], [], [], [], [], [], [], [], [], [], [], [], []], by decide +kernel⟩
theorem xk_123 : ∃ ps, xm_okT xq_123 xt_123 ps = true := ⟨[[], [], [], [], [], [], [2233], [], [], [], [], [], [], [], [], [], [], [1004, 3208, 3209], [], [], [], [2233], [], [], [], [], [1004, 3059, 3060], [], [], [], [], [2233], [], [], [], [], [1004, 3059, 3060], [], [], [], [], [], [], [], [], [], [], [], [], [], []], by decide +kernel⟩
theorem xk_124 : ∃ ps, xm_okT xq_124 xt_124 ps = true := ⟨[[], [], [], [], [], [], [], [], [], [], [1004, 3204, 3206, 46], [], [], [], [], [], [], [], [], [], [], [], [], [], []], by decide +kernel⟩
theorem xk_125 : ∃ ps, xm_okT xq_125 xt_125 ps = true := ⟨[[], [1004, 3196, 3198, 44], [], [1004, 3154, 3156, 37], [], []], by decide +kernel⟩
theorem xk_126 : ∃ ps, xm_okT xq_126 xt_126 ps = true := ⟨[[], [], [1004, 3188, 3190, 42], []], by decide +kernel⟩
theorem xk_127 : ∃ ps, xm_okT xq_127 xt_127 ps = true := ⟨[[], [], [1004, 3192, 3194, 43], [], [1004, 3200, 3202, 45], [1004, 3211, 3213, 47], []], by decide +kernel⟩
theorem xk_128 : ∃ ps, xm_okT xq_128 xt_128 ps = true := ⟨[[], [], [1004, 3188, 3190, 42], [], [], [], [1004, 3192, 3194, 43], [], [], [1004, 3200, 3202, 45], [], [], [], [], [1004, 3204, 3206, 46], [], [], [1004, 3211, 3213, 47], []], by decide +kernel⟩
theorem xk_129 : ∃ ps, xm_okT xq_129 xt_129 ps = true := ⟨[[], [], [], [], [2233], [], [], [], [], [], [], [], [], [], [], [1004, 3208, 3209], [], [], [2233], [], [], [1004, 3059, 3060], [], [], [], [], [], [], [], [1004, 3219, 3221, 49], []], by decide +kernel⟩
theorem xk_130_0 : xm_okT xq_130 [(0, .aload_n 0, 1, 0, 0, 0), (1, .iload_n 1, 2, 1, 0, 0), (2, .invokevirtual 144, 5, 128, 2, 3), (5, .istore_n 2, 6, 2, 0, 0), (6, .aload_n 0, 7, 0, 0, 0), (7, .iload_n 1, 8, 1, 0, 0), (8, .invokevirtual 129, 11, 97, 2, 3), (11, .iload_n 2, 12, 2, 0, 0), (12, .iconst (-1), 13, 0, 0, (-1)), (13, .ixor, 14, 0, 0, 0), (14, .iand, 15, 0, 0, 0), (15, .istore_n 3, 16, 3, 0, 0), (16, .iload_n 2, 17, 2, 0, 0), (17, .aload_n 0, 18, 0, 0, 0), (18, .invokevirtual 107, 21, 117, 1, 3), (21, .iand, 22, 0, 0, 0), (22, .istore 4, 24, 4, 0, 0), (24, .iconst 0, 25, 0, 0, 0), (25, .istore 5, 27, 5, 0, 0), (27, .iload 5, 29, 5, 0, 0), (29, .bipush 8, 31, 0, 0, 8), (31, .if_icmp .ge 25, 34, 56, 0, 0), (34, .aload_n 0, 35, 0, 0, 0), (35, .getfield 16, 38, 3, 4, 1), (38, .iload 5, 40, 5, 0, 0), (40, .aload_n 0, 41, 0, 0, 0), (41, .getfield 7, 44, 3, 0, 1), (44, .iconst 4, 45, 0, 0, 4), (45, .iload 5, 47, 5, 0, 0), (47, .iadd, 48, 0, 0, 0), (48, .iaload, 49, 0, 0, 0), (49, .iastore, 50, 0, 0, 0), (50, .iinc 5 1, 53, 5, 0, 1), (53, .goto (-26), 56, 27, 0, 0), (56, .iconst 0, 57, 0, 0, 0), (57, .istore 5, 59, 5, 0, 0), (59, .iload 5, 61, 5, 0, 0), (61, .aload_n 0, 62, 0, 0, 0), (62, .getfield 7, 65, 3, 0, 1), (65, .iconst 0, 66, 0, 0, 0), (66, .iaload, 67, 0, 0, 0), (67, .if_icmp .ge 45, 70, 112, 0, 0), (70, .iload 4, 72, 4, 0, 0), (72, .iload 5, 74, 5, 0, 0), (74, .invokestatic 119, 77, 90, 2, 3), (77, .ifCond .eq 29, 80, 106, 0, 0), (80, .aload_n 0, 81, 0, 0, 0), (81, .getfield 7, 84, 3, 0, 1), (84, .iconst 4, 85, 0, 0, 4), (85, .aload_n 0, 86, 0, 0, 0), (86, .iload 5, 88, 5, 0, 0), (88, .invokevirtual 42, 91, 95, 2, 3), (91, .iadd, 92, 0, 0, 0), (92, .aload_n 0, 93, 0, 0, 0), (93, .getfield 16, 96, 3, 4, 1), (96, .aload_n 0, 97, 0, 0, 0), (97, .iload 5, 99, 5, 0, 0), (99, .invokevirtual 42, 102, 95, 2, 3), (102, .iaload, 103, 0, 0, 0), (103, .iconst 1, 104, 0, 0, 1)] [[], [], [1004, 3184, 3186, 41], [], [], [], [1004, 3188, 3190, 42], [], [], [], [], [], [], [], [1004, 3154, 3156, 37], [], [], [], [], [], [], [], [], [2237], [], [], [2233], [], [], [], [], [], [], [], [], [], [], [], [2233], [], [], [], [], [], [1004, 3208, 3209], [], [], [2233], [], [], [], [1004, 3126, 3128, 32], [], [], [2237], [], [], [1004, 3126, 3128, 32], [], []] = true := by decide +kernel
theorem xk_130_1 : xm_okT xq_130 [(104, .iadd, 105, 0, 0, 0), (105, .iastore, 106, 0, 0, 0), (106, .iinc 5 1, 109, 5, 0, 1), (109, .goto (-50), 112, 59, 0, 0), (112, .iconst 0, 113, 0, 0, 0), (113, .istore 5, 115, 5, 0, 0), (115, .iload 5, 117, 5, 0, 0), (117, .aload_n 0, 118, 0, 0, 0), (118, .getfield 7, 121, 3, 0, 1), (121, .iconst 0, 122, 0, 0, 0), (122, .iaload, 123, 0, 0, 0), (123, .if_icmp .ge 89, 126, 212, 0, 0), (126, .iload_n 2, 127, 2, 0, 0), (127, .iload 4, 129, 4, 0, 0), (129, .iconst (-1), 130, 0, 0, (-1)), (130, .ixor, 131, 0, 0, 0), (131, .iand, 132, 0, 0, 0), (132, .iload 5, 134, 5, 0, 0), (134, .invokestatic 119, 137, 90, 2, 3), (137, .ifCond .eq 69, 140, 206, 0, 0), (140, .aload_n 0, 141, 0, 0, 0), (141, .aload_n 0, 142, 0, 0, 0), (142, .getfield 16, 145, 3, 4, 1), (145, .aload_n 0, 146, 0, 0, 0), (146, .iload 5, 148, 5, 0, 0), (148, .invokevirtual 42, 151, 95, 2, 3), (151, .iaload, 152, 0, 0, 0), (152, .invokevirtual 60, 155, 100, 2, 3), (155, .istore 6, 157, 6, 0, 0), (157, .iload 6, 159, 6, 0, 0), (159, .ldc 53, 161, 0, 0, (-1000004)), (161, .if_icmp .ne 5, 164, 166, 0, 0), (164, .iconst 0, 165, 0, 0, 0), (165, .ireturn, 166, 0, 0, 0), (166, .aload_n 0, 167, 0, 0, 0), (167, .getfield 7, 170, 3, 0, 1), (170, .iload 5, 172, 5, 0, 0), (172, .iconst 0, 173, 0, 0, 0), (173, .invokestatic 29, 176, 86, 2, 3), (176, .iload 6, 178, 6, 0, 0), (178, .iconst 1, 179, 0, 0, 1), (179, .iadd, 180, 0, 0, 0), (180, .iastore, 181, 0, 0, 0), (181, .aload_n 0, 182, 0, 0, 0), (182, .getfield 7, 185, 3, 0, 1), (185, .iload 5, 187, 5, 0, 0), (187, .iconst 5, 188, 0, 0, 5), (188, .invokestatic 29, 191, 86, 2, 3), (191, .dup2, 192, 0, 0, 0), (192, .iaload, 193, 0, 0, 0), (193, .iconst 1, 194, 0, 0, 1), (194, .iadd, 195, 0, 0, 0), (195, .iastore, 196, 0, 0, 0), (196, .aload_n 0, 197, 0, 0, 0), (197, .getfield 7, 200, 3, 0, 1), (200, .iconst 3, 201, 0, 0, 3), (201, .dup2, 202, 0, 0, 0), (202, .iaload, 203, 0, 0, 0), (203, .iconst 1, 204, 0, 0, 1), (204, .iadd, 205, 0, 0, 0)] [[], [], [], [], [], [], [], [], [2233], [], [], [], [], [], [], [], [], [], [1004, 3208, 3209], [], [], [], [2237], [], [], [1004, 3126, 3128, 32], [], [1004, 3047, 3049, 19], [], [], [3062], [], [], [], [], [2233], [], [], [1004, 3059, 3060], [], [], [], [], [], [2233], [], [], [1004, 3059, 3060], [], [], [], [], [], [], [2233], [], [], [], [], []] = true := by decide +kernel
theorem xk_130_2 : xm_okT xq_130 [(205, .iastore, 206, 0, 0, 0), (206, .iinc 5 1, 209, 5, 0, 1), (209, .goto (-94), 212, 115, 0, 0), (212, .aload_n 0, 213, 0, 0, 0), (213, .iload_n 3, 214, 3, 0, 0), (214, .invokevirtual 147, 217, 129, 2, 3), (217, .aload_n 0, 218, 0, 0, 0), (218, .getfield 7, 221, 3, 0, 1), (221, .iconst 1, 222, 0, 0, 1), (222, .dup2, 223, 0, 0, 0), (223, .iaload, 224, 0, 0, 0), (224, .iconst 1, 225, 0, 0, 1), (225, .iadd, 226, 0, 0, 0), (226, .iastore, 227, 0, 0, 0), (227, .iconst 1, 228, 0, 0, 1), (228, .ireturn, 229, 0, 0, 0)] [[], [], [], [], [], [1004, 3215, 3217, 48], [], [2233], [], [], [], [], [], [], [], []] = true := by decide +kernel
set_option maxRecDepth 100000 in
theorem xk_130 : ∃ ps, xm_okT xq_130 xt_130 ps = true := ⟨_, (xm_okT_app _ _ _ _ rfl xk_130_0 (xm_okT_app _ _ _ _ rfl xk_130_1 xk_130_2))⟩
theorem xk_131 : ∃ ps, xm_okT xq_131 xt_131 ps = true := ⟨[[], [], [], [1004, 3035, 3037, 17], [], [], [1004, 3180, 3182, 40], [], [], [], [], [1004, 3035, 3037, 17], [], []], by decide +kernel⟩
theorem xk_132 : ∃ ps, xm_okT xq_132 xt_132 ps = true := ⟨[[], [], [], [1004, 3083, 3084], []], by decide +kernel⟩
theorem xk_133 : ∃ ps, xm_okT xq_133 xt_133 ps = true := ⟨[[], [1004, 3173, 3174], [], [3090], [], [], [], [1004, 3176, 3178, 39], [], [], [], [3034], []], by decide +kernel⟩
theorem xk_134 : ∃ ps, xm_okT xq_134 xt_134 ps = true := ⟨[[], [], [1004, 3169, 3171, 38], [], [], [], [], [], [], [], [1004, 3064, 3066, 22], [], [1004, 3200, 3202, 45], [1004, 3158, 3159], [], [], [], [1004, 3180, 3182, 40], [], [], [], [1004, 3200, 3202, 45], [1004, 3158, 3159], [], []], by decide +kernel⟩
theorem xk_135 : ∃ ps, xm_okT xq_135 xt_135 ps = true := ⟨[[], [1004, 3200, 3202, 45], [], [1004, 3231, 3233, 51], [], [], [], [], [], [], [1004, 3215, 3217, 48], [], [2233], [], [], [], [], [], [], [], [1004, 3158, 3159], []], by decide +kernel⟩
theorem xk_136 : ∃ ps, xm_okT xq_136 xt_136 ps = true := ⟨[[], [], [1004, 3064, 3066, 22], [], [1004, 3227, 3229, 50], []], by decide +kernel⟩
theorem xk_137 : ∃ ps, xm_okT xq_137 xt_137 ps = true := ⟨[[], [], [], [], [], [], [2233], [], [], [], [], [], [], [], [], [1004, 3204, 3206, 46], [], [1004, 3208, 3209], [], [], [], [], [], [], [], [], [], [], [], []], by decide +kernel⟩
theorem xk_138 : ∃ ps, xm_okT xq_138 xt_138 ps = true := ⟨[[], [], [], [], [], [], [], [], [], [2233], [], [], [], [], [], [], [], [], [], [], [], [], [], [], [], [], [], [], []], by decide +kernel⟩
theorem xk_139_0 : xm_okT xq_139 [(0, .iload_n 1, 1, 1, 0, 0), (1, .iconst 0, 2, 0, 0, 0), (2, .aload_n 0, 3, 0, 0, 0), (3, .getfield 7, 6, 3, 0, 1), (6, .iconst 0, 7, 0, 0, 0), (7, .iaload, 8, 0, 0, 0), (8, .iconst 1, 9, 0, 0, 1), (9, .isub, 10, 0, 0, 0), (10, .invokestatic 25, 13, 85, 3, 3), (13, .ifCond .ne 6, 16, 19, 0, 0), (16, .ldc 78, 18, 0, 0, (-1000001)), (18, .ireturn, 19, 0, 0, 0), (19, .aload_n 0, 20, 0, 0, 0), (20, .iload_n 1, 21, 1, 0, 0), (21, .invokevirtual 46, 24, 87, 2, 3), (24, .istore_n 3, 25, 3, 0, 0), (25, .iload_n 2, 26, 2, 0, 0), (26, .tableswitch 181 0 9 #[54, 64, 97, 112, 123, 123, 123, 158, 164, 170], 80, 0, 0, 0), (80, .iload_n 3, 81, 3, 0, 0), (81, .ifCond .eq 7, 84, 88, 0, 0), (84, .iconst 1, 85, 0, 0, 1), (85, .goto 4, 88, 89, 0, 0), (88, .iconst 0, 89, 0, 0, 0), (89, .ireturn, 90, 0, 0, 0), (90, .iload_n 3, 91, 3, 0, 0), (91, .ifCond .eq 29, 94, 120, 0, 0), (94, .bipush 10, 96, 0, 0, 10), (96, .aload_n 0, 97, 0, 0, 0), (97, .iload_n 1, 98, 1, 0, 0), (98, .invokevirtual 42, 101, 95, 2, 3), (101, .imul, 102, 0, 0, 0), (102, .aload_n 0, 103, 0, 0, 0), (103, .getfield 7, 106, 3, 0, 1), (106, .iload_n 1, 107, 1, 0, 0), (107, .iconst 0, 108, 0, 0, 0), (108, .invokestatic 29, 111, 86, 2, 3), (111, .iaload, 112, 0, 0, 0), (112, .iconst 1, 113, 0, 0, 1), (113, .isub, 114, 0, 0, 0), (114, .iconst 5, 115, 0, 0, 5), (115, .irem, 116, 0, 0, 0), (116, .iadd, 117, 0, 0, 0), (117, .goto 5, 120, 122, 0, 0), (120, .ldc 53, 122, 0, 0, (-1000004)), (122, .ireturn, 123, 0, 0, 0), (123, .iload_n 3, 124, 3, 0, 0), (124, .ifCond .eq 11, 127, 135, 0, 0), (127, .aload_n 0, 128, 0, 0, 0), (128, .iload_n 1, 129, 1, 0, 0), (129, .invokevirtual 50, 132, 96, 2, 3), (132, .goto 5, 135, 137, 0, 0), (135, .ldc 53, 137, 0, 0, (-1000004)), (137, .ireturn, 138, 0, 0, 0), (138, .aload_n 0, 139, 0, 0, 0), (139, .getfield 7, 142, 3, 0, 1), (142, .iload_n 1, 143, 1, 0, 0), (143, .iconst 1, 144, 0, 0, 1), (144, .invokestatic 29, 147, 86, 2, 3), (147, .iaload, 148, 0, 0, 0), (148, .ireturn, 149, 0, 0, 0)] [[], [], [], [2233], [], [], [], [], [1004, 3083, 3084], [], [3090], [], [], [], [1004, 3086, 3088, 25], [], [], [], [], [], [], [], [], [], [], [], [], [], [], [1004, 3126, 3128, 32], [], [], [2233], [], [], [1004, 3059, 3060], [], [], [], [], [], [], [], [3062], [], [], [], [], [], [1004, 3122, 3124, 31], [], [3062], [], [], [2233], [], [], [1004, 3059, 3060], [], []] = true := by decide +kernel
theorem xk_139_1 : xm_okT xq_139 [(149, .aload_n 0, 150, 0, 0, 0), (150, .getfield 7, 153, 3, 0, 1), (153, .iload_n 1, 154, 1, 0, 0), (154, .iload_n 2, 155, 2, 0, 0), (155, .iconst 2, 156, 0, 0, 2), (156, .isub, 157, 0, 0, 0), (157, .invokestatic 29, 160, 86, 2, 3), (160, .iaload, 161, 0, 0, 0), (161, .ifCond .ne 8, 164, 169, 0, 0), (164, .ldc 53, 166, 0, 0, (-1000004)), (166, .goto 17, 169, 183, 0, 0), (169, .aload_n 0, 170, 0, 0, 0), (170, .getfield 7, 173, 3, 0, 1), (173, .iload_n 1, 174, 1, 0, 0), (174, .iload_n 2, 175, 2, 0, 0), (175, .iconst 2, 176, 0, 0, 2), (176, .isub, 177, 0, 0, 0), (177, .invokestatic 29, 180, 86, 2, 3), (180, .iaload, 181, 0, 0, 0), (181, .iconst 1, 182, 0, 0, 1), (182, .isub, 183, 0, 0, 0), (183, .ireturn, 184, 0, 0, 0), (184, .aload_n 0, 185, 0, 0, 0), (185, .iload_n 1, 186, 1, 0, 0), (186, .invokevirtual 168, 189, 138, 2, 3), (189, .ireturn, 190, 0, 0, 0), (190, .aload_n 0, 191, 0, 0, 0), (191, .iload_n 1, 192, 1, 0, 0), (192, .invokevirtual 171, 195, 137, 2, 3), (195, .ireturn, 196, 0, 0, 0), (196, .aload_n 0, 197, 0, 0, 0), (197, .getfield 7, 200, 3, 0, 1), (200, .iload_n 1, 201, 1, 0, 0), (201, .iconst 5, 202, 0, 0, 5), (202, .invokestatic 29, 205, 86, 2, 3), (205, .iaload, 206, 0, 0, 0), (206, .ireturn, 207, 0, 0, 0), (207, .ldc 78, 209, 0, 0, (-1000001)), (209, .ireturn, 210, 0, 0, 0)] [[], [2233], [], [], [], [], [1004, 3059, 3060], [], [], [3062], [], [], [2233], [], [], [], [], [1004, 3059, 3060], [], [], [], [], [], [], [1004, 3239, 4001, 52], [], [], [], [1004, 4003, 4005, 53], [], [], [2233], [], [], [1004, 3059, 3060], [], [], [3090], []] = true := by decide +kernel
set_option maxRecDepth 100000 in
theorem xk_139 : ∃ ps, xm_okT xq_139 xt_139 ps = true := ⟨_, (xm_okT_app _ _ _ _ rfl xk_139_0 xk_139_1)⟩
theorem xk_140 : ∃ ps, xm_okT xq_140 xt_140 ps = true := ⟨[[], [], [], [], [], [], [2233], [], [], [], [], [], [], [1004, 3086, 3088, 25], [], [], [], [1004, 3126, 3128, 32], [], [], [], [], [], [], [], [], [], [], [], [], []], by decide +kernel⟩
theorem xk_141 : ∃ ps, xm_okT xq_141 xt_141 ps = true := ⟨[[], [], [], [1004, 3083, 3084], [], [], [], [], [1004, 3083, 3084], [], [3090], [], [], [], [], [2233], [], [], [], [], [], [3062], [], [], [2233], [], [], [], [], [], [], [], [], [], [], [], [], [1004, 4011, 4013, 54], [1004, 3158, 3159], [], [], [], [], [], [], [1004, 4011, 4013, 54], [], [], [], [], [], [], [], [], [], [1004, 3055, 3057, 21], []], by decide +kernel⟩
theorem xk_142 : ∃ ps, xm_okT xq_142 xt_142 ps = true := ⟨[[], [1004, 3080, 3081], [], [3090], [], [], [2233], [], [], [], [], [], [3062], [], [], [2233], [], [], [], [], [], [], []], by decide +kernel⟩
theorem xk_143 : ∃ ps, xm_okT xq_143 xt_143 ps = true := ⟨[[], [2233], [], [], [], [], [1004, 3059, 3060], [], [], [], [], [], [], [1004, 3086, 3088, 25], [], [], [], [], [], [1004, 3122, 3124, 31], [], [], [1004, 3122, 3124, 31], [], [], [], [], []], by decide +kernel⟩
theorem xk_144 : ∃ ps, xm_okT xq_144 xt_144 ps = true := ⟨[[], [], [], [], [], [], [], [2233], [], [], [], [], [], [], [], [], [], [], [], [1004, 4027, 4029, 56], [], [], [], [], [], [], [], [], [], [], [], [], [], [], [], [], [], [], [], [], [], [3062], []], by decide +kernel⟩
theorem xk_145 : ∃ ps, xm_okT xq_145 xt_145 ps = true := ⟨[[], [], [3090], [], [], [], [1004, 4023, 4025, 55], []], by decide +kernel⟩
theorem xk_146 : ∃ ps, xm_okT xq_146 xt_146 ps = true := ⟨[[], [], [], [1004, 3231, 3233, 51], [], [], [], [], [], [1004, 3200, 3202, 45], [], [1004, 3231, 3233, 51], [], [], [], [], [3090], []], by decide +kernel⟩
theorem xk_147 : ∃ ps, xm_okT xq_147 xt_147 ps = true := ⟨[[], [1004, 3173, 3174], [], [], [], [], [1004, 3083, 3084], [], [3090], [], [], [], [1004, 3184, 3186, 41], [], [], [], [], [], [], [], [], [], [], [1004, 3188, 3190, 42], [], [], [], [], [], [], [], [], [], [], [1004, 3154, 3156, 37], [], [], [], [1004, 3158, 3159], [], [], [], [1004, 3176, 3178, 39], [], [], [], [], []], by decide +kernel⟩
theorem xk_148 : ∃ ps, xm_okT xq_148 xt_148 ps = true := ⟨[[], [], [1004, 3086, 3088, 25], [], [3090], [], [], [1004, 3200, 3202, 45], [], [], [], [], [], [], [], [], [1004, 3231, 3233, 51], [], [], [], [], [1004, 3192, 3194, 43], [], [1004, 3211, 3213, 47], [], [], [], []], by decide +kernel⟩
theorem xk_149 : ∃ ps, xm_okT xq_149 xt_149 ps = true := ⟨[[], [], [1004, 3086, 3088, 25], [], [3090], [], [], [1004, 3192, 3194, 43], [], [], [], [], [], [1004, 3208, 3209], [], [], [], [1004, 3204, 3206, 46], [], [], [], [], [], [], [], [], [1004, 3204, 3206, 46], [], [], [], [], [], [], [1004, 3208, 3209], [], [], [], [3062], []], by decide +kernel⟩
theorem xk_150 : ∃ ps, xm_okT xq_150 xt_150 ps = true := ⟨[[], [], [], [], [], [], [], [], [], [2233], [], [], [], [], [], [], [], [], [], [], [], [], [], []], by decide +kernel⟩
theorem xk_151_0 : xm_okT xq_151 [(0, .iload_n 1, 1, 1, 0, 0), (1, .tableswitch 180 0 13 #[71, 78, 86, 94, 103, 103, 125, 130, 136, 136, 148, 163, 170, 175], 72, 0, 0, 0), (72, .aload_n 0, 73, 0, 0, 0), (73, .getfield 7, 76, 3, 0, 1), (76, .iconst 0, 77, 0, 0, 0), (77, .iaload, 78, 0, 0, 0), (78, .ireturn, 79, 0, 0, 0), (79, .aload_n 0, 80, 0, 0, 0), (80, .invokevirtual 135, 83, 126, 1, 3), (83, .invokestatic 110, 86, 91, 1, 3), (86, .ireturn, 87, 0, 0, 0), (87, .aload_n 0, 88, 0, 0, 0), (88, .invokevirtual 107, 91, 117, 1, 3), (91, .invokestatic 110, 94, 91, 1, 3), (94, .ireturn, 95, 0, 0, 0), (95, .aload_n 0, 96, 0, 0, 0), (96, .iconst 0, 97, 0, 0, 0), (97, .invokevirtual 129, 100, 97, 2, 3), (100, .invokestatic 110, 103, 91, 1, 3), (103, .ireturn, 104, 0, 0, 0), (104, .aload_n 0, 105, 0, 0, 0), (105, .iload_n 1, 106, 1, 0, 0), (106, .iconst 3, 107, 0, 0, 3), (107, .isub, 108, 0, 0, 0), (108, .invokevirtual 129, 111, 97, 2, 3), (111, .invokestatic 110, 114, 91, 1, 3), (114, .aload_n 0, 115, 0, 0, 0), (115, .iload_n 1, 116, 1, 0, 0), (116, .iconst 4, 117, 0, 0, 4), (117, .isub, 118, 0, 0, 0), (118, .invokevirtual 129, 121, 97, 2, 3), (121, .invokestatic 110, 124, 91, 1, 3), (124, .isub, 125, 0, 0, 0), (125, .ireturn, 126, 0, 0, 0), (126, .aload_n 0, 127, 0, 0, 0), (127, .invokevirtual 183, 130, 150, 1, 3), (130, .ireturn, 131, 0, 0, 0), (131, .aload_n 0, 132, 0, 0, 0), (132, .iconst (-1), 133, 0, 0, (-1)), (133, .invokevirtual 180, 136, 144, 2, 3), (136, .ireturn, 137, 0, 0, 0), (137, .aload_n 0, 138, 0, 0, 0), (138, .getfield 7, 141, 3, 0, 1), (141, .iconst 1, 142, 0, 0, 1), (142, .iload_n 1, 143, 1, 0, 0), (143, .iadd, 144, 0, 0, 0), (144, .bipush 8, 146, 0, 0, 8), (146, .isub, 147, 0, 0, 0), (147, .iaload, 148, 0, 0, 0), (148, .ireturn, 149, 0, 0, 0), (149, .aload_n 0, 150, 0, 0, 0), (150, .getfield 7, 153, 3, 0, 1), (153, .iconst 0, 154, 0, 0, 0), (154, .iaload, 155, 0, 0, 0), (155, .aload_n 0, 156, 0, 0, 0), (156, .invokevirtual 135, 159, 126, 1, 3), (159, .invokestatic 110, 162, 91, 1, 3), (162, .isub, 163, 0, 0, 0), (163, .ireturn, 164, 0, 0, 0), (164, .aload_n 0, 165, 0, 0, 0)] [[], [], [], [2233], [], [], [], [], [1004, 3200, 3202, 45], [1004, 3158, 3159], [], [], [1004, 3154, 3156, 37], [1004, 3158, 3159], [], [], [], [1004, 3188, 3190, 42], [1004, 3158, 3159], [], [], [], [], [], [1004, 3188, 3190, 42], [1004, 3158, 3159], [], [], [], [], [1004, 3188, 3190, 42], [1004, 3158, 3159], [], [], [], [1004, 4051, 4053, 57], [], [], [], [1004, 4023, 4025, 55], [], [], [2233], [], [], [], [], [], [], [], [], [2233], [], [], [], [1004, 3200, 3202, 45], [1004, 3158, 3159], [], [], []] = true := by decide +kernel
theorem xk_151_1 : xm_okT xq_151 [(165, .getfield 7, 168, 3, 0, 1), (168, .iconst 3, 169, 0, 0, 3), (169, .iaload, 170, 0, 0, 0), (170, .ireturn, 171, 0, 0, 0), (171, .aload_n 0, 172, 0, 0, 0), (172, .getfield 33, 175, 3, 1, 0), (175, .ireturn, 176, 0, 0, 0), (176, .aload_n 0, 177, 0, 0, 0), (177, .getfield 186, 180, 3, 3, 0), (180, .ireturn, 181, 0, 0, 0), (181, .ldc 78, 183, 0, 0, (-1000001)), (183, .ireturn, 184, 0, 0, 0)] [[2233], [], [], [], [], [2234], [], [], [2236], [], [3090], []] = true := by decide +kernel
set_option maxRecDepth 100000 in
theorem xk_151 : ∃ ps, xm_okT xq_151 xt_151 ps = true := ⟨_, (xm_okT_app _ _ _ _ rfl xk_151_0 xk_151_1)⟩
theorem xk_152 : ∃ ps, xm_okT xq_152 xt_152 ps = true := ⟨[[], [], [], [1004, 3083, 3084], [], [3090], [], [], [2236], [], [], [3063], [], [], [2235], [], [2236], [], [], [], [], [2236], [], [], [2236], [], [2236], []], by decide +kernel⟩
theorem xk_153 : ∃ ps, xm_okT xq_153 xt_153 ps = true := ⟨[[], [2236], [], [], [], [2236], [], []], by decide +kernel⟩
theorem xk_154 : ∃ ps, xm_okT xq_154 xt_154 ps = true := ⟨[[], [2238], [], [2236], [], [], [2235], [], [2238], [], [], [], []], by decide +kernel⟩
theorem xk_155 : ∃ ps, xm_okT xq_155 xt_155 ps = true := ⟨[[], [1004, 4079, 4081, 61], [], [], [], [], [], [], [], [], [2238], [], [], [], [], [], [], [2238], [], []], by decide +kernel⟩
theorem xk_156 : ∃ ps, xm_okT xq_156 xt_156 ps = true := ⟨[[], [], [], [3000], [], [], [], [], [1004, 4079, 4081, 61], [], [], [1004, 3083, 3084], [], [], [], [], [], [3000], [], [], [], [3000], [], [], [], [], [1004, 4079, 4081, 61], [], [], [], [], [], [], [2238], [], [], [2238], [], [], [], [], [], [], [], []], by decide +kernel⟩
theorem xk_157 : ∃ ps, xm_okT xq_157 xt_157 ps = true := ⟨[[], [], [], [], [], [], [], [], [], [], [], [], [], [], [], [], [], [], [], [], [], [], [], [], [], [], [], [], [], [], [], [], [], []], by decide +kernel⟩
theorem xk_158 : ∃ ps, xm_okT xq_158 xt_158 ps = true := ⟨[[], [], [1004, 4079, 4081, 61], [2239], [], [2239], [1004, 4083, 4084], [], [], [], [2238], [], [], [], [], [], [], [2238], [], [], [], [], [], [], [], [], [], [], [], [], [], [], [], [], [], [1004, 4086, 4088, 62], [], [], [], [1004, 4090, 4092, 63], [], [], [], [], [], [], [], [], [], [], [], [1004, 4086, 4088, 62], [], [], [], [], []], by decide +kernel⟩
theorem xk_159 : ∃ ps, xm_okT xq_159 xt_159 ps = true := ⟨[[], [3000], [], [], [], [], [3000], [], [], [], [], [2239], [], [], [1004, 3043, 3045, 18], [], [], [], [], [1004, 3076, 3078, 24], [], [], [], [1004, 3099, 3101, 27], [], [], [], [], [], [3000], [], [], [1004, 3111, 3113, 29], [], [], [], [], [1004, 3134, 3136, 33], [], [], [], [], [1004, 3146, 3148, 35], [], [], [], [1004, 3169, 3171, 38], [], [], []], by decide +kernel⟩
theorem xk_160 : ∃ ps, xm_okT xq_160 xt_160 ps = true := ⟨[[], [3000], [], [], [], [], [3000], [], [], [], [], [2239], [], [], [1004, 3068, 3070, 23], [], [], [], [], [], [1004, 3091, 3093, 26], [], [], [], [], [1004, 3103, 3105, 28], [], [], [], [], [], [], [3000], [], [], [1004, 3118, 3120, 30], [], [], [], [], [], [1004, 3138, 3140, 34], [], [], [], [], [], [1004, 3150, 3152, 36], [], [], [], [], [1004, 3180, 3182, 40], [], [], [], [1004, 3227, 3229, 50], [], []], by decide +kernel⟩
theorem xk_161 : ∃ ps, xm_okT xq_161 xt_161 ps = true := ⟨[[], [], [2238], [], [], [3002], [], [], [3003], [], [2238], [], [2236], [], [], [3002], [], [], [], [2238], [3001], [], [1004, 4075, 4077, 60], [], [], [], [], [1004, 4094, 4096, 64], [], [], [], [], [], [], [], [3002], [], [], [], [], [], [3090], [], [], [], [], [3002], [], [], [1004, 4098, 4100, 65], [], [], [3003], [], [], [3003], [], []], by decide +kernel⟩
theorem xk_162 : ∃ ps, xm_okT xq_162 xt_162 ps = true := ⟨[[], [], [], [], [], [], [2233], [], [], [3004], [], [], [], [], [], []], by decide +kernel⟩
theorem xk_163 : ∃ ps, xm_okT xq_163 xt_163 ps = true := ⟨[[], [], [], [], [], [], [3004], [], [], [2233], [], [], [], [], [], []], by decide +kernel⟩
theorem xk_164 : ∃ ps, xm_okT xq_164 xt_164 ps = true := ⟨[[], [], [], [1004, 3083, 3084], [], [3090], [], [], [1004, 4067, 4069, 58], [], [1004, 4071, 4073, 59], [], [1004, 4102, 4104, 66], [], [3002], [], [3062], [], [], [], [], [3001], [], [], [3002], []], by decide +kernel⟩
theorem xk_165 : ∃ ps, xm_okT xq_165 xt_165 ps = true := ⟨[[], [1004, 4067, 4069, 58], [], [1004, 4071, 4073, 59], [], [1004, 4102, 4104, 66], [], [3002], [], [3034], [], [], [], [1004, 3064, 3066, 22], [], [1004, 4071, 4073, 59], [], [3003], []], by decide +kernel⟩
theorem xk_166 : ∃ ps, xm_okT xq_166 xt_166 ps = true := ⟨[[], [], [], [], [1231], [], [], [], [], [1232], [], [], [], [], [1232], [], [], [], [], [], [], [], [], [1233], [], [], [], [], [], [], [], [], [], [], [], [], [], [], [], [], [], []], by decide +kernel⟩
theorem xk_167_0 : xm_okT xq_167 [(0, .new 7, 3, 2, 4, 0), (3, .dup, 4, 0, 0, 0), (4, .invokespecial 9, 7, 55, 1, 2), (7, .astore_n 1, 8, 1, 0, 0), (8, .new 10, 11, 3, 12, 0), (11, .dup, 12, 0, 0, 0), (12, .invokespecial 12, 15, 84, 1, 3), (15, .astore_n 2, 16, 2, 0, 0), (16, .iconst 0, 17, 0, 0, 0), (17, .istore_n 3, 18, 3, 0, 0), (18, .iload_n 3, 19, 3, 0, 0), (19, .aload_n 0, 20, 0, 0, 0), (20, .arraylength, 21, 0, 0, 0), (21, .iconst 4, 22, 0, 0, 4), (22, .isub, 23, 0, 0, 0), (23, .if_icmp .gt 672, 26, 695, 0, 0), (26, .aload_n 0, 27, 0, 0, 0), (27, .iload_n 3, 28, 3, 0, 0), (28, .iaload, 29, 0, 0, 0), (29, .bipush 31, 31, 0, 0, 31), (31, .iand, 32, 0, 0, 0), (32, .tableswitch 657 0 22 #[108, 121, 154, 177, 220, 253, 276, 299, 322, 335, 368, 401, 424, 447, 470, 503, 526, 549, 572, 585, 608, 621, 644], 140, 0, 0, 0), (140, .aload_n 1, 141, 1, 0, 0), (141, .invokevirtual 13, 144, 56, 1, 2), (144, .aload_n 2, 145, 2, 0, 0), (145, .invokevirtual 17, 148, 104, 1, 3), (148, .if_icmp .eq 541, 151, 689, 0, 0), (151, .iconst 0, 152, 0, 0, 0), (152, .ireturn, 153, 0, 0, 0), (153, .aload_n 1, 154, 1, 0, 0), (154, .aload_n 0, 155, 0, 0, 0), (155, .iload_n 3, 156, 3, 0, 0), (156, .iconst 1, 157, 0, 0, 1), (157, .iadd, 158, 0, 0, 0), (158, .iaload, 159, 0, 0, 0), (159, .aload_n 0, 160, 0, 0, 0), (160, .iload_n 3, 161, 3, 0, 0), (161, .iconst 2, 162, 0, 0, 2), (162, .iadd, 163, 0, 0, 0), (163, .iaload, 164, 0, 0, 0), (164, .invokevirtual 18, 167, 57, 3, 2), (167, .aload_n 2, 168, 2, 0, 0), (168, .aload_n 0, 169, 0, 0, 0), (169, .iload_n 3, 170, 3, 0, 0), (170, .iconst 1, 171, 0, 0, 1), (171, .iadd, 172, 0, 0, 0), (172, .iaload, 173, 0, 0, 0), (173, .aload_n 0, 174, 0, 0, 0), (174, .iload_n 3, 175, 3, 0, 0), (175, .iconst 2, 176, 0, 0, 2), (176, .iadd, 177, 0, 0, 0), (177, .iaload, 178, 0, 0, 0), (178, .invokevirtual 22, 181, 107, 3, 3), (181, .if_icmp .eq 508, 184, 689, 0, 0), (184, .iconst 0, 185, 0, 0, 0), (185, .ireturn, 186, 0, 0, 0), (186, .aload_n 1, 187, 1, 0, 0), (187, .aload_n 0, 188, 0, 0, 0), (188, .iload_n 3, 189, 3, 0, 0), (189, .iconst 1, 190, 0, 0, 1)] [[1008, 1009, 1001], [], [1001, 1010, 1011], [], [2227, 2228, 1004], [], [1004, 2229, 2230], [], [], [], [], [], [], [], [], [], [], [], [], [], [], [], [], [1001, 1110, 1111, 1112], [], [1004, 3039, 3040, 3041], [], [], [], [], [], [], [], [], [], [], [], [], [], [], [1001, 1154, 1155, 1156], [], [], [], [], [], [], [], [], [], [], [], [1004, 3072, 3073, 3074], [], [], [], [], [], [], []] = true := by decide +kernel
theorem xk_167_1 : xm_okT xq_167 [(190, .iadd, 191, 0, 0, 0), (191, .iaload, 192, 0, 0, 0), (192, .invokevirtual 23, 195, 58, 2, 2), (195, .aload_n 2, 196, 2, 0, 0), (196, .aload_n 0, 197, 0, 0, 0), (197, .iload_n 3, 198, 3, 0, 0), (198, .iconst 1, 199, 0, 0, 1), (199, .iadd, 200, 0, 0, 0), (200, .iaload, 201, 0, 0, 0), (201, .invokevirtual 27, 204, 110, 2, 3), (204, .if_icmp .eq 485, 207, 689, 0, 0), (207, .iconst 0, 208, 0, 0, 0), (208, .ireturn, 209, 0, 0, 0), (209, .aload_n 1, 210, 1, 0, 0), (210, .aload_n 0, 211, 0, 0, 0), (211, .iload_n 3, 212, 3, 0, 0), (212, .iconst 1, 213, 0, 0, 1), (213, .iadd, 214, 0, 0, 0), (214, .iaload, 215, 0, 0, 0), (215, .aload_n 0, 216, 0, 0, 0), (216, .iload_n 3, 217, 3, 0, 0), (217, .iconst 2, 218, 0, 0, 2), (218, .iadd, 219, 0, 0, 0), (219, .iaload, 220, 0, 0, 0), (220, .aload_n 0, 221, 0, 0, 0), (221, .iload_n 3, 222, 3, 0, 0), (222, .iconst 3, 223, 0, 0, 3), (223, .iadd, 224, 0, 0, 0), (224, .iaload, 225, 0, 0, 0), (225, .invokevirtual 28, 228, 59, 4, 2), (228, .aload_n 2, 229, 2, 0, 0), (229, .aload_n 0, 230, 0, 0, 0), (230, .iload_n 3, 231, 3, 0, 0), (231, .iconst 1, 232, 0, 0, 1), (232, .iadd, 233, 0, 0, 0), (233, .iaload, 234, 0, 0, 0), (234, .aload_n 0, 235, 0, 0, 0), (235, .iload_n 3, 236, 3, 0, 0), (236, .iconst 2, 237, 0, 0, 2), (237, .iadd, 238, 0, 0, 0), (238, .iaload, 239, 0, 0, 0), (239, .aload_n 0, 240, 0, 0, 0), (240, .iload_n 3, 241, 3, 0, 0), (241, .iconst 3, 242, 0, 0, 3), (242, .iadd, 243, 0, 0, 0), (243, .iaload, 244, 0, 0, 0), (244, .invokevirtual 32, 247, 113, 4, 3), (247, .if_icmp .eq 442, 250, 689, 0, 0), (250, .iconst 0, 251, 0, 0, 0), (251, .ireturn, 252, 0, 0, 0), (252, .aload_n 1, 253, 1, 0, 0), (253, .aload_n 0, 254, 0, 0, 0), (254, .iload_n 3, 255, 3, 0, 0), (255, .iconst 1, 256, 0, 0, 1), (256, .iadd, 257, 0, 0, 0), (257, .iaload, 258, 0, 0, 0), (258, .aload_n 0, 259, 0, 0, 0), (259, .iload_n 3, 260, 3, 0, 0), (260, .iconst 2, 261, 0, 0, 2), (261, .iadd, 262, 0, 0, 0)] [[], [], [1001, 1174, 1175, 1176], [], [], [], [], [], [], [1004, 3095, 3096, 3097], [], [], [], [], [], [], [], [], [], [], [], [], [], [], [], [], [], [], [], [1001, 1182, 1183, 1184], [], [], [], [], [], [], [], [], [], [], [], [], [], [], [], [], [1004, 3107, 3108, 3109], [], [], [], [], [], [], [], [], [], [], [], [], []] = true := by decide +kernel
theorem xk_167_2 : xm_okT xq_167 [(262, .iaload, 263, 0, 0, 0), (263, .invokevirtual 33, 266, 60, 3, 2), (266, .aload_n 2, 267, 2, 0, 0), (267, .aload_n 0, 268, 0, 0, 0), (268, .iload_n 3, 269, 3, 0, 0), (269, .iconst 1, 270, 0, 0, 1), (270, .iadd, 271, 0, 0, 0), (271, .iaload, 272, 0, 0, 0), (272, .aload_n 0, 273, 0, 0, 0), (273, .iload_n 3, 274, 3, 0, 0), (274, .iconst 2, 275, 0, 0, 2), (275, .iadd, 276, 0, 0, 0), (276, .iaload, 277, 0, 0, 0), (277, .invokevirtual 36, 280, 116, 3, 3), (280, .if_icmp .eq 409, 283, 689, 0, 0), (283, .iconst 0, 284, 0, 0, 0), (284, .ireturn, 285, 0, 0, 0), (285, .aload_n 1, 286, 1, 0, 0), (286, .aload_n 0, 287, 0, 0, 0), (287, .iload_n 3, 288, 3, 0, 0), (288, .iconst 1, 289, 0, 0, 1), (289, .iadd, 290, 0, 0, 0), (290, .iaload, 291, 0, 0, 0), (291, .invokevirtual 37, 294, 61, 2, 2), (294, .aload_n 2, 295, 2, 0, 0), (295, .aload_n 0, 296, 0, 0, 0), (296, .iload_n 3, 297, 3, 0, 0), (297, .iconst 1, 298, 0, 0, 1), (298, .iadd, 299, 0, 0, 0), (299, .iaload, 300, 0, 0, 0), (300, .invokevirtual 40, 303, 120, 2, 3), (303, .if_icmp .eq 386, 306, 689, 0, 0), (306, .iconst 0, 307, 0, 0, 0), (307, .ireturn, 308, 0, 0, 0), (308, .aload_n 1, 309, 1, 0, 0), (309, .aload_n 0, 310, 0, 0, 0), (310, .iload_n 3, 311, 3, 0, 0), (311, .iconst 1, 312, 0, 0, 1), (312, .iadd, 313, 0, 0, 0), (313, .iaload, 314, 0, 0, 0), (314, .invokevirtual 41, 317, 62, 2, 2), (317, .aload_n 2, 318, 2, 0, 0), (318, .aload_n 0, 319, 0, 0, 0), (319, .iload_n 3, 320, 3, 0, 0), (320, .iconst 1, 321, 0, 0, 1), (321, .iadd, 322, 0, 0, 0), (322, .iaload, 323, 0, 0, 0), (323, .invokevirtual 44, 326, 121, 2, 3), (326, .if_icmp .eq 363, 329, 689, 0, 0), (329, .iconst 0, 330, 0, 0, 0), (330, .ireturn, 331, 0, 0, 0), (331, .aload_n 1, 332, 1, 0, 0), (332, .aload_n 0, 333, 0, 0, 0), (333, .iload_n 3, 334, 3, 0, 0), (334, .iconst 1, 335, 0, 0, 1), (335, .iadd, 336, 0, 0, 0), (336, .iaload, 337, 0, 0, 0), (337, .invokevirtual 45, 340, 63, 2, 2), (340, .aload_n 2, 341, 2, 0, 0), (341, .aload_n 0, 342, 0, 0, 0)] [[], [1001, 1209, 1210, 1211], [], [], [], [], [], [], [], [], [], [], [], [1004, 3130, 3131, 3132], [], [], [], [], [], [], [], [], [], [1001, 1217, 1218, 1219], [], [], [], [], [], [], [1004, 3142, 3143, 3144], [], [], [], [], [], [], [], [], [], [1001, 1234, 1235, 1236], [], [], [], [], [], [], [1004, 3161, 3162, 3163], [], [], [], [], [], [], [], [], [], [1001, 2002, 2003, 2004], [], []] = true := by decide +kernel
theorem xk_167_3 : xm_okT xq_167 [(342, .iload_n 3, 343, 3, 0, 0), (343, .iconst 1, 344, 0, 0, 1), (344, .iadd, 345, 0, 0, 0), (345, .iaload, 346, 0, 0, 0), (346, .invokevirtual 48, 349, 134, 2, 3), (349, .if_icmp .eq 340, 352, 689, 0, 0), (352, .iconst 0, 353, 0, 0, 0), (353, .ireturn, 354, 0, 0, 0), (354, .aload_n 1, 355, 1, 0, 0), (355, .invokevirtual 49, 358, 64, 1, 2), (358, .aload_n 2, 359, 2, 0, 0), (359, .invokevirtual 52, 362, 136, 1, 3), (362, .if_icmp .eq 327, 365, 689, 0, 0), (365, .iconst 0, 366, 0, 0, 0), (366, .ireturn, 367, 0, 0, 0), (367, .aload_n 1, 368, 1, 0, 0), (368, .aload_n 0, 369, 0, 0, 0), (369, .iload_n 3, 370, 3, 0, 0), (370, .iconst 1, 371, 0, 0, 1), (371, .iadd, 372, 0, 0, 0), (372, .iaload, 373, 0, 0, 0), (373, .aload_n 0, 374, 0, 0, 0), (374, .iload_n 3, 375, 3, 0, 0), (375, .iconst 2, 376, 0, 0, 2), (376, .iadd, 377, 0, 0, 0), (377, .iaload, 378, 0, 0, 0), (378, .invokevirtual 53, 381, 65, 3, 2), (381, .aload_n 2, 382, 2, 0, 0), (382, .aload_n 0, 383, 0, 0, 0), (383, .iload_n 3, 384, 3, 0, 0), (384, .iconst 1, 385, 0, 0, 1), (385, .iadd, 386, 0, 0, 0), (386, .iaload, 387, 0, 0, 0), (387, .aload_n 0, 388, 0, 0, 0), (388, .iload_n 3, 389, 3, 0, 0), (389, .iconst 2, 390, 0, 0, 2), (390, .iadd, 391, 0, 0, 0), (391, .iaload, 392, 0, 0, 0), (392, .invokevirtual 56, 395, 139, 3, 3), (395, .if_icmp .eq 294, 398, 689, 0, 0), (398, .iconst 0, 399, 0, 0, 0), (399, .ireturn, 400, 0, 0, 0), (400, .aload_n 1, 401, 1, 0, 0), (401, .aload_n 0, 402, 0, 0, 0), (402, .iload_n 3, 403, 3, 0, 0), (403, .iconst 1, 404, 0, 0, 1), (404, .iadd, 405, 0, 0, 0), (405, .iaload, 406, 0, 0, 0), (406, .aload_n 0, 407, 0, 0, 0), (407, .iload_n 3, 408, 3, 0, 0), (408, .iconst 2, 409, 0, 0, 2), (409, .iadd, 410, 0, 0, 0), (410, .iaload, 411, 0, 0, 0), (411, .invokevirtual 57, 414, 66, 3, 2), (414, .aload_n 2, 415, 2, 0, 0), (415, .aload_n 0, 416, 0, 0, 0), (416, .iload_n 3, 417, 3, 0, 0), (417, .iconst 1, 418, 0, 0, 1), (418, .iadd, 419, 0, 0, 0), (419, .iaload, 420, 0, 0, 0)] [[], [], [], [], [1004, 3165, 3166, 3167], [], [], [], [], [1001, 2066, 2067, 2068], [], [1004, 3223, 3224, 3225], [], [], [], [], [], [], [], [], [], [], [], [], [], [], [1001, 2078, 2079, 2080], [], [], [], [], [], [], [], [], [], [], [], [1004, 3235, 3236, 3237], [], [], [], [], [], [], [], [], [], [], [], [], [], [], [1001, 2108, 2109, 2110], [], [], [], [], [], []] = true := by decide +kernel
theorem xk_167_4 : xm_okT xq_167 [(420, .aload_n 0, 421, 0, 0, 0), (421, .iload_n 3, 422, 3, 0, 0), (422, .iconst 2, 423, 0, 0, 2), (423, .iadd, 424, 0, 0, 0), (424, .iaload, 425, 0, 0, 0), (425, .invokevirtual 60, 428, 141, 3, 3), (428, .if_icmp .eq 261, 431, 689, 0, 0), (431, .iconst 0, 432, 0, 0, 0), (432, .ireturn, 433, 0, 0, 0), (433, .aload_n 1, 434, 1, 0, 0), (434, .aload_n 0, 435, 0, 0, 0), (435, .iload_n 3, 436, 3, 0, 0), (436, .iconst 1, 437, 0, 0, 1), (437, .iadd, 438, 0, 0, 0), (438, .iaload, 439, 0, 0, 0), (439, .invokevirtual 61, 442, 67, 2, 2), (442, .aload_n 2, 443, 2, 0, 0), (443, .aload_n 0, 444, 0, 0, 0), (444, .iload_n 3, 445, 3, 0, 0), (445, .iconst 1, 446, 0, 0, 1), (446, .iadd, 447, 0, 0, 0), (447, .iaload, 448, 0, 0, 0), (448, .invokevirtual 64, 451, 142, 2, 3), (451, .if_icmp .eq 238, 454, 689, 0, 0), (454, .iconst 0, 455, 0, 0, 0), (455, .ireturn, 456, 0, 0, 0), (456, .aload_n 1, 457, 1, 0, 0), (457, .aload_n 0, 458, 0, 0, 0), (458, .iload_n 3, 459, 3, 0, 0), (459, .iconst 1, 460, 0, 0, 1), (460, .iadd, 461, 0, 0, 0), (461, .iaload, 462, 0, 0, 0), (462, .invokevirtual 65, 465, 68, 2, 2), (465, .aload_n 2, 466, 2, 0, 0), (466, .aload_n 0, 467, 0, 0, 0), (467, .iload_n 3, 468, 3, 0, 0), (468, .iconst 1, 469, 0, 0, 1), (469, .iadd, 470, 0, 0, 0), (470, .iaload, 471, 0, 0, 0), (471, .invokevirtual 68, 474, 145, 2, 3), (474, .if_icmp .eq 215, 477, 689, 0, 0), (477, .iconst 0, 478, 0, 0, 0), (478, .ireturn, 479, 0, 0, 0), (479, .aload_n 1, 480, 1, 0, 0), (480, .aload_n 0, 481, 0, 0, 0), (481, .iload_n 3, 482, 3, 0, 0), (482, .iconst 1, 483, 0, 0, 1), (483, .iadd, 484, 0, 0, 0), (484, .iaload, 485, 0, 0, 0), (485, .invokevirtual 69, 488, 69, 2, 2), (488, .aload_n 2, 489, 2, 0, 0), (489, .aload_n 0, 490, 0, 0, 0), (490, .iload_n 3, 491, 3, 0, 0), (491, .iconst 1, 492, 0, 0, 1), (492, .iadd, 493, 0, 0, 0), (493, .iaload, 494, 0, 0, 0), (494, .invokevirtual 72, 497, 146, 2, 3), (497, .if_icmp .eq 192, 500, 689, 0, 0), (500, .iconst 0, 501, 0, 0, 0), (501, .ireturn, 502, 0, 0, 0)] [[], [], [], [], [], [1004, 4007, 4008, 4009], [], [], [], [], [], [], [], [], [], [1001, 2114, 2115, 2116], [], [], [], [], [], [], [1004, 4015, 4016, 4017], [], [], [], [], [], [], [], [], [], [1001, 2118, 2119, 2120], [], [], [], [], [], [], [1004, 4019, 4020, 4021], [], [], [], [], [], [], [], [], [], [1001, 2123, 2124, 2125], [], [], [], [], [], [], [1004, 4031, 4032, 4033], [], [], []] = true := by decide +kernel
theorem xk_167_5 : xm_okT xq_167 [(502, .aload_n 1, 503, 1, 0, 0), (503, .aload_n 0, 504, 0, 0, 0), (504, .iload_n 3, 505, 3, 0, 0), (505, .iconst 1, 506, 0, 0, 1), (506, .iadd, 507, 0, 0, 0), (507, .iaload, 508, 0, 0, 0), (508, .aload_n 0, 509, 0, 0, 0), (509, .iload_n 3, 510, 3, 0, 0), (510, .iconst 2, 511, 0, 0, 2), (511, .iadd, 512, 0, 0, 0), (512, .iaload, 513, 0, 0, 0), (513, .invokevirtual 73, 516, 70, 3, 2), (516, .aload_n 2, 517, 2, 0, 0), (517, .aload_n 0, 518, 0, 0, 0), (518, .iload_n 3, 519, 3, 0, 0), (519, .iconst 1, 520, 0, 0, 1), (520, .iadd, 521, 0, 0, 0), (521, .iaload, 522, 0, 0, 0), (522, .aload_n 0, 523, 0, 0, 0), (523, .iload_n 3, 524, 3, 0, 0), (524, .iconst 2, 525, 0, 0, 2), (525, .iadd, 526, 0, 0, 0), (526, .iaload, 527, 0, 0, 0), (527, .invokevirtual 76, 530, 147, 3, 3), (530, .if_icmp .eq 159, 533, 689, 0, 0), (533, .iconst 0, 534, 0, 0, 0), (534, .ireturn, 535, 0, 0, 0), (535, .aload_n 1, 536, 1, 0, 0), (536, .aload_n 0, 537, 0, 0, 0), (537, .iload_n 3, 538, 3, 0, 0), (538, .iconst 1, 539, 0, 0, 1), (539, .iadd, 540, 0, 0, 0), (540, .iaload, 541, 0, 0, 0), (541, .invokevirtual 77, 544, 71, 2, 2), (544, .aload_n 2, 545, 2, 0, 0), (545, .aload_n 0, 546, 0, 0, 0), (546, .iload_n 3, 547, 3, 0, 0), (547, .iconst 1, 548, 0, 0, 1), (548, .iadd, 549, 0, 0, 0), (549, .iaload, 550, 0, 0, 0), (550, .invokevirtual 80, 553, 148, 2, 3), (553, .if_icmp .eq 136, 556, 689, 0, 0), (556, .iconst 0, 557, 0, 0, 0), (557, .ireturn, 558, 0, 0, 0), (558, .aload_n 1, 559, 1, 0, 0), (559, .aload_n 0, 560, 0, 0, 0), (560, .iload_n 3, 561, 3, 0, 0), (561, .iconst 1, 562, 0, 0, 1), (562, .iadd, 563, 0, 0, 0), (563, .iaload, 564, 0, 0, 0), (564, .invokevirtual 81, 567, 72, 2, 2), (567, .aload_n 2, 568, 2, 0, 0), (568, .aload_n 0, 569, 0, 0, 0), (569, .iload_n 3, 570, 3, 0, 0), (570, .iconst 1, 571, 0, 0, 1), (571, .iadd, 572, 0, 0, 0), (572, .iaload, 573, 0, 0, 0), (573, .invokevirtual 84, 576, 149, 2, 3), (576, .if_icmp .eq 113, 579, 689, 0, 0), (579, .iconst 0, 580, 0, 0, 0)] [[], [], [], [], [], [], [], [], [], [], [], [1001, 2129, 2130, 2131], [], [], [], [], [], [], [], [], [], [], [], [1004, 4035, 4036, 4037], [], [], [], [], [], [], [], [], [], [1001, 2135, 2136, 2137], [], [], [], [], [], [], [1004, 4039, 4040, 4041], [], [], [], [], [], [], [], [], [], [1001, 2141, 2142, 2143], [], [], [], [], [], [], [1004, 4043, 4044, 4045], [], []] = true := by decide +kernel
theorem xk_167_6 : xm_okT xq_167 [(580, .ireturn, 581, 0, 0, 0), (581, .aload_n 1, 582, 1, 0, 0), (582, .aload_n 0, 583, 0, 0, 0), (583, .iload_n 3, 584, 3, 0, 0), (584, .iconst 1, 585, 0, 0, 1), (585, .iadd, 586, 0, 0, 0), (586, .iaload, 587, 0, 0, 0), (587, .invokevirtual 85, 590, 73, 2, 2), (590, .aload_n 2, 591, 2, 0, 0), (591, .aload_n 0, 592, 0, 0, 0), (592, .iload_n 3, 593, 3, 0, 0), (593, .iconst 1, 594, 0, 0, 1), (594, .iadd, 595, 0, 0, 0), (595, .iaload, 596, 0, 0, 0), (596, .invokevirtual 88, 599, 151, 2, 3), (599, .if_icmp .eq 90, 602, 689, 0, 0), (602, .iconst 0, 603, 0, 0, 0), (603, .ireturn, 604, 0, 0, 0), (604, .aload_n 1, 605, 1, 0, 0), (605, .invokevirtual 89, 608, 74, 1, 2), (608, .aload_n 2, 609, 2, 0, 0), (609, .invokevirtual 92, 612, 94, 1, 3), (612, .if_icmp .eq 77, 615, 689, 0, 0), (615, .iconst 0, 616, 0, 0, 0), (616, .ireturn, 617, 0, 0, 0), (617, .aload_n 1, 618, 1, 0, 0), (618, .aload_n 0, 619, 0, 0, 0), (619, .iload_n 3, 620, 3, 0, 0), (620, .iconst 1, 621, 0, 0, 1), (621, .iadd, 622, 0, 0, 0), (622, .iaload, 623, 0, 0, 0), (623, .invokevirtual 93, 626, 75, 2, 2), (626, .aload_n 2, 627, 2, 0, 0), (627, .aload_n 0, 628, 0, 0, 0), (628, .iload_n 3, 629, 3, 0, 0), (629, .iconst 1, 630, 0, 0, 1), (630, .iadd, 631, 0, 0, 0), (631, .iaload, 632, 0, 0, 0), (632, .invokevirtual 96, 635, 152, 2, 3), (635, .if_icmp .eq 54, 638, 689, 0, 0), (638, .iconst 0, 639, 0, 0, 0), (639, .ireturn, 640, 0, 0, 0), (640, .aload_n 1, 641, 1, 0, 0), (641, .invokevirtual 97, 644, 76, 1, 2), (644, .aload_n 2, 645, 2, 0, 0), (645, .invokevirtual 100, 648, 153, 1, 3), (648, .if_icmp .eq 41, 651, 689, 0, 0), (651, .iconst 0, 652, 0, 0, 0), (652, .ireturn, 653, 0, 0, 0), (653, .aload_n 1, 654, 1, 0, 0), (654, .aload_n 0, 655, 0, 0, 0), (655, .iload_n 3, 656, 3, 0, 0), (656, .iconst 1, 657, 0, 0, 1), (657, .iadd, 658, 0, 0, 0), (658, .iaload, 659, 0, 0, 0), (659, .invokevirtual 101, 662, 77, 2, 2), (662, .aload_n 2, 663, 2, 0, 0), (663, .aload_n 0, 664, 0, 0, 0), (664, .iload_n 3, 665, 3, 0, 0), (665, .iconst 1, 666, 0, 0, 1)] [[], [], [], [], [], [], [], [1001, 2146, 2147, 2148], [], [], [], [], [], [], [1004, 4047, 4048, 4049], [], [], [], [], [1001, 2159, 2160, 2161], [], [1004, 3030, 3031, 3032], [], [], [], [], [], [], [], [], [], [1001, 2164, 2165, 2166], [], [], [], [], [], [], [1004, 4055, 4056, 4057], [], [], [], [], [1001, 2173, 2174, 2175], [], [1004, 4059, 4060, 4061], [], [], [], [], [], [], [], [], [], [1001, 2177, 2178, 2179], [], [], [], []] = true := by decide +kernel
theorem xk_167_7 : xm_okT xq_167 [(666, .iadd, 667, 0, 0, 0), (667, .iaload, 668, 0, 0, 0), (668, .invokevirtual 104, 671, 164, 2, 3), (671, .if_icmp .eq 18, 674, 689, 0, 0), (674, .iconst 0, 675, 0, 0, 0), (675, .ireturn, 676, 0, 0, 0), (676, .aload_n 1, 677, 1, 0, 0), (677, .invokevirtual 105, 680, 78, 1, 2), (680, .aload_n 2, 681, 2, 0, 0), (681, .invokevirtual 108, 684, 165, 1, 3), (684, .if_icmp .eq 5, 687, 689, 0, 0), (687, .iconst 0, 688, 0, 0, 0), (688, .ireturn, 689, 0, 0, 0), (689, .iinc 3 4, 692, 3, 0, 4), (692, .goto (-674), 695, 18, 0, 0), (695, .iconst 1, 696, 0, 0, 1), (696, .ireturn, 697, 0, 0, 0)] [[], [], [1004, 4063, 4064, 4065], [], [], [], [], [1001, 2223, 2224, 2225], [], [1004, 4106, 4107, 4108], [], [], [], [], [], [], []] = true := by decide +kernel
set_option maxRecDepth 100000 in
theorem xk_167 : ∃ ps, xm_okT xq_167 xt_167 ps = true := ⟨_, (xm_okT_app _ _ _ _ rfl xk_167_0 (xm_okT_app _ _ _ _ rfl xk_167_1 (xm_okT_app _ _ _ _ rfl xk_167_2 (xm_okT_app _ _ _ _ rfl xk_167_3 (xm_okT_app _ _ _ _ rfl xk_167_4 (xm_okT_app _ _ _ _ rfl xk_167_5 (xm_okT_app _ _ _ _ rfl xk_167_6 xk_167_7)))))))⟩
set_option maxRecDepth 100000 in
theorem xm_oks : xm_okP xm_tabs xm_ms := ⟨xk_0, xk_1, xk_2, xk_3, xk_4, xk_5, xk_6, xk_7, xk_8, xk_9, xk_10, xk_11, xk_12, xk_13, xk_14, xk_15, xk_16, xk_17, xk_18, xk_19, xk_20, xk_21, xk_22, xk_23, xk_24, xk_25, xk_26, xk_27, xk_28, xk_29, xk_30, xk_31, xk_32, xk_33, xk_34, xk_35, xk_36, xk_37, xk_38, xk_39, xk_40, xk_41, xk_42, xk_43, xk_44, xk_45, xk_46, xk_47, xk_48, xk_49, xk_50, xk_51, xk_52, xk_53, xk_54, xk_55, xk_56, xk_57, xk_58, xk_59, xk_60, xk_61, xk_62, xk_63, xk_64, xk_65, xk_66, xk_67, xk_68, xk_69, xk_70, xk_71, xk_72, xk_73, xk_74, xk_75, xk_76, xk_77, xk_78, xk_79, xk_80, xk_81, xk_82, xk_83, xk_84, xk_85, xk_86, xk_87, xk_88, xk_89, xk_90, xk_91, xk_92, xk_93, xk_94, xk_95, xk_96, xk_97, xk_98, xk_99, xk_100, xk_101, xk_102, xk_103, xk_104, xk_105, xk_106, xk_107, xk_108, xk_109, xk_110, xk_111, xk_112, xk_113, xk_114, xk_115, xk_116, xk_117, xk_118, xk_119, xk_120, xk_121, xk_122, xk_123, xk_124, xk_125, xk_126, xk_127, xk_128, xk_129, xk_130, xk_131, xk_132, xk_133, xk_134, xk_135, xk_136, xk_137, xk_138, xk_139, xk_140, xk_141, xk_142, xk_143, xk_144, xk_145, xk_146, xk_147, xk_148, xk_149, xk_150, xk_151, xk_152, xk_153, xk_154, xk_155, xk_156, xk_157, xk_158, xk_159, xk_160, xk_161, xk_162, xk_163, xk_164, xk_165, xk_166, xk_167, trivial⟩
theorem xw_0 : Jvm.Cond.code xq_0.2.1 xq_0.2.2.1 xq_0.2.2.2.1 xq_0.2.2.2.2.1 ∈ lw_tbl := xm_tb_in (t := 1) (List.mem_of_getElem? (i := 22) rfl)
theorem xw_1 : Jvm.Cond.code xq_1.2.1 xq_1.2.2.1 xq_1.2.2.2.1 xq_1.2.2.2.2.1 ∈ lw_tbl := xm_tb_in (t := 2) (List.mem_of_getElem? (i := 171) rfl)
theorem xw_2 : Jvm.Cond.code xq_2.2.1 xq_2.2.2.1 xq_2.2.2.2.1 xq_2.2.2.2.2.1 ∈ lw_tbl := xm_tb_in (t := 2) (List.mem_of_getElem? (i := 184) rfl)
theorem xw_3 : Jvm.Cond.code xq_3.2.1 xq_3.2.2.1 xq_3.2.2.2.1 xq_3.2.2.2.2.1 ∈ lw_tbl := xm_tb_in (t := 2) (List.mem_of_getElem? (i := 192) rfl)
theorem xw_4 : Jvm.Cond.code xq_4.2.1 xq_4.2.2.1 xq_4.2.2.2.1 xq_4.2.2.2.2.1 ∈ lw_tbl := xm_tb_in (t := 2) (List.mem_of_getElem? (i := 195) rfl)
theorem xw_5 : Jvm.Cond.code xq_5.2.1 xq_5.2.2.1 xq_5.2.2.2.1 xq_5.2.2.2.2.1 ∈ lw_tbl := xm_tb_in (t := 2) (List.mem_of_getElem? (i := 203) rfl)
theorem xw_6 : Jvm.Cond.code xq_6.2.1 xq_6.2.2.1 xq_6.2.2.2.1 xq_6.2.2.2.2.1 ∈ lw_tbl := xm_tb_in (t := 2) (List.mem_of_getElem? (i := 188) rfl)
theorem xw_7 : Jvm.Cond.code xq_7.2.1 xq_7.2.2.1 xq_7.2.2.2.1 xq_7.2.2.2.2.1 ∈ lw_tbl := xm_tb_in (t := 2) (List.mem_of_getElem? (i := 199) rfl)
theorem xw_8 : Jvm.Cond.code xq_8.2.1 xq_8.2.2.1 xq_8.2.2.2.1 xq_8.2.2.2.2.1 ∈ lw_tbl := xm_tb_in (t := 2) (List.mem_of_getElem? (i := 206) rfl)
theorem xw_9 : Jvm.Cond.code xq_9.2.1 xq_9.2.2.1 xq_9.2.2.2.1 xq_9.2.2.2.2.1 ∈ lw_tbl := xm_tb_in (t := 2) (List.mem_of_getElem? (i := 210) rfl)
theorem xw_10 : Jvm.Cond.code xq_10.2.1 xq_10.2.2.1 xq_10.2.2.2.1 xq_10.2.2.2.2.1 ∈ lw_tbl := xm_tb_in (t := 2) (List.mem_of_getElem? (i := 221) rfl)
theorem xw_11 : Jvm.Cond.code xq_11.2.1 xq_11.2.2.1 xq_11.2.2.2.1 xq_11.2.2.2.2.1 ∈ lw_tbl := xm_tb_in (t := 1) (List.mem_of_getElem? (i := 50) rfl)
theorem xw_12 : Jvm.Cond.code xq_12.2.1 xq_12.2.2.1 xq_12.2.2.2.1 xq_12.2.2.2.2.1 ∈ lw_tbl := xm_tb_in (t := 1) (List.mem_of_getElem? (i := 54) rfl)
theorem xw_13 : Jvm.Cond.code xq_13.2.1 xq_13.2.2.1 xq_13.2.2.2.1 xq_13.2.2.2.2.1 ∈ lw_tbl := xm_tb_in (t := 1) (List.mem_of_getElem? (i := 125) rfl)
theorem xw_14 : Jvm.Cond.code xq_14.2.1 xq_14.2.2.1 xq_14.2.2.2.1 xq_14.2.2.2.2.1 ∈ lw_tbl := xm_tb_in (t := 1) (List.mem_of_getElem? (i := 132) rfl)
theorem xw_15 : Jvm.Cond.code xq_15.2.1 xq_15.2.2.1 xq_15.2.2.2.1 xq_15.2.2.2.2.1 ∈ lw_tbl := xm_tb_in (t := 1) (List.mem_of_getElem? (i := 161) rfl)
theorem xw_16 : Jvm.Cond.code xq_16.2.1 xq_16.2.2.1 xq_16.2.2.2.1 xq_16.2.2.2.2.1 ∈ lw_tbl := xm_tb_in (t := 1) (List.mem_of_getElem? (i := 181) rfl)
theorem xw_17 : Jvm.Cond.code xq_17.2.1 xq_17.2.2.1 xq_17.2.2.2.1 xq_17.2.2.2.2.1 ∈ lw_tbl := xm_tb_in (t := 1) (List.mem_of_getElem? (i := 189) rfl)
theorem xw_18 : Jvm.Cond.code xq_18.2.1 xq_18.2.2.1 xq_18.2.2.2.1 xq_18.2.2.2.2.1 ∈ lw_tbl := xm_tb_in (t := 1) (List.mem_of_getElem? (i := 216) rfl)
theorem xw_19 : Jvm.Cond.code xq_19.2.1 xq_19.2.2.1 xq_19.2.2.2.1 xq_19.2.2.2.2.1 ∈ lw_tbl := xm_tb_in (t := 1) (List.mem_of_getElem? (i := 224) rfl)
theorem xw_20 : Jvm.Cond.code xq_20.2.1 xq_20.2.2.1 xq_20.2.2.2.1 xq_20.2.2.2.2.1 ∈ lw_tbl := xm_tb_in (t := 2) (List.mem_of_getElem? (i := 1) rfl)
theorem xw_21 : Jvm.Cond.code xq_21.2.1 xq_21.2.2.1 xq_21.2.2.2.1 xq_21.2.2.2.2.1 ∈ lw_tbl := xm_tb_in (t := 2) (List.mem_of_getElem? (i := 9) rfl)
theorem xw_22 : Jvm.Cond.code xq_22.2.1 xq_22.2.2.1 xq_22.2.2.2.1 xq_22.2.2.2.2.1 ∈ lw_tbl := xm_tb_in (t := 2) (List.mem_of_getElem? (i := 73) rfl)
theorem xw_23 : Jvm.Cond.code xq_23.2.1 xq_23.2.2.1 xq_23.2.2.2.1 xq_23.2.2.2.2.1 ∈ lw_tbl := xm_tb_in (t := 2) (List.mem_of_getElem? (i := 45) rfl)
theorem xw_24 : Jvm.Cond.code xq_24.2.1 xq_24.2.2.1 xq_24.2.2.2.1 xq_24.2.2.2.2.1 ∈ lw_tbl := xm_tb_in (t := 2) (List.mem_of_getElem? (i := 53) rfl)
theorem xw_25 : Jvm.Cond.code xq_25.2.1 xq_25.2.2.1 xq_25.2.2.2.1 xq_25.2.2.2.2.1 ∈ lw_tbl := xm_tb_in (t := 1) (List.mem_of_getElem? (i := 146) rfl)
theorem xw_26 : Jvm.Cond.code xq_26.2.1 xq_26.2.2.1 xq_26.2.2.2.1 xq_26.2.2.2.2.1 ∈ lw_tbl := xm_tb_in (t := 2) (List.mem_of_getElem? (i := 57) rfl)
theorem xw_27 : Jvm.Cond.code xq_27.2.1 xq_27.2.2.1 xq_27.2.2.2.1 xq_27.2.2.2.2.1 ∈ lw_tbl := xm_tb_in (t := 2) (List.mem_of_getElem? (i := 61) rfl)
theorem xw_28 : Jvm.Cond.code xq_28.2.1 xq_28.2.2.1 xq_28.2.2.2.1 xq_28.2.2.2.2.1 ∈ lw_tbl := xm_tb_in (t := 2) (List.mem_of_getElem? (i := 65) rfl)
theorem xw_29 : Jvm.Cond.code xq_29.2.1 xq_29.2.2.1 xq_29.2.2.2.1 xq_29.2.2.2.2.1 ∈ lw_tbl := xm_tb_in (t := 1) (List.mem_of_getElem? (i := 136) rfl)
theorem xw_30 : Jvm.Cond.code xq_30.2.1 xq_30.2.2.1 xq_30.2.2.2.1 xq_30.2.2.2.2.1 ∈ lw_tbl := xm_tb_in (t := 1) (List.mem_of_getElem? (i := 140) rfl)
theorem xw_31 : Jvm.Cond.code xq_31.2.1 xq_31.2.2.1 xq_31.2.2.2.1 xq_31.2.2.2.2.1 ∈ lw_tbl := xm_tb_in (t := 1) (List.mem_of_getElem? (i := 164) rfl)
theorem xw_32 : Jvm.Cond.code xq_32.2.1 xq_32.2.2.1 xq_32.2.2.2.1 xq_32.2.2.2.2.1 ∈ lw_tbl := xm_tb_in (t := 1) (List.mem_of_getElem? (i := 192) rfl)
theorem xw_33 : Jvm.Cond.code xq_33.2.1 xq_33.2.2.1 xq_33.2.2.2.1 xq_33.2.2.2.2.1 ∈ lw_tbl := xm_tb_in (t := 1) (List.mem_of_getElem? (i := 204) rfl)
theorem xw_34 : Jvm.Cond.code xq_34.2.1 xq_34.2.2.1 xq_34.2.2.2.1 xq_34.2.2.2.2.1 ∈ lw_tbl := xm_tb_in (t := 1) (List.mem_of_getElem? (i := 168) rfl)
theorem xw_35 : Jvm.Cond.code xq_35.2.1 xq_35.2.2.1 xq_35.2.2.2.1 xq_35.2.2.2.2.1 ∈ lw_tbl := xm_tb_in (t := 2) (List.mem_of_getElem? (i := 88) rfl)
theorem xw_36 : Jvm.Cond.code xq_36.2.1 xq_36.2.2.1 xq_36.2.2.2.1 xq_36.2.2.2.2.1 ∈ lw_tbl := xm_tb_in (t := 1) (List.mem_of_getElem? (i := 208) rfl)
theorem xw_37 : Jvm.Cond.code xq_37.2.1 xq_37.2.2.1 xq_37.2.2.2.1 xq_37.2.2.2.2.1 ∈ lw_tbl := xm_tb_in (t := 2) (List.mem_of_getElem? (i := 107) rfl)
theorem xw_38 : Jvm.Cond.code xq_38.2.1 xq_38.2.2.1 xq_38.2.2.2.1 xq_38.2.2.2.2.1 ∈ lw_tbl := xm_tb_in (t := 1) (List.mem_of_getElem? (i := 200) rfl)
theorem xw_39 : Jvm.Cond.code xq_39.2.1 xq_39.2.2.1 xq_39.2.2.2.1 xq_39.2.2.2.2.1 ∈ lw_tbl := xm_tb_in (t := 1) (List.mem_of_getElem? (i := 196) rfl)
theorem xw_40 : Jvm.Cond.code xq_40.2.1 xq_40.2.2.1 xq_40.2.2.2.1 xq_40.2.2.2.2.1 ∈ lw_tbl := xm_tb_in (t := 2) (List.mem_of_getElem? (i := 99) rfl)
theorem xw_41 : Jvm.Cond.code xq_41.2.1 xq_41.2.2.1 xq_41.2.2.2.1 xq_41.2.2.2.2.1 ∈ lw_tbl := xm_tb_in (t := 2) (List.mem_of_getElem? (i := 103) rfl)
theorem xw_42 : Jvm.Cond.code xq_42.2.1 xq_42.2.2.1 xq_42.2.2.2.1 xq_42.2.2.2.2.1 ∈ lw_tbl := xm_tb_in (t := 2) (List.mem_of_getElem? (i := 49) rfl)
theorem xw_43 : Jvm.Cond.code xq_43.2.1 xq_43.2.2.1 xq_43.2.2.2.1 xq_43.2.2.2.2.1 ∈ lw_tbl := xm_tb_in (t := 1) (List.mem_of_getElem? (i := 173) rfl)
theorem xw_44 : Jvm.Cond.code xq_44.2.1 xq_44.2.2.1 xq_44.2.2.2.1 xq_44.2.2.2.2.1 ∈ lw_tbl := xm_tb_in (t := 2) (List.mem_of_getElem? (i := 154) rfl)
theorem xw_45 : Jvm.Cond.code xq_45.2.1 xq_45.2.2.1 xq_45.2.2.2.1 xq_45.2.2.2.2.1 ∈ lw_tbl := xm_tb_in (t := 2) (List.mem_of_getElem? (i := 158) rfl)
theorem xw_46 : Jvm.Cond.code xq_46.2.1 xq_46.2.2.1 xq_46.2.2.2.1 xq_46.2.2.2.2.1 ∈ lw_tbl := xm_tb_in (t := 2) (List.mem_of_getElem? (i := 41) rfl)
theorem xw_47 : Jvm.Cond.code xq_47.2.1 xq_47.2.2.1 xq_47.2.2.2.1 xq_47.2.2.2.2.1 ∈ lw_tbl := xm_tb_in (t := 2) (List.mem_of_getElem? (i := 25) rfl)
theorem xw_48 : Jvm.Cond.code xq_48.2.1 xq_48.2.2.1 xq_48.2.2.2.1 xq_48.2.2.2.2.1 ∈ lw_tbl := xm_tb_in (t := 2) (List.mem_of_getElem? (i := 17) rfl)
theorem xw_49 : Jvm.Cond.code xq_49.2.1 xq_49.2.2.1 xq_49.2.2.2.1 xq_49.2.2.2.2.1 ∈ lw_tbl := xm_tb_in (t := 2) (List.mem_of_getElem? (i := 21) rfl)
theorem xw_50 : Jvm.Cond.code xq_50.2.1 xq_50.2.2.1 xq_50.2.2.2.1 xq_50.2.2.2.2.1 ∈ lw_tbl := xm_tb_in (t := 2) (List.mem_of_getElem? (i := 33) rfl)
theorem xw_51 : Jvm.Cond.code xq_51.2.1 xq_51.2.2.1 xq_51.2.2.2.1 xq_51.2.2.2.2.1 ∈ lw_tbl := xm_tb_in (t := 2) (List.mem_of_getElem? (i := 77) rfl)
theorem xw_52 : Jvm.Cond.code xq_52.2.1 xq_52.2.2.1 xq_52.2.2.2.1 xq_52.2.2.2.2.1 ∈ lw_tbl := xm_tb_in (t := 2) (List.mem_of_getElem? (i := 13) rfl)
theorem xw_53 : Jvm.Cond.code xq_53.2.1 xq_53.2.2.1 xq_53.2.2.2.1 xq_53.2.2.2.2.1 ∈ lw_tbl := xm_tb_in (t := 2) (List.mem_of_getElem? (i := 29) rfl)
theorem xw_54 : Jvm.Cond.code xq_54.2.1 xq_54.2.2.1 xq_54.2.2.2.1 xq_54.2.2.2.2.1 ∈ lw_tbl := xm_tb_in (t := 2) (List.mem_of_getElem? (i := 37) rfl)
theorem xw_55 : Jvm.Cond.code xq_55.2.1 xq_55.2.2.1 xq_55.2.2.2.1 xq_55.2.2.2.2.1 ∈ lw_tbl := xm_tb_in (t := 1) (List.mem_of_getElem? (i := 12) rfl)
theorem xw_56 : Jvm.Cond.code xq_56.2.1 xq_56.2.2.1 xq_56.2.2.2.1 xq_56.2.2.2.2.1 ∈ lw_tbl := xm_tb_in (t := 1) (List.mem_of_getElem? (i := 113) rfl)
theorem xw_57 : Jvm.Cond.code xq_57.2.1 xq_57.2.2.1 xq_57.2.2.2.1 xq_57.2.2.2.2.1 ∈ lw_tbl := xm_tb_in (t := 1) (List.mem_of_getElem? (i := 157) rfl)
theorem xw_58 : Jvm.Cond.code xq_58.2.1 xq_58.2.2.1 xq_58.2.2.2.1 xq_58.2.2.2.2.1 ∈ lw_tbl := xm_tb_in (t := 1) (List.mem_of_getElem? (i := 177) rfl)
theorem xw_59 : Jvm.Cond.code xq_59.2.1 xq_59.2.2.1 xq_59.2.2.2.1 xq_59.2.2.2.2.1 ∈ lw_tbl := xm_tb_in (t := 1) (List.mem_of_getElem? (i := 185) rfl)
theorem xw_60 : Jvm.Cond.code xq_60.2.1 xq_60.2.2.1 xq_60.2.2.2.1 xq_60.2.2.2.2.1 ∈ lw_tbl := xm_tb_in (t := 1) (List.mem_of_getElem? (i := 212) rfl)
theorem xw_61 : Jvm.Cond.code xq_61.2.1 xq_61.2.2.1 xq_61.2.2.2.1 xq_61.2.2.2.2.1 ∈ lw_tbl := xm_tb_in (t := 1) (List.mem_of_getElem? (i := 220) rfl)
theorem xw_62 : Jvm.Cond.code xq_62.2.1 xq_62.2.2.1 xq_62.2.2.2.1 xq_62.2.2.2.2.1 ∈ lw_tbl := xm_tb_in (t := 1) (List.mem_of_getElem? (i := 237) rfl)
theorem xw_63 : Jvm.Cond.code xq_63.2.1 xq_63.2.2.1 xq_63.2.2.2.1 xq_63.2.2.2.2.1 ∈ lw_tbl := xm_tb_in (t := 2) (List.mem_of_getElem? (i := 5) rfl)
theorem xw_64 : Jvm.Cond.code xq_64.2.1 xq_64.2.2.1 xq_64.2.2.2.1 xq_64.2.2.2.2.1 ∈ lw_tbl := xm_tb_in (t := 2) (List.mem_of_getElem? (i := 69) rfl)
theorem xw_65 : Jvm.Cond.code xq_65.2.1 xq_65.2.2.1 xq_65.2.2.2.1 xq_65.2.2.2.2.1 ∈ lw_tbl := xm_tb_in (t := 2) (List.mem_of_getElem? (i := 81) rfl)
theorem xw_66 : Jvm.Cond.code xq_66.2.1 xq_66.2.2.1 xq_66.2.2.2.1 xq_66.2.2.2.2.1 ∈ lw_tbl := xm_tb_in (t := 2) (List.mem_of_getElem? (i := 111) rfl)
theorem xw_67 : Jvm.Cond.code xq_67.2.1 xq_67.2.2.1 xq_67.2.2.2.1 xq_67.2.2.2.2.1 ∈ lw_tbl := xm_tb_in (t := 2) (List.mem_of_getElem? (i := 117) rfl)
theorem xw_68 : Jvm.Cond.code xq_68.2.1 xq_68.2.2.1 xq_68.2.2.2.1 xq_68.2.2.2.2.1 ∈ lw_tbl := xm_tb_in (t := 2) (List.mem_of_getElem? (i := 121) rfl)
theorem xw_69 : Jvm.Cond.code xq_69.2.1 xq_69.2.2.1 xq_69.2.2.2.1 xq_69.2.2.2.2.1 ∈ lw_tbl := xm_tb_in (t := 2) (List.mem_of_getElem? (i := 126) rfl)
theorem xw_70 : Jvm.Cond.code xq_70.2.1 xq_70.2.2.1 xq_70.2.2.2.1 xq_70.2.2.2.2.1 ∈ lw_tbl := xm_tb_in (t := 2) (List.mem_of_getElem? (i := 132) rfl)
theorem xw_71 : Jvm.Cond.code xq_71.2.1 xq_71.2.2.1 xq_71.2.2.2.1 xq_71.2.2.2.2.1 ∈ lw_tbl := xm_tb_in (t := 2) (List.mem_of_getElem? (i := 138) rfl)
theorem xw_72 : Jvm.Cond.code xq_72.2.1 xq_72.2.2.1 xq_72.2.2.2.1 xq_72.2.2.2.2.1 ∈ lw_tbl := xm_tb_in (t := 2) (List.mem_of_getElem? (i := 144) rfl)
theorem xw_73 : Jvm.Cond.code xq_73.2.1 xq_73.2.2.1 xq_73.2.2.2.1 xq_73.2.2.2.2.1 ∈ lw_tbl := xm_tb_in (t := 2) (List.mem_of_getElem? (i := 149) rfl)
theorem xw_74 : Jvm.Cond.code xq_74.2.1 xq_74.2.2.1 xq_74.2.2.2.1 xq_74.2.2.2.2.1 ∈ lw_tbl := xm_tb_in (t := 2) (List.mem_of_getElem? (i := 162) rfl)
theorem xw_75 : Jvm.Cond.code xq_75.2.1 xq_75.2.2.1 xq_75.2.2.2.1 xq_75.2.2.2.2.1 ∈ lw_tbl := xm_tb_in (t := 2) (List.mem_of_getElem? (i := 167) rfl)
theorem xw_76 : Jvm.Cond.code xq_76.2.1 xq_76.2.2.1 xq_76.2.2.2.1 xq_76.2.2.2.2.1 ∈ lw_tbl := xm_tb_in (t := 2) (List.mem_of_getElem? (i := 176) rfl)
theorem xw_77 : Jvm.Cond.code xq_77.2.1 xq_77.2.2.1 xq_77.2.2.2.1 xq_77.2.2.2.2.1 ∈ lw_tbl := xm_tb_in (t := 2) (List.mem_of_getElem? (i := 180) rfl)
theorem xw_78 : Jvm.Cond.code xq_78.2.1 xq_78.2.2.1 xq_78.2.2.2.1 xq_78.2.2.2.2.1 ∈ lw_tbl := xm_tb_in (t := 2) (List.mem_of_getElem? (i := 226) rfl)
theorem xw_79 : Jvm.Cond.code xq_79.2.1 xq_79.2.2.1 xq_79.2.2.2.1 xq_79.2.2.2.2.1 ∈ lw_tbl := xm_tb_in (t := 1) (List.mem_of_getElem? (i := 121) rfl)
theorem xw_80 : Jvm.Cond.code xq_80.2.1 xq_80.2.2.1 xq_80.2.2.2.1 xq_80.2.2.2.2.1 ∈ lw_tbl := xm_tb_in (t := 1) (List.mem_of_getElem? (i := 117) rfl)
theorem xw_81 : Jvm.Cond.code xq_81.2.1 xq_81.2.2.1 xq_81.2.2.2.1 xq_81.2.2.2.2.1 ∈ lw_tbl := xm_tb_in (t := 1) (List.mem_of_getElem? (i := 150) rfl)
theorem xw_82 : Jvm.Cond.code xq_82.2.1 xq_82.2.2.1 xq_82.2.2.2.1 xq_82.2.2.2.2.1 ∈ lw_tbl := xm_tb_in (t := 2) (List.mem_of_getElem? (i := 91) rfl)
theorem xw_83 : Jvm.Cond.code xq_83.2.1 xq_83.2.2.1 xq_83.2.2.2.1 xq_83.2.2.2.2.1 ∈ lw_tbl := xm_tb_in (t := 1) (List.mem_of_getElem? (i := 227) rfl)
theorem xw_84 : Jvm.Cond.code xq_84.2.1 xq_84.2.2.1 xq_84.2.2.2.1 xq_84.2.2.2.2.1 ∈ lw_tbl := xm_tb_in (t := 2) (List.mem_of_getElem? (i := 231) rfl)
theorem xw_85 : Jvm.Cond.code xq_85.2.1 xq_85.2.2.1 xq_85.2.2.2.1 xq_85.2.2.2.2.1 ∈ lw_tbl := xm_tb_in (t := 3) (List.mem_of_getElem? (i := 85) rfl)
theorem xw_86 : Jvm.Cond.code xq_86.2.1 xq_86.2.2.1 xq_86.2.2.2.1 xq_86.2.2.2.2.1 ∈ lw_tbl := xm_tb_in (t := 3) (List.mem_of_getElem? (i := 61) rfl)
theorem xw_87 : Jvm.Cond.code xq_87.2.1 xq_87.2.2.1 xq_87.2.2.2.1 xq_87.2.2.2.2.1 ∈ lw_tbl := xm_tb_in (t := 3) (List.mem_of_getElem? (i := 89) rfl)
theorem xw_88 : Jvm.Cond.code xq_88.2.1 xq_88.2.2.1 xq_88.2.2.2.1 xq_88.2.2.2.2.1 ∈ lw_tbl := xm_tb_in (t := 3) (List.mem_of_getElem? (i := 82) rfl)
theorem xw_89 : Jvm.Cond.code xq_89.2.1 xq_89.2.2.1 xq_89.2.2.2.1 xq_89.2.2.2.2.1 ∈ lw_tbl := xm_tb_in (t := 3) (List.mem_of_getElem? (i := 117) rfl)
theorem xw_90 : Jvm.Cond.code xq_90.2.1 xq_90.2.2.1 xq_90.2.2.2.1 xq_90.2.2.2.2.1 ∈ lw_tbl := xm_tb_in (t := 3) (List.mem_of_getElem? (i := 210) rfl)
theorem xw_91 : Jvm.Cond.code xq_91.2.1 xq_91.2.2.1 xq_91.2.2.2.1 xq_91.2.2.2.2.1 ∈ lw_tbl := xm_tb_in (t := 3) (List.mem_of_getElem? (i := 160) rfl)
theorem xw_92 : Jvm.Cond.code xq_92.2.1 xq_92.2.2.1 xq_92.2.2.2.1 xq_92.2.2.2.2.1 ∈ lw_tbl := xm_tb_in (t := 3) (List.mem_of_getElem? (i := 38) rfl)
theorem xw_93 : Jvm.Cond.code xq_93.2.1 xq_93.2.2.1 xq_93.2.2.2.1 xq_93.2.2.2.2.1 ∈ lw_tbl := xm_tb_in (t := 3) (List.mem_of_getElem? (i := 67) rfl)
theorem xw_94 : Jvm.Cond.code xq_94.2.1 xq_94.2.2.1 xq_94.2.2.2.1 xq_94.2.2.2.2.1 ∈ lw_tbl := xm_tb_in (t := 3) (List.mem_of_getElem? (i := 33) rfl)
theorem xw_95 : Jvm.Cond.code xq_95.2.1 xq_95.2.2.1 xq_95.2.2.2.1 xq_95.2.2.2.2.1 ∈ lw_tbl := xm_tb_in (t := 3) (List.mem_of_getElem? (i := 129) rfl)
theorem xw_96 : Jvm.Cond.code xq_96.2.1 xq_96.2.2.1 xq_96.2.2.2.1 xq_96.2.2.2.2.1 ∈ lw_tbl := xm_tb_in (t := 3) (List.mem_of_getElem? (i := 125) rfl)
theorem xw_97 : Jvm.Cond.code xq_97.2.1 xq_97.2.2.1 xq_97.2.2.2.1 xq_97.2.2.2.2.1 ∈ lw_tbl := xm_tb_in (t := 3) (List.mem_of_getElem? (i := 191) rfl)
theorem xw_98 : Jvm.Cond.code xq_98.2.1 xq_98.2.2.1 xq_98.2.2.2.1 xq_98.2.2.2.2.1 ∈ lw_tbl := xm_tb_in (t := 3) (List.mem_of_getElem? (i := 58) rfl)
theorem xw_99 : Jvm.Cond.code xq_99.2.1 xq_99.2.2.1 xq_99.2.2.2.1 xq_99.2.2.2.2.1 ∈ lw_tbl := xm_tb_in (t := 3) (List.mem_of_getElem? (i := 54) rfl)
theorem xw_100 : Jvm.Cond.code xq_100.2.1 xq_100.2.2.1 xq_100.2.2.2.1 xq_100.2.2.2.2.1 ∈ lw_tbl := xm_tb_in (t := 3) (List.mem_of_getElem? (i := 50) rfl)
theorem xw_101 : Jvm.Cond.code xq_101.2.1 xq_101.2.2.1 xq_101.2.2.2.1 xq_101.2.2.2.2.1 ∈ lw_tbl := xm_tb_in (t := 3) (List.mem_of_getElem? (i := 222) rfl)
theorem xw_102 : Jvm.Cond.code xq_102.2.1 xq_102.2.2.1 xq_102.2.2.2.1 xq_102.2.2.2.2.1 ∈ lw_tbl := xm_tb_in (t := 3) (List.mem_of_getElem? (i := 46) rfl)
theorem xw_103 : Jvm.Cond.code xq_103.2.1 xq_103.2.2.1 xq_103.2.2.2.1 xq_103.2.2.2.2.1 ∈ lw_tbl := xm_tb_in (t := 3) (List.mem_of_getElem? (i := 71) rfl)
theorem xw_104 : Jvm.Cond.code xq_104.2.1 xq_104.2.2.1 xq_104.2.2.2.1 xq_104.2.2.2.2.1 ∈ lw_tbl := xm_tb_in (t := 3) (List.mem_of_getElem? (i := 42) rfl)
theorem xw_105 : Jvm.Cond.code xq_105.2.1 xq_105.2.2.1 xq_105.2.2.2.1 xq_105.2.2.2.2.1 ∈ lw_tbl := xm_tb_in (t := 3) (List.mem_of_getElem? (i := 79) rfl)
theorem xw_106 : Jvm.Cond.code xq_106.2.1 xq_106.2.2.1 xq_106.2.2.2.1 xq_106.2.2.2.2.1 ∈ lw_tbl := xm_tb_in (t := 3) (List.mem_of_getElem? (i := 94) rfl)
theorem xw_107 : Jvm.Cond.code xq_107.2.1 xq_107.2.2.1 xq_107.2.2.2.1 xq_107.2.2.2.2.1 ∈ lw_tbl := xm_tb_in (t := 3) (List.mem_of_getElem? (i := 75) rfl)
theorem xw_108 : Jvm.Cond.code xq_108.2.1 xq_108.2.2.1 xq_108.2.2.2.1 xq_108.2.2.2.2.1 ∈ lw_tbl := xm_tb_in (t := 3) (List.mem_of_getElem? (i := 102) rfl)
theorem xw_109 : Jvm.Cond.code xq_109.2.1 xq_109.2.2.1 xq_109.2.2.2.1 xq_109.2.2.2.2.1 ∈ lw_tbl := xm_tb_in (t := 3) (List.mem_of_getElem? (i := 106) rfl)
theorem xw_110 : Jvm.Cond.code xq_110.2.1 xq_110.2.2.1 xq_110.2.2.2.1 xq_110.2.2.2.2.1 ∈ lw_tbl := xm_tb_in (t := 3) (List.mem_of_getElem? (i := 98) rfl)
theorem xw_111 : Jvm.Cond.code xq_111.2.1 xq_111.2.2.1 xq_111.2.2.2.1 xq_111.2.2.2.2.1 ∈ lw_tbl := xm_tb_in (t := 3) (List.mem_of_getElem? (i := 114) rfl)
theorem xw_112 : Jvm.Cond.code xq_112.2.1 xq_112.2.2.1 xq_112.2.2.2.1 xq_112.2.2.2.2.1 ∈ lw_tbl := xm_tb_in (t := 3) (List.mem_of_getElem? (i := 121) rfl)
theorem xw_113 : Jvm.Cond.code xq_113.2.1 xq_113.2.2.1 xq_113.2.2.2.1 xq_113.2.2.2.2.1 ∈ lw_tbl := xm_tb_in (t := 3) (List.mem_of_getElem? (i := 110) rfl)
theorem xw_114 : Jvm.Cond.code xq_114.2.1 xq_114.2.2.1 xq_114.2.2.2.1 xq_114.2.2.2.2.1 ∈ lw_tbl := xm_tb_in (t := 3) (List.mem_of_getElem? (i := 137) rfl)
theorem xw_115 : Jvm.Cond.code xq_115.2.1 xq_115.2.2.1 xq_115.2.2.2.1 xq_115.2.2.2.2.1 ∈ lw_tbl := xm_tb_in (t := 3) (List.mem_of_getElem? (i := 141) rfl)
theorem xw_116 : Jvm.Cond.code xq_116.2.1 xq_116.2.2.1 xq_116.2.2.2.1 xq_116.2.2.2.2.1 ∈ lw_tbl := xm_tb_in (t := 3) (List.mem_of_getElem? (i := 133) rfl)
theorem xw_117 : Jvm.Cond.code xq_117.2.1 xq_117.2.2.1 xq_117.2.2.2.1 xq_117.2.2.2.2.1 ∈ lw_tbl := xm_tb_in (t := 3) (List.mem_of_getElem? (i := 157) rfl)
theorem xw_118 : Jvm.Cond.code xq_118.2.1 xq_118.2.2.1 xq_118.2.2.2.1 xq_118.2.2.2.2.1 ∈ lw_tbl := xm_tb_in (t := 3) (List.mem_of_getElem? (i := 149) rfl)
theorem xw_119 : Jvm.Cond.code xq_119.2.1 xq_119.2.2.1 xq_119.2.2.2.1 xq_119.2.2.2.2.1 ∈ lw_tbl := xm_tb_in (t := 3) (List.mem_of_getElem? (i := 153) rfl)
theorem xw_120 : Jvm.Cond.code xq_120.2.1 xq_120.2.2.1 xq_120.2.2.2.1 xq_120.2.2.2.2.1 ∈ lw_tbl := xm_tb_in (t := 3) (List.mem_of_getElem? (i := 145) rfl)
theorem xw_121 : Jvm.Cond.code xq_121.2.1 xq_121.2.2.1 xq_121.2.2.2.1 xq_121.2.2.2.2.1 ∈ lw_tbl := xm_tb_in (t := 3) (List.mem_of_getElem? (i := 164) rfl)
theorem xw_122 : Jvm.Cond.code xq_122.2.1 xq_122.2.2.1 xq_122.2.2.2.1 xq_122.2.2.2.2.1 ∈ lw_tbl := xm_tb_in (t := 3) (List.mem_of_getElem? (i := 199) rfl)
theorem xw_123 : Jvm.Cond.code xq_123.2.1 xq_123.2.2.1 xq_123.2.2.2.1 xq_123.2.2.2.2.1 ∈ lw_tbl := xm_tb_in (t := 3) (List.mem_of_getElem? (i := 207) rfl)
theorem xw_124 : Jvm.Cond.code xq_124.2.1 xq_124.2.2.1 xq_124.2.2.2.1 xq_124.2.2.2.2.1 ∈ lw_tbl := xm_tb_in (t := 3) (List.mem_of_getElem? (i := 214) rfl)
theorem xw_125 : Jvm.Cond.code xq_125.2.1 xq_125.2.2.1 xq_125.2.2.2.1 xq_125.2.2.2.2.1 ∈ lw_tbl := xm_tb_in (t := 3) (List.mem_of_getElem? (i := 195) rfl)
theorem xw_126 : Jvm.Cond.code xq_126.2.1 xq_126.2.2.1 xq_126.2.2.2.1 xq_126.2.2.2.2.1 ∈ lw_tbl := xm_tb_in (t := 3) (List.mem_of_getElem? (i := 203) rfl)
theorem xw_127 : Jvm.Cond.code xq_127.2.1 xq_127.2.2.1 xq_127.2.2.2.1 xq_127.2.2.2.2.1 ∈ lw_tbl := xm_tb_in (t := 3) (List.mem_of_getElem? (i := 234) rfl)
theorem xw_128 : Jvm.Cond.code xq_128.2.1 xq_128.2.2.1 xq_128.2.2.2.1 xq_128.2.2.2.2.1 ∈ lw_tbl := xm_tb_in (t := 3) (List.mem_of_getElem? (i := 187) rfl)
theorem xw_129 : Jvm.Cond.code xq_129.2.1 xq_129.2.2.1 xq_129.2.2.2.1 xq_129.2.2.2.2.1 ∈ lw_tbl := xm_tb_in (t := 3) (List.mem_of_getElem? (i := 218) rfl)
theorem xw_130 : Jvm.Cond.code xq_130.2.1 xq_130.2.2.1 xq_130.2.2.2.1 xq_130.2.2.2.2.1 ∈ lw_tbl := xm_tb_in (t := 3) (List.mem_of_getElem? (i := 183) rfl)
theorem xw_131 : Jvm.Cond.code xq_131.2.1 xq_131.2.2.1 xq_131.2.2.2.1 xq_131.2.2.2.2.1 ∈ lw_tbl := xm_tb_in (t := 3) (List.mem_of_getElem? (i := 179) rfl)
theorem xw_132 : Jvm.Cond.code xq_132.2.1 xq_132.2.2.1 xq_132.2.2.2.1 xq_132.2.2.2.2.1 ∈ lw_tbl := xm_tb_in (t := 3) (List.mem_of_getElem? (i := 175) rfl)
theorem xw_133 : Jvm.Cond.code xq_133.2.1 xq_133.2.2.1 xq_133.2.2.2.1 xq_133.2.2.2.2.1 ∈ lw_tbl := xm_tb_in (t := 3) (List.mem_of_getElem? (i := 172) rfl)
theorem xw_134 : Jvm.Cond.code xq_134.2.1 xq_134.2.2.1 xq_134.2.2.2.1 xq_134.2.2.2.2.1 ∈ lw_tbl := xm_tb_in (t := 3) (List.mem_of_getElem? (i := 168) rfl)
theorem xw_135 : Jvm.Cond.code xq_135.2.1 xq_135.2.2.1 xq_135.2.2.2.1 xq_135.2.2.2.2.1 ∈ lw_tbl := xm_tb_in (t := 3) (List.mem_of_getElem? (i := 230) rfl)
theorem xw_136 : Jvm.Cond.code xq_136.2.1 xq_136.2.2.1 xq_136.2.2.2.1 xq_136.2.2.2.2.1 ∈ lw_tbl := xm_tb_in (t := 3) (List.mem_of_getElem? (i := 226) rfl)
theorem xw_137 : Jvm.Cond.code xq_137.2.1 xq_137.2.2.1 xq_137.2.2.2.1 xq_137.2.2.2.2.1 ∈ lw_tbl := xm_tb_in (t := 4) (List.mem_of_getElem? (i := 6) rfl)
theorem xw_138 : Jvm.Cond.code xq_138.2.1 xq_138.2.2.1 xq_138.2.2.2.1 xq_138.2.2.2.2.1 ∈ lw_tbl := xm_tb_in (t := 4) (List.mem_of_getElem? (i := 2) rfl)
theorem xw_139 : Jvm.Cond.code xq_139.2.1 xq_139.2.2.1 xq_139.2.2.2.1 xq_139.2.2.2.2.1 ∈ lw_tbl := xm_tb_in (t := 3) (List.mem_of_getElem? (i := 238) rfl)
theorem xw_140 : Jvm.Cond.code xq_140.2.1 xq_140.2.2.1 xq_140.2.2.2.1 xq_140.2.2.2.2.1 ∈ lw_tbl := xm_tb_in (t := 4) (List.mem_of_getElem? (i := 14) rfl)
theorem xw_141 : Jvm.Cond.code xq_141.2.1 xq_141.2.2.1 xq_141.2.2.2.1 xq_141.2.2.2.2.1 ∈ lw_tbl := xm_tb_in (t := 4) (List.mem_of_getElem? (i := 10) rfl)
theorem xw_142 : Jvm.Cond.code xq_142.2.1 xq_142.2.2.1 xq_142.2.2.2.1 xq_142.2.2.2.2.1 ∈ lw_tbl := xm_tb_in (t := 4) (List.mem_of_getElem? (i := 18) rfl)
theorem xw_143 : Jvm.Cond.code xq_143.2.1 xq_143.2.2.1 xq_143.2.2.2.1 xq_143.2.2.2.2.1 ∈ lw_tbl := xm_tb_in (t := 4) (List.mem_of_getElem? (i := 30) rfl)
theorem xw_144 : Jvm.Cond.code xq_144.2.1 xq_144.2.2.1 xq_144.2.2.2.1 xq_144.2.2.2.2.1 ∈ lw_tbl := xm_tb_in (t := 4) (List.mem_of_getElem? (i := 26) rfl)
theorem xw_145 : Jvm.Cond.code xq_145.2.1 xq_145.2.2.1 xq_145.2.2.2.1 xq_145.2.2.2.2.1 ∈ lw_tbl := xm_tb_in (t := 4) (List.mem_of_getElem? (i := 22) rfl)
theorem xw_146 : Jvm.Cond.code xq_146.2.1 xq_146.2.2.1 xq_146.2.2.2.1 xq_146.2.2.2.2.1 ∈ lw_tbl := xm_tb_in (t := 4) (List.mem_of_getElem? (i := 34) rfl)
theorem xw_147 : Jvm.Cond.code xq_147.2.1 xq_147.2.2.1 xq_147.2.2.2.1 xq_147.2.2.2.2.1 ∈ lw_tbl := xm_tb_in (t := 4) (List.mem_of_getElem? (i := 38) rfl)
theorem xw_148 : Jvm.Cond.code xq_148.2.1 xq_148.2.2.1 xq_148.2.2.2.1 xq_148.2.2.2.2.1 ∈ lw_tbl := xm_tb_in (t := 4) (List.mem_of_getElem? (i := 42) rfl)
theorem xw_149 : Jvm.Cond.code xq_149.2.1 xq_149.2.2.1 xq_149.2.2.2.1 xq_149.2.2.2.2.1 ∈ lw_tbl := xm_tb_in (t := 4) (List.mem_of_getElem? (i := 46) rfl)
theorem xw_150 : Jvm.Cond.code xq_150.2.1 xq_150.2.2.1 xq_150.2.2.2.1 xq_150.2.2.2.2.1 ∈ lw_tbl := xm_tb_in (t := 4) (List.mem_of_getElem? (i := 54) rfl)
theorem xw_151 : Jvm.Cond.code xq_151.2.1 xq_151.2.2.1 xq_151.2.2.2.1 xq_151.2.2.2.2.1 ∈ lw_tbl := xm_tb_in (t := 4) (List.mem_of_getElem? (i := 50) rfl)
theorem xw_152 : Jvm.Cond.code xq_152.2.1 xq_152.2.2.1 xq_152.2.2.2.1 xq_152.2.2.2.2.1 ∈ lw_tbl := xm_tb_in (t := 4) (List.mem_of_getElem? (i := 58) rfl)
theorem xw_153 : Jvm.Cond.code xq_153.2.1 xq_153.2.2.1 xq_153.2.2.2.1 xq_153.2.2.2.2.1 ∈ lw_tbl := xm_tb_in (t := 4) (List.mem_of_getElem? (i := 62) rfl)
theorem xw_154 : Jvm.Cond.code xq_154.2.1 xq_154.2.2.1 xq_154.2.2.2.1 xq_154.2.2.2.2.1 ∈ lw_tbl := xm_tb_in (t := 4) (List.mem_of_getElem? (i := 82) rfl)
theorem xw_155 : Jvm.Cond.code xq_155.2.1 xq_155.2.2.1 xq_155.2.2.2.1 xq_155.2.2.2.2.1 ∈ lw_tbl := xm_tb_in (t := 4) (List.mem_of_getElem? (i := 89) rfl)
theorem xw_156 : Jvm.Cond.code xq_156.2.1 xq_156.2.2.1 xq_156.2.2.2.1 xq_156.2.2.2.2.1 ∈ lw_tbl := xm_tb_in (t := 4) (List.mem_of_getElem? (i := 93) rfl)
theorem xw_157 : Jvm.Cond.code xq_157.2.1 xq_157.2.2.1 xq_157.2.2.2.1 xq_157.2.2.2.2.1 ∈ lw_tbl := xm_tb_in (t := 4) (List.mem_of_getElem? (i := 85) rfl)
theorem xw_158 : Jvm.Cond.code xq_158.2.1 xq_158.2.2.1 xq_158.2.2.2.1 xq_158.2.2.2.2.1 ∈ lw_tbl := xm_tb_in (t := 4) (List.mem_of_getElem? (i := 78) rfl)
theorem xw_159 : Jvm.Cond.code xq_159.2.1 xq_159.2.2.1 xq_159.2.2.2.1 xq_159.2.2.2.2.1 ∈ lw_tbl := xm_tb_in (t := 4) (List.mem_of_getElem? (i := 97) rfl)
theorem xw_160 : Jvm.Cond.code xq_160.2.1 xq_160.2.2.1 xq_160.2.2.2.1 xq_160.2.2.2.2.1 ∈ lw_tbl := xm_tb_in (t := 4) (List.mem_of_getElem? (i := 101) rfl)
theorem xw_161 : Jvm.Cond.code xq_161.2.1 xq_161.2.2.1 xq_161.2.2.2.1 xq_161.2.2.2.2.1 ∈ lw_tbl := xm_tb_in (t := 4) (List.mem_of_getElem? (i := 74) rfl)
theorem xw_162 : Jvm.Cond.code xq_162.2.1 xq_162.2.2.1 xq_162.2.2.2.1 xq_162.2.2.2.2.1 ∈ lw_tbl := xm_tb_in (t := 4) (List.mem_of_getElem? (i := 105) rfl)
theorem xw_163 : Jvm.Cond.code xq_163.2.1 xq_163.2.2.1 xq_163.2.2.2.1 xq_163.2.2.2.2.1 ∈ lw_tbl := xm_tb_in (t := 4) (List.mem_of_getElem? (i := 70) rfl)
theorem xw_164 : Jvm.Cond.code xq_164.2.1 xq_164.2.2.1 xq_164.2.2.2.1 xq_164.2.2.2.2.1 ∈ lw_tbl := xm_tb_in (t := 4) (List.mem_of_getElem? (i := 66) rfl)
theorem xw_165 : Jvm.Cond.code xq_165.2.1 xq_165.2.2.1 xq_165.2.2.2.1 xq_165.2.2.2.2.1 ∈ lw_tbl := xm_tb_in (t := 4) (List.mem_of_getElem? (i := 109) rfl)
theorem xw_166 : Jvm.Cond.code xq_166.2.1 xq_166.2.2.1 xq_166.2.2.2.1 xq_166.2.2.2.2.1 ∈ lw_tbl := xm_tb_in (t := 1) (List.mem_of_getElem? (i := 230) rfl)
def xm_cdP : List xm_M → Prop
  | m :: m2 :: ms => Jvm.Cond.code m.2.1 m.2.2.1 m.2.2.2.1 m.2.2.2.2.1 ∈ lw_tbl ∧ xm_cdP (m2 :: ms)
  | _ => True
set_option maxRecDepth 100000 in
theorem xm_cds : xm_cdP xm_ms := ⟨xw_0, xw_1, xw_2, xw_3, xw_4, xw_5, xw_6, xw_7, xw_8, xw_9, xw_10, xw_11, xw_12, xw_13, xw_14, xw_15, xw_16, xw_17, xw_18, xw_19, xw_20, xw_21, xw_22, xw_23, xw_24, xw_25, xw_26, xw_27, xw_28, xw_29, xw_30, xw_31, xw_32, xw_33, xw_34, xw_35, xw_36, xw_37, xw_38, xw_39, xw_40, xw_41, xw_42, xw_43, xw_44, xw_45, xw_46, xw_47, xw_48, xw_49, xw_50, xw_51, xw_52, xw_53, xw_54, xw_55, xw_56, xw_57, xw_58, xw_59, xw_60, xw_61, xw_62, xw_63, xw_64, xw_65, xw_66, xw_67, xw_68, xw_69, xw_70, xw_71, xw_72, xw_73, xw_74, xw_75, xw_76, xw_77, xw_78, xw_79, xw_80, xw_81, xw_82, xw_83, xw_84, xw_85, xw_86, xw_87, xw_88, xw_89, xw_90, xw_91, xw_92, xw_93, xw_94, xw_95, xw_96, xw_97, xw_98, xw_99, xw_100, xw_101, xw_102, xw_103, xw_104, xw_105, xw_106, xw_107, xw_108, xw_109, xw_110, xw_111, xw_112, xw_113, xw_114, xw_115, xw_116, xw_117, xw_118, xw_119, xw_120, xw_121, xw_122, xw_123, xw_124, xw_125, xw_126, xw_127, xw_128, xw_129, xw_130, xw_131, xw_132, xw_133, xw_134, xw_135, xw_136, xw_137, xw_138, xw_139, xw_140, xw_141, xw_142, xw_143, xw_144, xw_145, xw_146, xw_147, xw_148, xw_149, xw_150, xw_151, xw_152, xw_153, xw_154, xw_155, xw_156, xw_157, xw_158, xw_159, xw_160, xw_161, xw_162, xw_163, xw_164, xw_165, xw_166, trivial⟩
theorem xm_cdP_get : ∀ (ms : List xm_M) (k : Nat) (m : xm_M), xm_cdP ms → k + 1 < ms.length → ms[k]? = some m → Jvm.Cond.code m.2.1 m.2.2.1 m.2.2.2.1 m.2.2.2.2.1 ∈ lw_tbl := by
  intro ms
  induction ms with
  | nil => intro k m _ h; simp at h
  | cons a ms ih =>
    intro k m hp hl hm
    cases ms with
    | nil => simp at hl
    | cons b ms =>
      cases k with
      | zero =>
        cases hm
        exact hp.1
      | succ k => exact ih k m hp.2 (by simpa using hl) hm
theorem xm_code {j : Nat} {m : xm_M} (hj : j < 167) (hm : xm_ms[j]? = some m) : Jvm.Cond.code m.2.1 m.2.2.1 m.2.2.2.1 m.2.2.2.2.1 ∈ xm_ws :=
  List.mem_filter.mpr ⟨xm_cdP_get xm_ms j m xm_cds (by show j + 1 < 168; omega) hm, rfl⟩
theorem xm_find_mem {t : List (Nat × xm_Q)} {pc : Nat} {q : xm_Q} (h : xm_find t pc = some q) : (pc, q) ∈ t := by
  induction t with
  | nil => cases h
  | cons e t ih =>
    unfold xm_find at h
    split at h
    · next he =>
      cases h
      subst he
      exact List.mem_cons_self
    · exact List.mem_cons_of_mem _ (ih h)
theorem xm_okP_get : ∀ (ts : List (List (Nat × xm_Q))) (ms : List xm_M) (k : Nat) (t : List (Nat × xm_Q)) (m : xm_M), xm_okP ts ms → ts[k]? = some t → ms[k]? = some m → ∃ ps, xm_okT m t ps = true := by
  intro ts
  induction ts with
  | nil => intro ms k t m _ h; simp at h
  | cons a ts ih =>
    intro ms k t m hp ht hm
    cases ms with
    | nil => simp at hm
    | cons b ms =>
      cases k with
      | zero =>
        cases ht
        cases hm
        exact hp.1
      | succ k => exact ih ms k t m hp.2 ht hm
theorem xm_ok {k pc : Nat} {q : xm_Q} {M : xm_M} (hM : xm_ms[k]? = some M) (h : xm_ins k pc = some q) : decode M.2.2.1 pc = .ok (q.1, xm_len q.1 pc q.2.1) ∧ q.2.1 = pc + xm_len q.1 pc q.2.1 ∧ ∃ ps, xm_okX ps M pc q = true := by
  unfold xm_ins at h
  split at h
  · next t ht =>
    obtain ⟨ps0, h0⟩ := xm_okP_get _ _ k t M xm_oks ht hM
    obtain ⟨ps, h1⟩ := xm_okT_get t ps0 _ h0 (xm_find_mem h)
    simp only [xm_okB, Bool.and_eq_true, decide_eq_true_eq] at h1
    exact ⟨h1.1, h1.2.1, ps, h1.2.2⟩
  · cases h
theorem xm_cls_ws : ∀ (ci : Nat) (q : vw_C), vwCl[ci]? = some q → ∀ w ∈ u_ws q.1 q.2.1 q.2.2, w ∈ xm_ws := by
  have h : ∀ q ∈ vwCl, (u_ws q.1 q.2.1 q.2.2).all (fun w => decide (w ∈ lw_tbl) && goodWord w) = true := by decide +kernel
  intro ci q hq w hw
  have h1 := List.all_eq_true.mp (h q (List.mem_of_getElem? hq)) w hw
  simp only [Bool.and_eq_true, decide_eq_true_eq] at h1
  exact List.mem_filter.mpr h1
theorem xm_cls_ty : ∀ (ci : Nat) (q : vw_C), vwCl[ci]? = some q → ∃ ty : Nat → FieldType, (∀ k, k < q.2.2 → parseFieldDescriptor (q.2.1 k).2.2.1 = some (ty k)) ∧ (∀ a, a < q.2.2 → ∀ b, b < q.2.2 → a ≠ b → (q.2.1 a).2.1 ≠ (q.2.1 b).2.1) ∧ (∀ j, j < q.2.2 → defaultValue (ty j) = vp_V (xm_new ci) j) ∧ (xm_new ci).length = q.2.2 := by
  intro ci q hq
  match ci, hq with
  | 0, hq => cases hq; exact ⟨tyX0, tyX0_ok, nmX0, by decide +kernel, rfl⟩
  | 1, hq => cases hq; exact ⟨tyX1, tyX1_ok, nmX1, by decide +kernel, rfl⟩
  | 2, hq => cases hq; exact ⟨tyX2, tyX2_ok, nmX2, by decide +kernel, rfl⟩
  | 3, hq => cases hq; exact ⟨tyX3, tyX3_ok, nmX3, by decide +kernel, rfl⟩
  | k + 4, hq => simp [vwCl] at hq
