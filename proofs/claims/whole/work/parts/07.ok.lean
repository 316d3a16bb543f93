/-! the tables hold what the machine's tables say: checked by program -/
def xm_ws : List Jvm.Cond := lw_tbl.filter goodWord
def xm_mem (w : Jvm.Cond) : Bool := decide (w ∈ lw_tbl) && goodWord w
theorem xm_mem_ws {w : Jvm.Cond} (h : xm_mem w = true) : w ∈ xm_ws := by
  simp only [xm_mem, Bool.and_eq_true, decide_eq_true_eq] at h
  exact List.mem_filter.mpr h
theorem xm_mem_good {w : Jvm.Cond} (h : xm_mem w = true) : w ∈ xm_ws ∧ ((w.onTables && w.keeps) = true ∨ ∃ ty, w = .arrayClass ty) := by
  refine ⟨xm_mem_ws h, ?_⟩
  simp only [xm_mem, Bool.and_eq_true, decide_eq_true_eq] at h
  exact good_of_word h.2
theorem xm_ws_good : GoodIn xm_ws xm_ws := fun _ h => ⟨h, good_of_word (List.mem_filter.mp h).2⟩
def xm_len (i : Instr) (pc nx : Nat) : Nat := match i with
  | .bipush _ => 2
  | .sipush _ => 3
  | .ldc _ => 2
  | .ldc_w _ => 3
  | .iload _ => 2
  | .aload _ => 2
  | .istore _ => 2
  | .iinc _ _ => 3
  | .ifCond _ _ => 3
  | .if_icmp _ _ => 3
  | .goto _ => 3
  | .getfield _ => 3
  | .putfield _ => 3
  | .new _ => 3
  | .anewarray _ => 3
  | .newarray _ => 2
  | .invokevirtual _ => 3
  | .invokestatic _ => 3
  | .invokespecial _ => 3
  | .tableswitch _ _ _ _ => nx - pc
  | .lookupswitch _ _ => nx - pc
  | _ => 1
/-- a callee: its code, its class, its arguments, its room -/
def xm_okC (fr lo : Nat) (j : xm_M) (y ps : Nat) : Bool := match j with
  | (ownj, yj, ccj, nLj, rtj, frj, loj) => xm_mem (.code yj ccj nLj rtj) && (xm_mem (.initialized yj.cls) && (decide (yj.cls ≠ "java/lang/invoke/MethodHandle" ∧ yj.cls ≠ "java/lang/invoke/VarHandle") && (decide ((parseMethodDescriptor yj.desc).map (fun d => d.parameters.length) = some ps) && (decide (frj + 1 ≤ fr ∧ 8 + (nLj + 11) + loj ≤ lo) && (decide (y ≤ nLj) && (decide (ownj = yj.cls) && plainName yj.cls))))))
def xm_okX (M : xm_M) (pc : Nat) (q : xm_Q) : Bool := match M with
  | (own, yk, _, _, rt, fr, lo) => match q with
    | (i, _, x, y, v) => match i with
      | .iconst n => decide (Int32.ofInt n = xm_i v)
      | .bipush n => decide ((Int8.ofInt n).toInt32 = xm_i v)
      | .sipush n => decide ((Int16.ofInt n).toInt32 = xm_i v)
      | .ldc n => xm_mem (.constant own n (xm_i v))
      | .ldc_w n => xm_mem (.constant own n (xm_i v))
      | .iload_n n => decide ((n : Nat) = x)
      | .iload n => decide (n = x)
      | .aload_n n => decide ((n : Nat) = x)
      | .istore_n n => decide ((n : Nat) = x)
      | .istore n => decide (n = x)
      | .astore_n n => decide ((n : Nat) = x)
      | .iinc n z => decide (n = x ∧ Int32.ofInt z = xm_i v)
      | .ifCond _ z => decide ((pc : Int) + z = (x : Int))
      | .if_icmp _ z => decide ((pc : Int) + z = (x : Int))
      | .goto z => decide ((pc : Int) + z = (x : Int))
      | .getfield n => match vwCl[x]? with
        | some (_, T, N) => decide (y < N) && xm_mem (.fieldLink own n (T y).1 (T y).2.1 (T y).2.2.1)
        | none => false
      | .putfield n => match vwCl[x]? with
        | some (_, T, N) => decide (y < N) && (xm_mem (.fieldLink own n (T y).1 (T y).2.1 (T y).2.2.1) && (decide ((T y).2.2.2 = false ∨ ((T y).2.2.2 = true ∧ yk.name = "<init>" ∧ (T y).1 = own)) && (match parseFieldDescriptor (T y).2.2.1 with
          | some .int => decide (v = 0)
          | some (.object _) => decide (v = 1)
          | some (.array _) => decide (v = 1)
          | _ => false)))
        | none => false
      | .new n => match vwCl[x]? with
        | some (C, _, N) => xm_mem (.classLink own n C) && (xm_mem (.instantiable C N) && xm_mem (.initialized C))
        | none => false
      | .newarray t => decide (t = .int) && xm_mem (.arrayClass .int)
      | .anewarray n => xm_mem (.classLink own n RX1)
      | .lookupswitch _ ps => (ps.toList.zip (ps.toList.drop 1)).all (fun (a, next) => a.1 < next.1)
      | .ireturn => decide (rt = some .int ∨ rt = some .boolean)
      | .areturn => match rt with
        | some (.object _) => true
        | some (.array _) => true
        | _ => false
      | .return_ => decide (rt = none)
      | .invokevirtual n => match xm_ms[x]? with
        | some j => xm_okC fr lo j y (y - 1) && (xm_mem (.methodLink own n j.2.1) && (xm_mem (.instanceMethod j.2.1) && (xm_mem (.selects j.2.1.cls j.2.1 j.2.1) && (match vwCl[v.toNat]? with
          | some (C, _, _) => decide (C = j.2.1.cls)
          | none => false))))
        | none => false
      | .invokestatic n => if x = 1001 then xm_mem (.methodLink own n arraycopyName) && (xm_mem (.native arraycopyName) && (xm_mem (.static arraycopyName) && (xm_mem (.initialized "java/lang/System") && decide (1 ≤ fr ∧ 8 + (nativeFrameWords "java/lang/System" "arraycopy" 5 + 11) ≤ lo))))
        else match xm_ms[x]? with
        | some j => xm_okC fr lo j y y && ((xm_mem (.methodLink own n j.2.1) || decide (own = RX1 ∧ n = 89 ∧ j.2.1 = ⟨RX2, "has", "(II)Z"⟩)) && xm_mem (.static j.2.1))
        | none => false
      | .invokespecial n => if x = 1000 then xm_mem (.methodLink own n objectInit) && (xm_mem (.instanceMethod objectInit) && (xm_mem (.code objectInit ⟨#[0xb1]⟩ 1 none) && decide (1 ≤ fr ∧ 20 ≤ lo)))
        else match xm_ms[x]? with
        | some j => xm_okC fr lo j y (y - 1) && ((xm_mem (.methodLink own n j.2.1) || decide (own = RX2 ∧ n = 17 ∧ j.2.1 = ⟨RX0, "<init>", "()V"⟩)) && (xm_mem (.instanceMethod j.2.1) && decide (j.2.1.name = "<init>" ∧ j.2.2.2.2.1 = none)))
        | none => false
      | _ => true
def xm_okB (M : xm_M) (e : Nat × xm_Q) : Bool := decide (decode M.2.2.1 e.1 = .ok (e.2.1, xm_len e.2.1 e.1 e.2.2.1)) && (decide (e.2.2.1 = e.1 + xm_len e.2.1 e.1 e.2.2.1) && xm_okX M e.1 e.2)
def xm_okP : List (List (Nat × xm_Q)) → List xm_M → Prop
  | t :: ts, m :: ms => t.all (xm_okB m) = true ∧ xm_okP ts ms
  | _, _ => True
theorem xk_0 : xt_0.all (xm_okB xq_0) = true := by decide +kernel
theorem xk_1 : xt_1.all (xm_okB xq_1) = true := by decide +kernel
theorem xk_2 : xt_2.all (xm_okB xq_2) = true := by decide +kernel
theorem xk_3 : xt_3.all (xm_okB xq_3) = true := by decide +kernel
theorem xk_4 : xt_4.all (xm_okB xq_4) = true := by decide +kernel
theorem xk_5 : xt_5.all (xm_okB xq_5) = true := by decide +kernel
theorem xk_6 : xt_6.all (xm_okB xq_6) = true := by decide +kernel
theorem xk_7 : xt_7.all (xm_okB xq_7) = true := by decide +kernel
theorem xk_8 : xt_8.all (xm_okB xq_8) = true := by decide +kernel
theorem xk_9 : xt_9.all (xm_okB xq_9) = true := by decide +kernel
theorem xk_10 : xt_10.all (xm_okB xq_10) = true := by decide +kernel
theorem xk_11 : xt_11.all (xm_okB xq_11) = true := by decide +kernel
theorem xk_12 : xt_12.all (xm_okB xq_12) = true := by decide +kernel
theorem xk_13 : xt_13.all (xm_okB xq_13) = true := by decide +kernel
theorem xk_14 : xt_14.all (xm_okB xq_14) = true := by decide +kernel
theorem xk_15 : xt_15.all (xm_okB xq_15) = true := by decide +kernel
theorem xk_16 : xt_16.all (xm_okB xq_16) = true := by decide +kernel
theorem xk_17 : xt_17.all (xm_okB xq_17) = true := by decide +kernel
theorem xk_18 : xt_18.all (xm_okB xq_18) = true := by decide +kernel
theorem xk_19 : xt_19.all (xm_okB xq_19) = true := by decide +kernel
theorem xk_20 : xt_20.all (xm_okB xq_20) = true := by decide +kernel
theorem xk_21 : xt_21.all (xm_okB xq_21) = true := by decide +kernel
theorem xk_22 : xt_22.all (xm_okB xq_22) = true := by decide +kernel
theorem xk_23 : xt_23.all (xm_okB xq_23) = true := by decide +kernel
theorem xk_24 : xt_24.all (xm_okB xq_24) = true := by decide +kernel
theorem xk_25 : xt_25.all (xm_okB xq_25) = true := by decide +kernel
theorem xk_26 : xt_26.all (xm_okB xq_26) = true := by decide +kernel
theorem xk_27 : xt_27.all (xm_okB xq_27) = true := by decide +kernel
theorem xk_28 : xt_28.all (xm_okB xq_28) = true := by decide +kernel
theorem xk_29 : xt_29.all (xm_okB xq_29) = true := by decide +kernel
theorem xk_30 : xt_30.all (xm_okB xq_30) = true := by decide +kernel
theorem xk_31 : xt_31.all (xm_okB xq_31) = true := by decide +kernel
theorem xk_32 : xt_32.all (xm_okB xq_32) = true := by decide +kernel
theorem xk_33 : xt_33.all (xm_okB xq_33) = true := by decide +kernel
theorem xk_34 : xt_34.all (xm_okB xq_34) = true := by decide +kernel
theorem xk_35 : xt_35.all (xm_okB xq_35) = true := by decide +kernel
theorem xk_36 : xt_36.all (xm_okB xq_36) = true := by decide +kernel
theorem xk_37 : xt_37.all (xm_okB xq_37) = true := by decide +kernel
theorem xk_38 : xt_38.all (xm_okB xq_38) = true := by decide +kernel
theorem xk_39 : xt_39.all (xm_okB xq_39) = true := by decide +kernel
theorem xk_40 : xt_40.all (xm_okB xq_40) = true := by decide +kernel
theorem xk_41 : xt_41.all (xm_okB xq_41) = true := by decide +kernel
theorem xk_42 : xt_42.all (xm_okB xq_42) = true := by decide +kernel
theorem xk_43 : xt_43.all (xm_okB xq_43) = true := by decide +kernel
theorem xk_44 : xt_44.all (xm_okB xq_44) = true := by decide +kernel
theorem xk_45 : xt_45.all (xm_okB xq_45) = true := by decide +kernel
theorem xk_46 : xt_46.all (xm_okB xq_46) = true := by decide +kernel
theorem xk_47 : xt_47.all (xm_okB xq_47) = true := by decide +kernel
theorem xk_48 : xt_48.all (xm_okB xq_48) = true := by decide +kernel
theorem xk_49 : xt_49.all (xm_okB xq_49) = true := by decide +kernel
theorem xk_50 : xt_50.all (xm_okB xq_50) = true := by decide +kernel
theorem xk_51 : xt_51.all (xm_okB xq_51) = true := by decide +kernel
theorem xk_52 : xt_52.all (xm_okB xq_52) = true := by decide +kernel
theorem xk_53 : xt_53.all (xm_okB xq_53) = true := by decide +kernel
theorem xk_54 : xt_54.all (xm_okB xq_54) = true := by decide +kernel
theorem xk_55 : xt_55.all (xm_okB xq_55) = true := by decide +kernel
theorem xk_56 : xt_56.all (xm_okB xq_56) = true := by decide +kernel
theorem xk_57 : xt_57.all (xm_okB xq_57) = true := by decide +kernel
theorem xk_58 : xt_58.all (xm_okB xq_58) = true := by decide +kernel
theorem xk_59 : xt_59.all (xm_okB xq_59) = true := by decide +kernel
theorem xk_60 : xt_60.all (xm_okB xq_60) = true := by decide +kernel
theorem xk_61 : xt_61.all (xm_okB xq_61) = true := by decide +kernel
theorem xk_62 : xt_62.all (xm_okB xq_62) = true := by decide +kernel
theorem xk_63 : xt_63.all (xm_okB xq_63) = true := by decide +kernel
theorem xk_64 : xt_64.all (xm_okB xq_64) = true := by decide +kernel
theorem xk_65 : xt_65.all (xm_okB xq_65) = true := by decide +kernel
theorem xk_66 : xt_66.all (xm_okB xq_66) = true := by decide +kernel
theorem xk_67 : xt_67.all (xm_okB xq_67) = true := by decide +kernel
theorem xk_68 : xt_68.all (xm_okB xq_68) = true := by decide +kernel
theorem xk_69 : xt_69.all (xm_okB xq_69) = true := by decide +kernel
theorem xk_70 : xt_70.all (xm_okB xq_70) = true := by decide +kernel
theorem xk_71 : xt_71.all (xm_okB xq_71) = true := by decide +kernel
theorem xk_72 : xt_72.all (xm_okB xq_72) = true := by decide +kernel
theorem xk_73 : xt_73.all (xm_okB xq_73) = true := by decide +kernel
theorem xk_74 : xt_74.all (xm_okB xq_74) = true := by decide +kernel
theorem xk_75 : xt_75.all (xm_okB xq_75) = true := by decide +kernel
theorem xk_76 : xt_76.all (xm_okB xq_76) = true := by decide +kernel
theorem xk_77 : xt_77.all (xm_okB xq_77) = true := by decide +kernel
theorem xk_78 : xt_78.all (xm_okB xq_78) = true := by decide +kernel
theorem xk_79 : xt_79.all (xm_okB xq_79) = true := by decide +kernel
theorem xk_80 : xt_80.all (xm_okB xq_80) = true := by decide +kernel
theorem xk_81 : xt_81.all (xm_okB xq_81) = true := by decide +kernel
theorem xk_82 : xt_82.all (xm_okB xq_82) = true := by decide +kernel
theorem xk_83 : xt_83.all (xm_okB xq_83) = true := by decide +kernel
theorem xk_84 : xt_84.all (xm_okB xq_84) = true := by decide +kernel
theorem xk_85 : xt_85.all (xm_okB xq_85) = true := by decide +kernel
theorem xk_86 : xt_86.all (xm_okB xq_86) = true := by decide +kernel
theorem xk_87 : xt_87.all (xm_okB xq_87) = true := by decide +kernel
theorem xk_88 : xt_88.all (xm_okB xq_88) = true := by decide +kernel
theorem xk_89 : xt_89.all (xm_okB xq_89) = true := by decide +kernel
theorem xk_90 : xt_90.all (xm_okB xq_90) = true := by decide +kernel
theorem xk_91 : xt_91.all (xm_okB xq_91) = true := by decide +kernel
theorem xk_92 : xt_92.all (xm_okB xq_92) = true := by decide +kernel
theorem xk_93 : xt_93.all (xm_okB xq_93) = true := by decide +kernel
theorem xk_94 : xt_94.all (xm_okB xq_94) = true := by decide +kernel
theorem xk_95 : xt_95.all (xm_okB xq_95) = true := by decide +kernel
theorem xk_96 : xt_96.all (xm_okB xq_96) = true := by decide +kernel
theorem xk_97 : xt_97.all (xm_okB xq_97) = true := by decide +kernel
theorem xk_98 : xt_98.all (xm_okB xq_98) = true := by decide +kernel
theorem xk_99 : xt_99.all (xm_okB xq_99) = true := by decide +kernel
theorem xk_100 : xt_100.all (xm_okB xq_100) = true := by decide +kernel
theorem xk_101 : xt_101.all (xm_okB xq_101) = true := by decide +kernel
theorem xk_102 : xt_102.all (xm_okB xq_102) = true := by decide +kernel
theorem xk_103 : xt_103.all (xm_okB xq_103) = true := by decide +kernel
theorem xk_104 : xt_104.all (xm_okB xq_104) = true := by decide +kernel
theorem xk_105 : xt_105.all (xm_okB xq_105) = true := by decide +kernel
theorem xk_106 : xt_106.all (xm_okB xq_106) = true := by decide +kernel
theorem xk_107 : xt_107.all (xm_okB xq_107) = true := by decide +kernel
theorem xk_108 : xt_108.all (xm_okB xq_108) = true := by decide +kernel
theorem xk_109 : xt_109.all (xm_okB xq_109) = true := by decide +kernel
theorem xk_110 : xt_110.all (xm_okB xq_110) = true := by decide +kernel
theorem xk_111 : xt_111.all (xm_okB xq_111) = true := by decide +kernel
theorem xk_112 : xt_112.all (xm_okB xq_112) = true := by decide +kernel
theorem xk_113 : xt_113.all (xm_okB xq_113) = true := by decide +kernel
theorem xk_114 : xt_114.all (xm_okB xq_114) = true := by decide +kernel
theorem xk_115 : xt_115.all (xm_okB xq_115) = true := by decide +kernel
theorem xk_116 : xt_116.all (xm_okB xq_116) = true := by decide +kernel
theorem xk_117 : xt_117.all (xm_okB xq_117) = true := by decide +kernel
theorem xk_118 : xt_118.all (xm_okB xq_118) = true := by decide +kernel
theorem xk_119 : xt_119.all (xm_okB xq_119) = true := by decide +kernel
theorem xk_120 : xt_120.all (xm_okB xq_120) = true := by decide +kernel
theorem xk_121 : xt_121.all (xm_okB xq_121) = true := by decide +kernel
theorem xk_122 : xt_122.all (xm_okB xq_122) = true := by decide +kernel
theorem xk_123 : xt_123.all (xm_okB xq_123) = true := by decide +kernel
theorem xk_124 : xt_124.all (xm_okB xq_124) = true := by decide +kernel
theorem xk_125 : xt_125.all (xm_okB xq_125) = true := by decide +kernel
theorem xk_126 : xt_126.all (xm_okB xq_126) = true := by decide +kernel
theorem xk_127 : xt_127.all (xm_okB xq_127) = true := by decide +kernel
theorem xk_128 : xt_128.all (xm_okB xq_128) = true := by decide +kernel
theorem xk_129 : xt_129.all (xm_okB xq_129) = true := by decide +kernel
theorem xk_130 : xt_130.all (xm_okB xq_130) = true := by decide +kernel
theorem xk_131 : xt_131.all (xm_okB xq_131) = true := by decide +kernel
theorem xk_132 : xt_132.all (xm_okB xq_132) = true := by decide +kernel
theorem xk_133 : xt_133.all (xm_okB xq_133) = true := by decide +kernel
theorem xk_134 : xt_134.all (xm_okB xq_134) = true := by decide +kernel
theorem xk_135 : xt_135.all (xm_okB xq_135) = true := by decide +kernel
theorem xk_136 : xt_136.all (xm_okB xq_136) = true := by decide +kernel
theorem xk_137 : xt_137.all (xm_okB xq_137) = true := by decide +kernel
theorem xk_138 : xt_138.all (xm_okB xq_138) = true := by decide +kernel
theorem xk_139 : xt_139.all (xm_okB xq_139) = true := by decide +kernel
theorem xk_140 : xt_140.all (xm_okB xq_140) = true := by decide +kernel
theorem xk_141 : xt_141.all (xm_okB xq_141) = true := by decide +kernel
theorem xk_142 : xt_142.all (xm_okB xq_142) = true := by decide +kernel
theorem xk_143 : xt_143.all (xm_okB xq_143) = true := by decide +kernel
theorem xk_144 : xt_144.all (xm_okB xq_144) = true := by decide +kernel
theorem xk_145 : xt_145.all (xm_okB xq_145) = true := by decide +kernel
theorem xk_146 : xt_146.all (xm_okB xq_146) = true := by decide +kernel
theorem xk_147 : xt_147.all (xm_okB xq_147) = true := by decide +kernel
theorem xk_148 : xt_148.all (xm_okB xq_148) = true := by decide +kernel
theorem xk_149 : xt_149.all (xm_okB xq_149) = true := by decide +kernel
theorem xk_150 : xt_150.all (xm_okB xq_150) = true := by decide +kernel
theorem xk_151 : xt_151.all (xm_okB xq_151) = true := by decide +kernel
theorem xk_152 : xt_152.all (xm_okB xq_152) = true := by decide +kernel
theorem xk_153 : xt_153.all (xm_okB xq_153) = true := by decide +kernel
theorem xk_154 : xt_154.all (xm_okB xq_154) = true := by decide +kernel
theorem xk_155 : xt_155.all (xm_okB xq_155) = true := by decide +kernel
theorem xk_156 : xt_156.all (xm_okB xq_156) = true := by decide +kernel
theorem xk_157 : xt_157.all (xm_okB xq_157) = true := by decide +kernel
theorem xk_158 : xt_158.all (xm_okB xq_158) = true := by decide +kernel
theorem xk_159 : xt_159.all (xm_okB xq_159) = true := by decide +kernel
theorem xk_160 : xt_160.all (xm_okB xq_160) = true := by decide +kernel
theorem xk_161 : xt_161.all (xm_okB xq_161) = true := by decide +kernel
theorem xk_162 : xt_162.all (xm_okB xq_162) = true := by decide +kernel
theorem xk_163 : xt_163.all (xm_okB xq_163) = true := by decide +kernel
theorem xk_164 : xt_164.all (xm_okB xq_164) = true := by decide +kernel
theorem xk_165 : xt_165.all (xm_okB xq_165) = true := by decide +kernel
theorem xk_166 : xt_166.all (xm_okB xq_166) = true := by decide +kernel
theorem xk_167 : xt_167.all (xm_okB xq_167) = true := by decide +kernel
theorem xk_168 : xt_168.all (xm_okB xq_168) = true := by decide +kernel
set_option maxRecDepth 100000 in
theorem xm_oks : xm_okP xm_tabs xm_ms := ⟨xk_0, xk_1, xk_2, xk_3, xk_4, xk_5, xk_6, xk_7, xk_8, xk_9, xk_10, xk_11, xk_12, xk_13, xk_14, xk_15, xk_16, xk_17, xk_18, xk_19, xk_20, xk_21, xk_22, xk_23, xk_24, xk_25, xk_26, xk_27, xk_28, xk_29, xk_30, xk_31, xk_32, xk_33, xk_34, xk_35, xk_36, xk_37, xk_38, xk_39, xk_40, xk_41, xk_42, xk_43, xk_44, xk_45, xk_46, xk_47, xk_48, xk_49, xk_50, xk_51, xk_52, xk_53, xk_54, xk_55, xk_56, xk_57, xk_58, xk_59, xk_60, xk_61, xk_62, xk_63, xk_64, xk_65, xk_66, xk_67, xk_68, xk_69, xk_70, xk_71, xk_72, xk_73, xk_74, xk_75, xk_76, xk_77, xk_78, xk_79, xk_80, xk_81, xk_82, xk_83, xk_84, xk_85, xk_86, xk_87, xk_88, xk_89, xk_90, xk_91, xk_92, xk_93, xk_94, xk_95, xk_96, xk_97, xk_98, xk_99, xk_100, xk_101, xk_102, xk_103, xk_104, xk_105, xk_106, xk_107, xk_108, xk_109, xk_110, xk_111, xk_112, xk_113, xk_114, xk_115, xk_116, xk_117, xk_118, xk_119, xk_120, xk_121, xk_122, xk_123, xk_124, xk_125, xk_126, xk_127, xk_128, xk_129, xk_130, xk_131, xk_132, xk_133, xk_134, xk_135, xk_136, xk_137, xk_138, xk_139, xk_140, xk_141, xk_142, xk_143, xk_144, xk_145, xk_146, xk_147, xk_148, xk_149, xk_150, xk_151, xk_152, xk_153, xk_154, xk_155, xk_156, xk_157, xk_158, xk_159, xk_160, xk_161, xk_162, xk_163, xk_164, xk_165, xk_166, xk_167, xk_168, trivial⟩
theorem xm_find_mem {t : List (Nat × xm_Q)} {pc : Nat} {q : xm_Q} (h : xm_find t pc = some q) : (pc, q) ∈ t := by
  induction t with
  | nil => cases h
  | cons e t ih =>
    unfold xm_find at h
    split at h
    · next he =>
      cases h
      subst he
      exact List.mem_cons_self
    · exact List.mem_cons_of_mem _ (ih h)
theorem xm_okP_get : ∀ (ts : List (List (Nat × xm_Q))) (ms : List xm_M) (k : Nat) (t : List (Nat × xm_Q)) (m : xm_M), xm_okP ts ms → ts[k]? = some t → ms[k]? = some m → t.all (xm_okB m) = true := by
  intro ts
  induction ts with
  | nil => intro ms k t m _ h; simp at h
  | cons a ts ih =>
    intro ms k t m hp ht hm
    cases ms with
    | nil => simp at hm
    | cons b ms =>
      cases k with
      | zero =>
        cases ht
        cases hm
        exact hp.1
      | succ k => exact ih ms k t m hp.2 ht hm
theorem xm_ok {k pc : Nat} {q : xm_Q} {M : xm_M} (hM : xm_ms[k]? = some M) (h : xm_ins k pc = some q) : decode M.2.2.1 pc = .ok (q.1, xm_len q.1 pc q.2.1) ∧ q.2.1 = pc + xm_len q.1 pc q.2.1 ∧ xm_okX M pc q = true := by
  unfold xm_ins at h
  split at h
  · next t ht =>
    have h1 := List.all_eq_true.mp (xm_okP_get _ _ k t M xm_oks ht hM) _ (xm_find_mem h)
    simp only [xm_okB, Bool.and_eq_true, decide_eq_true_eq] at h1
    exact ⟨h1.1, h1.2.1, h1.2.2⟩
  · cases h
theorem xm_cls_ws : ∀ (ci : Nat) (q : vw_C), vwCl[ci]? = some q → ∀ w ∈ u_ws q.1 q.2.1 q.2.2, w ∈ xm_ws := by
  have h : ∀ q ∈ vwCl, (u_ws q.1 q.2.1 q.2.2).all xm_mem = true := by decide +kernel
  intro ci q hq w hw
  exact xm_mem_ws (List.all_eq_true.mp (h q (List.mem_of_getElem? hq)) w hw)
theorem xm_cls_ty : ∀ (ci : Nat) (q : vw_C), vwCl[ci]? = some q → ∃ ty : Nat → FieldType, (∀ k, k < q.2.2 → parseFieldDescriptor (q.2.1 k).2.2.1 = some (ty k)) ∧ (∀ a, a < q.2.2 → ∀ b, b < q.2.2 → a ≠ b → (q.2.1 a).2.1 ≠ (q.2.1 b).2.1) ∧ (∀ j, j < q.2.2 → defaultValue (ty j) = vp_V (xm_new ci) j) ∧ (xm_new ci).length = q.2.2 := by
  intro ci q hq
  match ci, hq with
  | 0, hq => cases hq; exact ⟨tyX0, tyX0_ok, nmX0, by decide +kernel, rfl⟩
  | 1, hq => cases hq; exact ⟨tyX1, tyX1_ok, nmX1, by decide +kernel, rfl⟩
  | 2, hq => cases hq; exact ⟨tyX2, tyX2_ok, nmX2, by decide +kernel, rfl⟩
  | 3, hq => cases hq; exact ⟨tyX3, tyX3_ok, nmX3, by decide +kernel, rfl⟩
  | k + 4, hq => simp [vwCl] at hq
