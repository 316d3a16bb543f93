/-! the abstract machine: cells by their numbers, values with cells' numbers; one step; runs with fuel -/
abbrev xm_E : Type := (Nat × (Nat → Int32)) ⊕ ((Nat × (Nat → Option Nat)) ⊕ (Nat × List Value))
abbrev xm_H : Type := List xm_E
abbrev xm_F : Type := Nat × List Value × List Value × xm_H
abbrev xm_R : Type := Option Value × xm_H
abbrev xm_O : Type := xm_F ⊕ (xm_R ⊕ (Nat × List Value × Nat × List Value × List Value × xm_H))
def xm_i (v : Int) : Int32 := match v with
  | .ofNat n => nI n
  | .negSucc n => Int32.ofInt (.negSucc n)
def xm_find (t : List (Nat × xm_Q)) (pc : Nat) : Option xm_Q := match t with
  | [] => none
  | e :: t => if e.1 = pc then some e.2 else xm_find t pc
def xm_ins (k pc : Nat) : Option xm_Q := match xm_tabs[k]? with
  | some t => xm_find t pc
  | none => none
def xm_cb (c : ClassFile.Cond) (a b : Int32) : Bool := match c with
  | .eq => decide (a = b)
  | .ne => decide (¬ a = b)
  | .lt => decide (a < b)
  | .ge => decide (b ≤ a)
  | .gt => decide (b < a)
  | .le => decide (a ≤ b)
def xm_bin (i : Instr) (a b : Int32) : Option Int32 := match i with
  | .iadd => some (a + b)
  | .isub => some (a - b)
  | .imul => some (a * b)
  | .iand => some (a &&& b)
  | .ior => some (a ||| b)
  | .ixor => some (a ^^^ b)
  | .ishl => some (a <<< (b &&& 31))
  | .ishr => some (a >>> (b &&& 31))
  | .iushr => some (a.toUInt32 >>> (b.toUInt32 &&& Int32.toUInt32 31)).toInt32
  | .idiv => if b = 0 then none else some (a / b)
  | .irem => if b = 0 then none else some (a - a / b * b)
  | _ => none
def xm_tgt (pc : Nat) (off : Int) : Option Nat := if 0 ≤ (pc : Int) + off then some ((pc : Int) + off).toNat else none
/-- not a long -/
def xm_nl (v : Value) : Bool := match v with
  | .long _ => false
  | _ => true
def xm_l (v : Int) : Int64 := Int64.ofInt v
def xm_new (ci : Nat) : List Value := match ci with
  | 0 => [.null, .null, .int 0, .int 0, .int 0, .int 0]
  | 1 => [.null, .null, .null, .null, .null, .null, .int 0, .int 0, .int 0, .int 0, .int 0]
  | _ => [.null, .null, .int 0, .int 0]
abbrev xm_to (pc : Nat) (ls st : List Value) (hp : xm_H) : Option xm_O := some (.inl (pc, ls, st, hp))
/-- an instruction's one step, at pc, in a method that answers true or false (rb) -/
def xm_step (L : Nat) (xs : Nat → Int32) (rb : Bool) (pc : Nat) (q : xm_Q) (ls st : List Value) (hp : xm_H) : Option xm_O :=
  match q with
  | (i, nx, x, y, v) => match i with
    | .iconst _ => xm_to nx ls (.int (xm_i v) :: st) hp
    | .bipush _ => xm_to nx ls (.int (xm_i v) :: st) hp
    | .sipush _ => xm_to nx ls (.int (xm_i v) :: st) hp
    | .ldc _ => xm_to nx ls (.int (xm_i v) :: st) hp
    | .ldc_w _ => xm_to nx ls (.int (xm_i v) :: st) hp
    | .iload_n _ => match ls[x]? with
      | some (.int u) => xm_to nx ls (.int u :: st) hp
      | _ => none
    | .iload _ => match ls[x]? with
      | some (.int u) => xm_to nx ls (.int u :: st) hp
      | _ => none
    | .aload_n _ => match ls[x]? with
      | some (.ref u) => xm_to nx ls (.ref u :: st) hp
      | some (.float u) => xm_to nx ls (.float u :: st) hp
      | _ => none
    | .istore_n _ => match st with
      | .int u :: r => if x < ls.length then xm_to nx (ls.set x (.int u)) r hp else none
      | _ => none
    | .istore _ => match st with
      | .int u :: r => if x < ls.length then xm_to nx (ls.set x (.int u)) r hp else none
      | _ => none
    | .astore_n _ => match st with
      | .ref u :: r => if x < ls.length then xm_to nx (ls.set x (.ref u)) r hp else none
      | _ => none
    | .iinc _ _ => match ls[x]? with
      | some (.int u) => xm_to nx (ls.set x (.int (u + xm_i v))) st hp
      | _ => none
    | .ifCond c _ => match st with
      | .int a :: r => xm_to (if xm_cb c a 0 then x else nx) ls r hp
      | _ => none
    | .if_icmp c _ => match st with
      | .int b :: .int a :: r => xm_to (if xm_cb c a b then x else nx) ls r hp
      | _ => none
    | .goto _ => xm_to x ls st hp
    | .pop => match st with
      | a :: r => if xm_nl a = true then xm_to nx ls r hp else none
      | _ => none
    | .dup => match st with
      | a :: r => if xm_nl a = true then xm_to nx ls (a :: a :: r) hp else none
      | _ => none
    | .dup2 => match st with
      | a :: b :: r => if xm_nl a = true ∧ xm_nl b = true then xm_to nx ls (a :: b :: a :: b :: r) hp else none
      | _ => none
    | .ldc2_w _ => xm_to nx ls (.long (xm_l v) :: st) hp
    | .lload_n _ => match ls[x]? with
      | some (.long u) => xm_to nx ls (.long u :: st) hp
      | _ => none
    | .lload _ => match ls[x]? with
      | some (.long u) => xm_to nx ls (.long u :: st) hp
      | _ => none
    | .lstore_n _ => match st with
      | .long u :: r => if x + 1 < ls.length then xm_to nx ((ls.set x (.long u)).set (x + 1) .null) r hp else none
      | _ => none
    | .lstore _ => match st with
      | .long u :: r => if x + 1 < ls.length then xm_to nx ((ls.set x (.long u)).set (x + 1) .null) r hp else none
      | _ => none
    | .i2l => match st with
      | .int a :: r => xm_to nx ls (.long a.toInt64 :: r) hp
      | _ => none
    | .ladd => match st with
      | .long b :: .long a :: r => xm_to nx ls (.long (a + b) :: r) hp
      | _ => none
    | .lmul => match st with
      | .long b :: .long a :: r => xm_to nx ls (.long (a * b) :: r) hp
      | _ => none
    | .lcmp => match st with
      | .long b :: .long a :: r => xm_to nx ls (.int (lg_cmp a b) :: r) hp
      | _ => none
    | .lreturn => match st with
      | [.long u] => some (.inr (.inl (some (.long u), hp)))
      | _ => none
    | .getfield _ => match st with
      | .ref a :: r => match hp[a]? with
        | some (.inr (.inr (ci, fs))) => if ci = x then (match fs[y]? with
          | some u => xm_to nx ls (u :: r) hp
          | none => none) else none
        | _ => none
      | _ => none
    | .putfield _ => match st with
      | .int u :: .ref a :: r => match hp[a]? with
        | some (.inr (.inr (ci, fs))) => if ci = x ∧ y < fs.length ∧ v = 0 then xm_to nx ls r (hp.set a (.inr (.inr (ci, fs.set y (.int u))))) else none
        | _ => none
      | .ref u :: .ref a :: r => match hp[a]? with
        | some (.inr (.inr (ci, fs))) => if ci = x ∧ y < fs.length ∧ v = 1 then xm_to nx ls r (hp.set a (.inr (.inr (ci, fs.set y (.ref u))))) else none
        | _ => none
      | _ => none
    | .iaload => match st with
      | .int j :: .ref a :: r => match hp[a]? with
        | some (.inl (n, f)) => if j < 0 ∨ n ≤ j.toNatClampNeg then none else xm_to nx ls (.int (f j.toNatClampNeg) :: r) hp
        | _ => none
      | .int j :: .float _ :: r => if j < 0 ∨ L ≤ j.toNatClampNeg then none else xm_to nx ls (.int (xs j.toNatClampNeg) :: r) hp
      | _ => none
    | .iastore => match st with
      | .int u :: .int j :: .ref a :: r => match hp[a]? with
        | some (.inl (n, f)) => if j < 0 ∨ n ≤ j.toNatClampNeg then none else xm_to nx ls r (hp.set a (.inl (n, upd f j.toNatClampNeg u)))
        | _ => none
      | _ => none
    | .aaload => match st with
      | .int j :: .ref a :: r => match hp[a]? with
        | some (.inr (.inl (n, f))) => if j < 0 ∨ n ≤ j.toNatClampNeg then none else (match f j.toNatClampNeg with
          | some t => xm_to nx ls (.ref t :: r) hp
          | none => none)
        | _ => none
      | _ => none
    | .aastore => match st with
      | .ref t :: .int j :: .ref a :: r => match hp[a]? with
        | some (.inr (.inl (n, f))) => if j < 0 ∨ n ≤ j.toNatClampNeg then none else (match hp[t]? with
          | some (.inr (.inr (ci, _))) => if ci = 1 then xm_to nx ls r (hp.set a (.inr (.inl (n, va_up f j.toNatClampNeg (some t))))) else none
          | _ => none)
        | _ => none
      | _ => none
    | .arraylength => match st with
      | .ref a :: r => match hp[a]? with
        | some (.inl (n, _)) => xm_to nx ls (.int (nI n) :: r) hp
        | _ => none
      | .float _ :: r => xm_to nx ls (.int (nI L) :: r) hp
      | _ => none
    | .newarray _ => match st with
      | .int n :: r => if n < 0 ∨ 536870912 < 4 * n.toNatClampNeg then none else xm_to nx ls (.ref hp.length :: r) (hp ++ [.inl (n.toNatClampNeg, fun _ => 0)])
      | _ => none
    | .anewarray _ => match st with
      | .int n :: r => if n < 0 ∨ 536870912 < 4 * n.toNatClampNeg then none else xm_to nx ls (.ref hp.length :: r) (hp ++ [.inr (.inl (n.toNatClampNeg, fun _ => none))])
      | _ => none
    | .new _ => xm_to nx ls (.ref hp.length :: st) (hp ++ [.inr (.inr (x, xm_new x))])
    | .tableswitch d lo hi offs => match st with
      | .int u :: r => if u.toInt < lo ∨ hi < u.toInt then (match xm_tgt pc d with
          | some t => xm_to t ls r hp
          | none => none) else (match offs[(u.toInt - lo).toNat]? with
          | some o => (match xm_tgt pc o with
            | some t => xm_to t ls r hp
            | none => none)
          | none => none)
      | _ => none
    | .lookupswitch d ps => match st with
      | .int u :: r => match xm_tgt pc (Op.lookupswitch.offset ps.toList d u.toInt) with
        | some t => xm_to t ls r hp
        | none => none
      | _ => none
    | .ireturn => match st with
      | [.int u] => if rb = true ∧ ¬ (u = 0 ∨ u = 1) then none else some (.inr (.inl (some (.int u), hp)))
      | _ => none
    | .areturn => match st with
      | [.ref u] => some (.inr (.inl (some (.ref u), hp)))
      | _ => none
    | .return_ => match st with
      | [] => some (.inr (.inl (none, hp)))
      | _ => none
    | .invokevirtual _ => match (st.take y).reverse with
      | .ref a :: as => match hp[a]? with
        | some (.inr (.inr (ci, _))) => if (ci : Int) = v ∧ y ≤ st.length ∧ (st.drop y).length ≤ 4 ∧ (st.take y).all xm_nl = true then some (.inr (.inr (x, .ref a :: as, nx, ls, st.drop y, hp))) else none
        | _ => none
      | _ => none
    | .invokestatic _ => if x = 1001 then (match st with
        | .int n :: .int dp :: .ref d :: .int sp :: .ref s :: r => match hp[s]?, hp[d]? with
          | some (.inl (n0, f)), some (.inl (n1, g)) => if sp < 0 ∨ dp < 0 ∨ n < 0 ∨ n0 < sp.toNatClampNeg + n.toNatClampNeg ∨ n1 < dp.toNatClampNeg + n.toNatClampNeg ∨ 4 < r.length then none else xm_to nx ls r (hp.set d (.inl (n1, va_cpy f g sp.toNatClampNeg dp.toNatClampNeg n.toNatClampNeg)))
          | _, _ => none
        | _ => none)
      else if x = 1002 then (match st with
        | .int b :: .int a :: r => if 4 < r.length then none else xm_to nx ls (.int (if b < a then b else a) :: r) hp
        | _ => none)
      else if y ≤ st.length ∧ (st.drop y).length ≤ 4 ∧ (st.take y).all xm_nl = true then some (.inr (.inr (x, (st.take y).reverse, nx, ls, st.drop y, hp))) else none
    | .invokespecial _ => if x = 1000 then (match st with
        | .ref _ :: r => if 4 < r.length then none else xm_to nx ls r hp
        | _ => none)
      else (match (st.take y).reverse with
        | .ref a :: as => if y ≤ st.length ∧ (st.drop y).length ≤ 4 ∧ (st.take y).all xm_nl = true then some (.inr (.inr (x, .ref a :: as, nx, ls, st.drop y, hp))) else none
        | _ => none)
    | i => match st with
      | .int b :: .int a :: r => match xm_bin i a b with
        | some z => xm_to nx ls (.int z :: r) hp
        | none => none
      | _ => none
def xm_rb (k : Nat) : Bool := match xm_ms[k]? with
  | some (_, _, _, _, some .boolean, _) => k != 92
  | _ => false
def xm_ml (k : Nat) : Nat := match xm_ms[k]? with
  | some q => q.2.2.2.1
  | none => 0
def xm_pad (k : Nat) (as : List Value) : List Value := as ++ List.replicate (xm_ml k - as.length) .null
def xm_ex (L : Nat) (xs : Nat → Int32) : Nat → Nat → Nat → List Value → List Value → xm_H → Option xm_R
  | 0, _, _, _, _, _ => none
  | n + 1, k, pc, ls, st, hp => match xm_ins k pc with
    | none => none
    | some q => match xm_step L xs (xm_rb k) pc q ls st hp with
      | none => none
      | some (.inl (pc', ls', st', hp')) => xm_ex L xs n k pc' ls' st' hp'
      | some (.inr (.inl r)) => some r
      | some (.inr (.inr (j, as, nx, ls', rest, hp1))) => match xm_ex L xs n j 0 (xm_pad j as) [] hp1 with
        | none => none
        | some (none, hp') => xm_ex L xs n k nx ls' rest hp'
        | some (some u, hp') => xm_ex L xs n k nx ls' (u :: rest) hp'
