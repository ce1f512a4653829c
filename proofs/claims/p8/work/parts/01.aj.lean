/-! THE ABSTRACT MACHINE (aj_): the bytecode run over a plain list of cells; what it does, the machine does (part 02). A reference r below the number of static arrays names that static array; else r less that number is a place of the list. -/
abbrev aj_L : Type := Nat × Nat × Nat × Nat × Int
abbrev aj_M : Type := MethodName × ByteArray × Nat × Option FieldType × Nat × List aj_L × String
abbrev aj_E : Type := (Nat × vp_A) ⊕ (Nat × List Value)
abbrev aj_H : Type := List aj_E
abbrev aj_T : Type := List (Nat × vp_A)
abbrev aj_V : Type := List (Nat × Value)
abbrev aj_Fr : Type := Nat × aj_V × List Value
/-- next (a frame, a heap, what it made), or a call (how, which, arguments, the frame behind it), or an end -/
abbrev aj_Out : Type := (aj_Fr × aj_H × Nat × Nat) ⊕ ((Nat × Nat × List Value × aj_Fr) ⊕ Option Value)
def aj_lv (lv : aj_V) (i : Nat) : Option Value := (lv.find? (fun q => q.1 == i)).map (fun q => q.2)
def aj_set1 (lv : aj_V) (i : Nat) (v : Value) : aj_V := (i, v) :: lv.filter (fun q => !(q.1 == i) && !(q.1 + 1 == i && q.2.category == 2))
def aj_set2 (lv : aj_V) (i : Nat) (v : Value) : aj_V := (i, v) :: lv.filter (fun q => !(q.1 == i) && (!(q.1 == i + 1) && !(q.1 + 1 == i && q.2.category == 2)))
def aj_go (pc : Nat) (lv : aj_V) (st : List Value) (h : aj_H) : Option aj_Out := some (.inl ((pc, lv, st), h, 0, 0))
def aj_jump (pc : Nat) (off : Int) (lv : aj_V) (st : List Value) (h : aj_H) : Option aj_Out := if 0 ≤ (pc : Int) + off then aj_go ((pc : Int) + off).toNat lv st h else none
def aj_link (lk : List aj_L) (i : Nat) : Option (Nat × Nat × Nat × Int) := (lk.find? (fun q => q.1 == i)).map (fun q => q.2)
def aj_load (pc : Nat) (lv : aj_V) (st : List Value) (h : aj_H) (len i kind : Nat) : Option aj_Out := match aj_lv lv i with
  | some (.int x) => if kind = 0 then aj_go (pc + len) lv (.int x :: st) h else none
  | some (.long x) => if kind = 1 then aj_go (pc + len) lv (.long x :: st) h else none
  | some (.ref x) => if kind = 2 then aj_go (pc + len) lv (.ref x :: st) h else none
  | some .null => if kind = 2 then aj_go (pc + len) lv (.null :: st) h else none
  | _ => none
def aj_store (nL pc : Nat) (lv : aj_V) (st : List Value) (h : aj_H) (len i kind : Nat) : Option aj_Out := match st with
  | .int x :: r => if kind = 0 ∧ i < nL then aj_go (pc + len) (aj_set1 lv i (.int x)) r h else none
  | .long x :: r => if kind = 1 ∧ i + 1 < nL then aj_go (pc + len) (aj_set2 lv i (.long x)) r h else none
  | .ref x :: r => if kind = 2 ∧ i < nL then aj_go (pc + len) (aj_set1 lv i (.ref x)) r h else none
  | .null :: r => if kind = 2 ∧ i < nL then aj_go (pc + len) (aj_set1 lv i .null) r h else none
  | _ => none
def aj_ii (f : Int32 → Int32 → Int32) (pc : Nat) (lv : aj_V) (st : List Value) (h : aj_H) : Option aj_Out := match st with
  | .int y :: .int x :: r => aj_go (pc + 1) lv (.int (f x y) :: r) h
  | _ => none
def aj_iz (f : Int32 → Int32 → Int32) (pc : Nat) (lv : aj_V) (st : List Value) (h : aj_H) : Option aj_Out := match st with
  | .int y :: .int x :: r => if y = 0 then none else aj_go (pc + 1) lv (.int (f x y) :: r) h
  | _ => none
def aj_ll (f : Int64 → Int64 → Int64) (pc : Nat) (lv : aj_V) (st : List Value) (h : aj_H) : Option aj_Out := match st with
  | .long y :: .long x :: r => aj_go (pc + 1) lv (.long (f x y) :: r) h
  | _ => none
def aj_test (c : ClassFile.Cond) (x y : Int32) : Bool := match c with
  | .eq => decide (x = y)
  | .ne => !decide (x = y)
  | .lt => decide (x < y)
  | .ge => decide (y ≤ x)
  | .gt => decide (y < x)
  | .le => decide (x ≤ y)
def aj_br (c : ClassFile.Cond) (x y : Int32) (pc : Nat) (off : Int) (lv : aj_V) (st : List Value) (h : aj_H) : Option aj_Out := if 0 ≤ (pc : Int) + off then (if aj_test c x y = true then aj_go ((pc : Int) + off).toNat lv st h else aj_go (pc + 3) lv st h) else none
/-- a class: its name, its fields, how many, their types -/
abbrev aj_C : Type := String × u_T × Nat × (Nat → FieldType)
def aj_in (i : Int32) (n : Nat) : Bool := !decide (i < 0) && decide (i.toNatClampNeg < n)
/-- the kinds of arrays by number: int, long, boolean, char, byte, references -/
def aj_ty (rn : String) : Nat → FieldType
  | 0 => .int
  | 1 => .long
  | 2 => .boolean
  | 3 => .char
  | 4 => .byte
  | _ => .object rn
def aj_arr (tb : aj_T) (h : aj_H) (r : Nat) : Option (Nat × vp_A) := if r < tb.length then tb[r]? else match h[r - tb.length]? with
  | some (.inl a) => some a
  | _ => none
def aj_obj (tb : aj_T) (h : aj_H) (r : Nat) : Option (Nat × List Value) := if r < tb.length then none else match h[r - tb.length]? with
  | some (.inr a) => some a
  | _ => none
/-- int, boolean, char, byte arrays -/
def aj_ald (k : Nat) (tb : aj_T) (pc : Nat) (lv : aj_V) (st : List Value) (h : aj_H) : Option aj_Out := match st with
  | .int i :: .ref r :: rest => match aj_arr tb h r with
    | some (k', n, .inl f) => if k' = k ∧ aj_in i n = true then aj_go (pc + 1) lv (.int (f i.toNatClampNeg) :: rest) h else none
    | _ => none
  | _ => none
def aj_bld (tb : aj_T) (pc : Nat) (lv : aj_V) (st : List Value) (h : aj_H) : Option aj_Out := match st with
  | .int _ :: .ref r :: _ => match aj_arr tb h r with
    | some (2, _) => aj_ald 2 tb pc lv st h
    | _ => aj_ald 4 tb pc lv st h
  | _ => none
def aj_lld (tb : aj_T) (pc : Nat) (lv : aj_V) (st : List Value) (h : aj_H) : Option aj_Out := match st with
  | .int i :: .ref r :: rest => match aj_arr tb h r with
    | some (1, n, .inr (.inl f)) => if aj_in i n = true then aj_go (pc + 1) lv (.long (f i.toNatClampNeg) :: rest) h else none
    | _ => none
  | _ => none
def aj_qld (tb : aj_T) (pc : Nat) (lv : aj_V) (st : List Value) (h : aj_H) : Option aj_Out := match st with
  | .int i :: .ref r :: rest => if r < tb.length then none else match h[r - tb.length]? with
    | some (.inl (5, n, .inr (.inr (.inr (.inr f))))) => if aj_in i n = true then aj_go (pc + 1) lv (va_rf (f i.toNatClampNeg) :: rest) h else none
    | _ => none
  | _ => none
def aj_alen (tb : aj_T) (pc : Nat) (lv : aj_V) (st : List Value) (h : aj_H) : Option aj_Out := match st with
  | .ref r :: rest => match aj_arr tb h r with
    | some (k, n, _) => if k < 6 then aj_go (pc + 1) lv (.int (Int32.ofNat n) :: rest) h else none
    | _ => none
  | _ => none
def aj_nar (k : Nat) (x : Int32) : Int32 := match k with
  | 0 => x
  | 2 => vp_nar .boolean x
  | 3 => vp_nar .char x
  | _ => vp_nar .byte x
def aj_ast (k : Nat) (tb : aj_T) (pc : Nat) (lv : aj_V) (st : List Value) (h : aj_H) : Option aj_Out := match st with
  | .int x :: .int i :: .ref r :: rest => if r < tb.length then none else match h[r - tb.length]? with
    | some (.inl (k', n, .inl f)) => if k' = k ∧ aj_in i n = true then aj_go (pc + 1) lv rest (h.set (r - tb.length) (.inl (k, n, .inl (upd f i.toNatClampNeg (aj_nar k x))))) else none
    | _ => none
  | _ => none
def aj_bst (tb : aj_T) (pc : Nat) (lv : aj_V) (st : List Value) (h : aj_H) : Option aj_Out := match st with
  | .int _ :: .int _ :: .ref r :: _ => match h[r - tb.length]? with
    | some (.inl (2, _)) => aj_ast 2 tb pc lv st h
    | _ => aj_ast 4 tb pc lv st h
  | _ => none
def aj_lst (tb : aj_T) (pc : Nat) (lv : aj_V) (st : List Value) (h : aj_H) : Option aj_Out := match st with
  | .long x :: .int i :: .ref r :: rest => if r < tb.length then none else match h[r - tb.length]? with
    | some (.inl (1, n, .inr (.inl f))) => if aj_in i n = true then aj_go (pc + 1) lv rest (h.set (r - tb.length) (.inl (1, n, .inr (.inl (vp_updL f i.toNatClampNeg x))))) else none
    | _ => none
  | _ => none
/-- a store of a reference: null, or an object of class rc -/
def aj_qst (rc : Nat) (tb : aj_T) (pc : Nat) (lv : aj_V) (st : List Value) (h : aj_H) : Option aj_Out := match st with
  | .ref v :: .int i :: .ref r :: rest => if r < tb.length then none else match h[r - tb.length]? with
    | some (.inl (5, n, .inr (.inr (.inr (.inr f))))) => match aj_obj tb h v with
      | some (ci, _) => if ci = rc ∧ aj_in i n = true then aj_go (pc + 1) lv rest (h.set (r - tb.length) (.inl (5, n, .inr (.inr (.inr (.inr (va_up f i.toNatClampNeg (some v)))))))) else none
      | _ => none
    | _ => none
  | .null :: .int i :: .ref r :: rest => if r < tb.length then none else match h[r - tb.length]? with
    | some (.inl (5, n, .inr (.inr (.inr (.inr f))))) => if aj_in i n = true then aj_go (pc + 1) lv rest (h.set (r - tb.length) (.inl (5, n, .inr (.inr (.inr (.inr (va_up f i.toNatClampNeg none))))))) else none
    | _ => none
  | _ => none
/-- a value that a variable of this type may hold -/
def aj_fit : FieldType → Value → Bool
  | .int, .int _ => true
  | .long, .long _ => true
  | .boolean, .int v => decide (v = 0) || decide (v = 1)
  | .byte, .int v => decide (v.toInt8.toInt32 = v) && (decide (-128 ≤ v) && decide (v ≤ 127))
  | .object _, .null => true
  | .object _, .ref _ => true
  | .array _, .null => true
  | .array _, .ref _ => true
  | _, _ => false
def aj_getf (tb : aj_T) (lk : List aj_L) (pc idx : Nat) (lv : aj_V) (st : List Value) (h : aj_H) : Option aj_Out := match st with
  | .ref r :: rest => match aj_link lk idx, aj_obj tb h r with
    | some (kind, ci, k, _), some (ci', fs) => match fs[k]? with
      | some v => if kind < 2 ∧ ci' = ci then aj_go (pc + 3) lv (v :: rest) h else none
      | none => none
    | _, _ => none
  | _ => none
def aj_putf (cls : List aj_C) (tb : aj_T) (lk : List aj_L) (isI : Bool) (pc idx : Nat) (lv : aj_V) (st : List Value) (h : aj_H) : Option aj_Out := match st with
  | v :: .ref r :: rest => match aj_link lk idx, aj_obj tb h r with
    | some (kind, ci, k, fin), some (ci', fs) => match cls[ci]? with
      | some (_, _, _, ty) => if kind < 2 ∧ ci' = ci ∧ k < fs.length ∧ aj_fit (ty k) v = true ∧ (fin = 0 ∨ (fin = 1 ∧ kind = 0 ∧ isI = true)) then aj_go (pc + 3) lv rest (h.set (r - tb.length) (.inr (ci, fs.set k v))) else none
      | none => none
    | _, _ => none
  | _ => none
def aj_gets (tb : aj_T) (lk : List aj_L) (pc idx : Nat) (lv : aj_V) (st : List Value) (h : aj_H) : Option aj_Out := match aj_link lk idx with
  | some (9, sid, _, _) => if sid < tb.length then aj_go (pc + 3) lv (.ref sid :: st) h else none
  | _ => none
def aj_new (cls : List aj_C) (tb : aj_T) (lk : List aj_L) (pc idx : Nat) (lv : aj_V) (st : List Value) (h : aj_H) : Option aj_Out := match aj_link lk idx with
  | some (12, ci, _, _) => match cls[ci]? with
    | some (_, _, N, ty) => some (.inl ((pc + 3, lv, .ref (tb.length + h.length) :: st), h ++ [.inr (ci, (List.range N).map (fun j => defaultValue (ty j)))], 1, N))
    | none => none
  | _ => none
def aj_blank (k n : Nat) : vp_A := if k = 1 then (n, .inr (.inl (fun _ => 0))) else if k = 5 then (n, .inr (.inr (.inr (.inr (fun _ => none))))) else (n, .inl (fun _ => 0))
def aj_at (a : ArrayType) : Nat := match a with
  | .int => 0
  | .long => 1
  | .boolean => 2
  | .char => 3
  | .byte => 4
  | _ => 6
def aj_newa (tb : aj_T) (k len pc : Nat) (lv : aj_V) (st : List Value) (h : aj_H) : Option aj_Out := match st with
  | .int n :: rest => if k < 6 ∧ ¬ n < 0 ∧ n.toNatClampNeg ≤ 60000000 then some (.inl ((pc + len, lv, .ref (tb.length + h.length) :: rest), h ++ [.inl (k, aj_blank k n.toNatClampNeg)], 1, n.toNatClampNeg)) else none
  | _ => none
def aj_anew (rc : Nat) (tb : aj_T) (lk : List aj_L) (pc idx : Nat) (lv : aj_V) (st : List Value) (h : aj_H) : Option aj_Out := match aj_link lk idx with
  | some (12, ci, _) => if ci = rc then aj_newa tb 5 3 pc lv st h else none
  | _ => none
def aj_ldc (lk : List aj_L) (len pc idx : Nat) (lv : aj_V) (st : List Value) (h : aj_H) : Option aj_Out := match aj_link lk idx with
  | some (10, _, _, v) => aj_go (pc + len) lv (.int (Int32.ofInt v) :: st) h
  | some (11, _, _, v) => if len = 3 then aj_go (pc + len) lv (.long (Int64.ofInt v) :: st) h else none
  | _ => none
def aj_sum (st : List Value) : Nat := (st.map fun v => v.category).sum
def aj_rcv (tb : aj_T) (h : aj_H) (b : Nat) (v : Int) : Bool := match aj_obj tb h b with
  | some (ci, _) => ci == v.toNat
  | none => false
/-- a call: its kind, the method, the arguments -/
def aj_call (lo hi : Nat) (tb : aj_T) (lk : List aj_L) (pc idx : Nat) (lv : aj_V) (st : List Value) (h : aj_H) : Option aj_Out := match aj_link lk idx with
  | some (kind, mi, n, v) => if lo ≤ kind ∧ kind ≤ hi then
      (if kind = 6 then (if n ≤ st.length ∧ aj_sum (st.drop n) ≤ 8 then some (.inr (.inl (kind, mi, (st.take n).reverse, (pc + 3, lv, st.drop n)))) else none)
       else match st.drop n with
        | .ref b :: rest => if (kind = 2 → aj_rcv tb h b v = true) ∧ aj_sum rest ≤ 8 then some (.inr (.inl (kind, mi, .ref b :: (st.take n).reverse, (pc + 3, lv, rest)))) else none
        | _ => none) else none
  | none => none
def aj_ret (ret : Option FieldType) (st : List Value) (k : Nat) : Option aj_Out := match st, ret with
  | [], none => if k = 3 then some (.inr (.inr none)) else none
  | [.int v], some .int => if k = 0 then some (.inr (.inr (some (.int v)))) else none
  | [.int v], some .boolean => if k = 0 ∧ aj_fit .boolean (.int v) = true then some (.inr (.inr (some (.int v)))) else none
  | [.long v], some .long => if k = 1 then some (.inr (.inr (some (.long v)))) else none
  | [.ref v], some (.object _) => if k = 2 then some (.inr (.inr (some (.ref v)))) else none
  | [.null], some (.object _) => if k = 2 then some (.inr (.inr (some .null))) else none
  | [.ref v], some (.array _) => if k = 2 then some (.inr (.inr (some (.ref v)))) else none
  | [.null], some (.array _) => if k = 2 then some (.inr (.inr (some .null))) else none
  | _, _ => none
/-- what of the JDK is done at one step: Math.min, Math.max, System.arraycopy of arrays of int -/
def aj_isNat (lk : List aj_L) (idx : Nat) : Bool := match aj_link lk idx with
  | some (kind, _, _, _) => decide (kind = 7 ∨ kind = 8 ∨ kind = 13)
  | none => false
def aj_nmm (f : Int32 → Int32 → Int32) (pc : Nat) (lv : aj_V) (st : List Value) (h : aj_H) : Option aj_Out := match st with
  | .int y :: .int x :: rest => if aj_sum rest ≤ 8 then aj_go (pc + 3) lv (.int (f x y) :: rest) h else none
  | _ => none
def aj_ncpy (tb : aj_T) (pc : Nat) (lv : aj_V) (st : List Value) (h : aj_H) : Option aj_Out := match st with
  | .int n :: .int dp :: .ref a :: .int sp :: .ref b :: rest => if a < tb.length ∨ b < tb.length then none else (match h[b - tb.length]?, h[a - tb.length]? with
    | some (.inl (k0, n0, .inl f)), some (.inl (k1, n1, .inl g)) => if (k0 = 0 ∧ k1 = 0) ∧ (¬ sp < 0 ∧ ¬ dp < 0 ∧ ¬ n < 0) ∧ sp.toNatClampNeg + n.toNatClampNeg ≤ n0 ∧ dp.toNatClampNeg + n.toNatClampNeg ≤ n1 ∧ aj_sum rest ≤ 8 then aj_go (pc + 3) lv rest (h.set (a - tb.length) (.inl (0, n1, .inl (va_cpy f g sp.toNatClampNeg dp.toNatClampNeg n.toNatClampNeg)))) else none
    | _, _ => none)
  | _ => none
def aj_nat (tb : aj_T) (lk : List aj_L) (pc idx : Nat) (lv : aj_V) (st : List Value) (h : aj_H) : Option aj_Out := match aj_link lk idx with
  | some (kind, _, _, _) => if kind = 7 then aj_nmm (fun x y => if y < x then y else x) pc lv st h else if kind = 8 then aj_nmm (fun x y => if x < y then y else x) pc lv st h else if kind = 13 then aj_ncpy tb pc lv st h else none
  | none => none
/-- one instruction -/
def aj_step (rc : Nat) (cls : List aj_C) (tb : aj_T) (lk : List aj_L) (nL : Nat) (ret : Option FieldType) (isI : Bool) (i : Instr) (len pc : Nat) (lv : aj_V) (st : List Value) (h : aj_H) : Option aj_Out := match i with
  | .iconst n => if len = 1 then aj_go (pc + 1) lv (.int (Int32.ofInt n) :: st) h else none
  | .bipush n => if len = 2 then aj_go (pc + 2) lv (.int (Int8.ofInt n).toInt32 :: st) h else none
  | .sipush n => if len = 3 then aj_go (pc + 3) lv (.int (Int16.ofInt n).toInt32 :: st) h else none
  | .lconst n => if len = 1 then aj_go (pc + 1) lv (.long (Int64.ofNat (n : Nat)) :: st) h else none
  | .aconst_null => if len = 1 then aj_go (pc + 1) lv (.null :: st) h else none
  | .iload_n k => if len = 1 then aj_load pc lv st h 1 k 0 else none
  | .iload k => if len = 2 then aj_load pc lv st h 2 k 0 else none
  | .lload_n k => if len = 1 then aj_load pc lv st h 1 k 1 else none
  | .lload k => if len = 2 then aj_load pc lv st h 2 k 1 else none
  | .aload_n k => if len = 1 then aj_load pc lv st h 1 k 2 else none
  | .aload k => if len = 2 then aj_load pc lv st h 2 k 2 else none
  | .istore_n k => if len = 1 then aj_store nL pc lv st h 1 k 0 else none
  | .istore k => if len = 2 then aj_store nL pc lv st h 2 k 0 else none
  | .lstore_n k => if len = 1 then aj_store nL pc lv st h 1 k 1 else none
  | .lstore k => if len = 2 then aj_store nL pc lv st h 2 k 1 else none
  | .astore_n k => if len = 1 then aj_store nL pc lv st h 1 k 2 else none
  | .astore k => if len = 2 then aj_store nL pc lv st h 2 k 2 else none
  | .iinc k n => match aj_lv lv k with
    | some (.int x) => if len = 3 ∧ k < nL then aj_go (pc + 3) (aj_set1 lv k (.int (x + Int32.ofInt n))) st h else none
    | _ => none
  | .iadd => if len = 1 then aj_ii (fun x y => x + y) pc lv st h else none
  | .isub => if len = 1 then aj_ii (fun x y => x - y) pc lv st h else none
  | .imul => if len = 1 then aj_ii (fun x y => x * y) pc lv st h else none
  | .iand => if len = 1 then aj_ii (fun x y => x &&& y) pc lv st h else none
  | .ior => if len = 1 then aj_ii (fun x y => x ||| y) pc lv st h else none
  | .ixor => if len = 1 then aj_ii (fun x y => x ^^^ y) pc lv st h else none
  | .ishl => if len = 1 then aj_ii (fun x y => x <<< (y &&& 31)) pc lv st h else none
  | .ishr => if len = 1 then aj_ii (fun x y => x >>> (y &&& 31)) pc lv st h else none
  | .iushr => if len = 1 then aj_ii (fun x y => (x.toUInt32 >>> (y.toUInt32 &&& Int32.toUInt32 31)).toInt32) pc lv st h else none
  | .idiv => if len = 1 then aj_iz (fun x y => x / y) pc lv st h else none
  | .irem => if len = 1 then aj_iz (fun x y => x - x / y * y) pc lv st h else none
  | .ladd => if len = 1 then aj_ll (fun x y => x + y) pc lv st h else none
  | .lmul => if len = 1 then aj_ll (fun x y => x * y) pc lv st h else none
  | .lor => if len = 1 then aj_ll (fun x y => x ||| y) pc lv st h else none
  | .lshl => match st with
    | .int y :: .long x :: r => if len = 1 then aj_go (pc + 1) lv (.long (x <<< (y.toInt64 &&& 63)) :: r) h else none
    | _ => none
  | .lneg => match st with
    | .long x :: r => if len = 1 then aj_go (pc + 1) lv (.long (-x) :: r) h else none
    | _ => none
  | .lcmp => match st with
    | .long y :: .long x :: r => if len = 1 then aj_go (pc + 1) lv (.int (lg_cmp x y) :: r) h else none
    | _ => none
  | .i2l => match st with
    | .int x :: r => if len = 1 then aj_go (pc + 1) lv (.long x.toInt64 :: r) h else none
    | _ => none
  | .l2i => match st with
    | .long x :: r => if len = 1 then aj_go (pc + 1) lv (.int x.toInt32 :: r) h else none
    | _ => none
  | .i2b => match st with
    | .int x :: r => if len = 1 then aj_go (pc + 1) lv (.int x.toInt8.toInt32 :: r) h else none
    | _ => none
  | .i2c => match st with
    | .int x :: r => if len = 1 then aj_go (pc + 1) lv (.int (x.toUInt32 % 65536).toInt32 :: r) h else none
    | _ => none
  | .dup => match st with
    | v :: r => if len = 1 ∧ v.category = 1 then aj_go (pc + 1) lv (v :: v :: r) h else none
    | _ => none
  | .pop => match st with
    | v :: r => if len = 1 ∧ v.category = 1 then aj_go (pc + 1) lv r h else none
    | _ => none
  | .dup2 => match st with
    | v :: w :: r => if len = 1 ∧ v.category = 1 ∧ w.category = 1 then aj_go (pc + 1) lv (v :: w :: v :: w :: r) h else none
    | _ => none
  | .ifCond c off => match st with
    | .int x :: r => if len = 3 then aj_br c x 0 pc off lv r h else none
    | _ => none
  | .if_icmp c off => match st with
    | .int y :: .int x :: r => if len = 3 then aj_br c x y pc off lv r h else none
    | _ => none
  | .goto off => if len = 3 then aj_jump pc off lv st h else none
  | .ifnull off => match st with
    | .null :: r => if len = 3 then aj_jump pc off lv r h else none
    | .ref _ :: r => if len = 3 then aj_go (pc + 3) lv r h else none
    | _ => none
  | .ifnonnull off => match st with
    | .null :: r => if len = 3 then aj_go (pc + 3) lv r h else none
    | .ref _ :: r => if len = 3 then aj_jump pc off lv r h else none
    | _ => none
  | .tableswitch dflt lo hi offs => match st with
    | .int x :: r => if x.toInt < lo ∨ hi < x.toInt then aj_jump pc dflt lv r h else match offs[(x.toInt - lo).toNat]? with
      | some off => aj_jump pc off lv r h
      | none => none
    | _ => none
  | .lookupswitch dflt ps => match st with
    | .int x :: r => if (ps.toList.zip (ps.toList.drop 1)).all (fun (a, next) => a.1 < next.1) = true then aj_jump pc (Op.lookupswitch.offset ps.toList dflt x.toInt) lv r h else none
    | _ => none
  | .ldc idx => if len = 2 then aj_ldc lk 2 pc idx lv st h else none
  | .ldc_w idx => if len = 3 then (match aj_link lk idx with | some (10, _) => aj_ldc lk 3 pc idx lv st h | _ => none) else none
  | .ldc2_w idx => if len = 3 then (match aj_link lk idx with | some (11, _) => aj_ldc lk 3 pc idx lv st h | _ => none) else none
  | .iaload => if len = 1 then aj_ald 0 tb pc lv st h else none
  | .baload => if len = 1 then aj_bld tb pc lv st h else none
  | .caload => if len = 1 then aj_ald 3 tb pc lv st h else none
  | .laload => if len = 1 then aj_lld tb pc lv st h else none
  | .aaload => if len = 1 then aj_qld tb pc lv st h else none
  | .iastore => if len = 1 then aj_ast 0 tb pc lv st h else none
  | .bastore => if len = 1 then aj_bst tb pc lv st h else none
  | .castore => if len = 1 then aj_ast 3 tb pc lv st h else none
  | .lastore => if len = 1 then aj_lst tb pc lv st h else none
  | .aastore => if len = 1 then aj_qst rc tb pc lv st h else none
  | .arraylength => if len = 1 then aj_alen tb pc lv st h else none
  | .getfield idx => if len = 3 then aj_getf tb lk pc idx lv st h else none
  | .putfield idx => if len = 3 then aj_putf cls tb lk isI pc idx lv st h else none
  | .getstatic idx => if len = 3 then aj_gets tb lk pc idx lv st h else none
  | .new idx => if len = 3 then aj_new cls tb lk pc idx lv st h else none
  | .newarray a => if len = 2 ∧ aj_at a < 5 then aj_newa tb (aj_at a) 2 pc lv st h else none
  | .anewarray idx => if len = 3 then aj_anew rc tb lk pc idx lv st h else none
  | .invokevirtual idx => if len = 3 then aj_call 2 2 tb lk pc idx lv st h else none
  | .invokespecial idx => if len = 3 then aj_call 3 5 tb lk pc idx lv st h else none
  | .invokestatic idx => if len = 3 then (if aj_isNat lk idx = true then aj_nat tb lk pc idx lv st h else aj_call 6 6 tb lk pc idx lv st h) else none
  | .ireturn => if len = 1 then aj_ret ret st 0 else none
  | .lreturn => if len = 1 then aj_ret ret st 1 else none
  | .areturn => if len = 1 then aj_ret ret st 2 else none
  | .return_ => if len = 1 then aj_ret ret st 3 else none
  | _ => none
/-- a frame of the method m, its calls answered by 'call', in n steps -/
def aj_frm (rc : Nat) (cls : List aj_C) (tb : aj_T) (m : aj_M) (isI deep : Bool) (call : Nat → List Value → aj_H → Nat → Nat → Option Value → aj_H → Prop) : Nat → Nat → aj_V → List Value → aj_H → Nat → Nat → Nat → Nat → Option Value → aj_H → Prop
  | 0, _, _, _, _, _, _, _, _, _, _ => False
  | n + 1, pc, lv, st, h, kc, ks, mc, ms, r, hF => match decode m.2.1 pc with
    | .ok (i, len) => match aj_step rc cls tb m.2.2.2.2.2.1 m.2.2.1 m.2.2.2.1 isI i len pc lv st h with
      | some (.inl ((pc', lv', st'), h', dc, ds)) => kc + dc ≤ mc ∧ ks + ds ≤ ms ∧ aj_frm rc cls tb m isI deep call n pc' lv' st' h' (kc + dc) (ks + ds) mc ms r hF
      | some (.inr (.inl (kind, mi, as, (pc', lv', st')))) => deep = true ∧ ((kind = 5 ∧ aj_frm rc cls tb m isI deep call n pc' lv' st' h kc ks mc ms r hF) ∨ (kind ≠ 5 ∧ ∃ (mc' ms' : Nat) (r' : Option Value) (h' : aj_H), call mi as h mc' ms' r' h' ∧ h'.length = h.length + mc' ∧ kc + mc' ≤ mc ∧ ks + ms' ≤ ms ∧ aj_frm rc cls tb m isI deep call n pc' lv' (r'.toList ++ st') h' (kc + mc') (ks + ms') mc ms r hF))
      | some (.inr (.inr v)) => r = v ∧ hF = h ∧ kc = mc
      | none => False
    | .error _ => False
def aj_isI (m : aj_M) : Bool := decide (m.1.name = "<init>")
/-- the method of number mi, calls d deep at most: from these arguments and this heap, making mc cells, of ms slots at most, it ends with r and the heap h' -/
def aj_runs (rc : Nat) (cls : List aj_C) (tb : aj_T) (mt : List aj_M) : Nat → Nat → List Value → aj_H → Nat → Nat → Option Value → aj_H → Prop
  | 0, mi, as, h, mc, ms, r, h' => ∃ m : aj_M, mt[mi]? = some m ∧ (lg_sl as).length ≤ m.2.2.1 ∧ ∃ n, aj_frm rc cls tb m (aj_isI m) false (fun _ _ _ _ _ _ _ => False) n 0 (lv_args 0 as) [] h 0 0 mc ms r h'
  | d + 1, mi, as, h, mc, ms, r, h' => ∃ m : aj_M, mt[mi]? = some m ∧ (lg_sl as).length ≤ m.2.2.1 ∧ ∃ n, aj_frm rc cls tb m (aj_isI m) true (aj_runs rc cls tb mt d) n 0 (lv_args 0 as) [] h 0 0 mc ms r h'
