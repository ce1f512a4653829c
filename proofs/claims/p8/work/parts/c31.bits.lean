/-! BITS OF AN INT -/
def fx_ib (x : Int32) (i : Nat) : Bool := x.toBitVec.getLsbD i
section FXI
variable {x y z : Int32} {i k : Nat}
theorem fx_sv (hy : y.toInt = (k : Int)) (hk : k < 32) : (y &&& 31).toBitVec.smod 32 = BitVec.ofNat 32 k := by
  have e : y = Int32.ofInt (k : Int) := fx_inj (by rw [hy, fx_ofI (by omega) (by omega)])
  subst e
  have key : ∀ k : Fin 32, (Int32.ofInt (k.val : Int) &&& 31).toBitVec.smod 32 = BitVec.ofNat 32 k.val := by decide
  exact key ⟨k, hk⟩
theorem fx_ib_or : fx_ib (x ||| y) i = (fx_ib x i || fx_ib y i) := by
  show (x.toBitVec ||| y.toBitVec).getLsbD i = _
  rw [BitVec.getLsbD_or]; rfl
theorem fx_ib_and : fx_ib (x &&& y) i = (fx_ib x i && fx_ib y i) := by
  show (x.toBitVec &&& y.toBitVec).getLsbD i = _
  rw [BitVec.getLsbD_and]; rfl
theorem fx_ib_xor : fx_ib (x ^^^ y) i = (fx_ib x i ^^ fx_ib y i) := by
  show (x.toBitVec ^^^ y.toBitVec).getLsbD i = _
  rw [BitVec.getLsbD_xor]; rfl
theorem fx_ib_m1 (hi : i < 32) : fx_ib (Int32.ofInt (-1)) i = true := by
  have key : ∀ k : Fin 32, fx_ib (Int32.ofInt (-1)) k.val = true := by decide
  exact key ⟨i, hi⟩
theorem fx_ib_1 : fx_ib (Int32.ofInt 1) i = decide (i = 0) := by
  show (1#32).getLsbD i = _
  rw [BitVec.getLsbD_one]
  by_cases h : i = 0
  · rw [h]; rfl
  · simp [h]
theorem fx_ib_0 : fx_ib (Int32.ofInt 0) i = false := by
  show (0#32).getLsbD i = _
  exact BitVec.getLsbD_zero
theorem fx_ib_shl (hs : z.toBitVec.smod 32 = BitVec.ofNat 32 k) (hk : k < 32) (hi : i < 32) : fx_ib (x <<< z) i = (decide (k ≤ i) && fx_ib x (i - k)) := by
  show (x.toBitVec <<< (z.toBitVec.smod 32)).getLsbD i = _
  have e2 : (BitVec.ofNat 32 k).toNat = k := by rw [BitVec.toNat_ofNat]; exact Nat.mod_eq_of_lt (by omega)
  rw [hs, BitVec.shiftLeft_eq', BitVec.getLsbD_shiftLeft, e2]
  by_cases h : k ≤ i
  · simp [h, hi, Nat.not_lt.mpr h]; rfl
  · simp [h, Nat.lt_of_not_le h]
theorem fx_ib_shr (hs : z.toBitVec.smod 32 = BitVec.ofNat 32 k) (hk : k < 32) (hi : i + k < 32) : fx_ib (x >>> z) i = fx_ib x (i + k) := by
  show (x.toBitVec.sshiftRight' (z.toBitVec.smod 32)).getLsbD i = _
  have e2 : (BitVec.ofNat 32 k).toNat = k := by rw [BitVec.toNat_ofNat]; exact Nat.mod_eq_of_lt (by omega)
  rw [hs, BitVec.sshiftRight_eq', e2, BitVec.getLsbD_sshiftRight]
  have h1 : i < 32 := by omega
  simp [Nat.not_le.mpr h1, hi, Nat.add_comm k i]
  rfl
/-- one bit asked -/
theorem fx_ib_has (hy : y.toInt = (k : Int)) (hk : k < 32) : ((x >>> (y &&& 31)) &&& Int32.ofInt 1).toInt = 0 ↔ fx_ib x k = false := by
  have hs := fx_sv hy hk
  have e : ∀ i, i < 32 → fx_ib ((x >>> (y &&& 31)) &&& Int32.ofInt 1) i = (decide (i = 0) && fx_ib x k) := fun i hi => by
    rw [fx_ib_and, fx_ib_1]
    by_cases h : i = 0
    · subst h
      rw [fx_ib_shr hs hk (by omega), Nat.zero_add, Bool.and_comm]
    · simp [h]
  cases hx : fx_ib x k with
  | false =>
    refine ⟨fun _ => rfl, fun _ => ?_⟩
    have : (x >>> (y &&& 31)) &&& Int32.ofInt 1 = Int32.ofInt 0 := by
      apply Int32.toBitVec_inj.mp
      apply BitVec.eq_of_getLsbD_eq
      intro i hi
      have h1 := e i hi
      rw [hx, Bool.and_false] at h1
      exact h1.trans fx_ib_0.symm
    rw [this]; rfl
  | true =>
    refine ⟨fun z => ?_, fun z => by cases z⟩
    have h0 : (x >>> (y &&& 31)) &&& Int32.ofInt 1 = Int32.ofInt 0 := fx_inj (by rw [z]; rfl)
    have h1 := e 0 (by omega)
    rw [h0, fx_ib_0, hx] at h1
    cases h1
theorem fx_ib_put (hy : y.toInt = (k : Int)) (hk : k < 32) (hi : i < 32) : fx_ib (x ||| ((Int32.ofInt 1) <<< (y &&& 31))) i = (decide (i = k) || fx_ib x i) := by
  rw [fx_ib_or, fx_ib_shl (fx_sv hy hk) hk hi, fx_ib_1]
  by_cases h : i = k
  · subst h; simp
  · by_cases h2 : k ≤ i
    · have : ¬ i - k = 0 := by omega
      simp [h, this]
    · simp [h, h2]
theorem fx_ib_drop (hy : y.toInt = (k : Int)) (hk : k < 32) (hi : i < 32) : fx_ib (x &&& (((Int32.ofInt 1) <<< (y &&& 31)) ^^^ (Int32.ofInt (-1)))) i = (!decide (i = k) && fx_ib x i) := by
  rw [fx_ib_and, fx_ib_xor, fx_ib_shl (fx_sv hy hk) hk hi, fx_ib_1, fx_ib_m1 hi]
  by_cases h : i = k
  · subst h; simp
  · by_cases h2 : k ≤ i
    · have : ¬ i - k = 0 := by omega
      simp [h, this]
    · simp [h, h2]
theorem fx_ib_ext (h : ∀ i, i < 32 → fx_ib x i = fx_ib y i) : x = y := Int32.toBitVec_inj.mp (BitVec.eq_of_getLsbD_eq (fun i hi => h i hi))
end FXI
/-! THE MODEL OF THE WORKER -/
abbrev md_Tm : Type := Bool × Int32
abbrev md_Row : Type := List md_Tm × (Nat → Bool)
abbrev md_Q : Type := Nat × List md_Row
abbrev md_Sd : Type := Int × Int32
/-- tables, Qs, truths, sides, relation, parts, the row's TABLE, picks, fold, folded -/
abbrev md_WS : Type := List (List md_Row) × List md_Q × List (Nat → Bool) × (md_Sd × md_Sd) × Int × List (Nat → Bool) × Nat × Option (List Nat) × Int × Int
abbrev md_V : Type := Nat → Nat → Int32
def md_cv (val : md_V) (w : Nat) (t : md_Tm) : Int32 := if t.1 = true then val w t.2.toInt.toNat else t.2
def md_cmp (rel : Int) (a b : Int32) : Bool := if rel = 61 then a == b else if rel = 6 then a != b else if rel = 60 then decide (a.toInt < b.toInt) else decide (a.toInt ≤ b.toInt)
def md_sv (val : md_V) (w : Nat) (ts : List md_Tm) (s : md_Sd) : Int32 := if s.1 = 0 then s.2 else if s.1 = 1 then val w s.2.toInt.toNat else md_cv val w (ts.getD s.2.toInt.toNat (false, Int32.ofInt 0))
/-- alike in all COLUMNS -/
def md_eqv (val : md_V) (w : Nat) : List md_Tm → List md_Tm → Bool
  | [], _ => true
  | _, [] => true
  | a :: as, b :: bs => (md_cv val w a == md_cv val w b) && md_eqv val w as bs
/-- alike where the map says so; what is new -/
def md_mt (val : md_V) (w : Nat) (ts : List md_Tm) (m : Nat) : List md_Tm → Bool
  | [] => true
  | b :: bs => (if m % 8 < ts.length then md_cv val w (ts.getD (m % 8) (false, Int32.ofInt 0)) == md_cv val w b else true) && md_mt val w ts (m / 8) bs
def md_nw (n m : Nat) : List md_Tm → List md_Tm
  | [] => []
  | b :: bs => (if m % 8 < n then [] else [b]) ++ md_nw n (m / 8) bs
def md_jn (val : md_V) (m : Nat) (A B : List md_Row) : List md_Row := A.flatMap (fun r => B.map (fun s => (r.1 ++ md_nw r.1.length m s.1, fun w => r.2 w && s.2 w && md_mt val w r.1 m s.1)))
def md_mi (val : md_V) (A B : List md_Row) : List md_Row := A.map (fun r => (r.1, fun w => r.2 w && !B.any (fun s => s.2 w && md_eqv val w r.1 s.1)))
def md_ts (val : md_V) (sd : md_Sd × md_Sd) (rel : Int) (A : List md_Row) : List md_Row := A.map (fun r => (r.1, fun w => r.2 w && md_cmp rel (md_sv val w r.1 sd.1) (md_sv val w r.1 sd.2)))
def md_pj (pk : List Nat) (A : List md_Row) : List md_Row := A.map (fun r => (pk.map (fun c => r.1.getD c (false, Int32.ofInt 0)), r.2))
/-- values, in their order -/
def md_lt : List Int32 → List Int32 → Bool
  | a :: as, b :: bs => if a = b then md_lt as bs else decide (a.toInt < b.toInt)
  | _, _ => false
def md_ins (x : List Int32) : List (List Int32) → List (List Int32)
  | [] => [x]
  | y :: l => if y = x then y :: l else if md_lt y x = true then y :: md_ins x l else x :: y :: l
/-- the rows of a WORLD, each once, in their order -/
def md_line (val : md_V) (w : Nat) (A : List md_Row) : List (List Int32) := (A.filter (fun r => r.2 w)).foldl (fun l r => md_ins (r.1.map (md_cv val w)) l) []
def md_key (pk : List Nat) (x : List Int32) : List Int32 := pk.map (fun c => x.getD c (Int32.ofInt 0))
def md_tal (fold : Int) : List Int32 → Int32
  | [] => Int32.ofInt 0
  | a :: l => l.foldl (fun s x => if fold = 16 then s + Int32.ofInt 1 else if fold = 17 then (if x.toInt < s.toInt then x else s) else if fold = 18 then (if s.toInt < x.toInt then x else s) else s + x) (if fold = 16 then Int32.ofInt 1 else a)
/-- the groups of a WORLD -/
def md_grw (pk : List Nat) (fold : Int) (folded : Nat) (L : List (List Int32)) : List (List Int32) := L.map (fun x => md_key pk x ++ [md_tal fold ((L.filter (fun y => md_key pk y == md_key pk x)).map (fun y => y.getD folded (Int32.ofInt 0)))])
def md_grs (val : md_V) (W : Nat) (pk : List Nat) (fold : Int) (folded : Nat) (A : List md_Row) : List (List Int32) := ((List.range W).flatMap (fun w => md_grw pk fold folded (md_line val w A))).foldl (fun l x => md_ins x l) []
def md_gr (val : md_V) (W : Nat) (pk : List Nat) (fold : Int) (folded : Nat) (A : List md_Row) : List md_Row := (md_grs val W pk fold folded A).map (fun x => (x.map (fun v => (false, v)), fun w => (md_grw pk fold folded (md_line val w A)).contains x))
def md_hd (tr : List (Nat → Bool)) : Nat → Bool := tr.headD (fun _ => false)
/-- the last row of a TABLE changed -/
def md_lr1 (f : md_Row → md_Row) (A : List md_Row) : List md_Row := A.modify (A.length - 1) f
def md_okb (n wd : Nat) (s : md_Sd) : Bool := s.1 == 0 || (s.1 == 1 && (decide (0 ≤ s.2.toInt) && decide (s.2.toInt < (n : Int)))) || (s.1 == 2 && (decide (0 ≤ s.2.toInt) && decide (s.2.toInt < (wd : Int))))
/-- COLUMNS that the map finds none for -/
def md_ncn (n : Nat) : Nat → Nat → Nat
  | _, 0 => 0
  | m, c + 1 => (if m % 8 < n then 0 else 1) + md_ncn n (m / 8) c
/-- one note worked out: none = it can't be -/
def md_wk (W n : Nat) (val : md_V) (wd : Nat) : md_WS → md_Ev → Int → md_O md_WS
  | (tb, sk, tr, sd, rel, pt, rt, pk, fo, fd), (a, _, _), arg =>
    if a = 184 then md_k (tb ++ [([] : List md_Row)], sk, tr, sd, rel, pt, rt, pk, fo, fd)
    else if a = 186 then (if tb.length ≤ arg.toNat ∨ 30 ≤ (tb.getD arg.toNat []).length then none else md_k (tb.modify arg.toNat (fun A : List md_Row => A ++ [(([], fun _ => true) : md_Row)]), sk, tr, sd, rel, pt, arg.toNat, pk, fo, fd))
    else if a = 187 then (if tb.length ≤ rt ∨ (tb.getD rt []).length = 0 ∨ 6 ≤ ((tb.getD rt []).getLastD ([], fun _ => true)).1.length ∨ md_okb n 0 sd.2 = false then none else md_k (tb.modify rt (md_lr1 (fun r : md_Row => ((r.1 ++ [(sd.2.1 == 1, sd.2.2)], r.2) : md_Row))), sk, tr, sd, rel, pt, rt, pk, fo, fd))
    else if a = 188 then (match tr with
      | [] => none
      | x :: _ => if tb.length ≤ rt ∨ (tb.getD rt []).length = 0 then none else md_k (tb.modify rt (md_lr1 (fun r : md_Row => ((r.1, fun w => r.2 w && x w) : md_Row))), sk, [], sd, rel, pt, rt, pk, fo, fd))
    else if a = 190 then (match tr with
      | [] => none
      | x :: _ => if 20 ≤ pt.length then none else if (List.range W).any (fun w => (pt ++ [x]).all (fun p => p w)) = true then md_k (tb, sk, [], sd, rel, pt ++ [x], rt, pk, fo, fd) else some none)
    else if a = 192 then (match sk with
      | [] => none
      | q :: sk' => if 10 ≤ tb.length ∨ q.1 ≠ wd then none else md_k (tb ++ [q.2], sk', tr, sd, rel, pt, rt, pk, fo, fd))
    else if a = 200 then md_k (tb, sk, tr, (sd.2, (0, Int32.ofInt arg)), rel, pt, rt, pk, fo, fd)
    else if a = 201 then md_k (tb, sk, tr, (sd.2, (1, Int32.ofInt arg)), rel, pt, rt, pk, fo, fd)
    else if a = 202 then md_k (tb, sk, tr, (sd.2, (2, Int32.ofInt arg)), rel, pt, rt, pk, fo, fd)
    else if a = 203 then md_k (tb, sk, tr, sd, arg, pt, rt, pk, fo, fd)
    else if a = 204 then (if 32 ≤ tr.length ∨ md_okb n 0 sd.1 = false ∨ md_okb n 0 sd.2 = false then none else md_k (tb, sk, (fun w => md_cmp rel (md_sv val w [] sd.1) (md_sv val w [] sd.2)) :: tr, sd, rel, pt, rt, pk, fo, fd))
    else if a = 205 then (match tr with
      | [] => none
      | x :: tr' => md_k (tb, sk, (fun w => !x w) :: tr', sd, rel, pt, rt, pk, fo, fd))
    else if a = 206 then (match tr with
      | y :: x :: tr' => if 32 < (y :: x :: tr').length then none else md_k (tb, sk, (fun w => x w && y w) :: tr', sd, rel, pt, rt, pk, fo, fd)
      | _ => none)
    else if a = 207 then (match tr with
      | y :: x :: tr' => if 32 < (y :: x :: tr').length then none else md_k (tb, sk, (fun w => x w || y w) :: tr', sd, rel, pt, rt, pk, fo, fd)
      | _ => none)
    else if a = 210 then (if 20 ≤ sk.length ∨ tb.length ≤ arg.toNat ∨ (tb.getD arg.toNat []).all (fun r => r.1.length == wd) = false ∨ 6 < wd then none else md_k (tb, (wd, tb.getD arg.toNat []) :: sk, tr, sd, rel, pt, rt, pk, fo, fd))
    else if a = 211 then (match sk with
      | y :: x :: sk' => if x.1 ≠ y.1 then none else if 30 < x.2.length + y.2.length then some none else md_k (tb, (x.1, x.2 ++ y.2) :: sk', tr, sd, rel, pt, rt, pk, fo, fd)
      | _ => none)
    else if a = 212 then (match sk with
      | y :: x :: sk' => if x.1 ≠ y.1 then none else md_k (tb, (x.1, md_mi val x.2 y.2) :: sk', tr, sd, rel, pt, rt, pk, fo, fd)
      | _ => none)
    else if a = 213 then (match sk with
      | y :: x :: sk' => if arg < 0 ∨ 2147483647 < arg ∨ wd ≠ x.1 + md_ncn x.1 arg.toNat y.1 ∨ 6 < wd then none else if 30 < x.2.length * y.2.length then some none else md_k (tb, (wd, md_jn val arg.toNat x.2 y.2) :: sk', tr, sd, rel, pt, rt, pk, fo, fd)
      | _ => none)
    else if a = 214 then (match sk with
      | [] => none
      | x :: sk' => if md_okb n x.1 sd.1 = false ∨ md_okb n x.1 sd.2 = false then none else md_k (tb, (x.1, md_ts val sd rel x.2) :: sk', tr, sd, rel, pt, rt, pk, fo, fd))
    else if a = 215 then md_k (tb, sk, tr, sd, rel, pt, rt, some [], fo, fd)
    else if a = 216 then (match pk with
      | none => none
      | some ps => if 6 ≤ ps.length ∨ arg < 0 then none else md_k (tb, sk, tr, sd, rel, pt, rt, some (ps ++ [arg.toNat]), fo, fd))
    else if a = 217 then (match sk, pk with
      | x :: sk', some ps => if ps.all (fun c => decide (c < x.1)) = false ∨ 6 < ps.length then none else md_k (tb, (ps.length, md_pj ps x.2) :: sk', tr, sd, rel, pt, rt, some ps, fo, fd)
      | _, _ => none)
    else if a = 221 then md_k (tb, sk, tr, sd, rel, pt, rt, pk, arg, fd)
    else if a = 222 then md_k (tb, sk, tr, sd, rel, pt, rt, pk, fo, arg)
    else if a = 223 then (match sk, pk with
      | x :: sk', some ps => if ps.all (fun c => decide (c < x.1)) = false ∨ 6 ≤ ps.length ∨ (fo ≠ 16 ∧ (fd < 0 ∨ (x.1 : Int) ≤ fd)) then none else if 30 < (md_grs val W ps fo fd.toNat x.2).length then some none else md_k (tb, (ps.length + 1, md_gr val W ps fo fd.toNat x.2) :: sk', tr, sd, rel, pt, rt, some ps, fo, fd)
      | _, _ => none)
    else md_k (tb, sk, tr, sd, rel, pt, rt, pk, fo, fd)
