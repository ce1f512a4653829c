/-! THE CHECKER: calls, ends, all ways of a method, what falls -/
def ak_leA : List ak_A → List ak_A → Bool
  | [], [] => true
  | a :: A, b :: B => ak_sub a b && ak_leA A B
  | _, _ => false
def ak_nop (p : ak_P) : ak_P := match p with
  | some (.inr _) => none
  | _ => p
def ak_cats (S : ak_S) : Nat := (S.map (fun e => ak_cat e.1)).sum
/-- one state behind a call: with this answer, these facts of the object -/
def ak_bst (M : ak_Mo) (R : Option ak_A) (q : ak_Q) (j : Option Nat) (L : ak_L) (S : ak_S) (F : ak_F) : ak_AS := (L, R.toList.map (fun x => (x, none)) ++ S.map (fun e => (e.1, ak_nop e.2)), (match j with
  | some j => q.map (fun e => ((j, e.1), e.2))
  | none => []) ++ F.filter (fun z => !(M.2.any (fun q => q.2 == z.1.2))))
/-- what is known of arguments, told of the locals that they come from -/
def ak_rfA (P : List ak_P) : ak_Q → ak_L → ak_L
  | [], L => L
  | e :: q, L => ak_rfA P q (match P[e.1]? with
    | some (some (.inl j)) => (match ak_lkL L j with
      | some (.inl v, _) => ak_apL j (.inl (ak_mx v.1 e.2.1, ak_mn v.2 e.2.2)) L
      | _ => L)
    | _ => L)
/-- the states behind a call -/
def ak_bsts (con : ak_Con) (P : List ak_P) (j : Option Nat) (L : ak_L) (S : ak_S) (F : ak_F) : List (ak_AS × Int × Option Nat × ak_D) := match con.2.2.1 with
  | some (.inl v) => if con.2.2.2.2.2.1 = con.2.2.2.2.2.2.1 ∧ con.2.2.2.2.2.2.2.1 = con.2.2.2.2.2.2.2.2.1 ∧ con.2.2.2.2.2.2.2.2.2.1 = [] ∧ con.2.2.2.2.2.2.2.2.2.2.1 = con.2.2.2.2.2.2.2.2.2.2.2 then [(ak_bst con.2.2.2.1 con.2.2.1 con.2.2.2.2.2.1 j L S F, con.2.2.2.2.2.2.2.1, j, con.2.2.2.2.2.2.2.2.2.2.1)] else
      (if v.1 ≤ 0 ∧ 0 ≤ v.2 then [(ak_bst con.2.2.2.1 (some (.inl (0, 0))) con.2.2.2.2.2.1 j L S F, con.2.2.2.2.2.2.2.1, j, con.2.2.2.2.2.2.2.2.2.2.1)] else []) ++
      ((if v.1 < 0 then [(ak_bst con.2.2.2.1 (some (.inl (v.1, ak_mn v.2 (-1)))) con.2.2.2.2.2.2.1 j (ak_rfA P con.2.2.2.2.2.2.2.2.2.1 L) S F, con.2.2.2.2.2.2.2.2.1, j, con.2.2.2.2.2.2.2.2.2.2.2)] else []) ++
      (if 0 < v.2 then [(ak_bst con.2.2.2.1 (some (.inl (ak_mx v.1 1, v.2))) con.2.2.2.2.2.2.1 j (ak_rfA P con.2.2.2.2.2.2.2.2.2.1 L) S F, con.2.2.2.2.2.2.2.2.1, j, con.2.2.2.2.2.2.2.2.2.2.2)] else []))
  | _ => [(ak_bst con.2.2.2.1 con.2.2.1 con.2.2.2.2.2.1 j L S F, con.2.2.2.2.2.2.2.1, j, con.2.2.2.2.2.2.2.2.2.2.1)]
def ak_hasF (F : ak_F) (j k : Nat) (iv : Int × Int) : Bool := F.any (fun z => z.1.1 == j && z.1.2 == k && decide (iv.1 ≤ z.2.1) && decide (z.2.2 ≤ iv.2))
def ak_loc (p : ak_P) : Option Nat := match p with
  | some (.inl j) => some j
  | _ => none
def ak_pre (F : ak_F) (j : Option Nat) (q : ak_Q) : Bool := q.all (fun e => match j with
  | some j => ak_hasF F j e.1 e.2
  | none => false)
def ak_ac (T : ak_TT) (M : ak_Mo) (lk : List aj_L) (lo hi idx : Nat) (a : ak_AS) (con : ak_Con) : Option (List (ak_AS × Int × Option Nat × ak_D)) := match aj_link lk idx with
  | some (kind, mi, n, v) => if lo ≤ kind ∧ kind ≤ hi ∧ kind ≠ 5 ∧ mi = con.1 ∧ con.2.2.2.1.1.all (fun t => M.1.contains t) = true ∧ con.2.2.2.1.2.all (fun q => M.2.contains q) = true then
      (if kind = 6 then (if n ≤ a.2.1.length ∧ ak_cats (a.2.1.drop n) ≤ 8 ∧ ak_leA ((a.2.1.take n).reverse.map (fun e => e.1)) con.2.1 = true ∧ con.2.2.2.2.1 = [] then some (ak_bsts con ((a.2.1.take n).reverse.map (fun e => e.2)) none a.1 (a.2.1.drop n) a.2.2) else none)
       else match a.2.1.drop n with
        | (.inr (some (ts, false)), p) :: R => if (kind = 2 → ts.all (ak_isC T v.toNat) = true) ∧ ak_cats R ≤ 8 ∧ ak_leA (.inr (some (ts, false)) :: (a.2.1.take n).reverse.map (fun e => e.1)) con.2.1 = true ∧ ak_pre a.2.2 (ak_loc p) con.2.2.2.2.1 = true then some (ak_bsts con (p :: (a.2.1.take n).reverse.map (fun e => e.2)) (ak_loc p) a.1 R a.2.2) else none
        | _ => none) else none
  | none => none
def ak_aci (T : ak_TT) (M : ak_Mo) (lk : List aj_L) (i : Instr) (len : Nat) (a : ak_AS) (con : ak_Con) : Option (List (ak_AS × Int × Option Nat × ak_D)) := match i with
  | .invokevirtual idx => if len = 3 then ak_ac T M lk 2 2 idx a con else none
  | .invokespecial idx => if len = 3 then ak_ac T M lk 3 5 idx a con else none
  | .invokestatic idx => if len = 3 ∧ aj_isNat lk idx = false then ak_ac T M lk 6 6 idx a con else none
  | _ => none
def ak_a6 (lk : List aj_L) (i : Instr) (len : Nat) (a : ak_AS) : Option ak_AS := match i with
  | .invokestatic idx => (match a.2.1, aj_link lk idx with
    | (.inl q, _) :: (.inl p, _) :: R, some (kind, _, _, _) => if len = 3 ∧ ak_cats R ≤ 8 then (if kind = 7 then some (a.1, (.inl (ak_mn p.1 q.1, ak_mn p.2 q.2), none) :: R, a.2.2) else if kind = 8 then some (a.1, (.inl (ak_mx p.1 q.1, ak_mx p.2 q.2), none) :: R, a.2.2) else none) else none
    | _, _ => none)
  | _ => none
def ak_ar (i : Instr) (len : Nat) (ret : Option FieldType) (S : ak_S) (R : Option ak_A) : Bool := decide (len = 1) && match i, S, ret, R with
  | .return_, [], none, none => true
  | .ireturn, [(.inl q, _)], some .int, some y => ak_sub (.inl q) y
  | .ireturn, [(.inl q, _)], some .boolean, some y => ak_sub (.inl q) y && ak_sub (.inl q) (.inl (0, 1))
  | .lreturn, [(.inr none, _)], some .long, some y => ak_sub (.inr none) y
  | .areturn, [(.inr (some q), _)], some (.object _), some y => ak_sub (.inr (some q)) y
  | .areturn, [(.inr (some q), _)], some (.array _), some y => ak_sub (.inr (some q)) y
  | _, _, _, _ => false
/-- an answer that may not be 0, that may be -/
def ak_may (S : ak_S) : Bool × Bool := match S with
  | [(.inl q, _)] => (!(decide (q.1 = 0) && decide (q.2 = 0)), decide (q.1 ≤ 0) && decide (0 ≤ q.2))
  | _ => (false, true)
def ak_rp (z : Bool) (con : ak_Con) (F : ak_F) (eps : Int) (may : Bool × Bool) : Bool := (!may.1 || (decide (con.2.2.2.2.2.2.2.2.1 ≤ eps) && con.2.2.2.2.2.2.1.all (fun e => z && ak_hasF F 0 e.1 e.2))) && (!may.2 || (decide (con.2.2.2.2.2.2.2.1 ≤ eps) && con.2.2.2.2.2.1.all (fun e => z && ak_hasF F 0 e.1 e.2)))
def ak_st (T : ak_TT) (cls : List aj_C) (M : ak_Mo) (lk : List aj_L) (nL : Nat) (i : Instr) (len pc : Nat) (a : ak_AS) : Option (List (Nat × ak_AS)) := match ak_a1 i len a.2.1 with
  | some S => some [(pc + len, (a.1, S, a.2.2))]
  | none => match ak_a2 nL i len a with
    | some b => some [(pc + len, b)]
    | none => match ak_a3 i len pc a with
      | some l => some l
      | none => match ak_a4 T lk i len a with
        | some b => some [(pc + len, b)]
        | none => match ak_a5 T cls M lk i len a with
          | some b => some [(pc + len, b)]
          | none => match ak_a6 lk i len a with
            | some b => some [(pc + len, b)]
            | none => none
/-- counters: a local, whether it grows, its bound -/
abbrev ak_C : Type := List (Nat × Bool × Int)
/-- a place at which states are told: pc, locals, stack, fields, weights of the counters, place in the order, weight of the clock, how far the clock has gone since the start -/
abbrev ak_Pt : Type := Nat × List (Nat × ak_A) × List ak_A × ak_F × List Nat × Nat × Nat × Int
def ak_term (x : Nat → Int) (c : Nat × Bool × Int) : Int := if c.2.1 = true then c.2.2 - x c.1 else x c.1 - c.2.2
def ak_mu (x : Nat → Int) : ak_C → List Nat → Int
  | c :: C, w :: W => (w : Int) * ak_term x c + ak_mu x C W
  | _, _ => 0
def ak_nn (x : Nat → Int) : ak_C → List Nat → Prop
  | c :: C, w :: W => (w ≠ 0 → 0 ≤ ak_term x c) ∧ ak_nn x C W
  | _, _ => True
def ak_dec (L : ak_L) : ak_C → List Nat → List Nat → Option Int
  | [], [], [] => some 0
  | c :: C, w :: W, w' :: W' => match ak_dec L C W W' with
    | none => none
    | some e => if w' = 0 then some e else match ak_lkL L c.1 with
      | some (.inl q, o) => if (c.2.1 = true ∧ q.2 ≤ c.2.2) ∨ (c.2.1 = false ∧ c.2.2 ≤ q.1) then (match o with
          | some z => if w' = w then some (e + (if c.2.1 = true then -((w : Int) * z) else (w : Int) * z)) else some (e + (w' : Int) * (if c.2.1 = true then c.2.2 - q.1 else q.2 - c.2.2))
          | none => some (e + (w' : Int) * (if c.2.1 = true then c.2.2 - q.1 else q.2 - c.2.2))) else none
      | _ => none
  | _, _, _ => none
def ak_iv (lv : aj_V) (j : Nat) : Int := match aj_lv lv j with
  | some (.int x) => x.toInt
  | _ => 0
def ak_o0 (a : ak_A) : Option Int := match a with
  | .inl _ => some 0
  | _ => none
def ak_ptAS (pt : ak_Pt) : ak_AS := (pt.2.1.map (fun q => (q.1, q.2, ak_o0 q.2)), pt.2.2.1.map (fun x => (x, none)), pt.2.2.2.1)
def ak_le (a : ak_AS) (pt : ak_Pt) : Bool := pt.2.1.all (fun q => match ak_lkL a.1 q.1 with
  | some (x, _) => ak_sub x q.2
  | none => false) && (ak_leA (a.2.1.map (fun e => e.1)) pt.2.2.1 && pt.2.2.2.1.all (fun q => a.2.2.any (fun z => z.1.1 == q.1.1 && z.1.2 == q.1.2 && decide (q.2.1 ≤ z.2.1) && decide (z.2.2 ≤ q.2.2))))
/-- a state in several: an int of a local up to a bound or above it; a reference by its types -/
def ak_fk (f : Nat × Nat × Option Int) (a : ak_AS) : List ak_AS := match ak_lkL a.1 f.2.1, f.2.2 with
  | some (.inl q, _), some c => (if q.1 ≤ c then [(ak_apL f.2.1 (.inl (q.1, ak_mn q.2 c)) a.1, a.2)] else []) ++ (if c < q.2 then [(ak_apL f.2.1 (.inl (ak_mx q.1 (c + 1), q.2)) a.1, a.2)] else [])
  | some (.inr (some q), _), none => (if q.2 = true then [(ak_apL f.2.1 (.inr (some ([], true))) a.1, a.2)] else []) ++ q.1.map (fun t => (ak_apL f.2.1 (.inr (some ([t], false))) a.1, a.2))
  | _, _ => [a]
def ak_frk (pc : Nat) : List (Nat × Nat × Option Int) → List ak_AS → List ak_AS
  | [], l => l
  | f :: fs, l => ak_frk pc fs (if f.1 = pc then l.flatMap (ak_fk f) else l)
def ak_clk (w w' : Nat) (del : Int) : Int := if w' = 0 then 0 else if w' = w then -((w : Int) * del) else (w' : Int) * 1001
def ak_at (C : ak_C) (W : List Nat) (pos wk : Nat) (a : ak_AS) (del eps : Int) (pt : ak_Pt) : Bool := ak_le a pt && (decide (pt.2.2.2.2.2.2.2 ≤ eps) && (match ak_dec a.1 C W pt.2.2.2.2.1 with
  | some e => decide (e + ak_clk wk pt.2.2.2.2.2.2.1 del + (pt.2.2.2.2.2.1 : Int) < (pos : Int))
  | none => false))
section AKEX
variable {T : ak_TT} {SP : List Nat → aj_H → Prop} {M : ak_Mo} {s : List Nat} {tb : aj_T} {h : aj_H} {old : Nat → Int} {lv : aj_V} {st : List Value} {a a' : ak_AS} {v w : Value} {pc len : Nat} {lk : List aj_L}
theorem ak_mu_nn {x : Nat → Int} : ∀ {C : ak_C} {W : List Nat}, ak_nn x C W → 0 ≤ ak_mu x C W := by
  intro C
  induction C with
  | nil => intro W _; cases W <;> exact Int.le_refl _
  | cons c C ih =>
    intro W h
    cases W with
    | nil => exact Int.le_refl _
    | cons w W =>
      have h2 := ih h.2
      show 0 ≤ (w : Int) * ak_term x c + ak_mu x C W
      have h1 : 0 ≤ (w : Int) * ak_term x c := by
        by_cases hw : w = 0
        · subst hw
          simp
        · exact Int.mul_nonneg (Int.natCast_nonneg _) (h.1 hw)
      omega
theorem ak_dec_ok {L : ak_L} (hL : ak_gL s old lv L) : ∀ {C : ak_C} {W W' : List Nat} {e : Int}, ak_dec L C W W' = some e → ak_nn old C W → ak_nn (ak_iv lv) C W' ∧ ak_mu (ak_iv lv) C W' ≤ ak_mu old C W + e := by
  intro C
  induction C with
  | nil =>
    intro W W' e h0 _
    cases W with
    | nil =>
      cases W' with
      | nil =>
        cases h0
        exact ⟨trivial, Int.le_refl _⟩
      | cons _ _ => cases h0
    | cons _ _ => cases h0
  | cons c C ih =>
    intro W W' e h0 hn
    cases W with
    | nil => cases h0
    | cons w W =>
      cases W' with
      | nil => cases h0
      | cons w' W' =>
        unfold ak_dec at h0
        have hw0 : 0 ≤ (w : Int) * ak_term old c := by
          by_cases hw : w = 0
          · subst hw
            simp
          · exact Int.mul_nonneg (Int.natCast_nonneg _) (hn.1 hw)
        split at h0
        · cases h0
        · rename_i e0 he0
          obtain ⟨g1, g2⟩ := ih he0 hn.2
          split at h0
          · rename_i hz
            subst hz
            cases h0
            refine ⟨⟨fun z => absurd rfl z, g1⟩, ?_⟩
            show ((0 : Nat) : Int) * ak_term _ c + ak_mu _ C W' ≤ (w : Int) * ak_term old c + ak_mu old C W + e
            simp only [Int.natCast_zero, Int.zero_mul, Int.zero_add]
            omega
          · rename_i hz
            split at h0
            · rename_i q o hlk
              obtain ⟨v, k1, k2, k3⟩ := ak_lkL_ok hL hlk
              obtain ⟨x, rfl, hw⟩ := ak_gi k2
              have hx : ak_iv lv c.1 = x.toInt := by
                unfold ak_iv
                rw [k1]
              unfold ak_win at hw
              split at h0
              · rename_i hb
                have ht : 0 ≤ ak_term (ak_iv lv) c ∧ ak_term (ak_iv lv) c ≤ (if c.2.1 = true then c.2.2 - q.1 else q.2 - c.2.2) := by
                  unfold ak_term
                  rw [hx]
                  rcases hb with ⟨b1, b2⟩ | ⟨b1, b2⟩
                  · rw [if_pos b1, if_pos b1]
                    omega
                  · rw [if_neg (by rw [b1]; decide), if_neg (by rw [b1]; decide)]
                    omega
                have far : ∀ e, some (e0 + (w' : Int) * (if c.2.1 = true then c.2.2 - q.1 else q.2 - c.2.2)) = some e → ak_mu (ak_iv lv) (c :: C) (w' :: W') ≤ ak_mu old (c :: C) (w :: W) + e := by
                  intro e he
                  cases he
                  show (w' : Int) * ak_term _ c + ak_mu _ C W' ≤ (w : Int) * ak_term old c + ak_mu old C W + _
                  have hm := Int.mul_le_mul_of_nonneg_left ht.2 (Int.natCast_nonneg w')
                  omega
                refine ⟨⟨fun _ => ht.1, g1⟩, ?_⟩
                split at h0
                · rename_i z
                  split at h0
                  · rename_i hww
                    subst hww
                    cases h0
                    obtain ⟨y, hy, hy2⟩ := k3 z rfl
                    cases hy
                    show (w' : Int) * ak_term _ c + ak_mu _ C W' ≤ (w' : Int) * ak_term old c + ak_mu old C W + _
                    have e1 : ak_term (ak_iv lv) c = ak_term old c + (if c.2.1 = true then -z else z) := by
                      unfold ak_term
                      rw [hx, hy2]
                      split <;> omega
                    have e2 : (w' : Int) * (if c.2.1 = true then -z else z) = (if c.2.1 = true then -((w' : Int) * z) else (w' : Int) * z) := by
                      split
                      · exact Int.mul_neg _ _
                      · rfl
                    rw [e1, Int.mul_add, e2]
                    omega
                  · exact far _ h0
                · exact far _ h0
              · cases h0
            · cases h0
theorem ak_leA_ok {A B : List ak_A} : ∀ {as : List Value}, ak_gA s A as → ak_leA A B = true → ak_gA s B as := by
  induction A generalizing B with
  | nil =>
    intro as hA h0
    cases B with
    | nil => exact hA
    | cons _ _ => cases h0
  | cons x A ih =>
    intro as hA h0
    cases B with
    | nil => cases h0
    | cons y B =>
      cases as with
      | nil => exact hA.elim
      | cons v as =>
        unfold ak_leA at h0
        rw [Bool.and_eq_true] at h0
        exact ⟨ak_sub_ok hA.1 h0.1, ih hA.2 h0.2⟩
theorem ak_gS_A : ∀ {S : ak_S} {st : List Value}, ak_gS s tb h lv S st → ak_gA s (S.map (fun e => e.1)) st := by
  intro S
  induction S with
  | nil =>
    intro st hS
    cases st with
    | nil => trivial
    | cons _ _ => exact hS.elim
  | cons e S ih =>
    intro st hS
    obtain ⟨v, st', rfl, h1, -, h3⟩ := ak_gS_c hS
    exact ⟨h1, ih h3⟩
theorem ak_gA_S : ∀ {A : List ak_A} {st : List Value}, ak_gA s A st → ak_gS s tb h lv (A.map (fun x => (x, none))) st := by
  intro A
  induction A with
  | nil =>
    intro st hA
    cases st with
    | nil => trivial
    | cons _ _ => exact hA.elim
  | cons x A ih =>
    intro st hA
    cases st with
    | nil => exact hA.elim
    | cons v st => exact ⟨hA.1, trivial, ih hA.2⟩
theorem ak_gS_drop : ∀ (n : Nat) {S : ak_S} {st : List Value}, ak_gS s tb h lv S st → ak_gS s tb h lv (S.drop n) (st.drop n) ∧ ak_gS s tb h lv (S.take n) (st.take n) := by
  intro n
  induction n with
  | zero =>
    intro S st hS
    exact ⟨hS, trivial⟩
  | succ n ih =>
    intro S st hS
    cases S with
    | nil =>
      cases st with
      | nil => exact ⟨trivial, trivial⟩
      | cons _ _ => exact hS.elim
    | cons e S =>
      obtain ⟨v, st', rfl, h1, h2, h3⟩ := ak_gS_c hS
      obtain ⟨k1, k2⟩ := ih h3
      exact ⟨k1, h1, h2, k2⟩
theorem ak_gA_app : ∀ {A B : List ak_A} {as bs : List Value}, ak_gA s A as → ak_gA s B bs → ak_gA s (A ++ B) (as ++ bs) := by
  intro A
  induction A with
  | nil =>
    intro B as bs hA hB
    cases as with
    | nil => exact hB
    | cons _ _ => exact hA.elim
  | cons x A ih =>
    intro B as bs hA hB
    cases as with
    | nil => exact hA.elim
    | cons v as => exact ⟨hA.1, ih hA.2 hB⟩
theorem ak_gA_rev : ∀ {A : List ak_A} {as : List Value}, ak_gA s A as → ak_gA s A.reverse as.reverse := by
  intro A
  induction A with
  | nil =>
    intro as hA
    cases as with
    | nil => trivial
    | cons _ _ => exact hA.elim
  | cons x A ih =>
    intro as hA
    cases as with
    | nil => exact hA.elim
    | cons v as =>
      rw [List.reverse_cons, List.reverse_cons]
      exact ak_gA_app (ih hA.2) ⟨hA.1, trivial⟩
theorem ak_gS_sum : ∀ {S : ak_S} {st : List Value}, ak_gS s tb h lv S st → aj_sum st = ak_cats S := by
  intro S
  induction S with
  | nil =>
    intro st hS
    cases st with
    | nil => rfl
    | cons _ _ => exact hS.elim
  | cons e S ih =>
    intro st hS
    obtain ⟨v, st', rfl, h1, -, h3⟩ := ak_gS_c hS
    have := ih h3
    unfold aj_sum ak_cats at this ⊢
    rw [List.map_cons, List.map_cons, List.sum_cons, List.sum_cons, this, ak_gcat h1]
theorem ak_gS_len : ∀ {S : ak_S} {st : List Value}, ak_gS s tb h lv S st → st.length = S.length := by
  intro S
  induction S with
  | nil =>
    intro st hS
    cases st with
    | nil => rfl
    | cons _ _ => exact hS.elim
  | cons e S ih =>
    intro st hS
    obtain ⟨v, st', rfl, h1, -, h3⟩ := ak_gS_c hS
    rw [List.length_cons, List.length_cons, ih h3]
theorem ak_gS_mono (u : List Nat) : ∀ {S : ak_S} {st : List Value}, ak_gS s tb h lv S st → ak_gS (s ++ u) tb h lv S st := by
  intro S
  induction S with
  | nil =>
    intro st hS
    cases st with
    | nil => trivial
    | cons _ _ => exact hS.elim
  | cons e S ih =>
    intro st hS
    obtain ⟨v, st', rfl, h1, h2, h3⟩ := ak_gS_c hS
    exact ⟨ak_gam_mono h1, h2, ih h3⟩
theorem ak_gL_mono (u : List Nat) {L : ak_L} (hL : ak_gL s old lv L) : ak_gL (s ++ u) old lv L := by
  intro q hq
  obtain ⟨v, h1, h2, h3⟩ := hL q hq
  exact ⟨v, h1, ak_gam_mono h2, h3⟩
theorem ak_gS_app : ∀ {S S2 : ak_S} {st st2 : List Value}, ak_gS s tb h lv S st → ak_gS s tb h lv S2 st2 → ak_gS s tb h lv (S ++ S2) (st ++ st2) := by
  intro S
  induction S with
  | nil =>
    intro S2 st st2 hS h2
    cases st with
    | nil => exact h2
    | cons _ _ => exact hS.elim
  | cons e S ih =>
    intro S2 st st2 hS h2
    obtain ⟨v, st', rfl, h1, hp, h3⟩ := ak_gS_c hS
    exact ⟨h1, hp, ih h3 h2⟩
/-- what is known behind a call -/
theorem ak_bst_ok (htb : ak_tbOK T tb) {M' : ak_Mo} {R : Option ak_A} {L : ak_L} {S : ak_S} {F : ak_F} {u : List Nat} {h1 : aj_H} {r : Option Value} {q : ak_Q} {j : Option Nat} {v0 : Option Value} (hj : ∀ i, j = some i → aj_lv lv i = v0) (hq : ak_gQ tb h1 v0 q) (hL : ak_gL s old lv L) (hS : ak_gS s tb h lv S st) (hF : ak_gF tb h lv F) (he : ak_Ev T M' s h h1) (hr : ak_gR (s ++ u) R r) : ak_gAS (s ++ u) tb h1 old lv (r.toList ++ st) (ak_bst M' R q j L S F) := by
  refine ⟨ak_gL_mono u hL, ak_gS_app ?_ ?_, ?_⟩
  · unfold ak_gR at hr
    split at hr
    · trivial
    · exact ⟨hr, trivial, trivial⟩
    · exact hr.elim
  · refine ak_gS_h (f := ak_nop) (fun p v hp => ?_) (ak_gS_mono u hS)
    rcases p with _ | i | q
    · trivial
    · exact hp
    · trivial
  · intro z hz
    rcases List.mem_append.mp hz with hz | hz
    · cases j with
      | none => cases hz
      | some i =>
        obtain ⟨e, he1, rfl⟩ := List.mem_map.mp hz
        obtain ⟨r', c, fs, x, m1, m2, m3, m4⟩ := hq e he1
        exact ⟨r', c, fs, x, (hj i rfl).trans m1, m2, m3, m4⟩
    · obtain ⟨z1, z2⟩ := List.mem_filter.mp hz
      obtain ⟨r', c, fs, x, m1, m2, m3, m4⟩ := hF z z1
      obtain ⟨q1, q2⟩ := (ak_obj_h htb).mp m2
      obtain ⟨fs', k1, k2⟩ := he.2.1 _ _ _ q2
      have hn : (c, z.1.2) ∉ M'.2 := fun hm => by
        simp only [Bool.not_eq_true', List.any_eq_false, beq_iff_eq] at z2
        exact z2 _ hm rfl
      exact ⟨r', c, fs', x, m1, (ak_obj_h htb).mpr ⟨q1, k1⟩, by rw [k2 _ hn]; exact m3, m4⟩
def ak_gPL (lv : aj_V) : List ak_P → List Value → Prop
  | p :: P, v :: as => (∀ j, p = some (.inl j) → aj_lv lv j = some v) ∧ ak_gPL lv P as
  | [], [] => True
  | _, _ => False
theorem ak_gS_PL : ∀ {S : ak_S} {st : List Value}, ak_gS s tb h lv S st → ak_gPL lv (S.map (fun e => e.2)) st := by
  intro S
  induction S with
  | nil =>
    intro st hS
    cases st with
    | nil => trivial
    | cons _ _ => exact hS.elim
  | cons e S ih =>
    intro st hS
    obtain ⟨v, st', rfl, -, h2, h3⟩ := ak_gS_c hS
    refine ⟨fun j hj => ?_, ih h3⟩
    have hj : e.2 = some (.inl j) := hj
    rw [hj] at h2
    exact h2
theorem ak_gPL_app : ∀ {P Q : List ak_P} {as bs : List Value}, ak_gPL lv P as → ak_gPL lv Q bs → ak_gPL lv (P ++ Q) (as ++ bs) := by
  intro P
  induction P with
  | nil =>
    intro Q as bs hA hB
    cases as with
    | nil => exact hB
    | cons _ _ => exact hA.elim
  | cons x P ih =>
    intro Q as bs hA hB
    cases as with
    | nil => exact hA.elim
    | cons v as => exact ⟨hA.1, ih hA.2 hB⟩
theorem ak_gPL_rev : ∀ {P : List ak_P} {as : List Value}, ak_gPL lv P as → ak_gPL lv P.reverse as.reverse := by
  intro P
  induction P with
  | nil =>
    intro as hA
    cases as with
    | nil => trivial
    | cons _ _ => exact hA.elim
  | cons x P ih =>
    intro as hA
    cases as with
    | nil => exact hA.elim
    | cons v as =>
      rw [List.reverse_cons, List.reverse_cons]
      exact ak_gPL_app (ih hA.2) ⟨hA.1, trivial⟩
theorem ak_gPL_at : ∀ {P : List ak_P} {as : List Value} {i j : Nat} {v : Value}, ak_gPL lv P as → P[i]? = some (some (.inl j)) → as[i]? = some v → aj_lv lv j = some v := by
  intro P
  induction P with
  | nil => intro as i j v hA h1 _; simp at h1
  | cons p P ih =>
    intro as i j v hA h1 h2
    cases as with
    | nil => exact hA.elim
    | cons w as =>
      cases i with
      | zero =>
        simp only [List.getElem?_cons_zero, Option.some.injEq] at h1 h2
        subst h2
        exact hA.1 j h1
      | succ i =>
        simp only [List.getElem?_cons_succ] at h1 h2
        exact ih hA.2 h1 h2
theorem ak_win_and {p q : Int × Int} {x : Int32} (h1 : ak_win p x) (h2 : ak_win q x) : ak_win (ak_mx p.1 q.1, ak_mn p.2 q.2) x := by
  unfold ak_win ak_mx ak_mn at *
  dsimp only
  refine ⟨?_, ?_⟩ <;> split <;> omega
theorem ak_rfA_ok {P : List ak_P} {as : List Value} (hP : ak_gPL lv P as) : ∀ {q : ak_Q} {L : ak_L}, ak_gC as q → ak_gL s old lv L → ak_gL s old lv (ak_rfA P q L) := by
  intro q
  induction q with
  | nil => intro L _ hL; exact hL
  | cons e q ih =>
    intro L hq hL
    refine ih (fun e' he' => hq e' (List.mem_cons_of_mem _ he')) ?_
    split
    · rename_i j hj
      obtain ⟨x, hx, hw⟩ := hq e List.mem_cons_self
      have hlv := ak_gPL_at hP hj hx
      split
      · rename_i v o hv
        obtain ⟨w, k1, k2, -⟩ := ak_lkL_ok hL hv
        rw [hlv] at k1
        cases k1
        exact ak_apL_ok hL hlv (ak_win_and k2 hw)
      · exact hL
    · exact hL
theorem ak_bsts_ok (htb : ak_tbOK T tb) {con : ak_Con} {kap : aj_H → Int} {P : List ak_P} {as : List Value} {L : ak_L} {S : ak_S} {F : ak_F} {u : List Nat} {h1 : aj_H} {r : Option Value} {j : Option Nat} {k0 : Int} {gh : Nat → Int} (hj : ∀ i, j = some i → aj_lv lv i = as.head?) (hP : ak_gPL lv P as) (hL : ak_gL s old lv L) (hS : ak_gS s tb h lv S st) (hF : ak_gF tb h lv F) (he : ak_Ev T con.2.2.2.1 s h h1) (hr : ak_gR (s ++ u) con.2.2.1 r) (hp : ak_post kap tb con k0 gh as.head? r h1) (hc : ak_isT r → ak_gC as con.2.2.2.2.2.2.2.2.2.1) : ∃ b ∈ ak_bsts con P j L S F, ak_gAS (s ++ u) tb h1 old lv (r.toList ++ st) b.1 ∧ k0 + b.2.1 ≤ kap h1 ∧ b.2.2.1 = j ∧ ak_gD tb h1 as.head? gh b.2.2.2 := by
  unfold ak_bsts
  split
  · rename_i v hR
    rw [hR] at hr
    have hr0 := hr
    cases r with
    | none => exact hr.elim
    | some v' =>
      have hr : ak_gam (s ++ u) (.inl v) v' := hr
      obtain ⟨x, rfl, hx⟩ := ak_gi hr
      by_cases hx0 : x.toInt = 0
      · have hn : ¬ ak_isT (some (.int x)) := by
          rintro ⟨y, hy, hy2⟩
          cases hy
          exact hy2 hx0
        obtain ⟨p1, p2, p3⟩ := hp.2 hn
        split
        · rw [hR]
          exact ⟨(_, con.2.2.2.2.2.2.2.1, j, con.2.2.2.2.2.2.2.2.2.2.1), List.mem_singleton.mpr rfl, ak_bst_ok htb hj p2 hL hS hF he hr0, p1, rfl, p3⟩
        · refine ⟨(_, con.2.2.2.2.2.2.2.1, j, con.2.2.2.2.2.2.2.2.2.2.1), List.mem_append_left _ ?_, ak_bst_ok (R := some (.inl (0, 0))) htb hj p2 hL hS hF he (show ak_gam (s ++ u) (.inl (0, 0)) (.int x) from ak_win_k hx0), p1, rfl, p3⟩
          unfold ak_win at hx
          rw [if_pos (by omega)]
          exact List.mem_singleton.mpr rfl
      · have hn : ak_isT (some (.int x)) := ⟨x, rfl, hx0⟩
        obtain ⟨p1, p2, p3⟩ := hp.1 hn
        split
        · rename_i hq
          rw [hR]
          refine ⟨(_, con.2.2.2.2.2.2.2.1, j, con.2.2.2.2.2.2.2.2.2.2.1), List.mem_singleton.mpr rfl, ak_bst_ok htb hj (by rw [hq.1]; exact p2) hL hS hF he hr0, ?_, rfl, ?_⟩
          · dsimp only
            rw [hq.2.1]
            exact p1
          · dsimp only
            rw [hq.2.2.2]
            exact p3
        · have hL' := ak_rfA_ok hP (hc hn) hL
          unfold ak_win at hx
          by_cases hs : x.toInt < 0
          · refine ⟨(_, con.2.2.2.2.2.2.2.2.1, j, con.2.2.2.2.2.2.2.2.2.2.2), List.mem_append_right _ (List.mem_append_left _ ?_), ak_bst_ok (R := some (.inl (v.1, ak_mn v.2 (-1)))) htb hj p2 hL' hS hF he ?_, p1, rfl, p3⟩
            · rw [if_pos (by omega)]
              exact List.mem_singleton.mpr rfl
            · show v.1 ≤ x.toInt ∧ x.toInt ≤ ak_mn v.2 (-1)
              unfold ak_mn
              refine ⟨hx.1, ?_⟩
              split <;> omega
          · refine ⟨(_, con.2.2.2.2.2.2.2.2.1, j, con.2.2.2.2.2.2.2.2.2.2.2), List.mem_append_right _ (List.mem_append_right _ ?_), ak_bst_ok (R := some (.inl (ak_mx v.1 1, v.2))) htb hj p2 hL' hS hF he ?_, p1, rfl, p3⟩
            · rw [if_pos (by omega)]
              exact List.mem_singleton.mpr rfl
            · show ak_mx v.1 1 ≤ x.toInt ∧ x.toInt ≤ v.2
              unfold ak_mx
              refine ⟨?_, hx.2⟩
              split <;> omega
  · rename_i hno
    have hn : ¬ ak_isT r := by
      rintro ⟨y, rfl, -⟩
      unfold ak_gR at hr
      split at hr
      · rename_i z
        cases z
      · rename_i a' v' h1 z
        cases z
        rcases a' with q | q
        · exact hno q h1
        · rcases q with _ | q <;> exact hr.elim
      · exact hr.elim
    obtain ⟨p1, p2, p3⟩ := hp.2 hn
    exact ⟨(_, con.2.2.2.2.2.2.2.1, j, con.2.2.2.2.2.2.2.2.2.2.1), List.mem_singleton.mpr rfl, ak_bst_ok htb hj p2 hL hS hF he hr, p1, rfl, p3⟩
theorem ak_hasF_ok {F : ak_F} {j k : Nat} {iv : Int × Int} (hF : ak_gF tb h lv F) (h0 : ak_hasF F j k iv = true) : ∃ (r c : Nat) (fs : List Value) (x : Int32), aj_lv lv j = some (.ref r) ∧ aj_obj tb h r = some (c, fs) ∧ fs[k]? = some (.int x) ∧ ak_winq iv x := by
  unfold ak_hasF at h0
  obtain ⟨z, hz, hz2⟩ := List.any_eq_true.mp h0
  simp only [Bool.and_eq_true, beq_iff_eq, decide_eq_true_eq] at hz2
  obtain ⟨⟨⟨e1, e2⟩, e3⟩, e4⟩ := hz2
  obtain ⟨r, c, fs, x, k1, k2, k3, k4⟩ := hF z hz
  exact ⟨r, c, fs, x, by rw [← e1]; exact k1, k2, by rw [← e2]; exact k3, Int.le_trans e3 k4.1, Int.le_trans k4.2 e4⟩
theorem ak_pre_ok {F : ak_F} {p : ak_P} {q : ak_Q} {v : Value} (hF : ak_gF tb h lv F) (hp : ak_gP tb h lv p v) (h0 : ak_pre F (ak_loc p) q = true) : ak_gQ tb h (some v) q := by
  intro e he
  have := List.all_eq_true.mp h0 e he
  split at this
  · rename_i j hj
    obtain ⟨r, c, fs, x, k1, k2⟩ := ak_hasF_ok hF this
    refine ⟨r, c, fs, x, ?_, k2⟩
    rcases p with _ | i | q
    · cases hj
    · cases hj
      exact hp.symm.trans k1
    · cases hj
  · cases this
theorem ak_loc_ok {p : ak_P} {v : Value} (hp : ak_gP tb h lv p v) : ∀ i, ak_loc p = some i → aj_lv lv i = some v := by
  intro i hi
  rcases p with _ | j | q
  · cases hi
  · cases hi
    exact hp
  · cases hi
def ak_pops (lk : List aj_L) (idx : Nat) : Nat := match aj_link lk idx with
  | some (kind, _, n, _) => if kind = 6 then n else n + 1
  | none => 0
theorem ak_ac_ok (htb : ak_tbOK T tb) {kap : aj_H → Int} (hT : ak_Ty T s h) (hSP : SP s h) {d : Nat} {lo hi idx : Nat} {con : ak_Con} (hcon : ak_CT T SP kap tb d con) (ha : ak_gAS s tb h old lv st a) {l : List (ak_AS × Int × Option Nat × ak_D)} (h0 : ak_ac T M lk lo hi idx a con = some l) : ∃ kind mi as st' u r h1, aj_call lo hi tb lk pc idx lv st h = some (.inr (.inl (kind, mi, as, (pc + 3, lv, st')))) ∧ kind ≠ 5 ∧ aj_runs aj_rc aj_cls tb aj_mt d mi as h u.length (ak_slo T u) r h1 ∧ ak_Ty T (s ++ u) h1 ∧ SP (s ++ u) h1 ∧ ak_Ev T M s h h1 ∧ ak_Ev T con.2.2.2.1 s h h1 ∧ st' = st.drop (ak_pops lk idx) ∧ ak_gR (s ++ u) con.2.2.1 r ∧ ∃ b ∈ l, ak_gAS (s ++ u) tb h1 old lv (r.toList ++ st') b.1 ∧ kap h + b.2.1 ≤ kap h1 ∧ ∀ i, b.2.2.1 = some i → ak_gD tb h1 (aj_lv lv i) (ak_fv tb h (aj_lv lv i)) b.2.2.2 := by
  obtain ⟨L, S, F⟩ := a
  obtain ⟨hL, hS, hF⟩ := ha
  unfold ak_ac at h0
  dsimp only at h0
  unfold ak_pops
  split at h0
  · rename_i kind mi n v hlk
    split at h0
    · rename_i hq
      obtain ⟨q1, q2, q3, q4, q5, q6⟩ := hq
      have hsub : (∀ t ∈ con.2.2.2.1.1, t ∈ M.1) ∧ ∀ q ∈ con.2.2.2.1.2, q ∈ M.2 := by
        refine ⟨fun t ht => ?_, fun q hq => ?_⟩
        · have := List.all_eq_true.mp q5 t ht
          simpa using this
        · have := List.all_eq_true.mp q6 q hq
          simpa using this
      obtain ⟨d1, d2⟩ := ak_gS_drop n hS
      split at h0
      · rename_i h6
        split at h0
        · rename_i hq
          cases h0
          have hA : ak_gA s con.2.1 (st.take n).reverse := ak_leA_ok (by rw [List.map_reverse]; exact ak_gA_rev (ak_gS_A d2)) hq.2.2.1
          obtain ⟨u, r, h1, k1, k2, k3, k4, k5, k6, k7⟩ := hcon d (Nat.le_refl _) s h _ hT hSP hA (by rw [hq.2.2.2]; intro e he; cases he)
          obtain ⟨b, b1, b2, b3, b4, b5⟩ := ak_bsts_ok (j := none) (P := (S.take n).reverse.map (fun e => e.2)) htb (fun i hi => by cases hi) (by rw [List.map_reverse]; exact ak_gPL_rev (ak_gS_PL d2)) hL d1 hF k4 k5 k6 k7
          refine ⟨kind, mi, (st.take n).reverse, st.drop n, u, r, h1, ?_, q3, by rw [q4]; exact k1, k2, k3, ak_Ev_sub hsub k4, k4, ?_, k5, b, b1, b2, b3, fun i hi => by rw [b4] at hi; cases hi⟩
          · unfold aj_call
            simp only [hlk]
            rw [if_pos ⟨q1, q2⟩, if_pos h6]
            exact if_pos ⟨by rw [ak_gS_len hS]; exact hq.1, by rw [ak_gS_sum d1]; exact hq.2.1⟩
          · rw [if_pos h6]
        · cases h0
      · rename_i h6
        split at h0
        · rename_i ts p R hR
          split at h0
          · rename_i hq
            cases h0
            rw [hR] at d1
            obtain ⟨w, st', hst, g1, gp, g3⟩ := ak_gS_c d1
            rcases ak_gr g1 with ⟨-, z⟩ | ⟨b, t, rfl, ht, hty⟩
            · cases z
            · have hA : ak_gA s con.2.1 (.ref b :: (st.take n).reverse) := ak_leA_ok (A := .inr (some (ts, false)) :: ((S.take n).reverse.map (fun e => e.1))) ⟨g1, by rw [List.map_reverse]; exact ak_gA_rev (ak_gS_A d2)⟩ hq.2.2.1
              obtain ⟨u, r, h1, k1, k2, k3, k4, k5, k6, k7⟩ := hcon d (Nat.le_refl _) s h _ hT hSP hA (ak_pre_ok hF gp hq.2.2.2)
              obtain ⟨b', b1, b2, b3, b4, b5⟩ := ak_bsts_ok (as := .ref b :: (st.take n).reverse) (P := p :: (S.take n).reverse.map (fun e => e.2)) htb (ak_loc_ok gp) ⟨fun j hj => by rw [hj] at gp; exact gp, by rw [List.map_reverse]; exact ak_gPL_rev (ak_gS_PL d2)⟩ hL g3 hF k4 k5 k6 k7
              refine ⟨kind, mi, .ref b :: (st.take n).reverse, st', u, r, h1, ?_, q3, by rw [q4]; exact k1, k2, k3, ak_Ev_sub hsub k4, k4, ?_, k5, b', b1, b2, b3, fun i hi => ?_⟩
              · unfold aj_call
                simp only [hlk]
                rw [if_pos ⟨q1, q2⟩, if_neg h6, hst]
                refine if_pos ⟨fun h2 => ?_, by rw [ak_gS_sum g3]; exact hq.2.1⟩
                obtain ⟨fs, fa, m1, -⟩ := ak_ty_obj htb hT hty (List.all_eq_true.mp (hq.1 h2) t ht)
                unfold aj_rcv
                rw [m1]
                simp
              · rw [if_neg h6, ← List.drop_drop, hst]
                rfl
              · rw [b4] at hi
                rw [ak_loc_ok gp i hi]
                exact b5
          · cases h0
        · cases h0
    · cases h0
  · cases h0
theorem ak_a6_ok (rc : Nat) (cls : List aj_C) (nL : Nat) (ret : Option FieldType) (isI : Bool) {i : Instr} (ha : ak_gAS s tb h old lv st a) (h0 : ak_a6 lk i len a = some a') : ∃ st', aj_step rc cls tb lk nL ret isI i len pc lv st h = some (.inl ((pc + len, lv, st'), h, 0, 0)) ∧ ak_gAS s tb h old lv st' a' := by
  obtain ⟨L, S, F⟩ := a
  obtain ⟨hL, hS, hF⟩ := ha
  unfold ak_a6 at h0
  split at h0
  · rename_i idx
    dsimp only at h0
    split at h0
    · rename_i q p1 p p2 R kind x1 x2 x3 hlk
      split at h0
      · rename_i hq
        obtain ⟨rfl, hq⟩ := hq
        obtain ⟨v1, st1, rfl, g1, -, g3⟩ := ak_gS_c hS
        obtain ⟨v2, st2, rfl, g4, -, g6⟩ := ak_gS_c g3
        obtain ⟨y, rfl, hw1⟩ := ak_gi g1
        obtain ⟨x, rfl, hw2⟩ := ak_gi g4
        have hsum : aj_sum st2 ≤ 8 := by rw [ak_gS_sum g6]; exact hq
        unfold ak_win at hw1 hw2
        split at h0
        · rename_i h7
          subst h7
          cases h0
          refine ⟨.int (if y < x then y else x) :: st2, ?_, hL, ⟨?_, trivial, g6⟩, hF⟩
          · unfold aj_step
            dsimp only
            rw [if_pos rfl]
            have e : aj_isNat lk idx = true := by
              unfold aj_isNat
              rw [hlk]
              rfl
            rw [if_pos e]
            unfold aj_nat
            simp only [hlk]
            unfold aj_nmm
            exact if_pos hsum
          · show ak_mn p.1 q.1 ≤ Int32.toInt _ ∧ Int32.toInt _ ≤ ak_mn p.2 q.2
            have a1 := ak_mn_le p.1 q.1
            have a2 : ak_mn p.2 q.2 = p.2 ∨ ak_mn p.2 q.2 = q.2 := by
              unfold ak_mn
              split
              · exact Or.inl rfl
              · exact Or.inr rfl
            split
            · rename_i hlt
              have hlt := Int32.lt_iff_toInt_lt.mp hlt
              rcases a2 with a2 | a2 <;> rw [a2] <;> omega
            · rename_i hlt
              have hlt := Int32.le_iff_toInt_le.mp (Int32.not_lt.mp hlt)
              rcases a2 with a2 | a2 <;> rw [a2] <;> omega
        · split at h0
          · rename_i h7
            subst h7
            cases h0
            refine ⟨.int (if x < y then y else x) :: st2, ?_, hL, ⟨?_, trivial, g6⟩, hF⟩
            · unfold aj_step
              dsimp only
              rw [if_pos rfl]
              have e : aj_isNat lk idx = true := by
                unfold aj_isNat
                rw [hlk]
                rfl
              rw [if_pos e]
              unfold aj_nat
              simp only [hlk]
              unfold aj_nmm
              exact if_pos hsum
            · show ak_mx p.1 q.1 ≤ Int32.toInt _ ∧ Int32.toInt _ ≤ ak_mx p.2 q.2
              have a1 := ak_mx_ge p.2 q.2
              have a2 : ak_mx p.1 q.1 = p.1 ∨ ak_mx p.1 q.1 = q.1 := by
                unfold ak_mx
                split
                · exact Or.inr rfl
                · exact Or.inl rfl
              split
              · rename_i hlt
                have hlt := Int32.lt_iff_toInt_lt.mp hlt
                rcases a2 with a2 | a2 <;> rw [a2] <;> omega
              · rename_i hlt
                have hlt := Int32.le_iff_toInt_le.mp (Int32.not_lt.mp hlt)
                rcases a2 with a2 | a2 <;> rw [a2] <;> omega
          · cases h0
      · cases h0
    · cases h0
  · cases h0
theorem ak_ar_ok (rc : Nat) (cls : List aj_C) (nL : Nat) {ret : Option FieldType} (isI : Bool) {i : Instr} {S : ak_S} {R : Option ak_A} (hS : ak_gS s tb h lv S st) (h0 : ak_ar i len ret S R = true) : ∃ r, aj_step rc cls tb lk nL ret isI i len pc lv st h = some (.inr (.inr r)) ∧ ak_gR s R r ∧ r = st.head? ∧ st.tail = [] := by
  unfold ak_ar at h0
  rw [Bool.and_eq_true, decide_eq_true_eq] at h0
  obtain ⟨rfl, h0⟩ := h0
  split at h0
  · cases st with
    | nil => exact ⟨none, rfl, trivial, rfl, rfl⟩
    | cons _ _ => exact hS.elim
  · obtain ⟨v1, st1, rfl, g1, -, g3⟩ := ak_gS_c hS
    obtain ⟨x, rfl, hw⟩ := ak_gi g1
    cases st1 with
    | nil => exact ⟨some (.int x), rfl, ak_sub_ok g1 h0, rfl, rfl⟩
    | cons _ _ => exact g3.elim
  · obtain ⟨v1, st1, rfl, g1, -, g3⟩ := ak_gS_c hS
    obtain ⟨x, rfl, hw⟩ := ak_gi g1
    rw [Bool.and_eq_true] at h0
    cases st1 with
    | nil =>
      refine ⟨some (.int x), ?_, ak_sub_ok g1 h0.1, rfl, rfl⟩
      unfold aj_step
      dsimp only
      rw [if_pos rfl]
      exact if_pos ⟨rfl, ak_fitA_ok (ty := .boolean) (x := .inl (0, 1)) (ak_sub_ok g1 h0.2) rfl⟩
    | cons _ _ => exact g3.elim
  · obtain ⟨v1, st1, rfl, g1, -, g3⟩ := ak_gS_c hS
    obtain ⟨x, rfl⟩ := ak_gl g1
    cases st1 with
    | nil => exact ⟨some (.long x), rfl, ak_sub_ok g1 h0, rfl, rfl⟩
    | cons _ _ => exact g3.elim
  · obtain ⟨v1, st1, rfl, g1, -, g3⟩ := ak_gS_c hS
    cases st1 with
    | nil =>
      rcases ak_gr g1 with ⟨rfl, -⟩ | ⟨r, t, rfl, -⟩
      · exact ⟨some .null, rfl, ak_sub_ok g1 h0, rfl, rfl⟩
      · exact ⟨some (.ref r), rfl, ak_sub_ok g1 h0, rfl, rfl⟩
    | cons _ _ => exact g3.elim
  · obtain ⟨v1, st1, rfl, g1, -, g3⟩ := ak_gS_c hS
    cases st1 with
    | nil =>
      rcases ak_gr g1 with ⟨rfl, -⟩ | ⟨r, t, rfl, -⟩
      · exact ⟨some .null, rfl, ak_sub_ok g1 h0, rfl, rfl⟩
      · exact ⟨some (.ref r), rfl, ak_sub_ok g1 h0, rfl, rfl⟩
    | cons _ _ => exact g3.elim
  · cases h0
theorem ak_st_ok (htb : ak_tbOK T tb) (hT : ak_Ty T s h) (hSP : SP s h) (hc : ak_SPc T SP) (rc : Nat) (cls : List aj_C) (nL : Nat) (ret : Option FieldType) (isI : Bool) {i : Instr} {succs : List (Nat × ak_AS)} (ha : ak_gAS s tb h old lv st a) (h0 : ak_st T cls M lk nL i len pc a = some succs) : ∃ pc' lv' st' h' a', aj_step rc cls tb lk nL ret isI i len pc lv st h = some (.inl ((pc', lv', st'), h', 0, 0)) ∧ (pc', a') ∈ succs ∧ ak_Ty T s h' ∧ SP s h' ∧ ak_Ev T M s h h' ∧ ak_gAS s tb h' old lv' st' a' ∧ (ak_no0 i = true → ∀ v0, aj_lv lv 0 = some v0 → v0.category = 1 → aj_lv lv' 0 = some v0) := by
  unfold ak_st at h0
  split at h0
  · rename_i S' h1
    cases h0
    obtain ⟨st', k1, k2⟩ := ak_a1_ok (pc := pc) rc cls lk nL ret isI ha.2.1 h1
    exact ⟨_, lv, st', h, _, k1, List.mem_singleton.mpr rfl, hT, hSP, ak_Ev_rf, ⟨ha.1, k2, ha.2.2⟩, fun _ _ hv _ => hv⟩
  · split at h0
    · rename_i b h1
      cases h0
      obtain ⟨lv', st', k1, k2, k3⟩ := ak_a2_ok (pc := pc) rc cls lk ret isI ha h1
      exact ⟨_, lv', st', h, _, k1, List.mem_singleton.mpr rfl, hT, hSP, ak_Ev_rf, k2, k3⟩
    · split at h0
      · rename_i l h1
        cases h0
        obtain ⟨pc', st', a', k1, k2, k3⟩ := ak_a3_ok rc cls lk nL ret isI ha h1
        exact ⟨pc', lv, st', h, a', k1, k2, hT, hSP, ak_Ev_rf, k3, fun _ _ hv _ => hv⟩
      · split at h0
        · rename_i b h1
          cases h0
          obtain ⟨st', k1, k2⟩ := ak_a4_ok (pc := pc) htb hT rc cls nL ret isI ha h1
          exact ⟨_, lv, st', h, _, k1, List.mem_singleton.mpr rfl, hT, hSP, ak_Ev_rf, k2, fun _ _ hv _ => hv⟩
        · split at h0
          · rename_i b h1
            cases h0
            obtain ⟨st', h', k1, k2, k3, k4, k5⟩ := ak_a5_ok (pc := pc) htb hT hSP hc rc cls nL ret isI ha h1
            exact ⟨_, lv, st', h', _, k1, List.mem_singleton.mpr rfl, k2, k3, k4, k5, fun _ _ hv _ => hv⟩
          · split at h0
            · rename_i b h1
              cases h0
              obtain ⟨st', k1, k2⟩ := ak_a6_ok (pc := pc) rc cls nL ret isI ha h1
              exact ⟨_, lv, st', h, _, k1, List.mem_singleton.mpr rfl, hT, hSP, ak_Ev_rf, k2, fun _ _ hv _ => hv⟩
            · cases h0
theorem ak_rp_ok {kap : aj_H → Int} {con : ak_Con} {z : Bool} {F : ak_F} {S : ak_S} {eps k0 : Int} {gh : Nat → Int} {v0 : Option Value} {r : Option Value} (hS : ak_gS s tb h lv S st) (hF : ak_gF tb h lv F) (hz : z = true → aj_lv lv 0 = v0) (hk : k0 + eps ≤ kap h) (hr : r = st.head?) (htl : st.tail = []) (hd1 : (ak_may S).1 = true → ak_gD tb h v0 gh con.2.2.2.2.2.2.2.2.2.2.2) (hd0 : (ak_may S).2 = true → ak_gD tb h v0 gh con.2.2.2.2.2.2.2.2.2.2.1) (h0 : ak_rp z con F eps (ak_may S) = true) : ak_post kap tb con k0 gh v0 r h := by
  unfold ak_rp at h0
  rw [Bool.and_eq_true, Bool.or_eq_true, Bool.or_eq_true, Bool.and_eq_true, Bool.and_eq_true, decide_eq_true_eq, decide_eq_true_eq] at h0
  have hQ : ∀ q : ak_Q, q.all (fun e => z && ak_hasF F 0 e.1 e.2) = true → ak_gQ tb h v0 q := by
    intro q hq e he
    have := List.all_eq_true.mp hq e he
    rw [Bool.and_eq_true] at this
    obtain ⟨r, c, fs, x, k1, k2⟩ := ak_hasF_ok hF this.2
    exact ⟨r, c, fs, x, (hz this.1).symm.trans k1, k2⟩
  have hone : ∀ x : Int32, r = some (.int x) → ∃ q p, S = [(.inl q, p)] ∧ ak_win q x := by
    intro x hx
    rw [hx] at hr
    cases st with
    | nil => cases hr
    | cons v st =>
      cases hr
      cases htl
      cases S with
      | nil => exact hS.elim
      | cons e S =>
        cases S with
        | nil =>
          obtain ⟨a, p⟩ := e
          rcases a with q | q
          · exact ⟨q, p, rfl, hS.1⟩
          · rcases q with _ | q <;> exact hS.1.elim
        | cons _ _ => exact hS.2.2.elim
  refine ⟨fun hT => ?_, fun hT => ?_⟩
  · obtain ⟨x, hx, hx0⟩ := hT
    obtain ⟨q, p, rfl, hw⟩ := hone x hx
    unfold ak_win at hw
    have hm : (ak_may [(.inl q, p)]).1 = true := by
      show (!(decide (q.1 = 0) && decide (q.2 = 0))) = true
      rw [Bool.not_eq_true', Bool.and_eq_false_iff, decide_eq_false_iff_not, decide_eq_false_iff_not]
      omega
    rcases h0.1 with z1 | z1
    · rw [hm] at z1
      cases z1
    · exact ⟨by omega, hQ _ z1.2, hd1 hm⟩
  · have hm : (ak_may S).2 = true := by
      unfold ak_may
      split
      · rename_i q p
        cases st with
        | nil => exact hS.elim
        | cons v st =>
          obtain ⟨x, rfl, hw⟩ := ak_gi hS.1
          unfold ak_win at hw
          have : x.toInt = 0 := Classical.byContradiction fun hx => hT ⟨x, hr, hx⟩
          rw [Bool.and_eq_true, decide_eq_true_eq, decide_eq_true_eq]
          omega
      · rfl
    rcases h0.2 with z1 | z1
    · rw [hm] at z1
      cases z1
    · exact ⟨by omega, hQ _ z1.2, hd0 hm⟩
end AKEX
