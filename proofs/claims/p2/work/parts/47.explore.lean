/-! THE CHECKER: calls, ends, all ways of a method, what falls -/
def ak_leA : List ak_A → List ak_A → Bool
  | [], [] => true
  | a :: A, b :: B => ak_sub a b && ak_leA A B
  | _, _ => false
def ak_nop (p : ak_P) : ak_P := match p with
  | some (.inr _) => none
  | _ => p
def ak_cats (S : ak_S) : Nat := (S.map (fun e => ak_cat e.1)).sum
/-- behind a call -/
def ak_beh (M : ak_Mo) (R : Option ak_A) (L : ak_L) (S : ak_S) (F : ak_F) : ak_AS := (L, R.toList.map (fun x => (x, none)) ++ S.map (fun e => (e.1, ak_nop e.2)), F.filter (fun z => !(M.2.any (fun q => q.2 == z.1.2))))
abbrev ak_Con : Type := Nat × List ak_A × Option ak_A × ak_Mo
def ak_ac (T : ak_TT) (M : ak_Mo) (lk : List aj_L) (lo hi idx : Nat) (a : ak_AS) (con : ak_Con) : Option ak_AS := match aj_link lk idx with
  | some (kind, mi, n, v) => if lo ≤ kind ∧ kind ≤ hi ∧ kind ≠ 5 ∧ mi = con.1 ∧ con.2.2.2.1.all (fun t => M.1.contains t) = true ∧ con.2.2.2.2.all (fun q => M.2.contains q) = true then
      (if kind = 6 then (if n ≤ a.2.1.length ∧ ak_cats (a.2.1.drop n) ≤ 8 ∧ ak_leA ((a.2.1.take n).reverse.map (fun e => e.1)) con.2.1 = true then some (ak_beh con.2.2.2 con.2.2.1 a.1 (a.2.1.drop n) a.2.2) else none)
       else match a.2.1.drop n with
        | (.inr (some (ts, false)), _) :: R => if (kind = 2 → ts.all (ak_isC T v.toNat) = true) ∧ ak_cats R ≤ 8 ∧ ak_leA (.inr (some (ts, false)) :: (a.2.1.take n).reverse.map (fun e => e.1)) con.2.1 = true then some (ak_beh con.2.2.2 con.2.2.1 a.1 R a.2.2) else none
        | _ => none) else none
  | none => none
def ak_aci (T : ak_TT) (M : ak_Mo) (lk : List aj_L) (i : Instr) (len : Nat) (a : ak_AS) (con : ak_Con) : Option ak_AS := match i with
  | .invokevirtual idx => if len = 3 then ak_ac T M lk 2 2 idx a con else none
  | .invokespecial idx => if len = 3 then ak_ac T M lk 3 5 idx a con else none
  | .invokestatic idx => if len = 3 ∧ aj_isNat lk idx = false then ak_ac T M lk 6 6 idx a con else none
  | _ => none
def ak_a6 (lk : List aj_L) (i : Instr) (len : Nat) (a : ak_AS) : Option ak_AS := match i with
  | .invokestatic idx => (match a.2.1, aj_link lk idx with
    | (.inl q, _) :: (.inl p, _) :: R, some (kind, _, _, _) => if len = 3 ∧ ak_cats R ≤ 8 then (if kind = 7 then some (a.1, (.inl (ak_mn p.1 q.1, ak_mn p.2 q.2), none) :: R, a.2.2) else if kind = 8 then some (a.1, (.inl (ak_mx p.1 q.1, ak_mx p.2 q.2), none) :: R, a.2.2) else none) else none
    | _, _ => none)
  | _ => none
def ak_ar (i : Instr) (len : Nat) (ret : Option FieldType) (S : ak_S) (R : Option ak_A) : Bool := decide (len = 1) && match i, S, ret, R with
  | .return_, [], none, none => true
  | .ireturn, [(.inl q, _)], some .int, some y => ak_sub (.inl q) y
  | .ireturn, [(.inl q, _)], some .boolean, some y => ak_sub (.inl q) y && ak_sub (.inl q) (.inl (0, 1))
  | .lreturn, [(.inr none, _)], some .long, some y => ak_sub (.inr none) y
  | .areturn, [(.inr (some q), _)], some (.object _), some y => ak_sub (.inr (some q)) y
  | .areturn, [(.inr (some q), _)], some (.array _), some y => ak_sub (.inr (some q)) y
  | _, _, _, _ => false
def ak_st (T : ak_TT) (cls : List aj_C) (M : ak_Mo) (lk : List aj_L) (nL : Nat) (i : Instr) (len pc : Nat) (a : ak_AS) : Option (List (Nat × ak_AS)) := match ak_a1 i len a.2.1 with
  | some S => some [(pc + len, (a.1, S, a.2.2))]
  | none => match ak_a2 nL i len a with
    | some b => some [(pc + len, b)]
    | none => match ak_a3 i len pc a with
      | some l => some l
      | none => match ak_a4 T lk i len a with
        | some b => some [(pc + len, b)]
        | none => match ak_a5 T cls M lk i len a with
          | some b => some [(pc + len, b)]
          | none => match ak_a6 lk i len a with
            | some b => some [(pc + len, b)]
            | none => none
/-- counters: a local, whether it grows, its bound -/
abbrev ak_C : Type := List (Nat × Bool × Int)
/-- a place at which states are told: pc, locals, stack, fields, weights of the counters, place in the order -/
abbrev ak_Pt : Type := Nat × List (Nat × ak_A) × List ak_A × ak_F × List Nat × Nat
def ak_term (x : Nat → Int) (c : Nat × Bool × Int) : Int := if c.2.1 = true then c.2.2 - x c.1 else x c.1 - c.2.2
def ak_mu (x : Nat → Int) : ak_C → List Nat → Int
  | c :: C, w :: W => (w : Int) * ak_term x c + ak_mu x C W
  | _, _ => 0
def ak_nn (x : Nat → Int) : ak_C → List Nat → Prop
  | c :: C, w :: W => (w ≠ 0 → 0 ≤ ak_term x c) ∧ ak_nn x C W
  | _, _ => True
def ak_dec (L : ak_L) : ak_C → List Nat → List Nat → Option Int
  | [], [], [] => some 0
  | c :: C, w :: W, w' :: W' => match ak_dec L C W W' with
    | none => none
    | some e => if w' = 0 then some e else match ak_lkL L c.1 with
      | some (.inl q, o) => if (c.2.1 = true ∧ q.2 ≤ c.2.2) ∨ (c.2.1 = false ∧ c.2.2 ≤ q.1) then (match o with
          | some z => if w' = w then some (e + (if c.2.1 = true then -((w : Int) * z) else (w : Int) * z)) else some (e + (w' : Int) * (if c.2.1 = true then c.2.2 - q.1 else q.2 - c.2.2))
          | none => some (e + (w' : Int) * (if c.2.1 = true then c.2.2 - q.1 else q.2 - c.2.2))) else none
      | _ => none
  | _, _, _ => none
def ak_iv (lv : aj_V) (j : Nat) : Int := match aj_lv lv j with
  | some (.int x) => x.toInt
  | _ => 0
def ak_o0 (a : ak_A) : Option Int := match a with
  | .inl _ => some 0
  | _ => none
def ak_ptAS (pt : ak_Pt) : ak_AS := (pt.2.1.map (fun q => (q.1, q.2, ak_o0 q.2)), pt.2.2.1.map (fun x => (x, none)), pt.2.2.2.1)
def ak_le (a : ak_AS) (pt : ak_Pt) : Bool := pt.2.1.all (fun q => match ak_lkL a.1 q.1 with
  | some (x, _) => ak_sub x q.2
  | none => false) && (ak_leA (a.2.1.map (fun e => e.1)) pt.2.2.1 && pt.2.2.2.1.all (fun q => a.2.2.any (fun z => z.1.1 == q.1.1 && z.1.2 == q.1.2 && decide (q.2.1 ≤ z.2.1) && decide (z.2.2 ≤ q.2.2))))
def ak_ex (T : ak_TT) (cls : List aj_C) (M : ak_Mo) (lk : List aj_L) (nL : Nat) (ret : Option FieldType) (R : Option ak_A) (ct : List (Nat × Instr × Nat)) (cs : List (Nat × ak_Con)) (pts : List ak_Pt) (C : ak_C) (W : List Nat) (pos : Nat) : Nat → Bool → Nat → ak_AS → Bool
  | 0, _, _, _ => false
  | n + 1, first, pc, a => match (if first = true then none else pts.find? (fun q => q.1 == pc)) with
    | some pt => ak_le a pt && (match ak_dec a.1 C W pt.2.2.2.2.1 with
      | some e => decide (e + (pt.2.2.2.2.2 : Int) < (pos : Int))
      | none => false)
    | none => match aj_ct ct pc with
      | none => false
      | some (i, len) => match ak_st T cls M lk nL i len pc a with
        | some succs => succs.all (fun q => ak_ex T cls M lk nL ret R ct cs pts C W pos n false q.1 q.2)
        | none => match cs.find? (fun q => q.1 == pc) with
          | some con => (match ak_aci T M lk i len a con.2 with
            | some b => ak_ex T cls M lk nL ret R ct cs pts C W pos n false (pc + 3) b
            | none => false)
          | none => ak_ar i len ret a.2.1 R
section AKEX
variable {T : ak_TT} {SP : List Nat → aj_H → Prop} {M : ak_Mo} {s : List Nat} {tb : aj_T} {h : aj_H} {old : Nat → Int} {lv : aj_V} {st : List Value} {a a' : ak_AS} {v w : Value} {pc len : Nat} {lk : List aj_L}
theorem ak_mu_nn {x : Nat → Int} : ∀ {C : ak_C} {W : List Nat}, ak_nn x C W → 0 ≤ ak_mu x C W := by
  intro C
  induction C with
  | nil => intro W _; cases W <;> exact Int.le_refl _
  | cons c C ih =>
    intro W h
    cases W with
    | nil => exact Int.le_refl _
    | cons w W =>
      have h2 := ih h.2
      show 0 ≤ (w : Int) * ak_term x c + ak_mu x C W
      have h1 : 0 ≤ (w : Int) * ak_term x c := by
        by_cases hw : w = 0
        · subst hw
          simp
        · exact Int.mul_nonneg (Int.natCast_nonneg _) (h.1 hw)
      omega
theorem ak_dec_ok {L : ak_L} (hL : ak_gL s old lv L) : ∀ {C : ak_C} {W W' : List Nat} {e : Int}, ak_dec L C W W' = some e → ak_nn old C W → ak_nn (ak_iv lv) C W' ∧ ak_mu (ak_iv lv) C W' ≤ ak_mu old C W + e := by
  intro C
  induction C with
  | nil =>
    intro W W' e h0 _
    cases W with
    | nil =>
      cases W' with
      | nil =>
        cases h0
        exact ⟨trivial, Int.le_refl _⟩
      | cons _ _ => cases h0
    | cons _ _ => cases h0
  | cons c C ih =>
    intro W W' e h0 hn
    cases W with
    | nil => cases h0
    | cons w W =>
      cases W' with
      | nil => cases h0
      | cons w' W' =>
        unfold ak_dec at h0
        have hw0 : 0 ≤ (w : Int) * ak_term old c := by
          by_cases hw : w = 0
          · subst hw
            simp
          · exact Int.mul_nonneg (Int.natCast_nonneg _) (hn.1 hw)
        split at h0
        · cases h0
        · rename_i e0 he0
          obtain ⟨g1, g2⟩ := ih he0 hn.2
          split at h0
          · rename_i hz
            subst hz
            cases h0
            refine ⟨⟨fun z => absurd rfl z, g1⟩, ?_⟩
            show ((0 : Nat) : Int) * ak_term _ c + ak_mu _ C W' ≤ (w : Int) * ak_term old c + ak_mu old C W + e
            simp only [Int.natCast_zero, Int.zero_mul, Int.zero_add]
            omega
          · rename_i hz
            split at h0
            · rename_i q o hlk
              obtain ⟨v, k1, k2, k3⟩ := ak_lkL_ok hL hlk
              obtain ⟨x, rfl, hw⟩ := ak_gi k2
              have hx : ak_iv lv c.1 = x.toInt := by
                unfold ak_iv
                rw [k1]
              unfold ak_win at hw
              split at h0
              · rename_i hb
                have ht : 0 ≤ ak_term (ak_iv lv) c ∧ ak_term (ak_iv lv) c ≤ (if c.2.1 = true then c.2.2 - q.1 else q.2 - c.2.2) := by
                  unfold ak_term
                  rw [hx]
                  rcases hb with ⟨b1, b2⟩ | ⟨b1, b2⟩
                  · rw [if_pos b1, if_pos b1]
                    omega
                  · rw [if_neg (by rw [b1]; decide), if_neg (by rw [b1]; decide)]
                    omega
                have far : ∀ e, some (e0 + (w' : Int) * (if c.2.1 = true then c.2.2 - q.1 else q.2 - c.2.2)) = some e → ak_mu (ak_iv lv) (c :: C) (w' :: W') ≤ ak_mu old (c :: C) (w :: W) + e := by
                  intro e he
                  cases he
                  show (w' : Int) * ak_term _ c + ak_mu _ C W' ≤ (w : Int) * ak_term old c + ak_mu old C W + _
                  have hm := Int.mul_le_mul_of_nonneg_left ht.2 (Int.natCast_nonneg w')
                  omega
                refine ⟨⟨fun _ => ht.1, g1⟩, ?_⟩
                split at h0
                · rename_i z
                  split at h0
                  · rename_i hww
                    subst hww
                    cases h0
                    obtain ⟨y, hy, hy2⟩ := k3 z rfl
                    cases hy
                    show (w' : Int) * ak_term _ c + ak_mu _ C W' ≤ (w' : Int) * ak_term old c + ak_mu old C W + _
                    have e1 : ak_term (ak_iv lv) c = ak_term old c + (if c.2.1 = true then -z else z) := by
                      unfold ak_term
                      rw [hx, hy2]
                      split <;> omega
                    have e2 : (w' : Int) * (if c.2.1 = true then -z else z) = (if c.2.1 = true then -((w' : Int) * z) else (w' : Int) * z) := by
                      split
                      · exact Int.mul_neg _ _
                      · rfl
                    rw [e1, Int.mul_add, e2]
                    omega
                  · exact far _ h0
                · exact far _ h0
              · cases h0
            · cases h0
theorem ak_leA_ok {A B : List ak_A} : ∀ {as : List Value}, ak_gA s A as → ak_leA A B = true → ak_gA s B as := by
  induction A generalizing B with
  | nil =>
    intro as hA h0
    cases B with
    | nil => exact hA
    | cons _ _ => cases h0
  | cons x A ih =>
    intro as hA h0
    cases B with
    | nil => cases h0
    | cons y B =>
      cases as with
      | nil => exact hA.elim
      | cons v as =>
        unfold ak_leA at h0
        rw [Bool.and_eq_true] at h0
        exact ⟨ak_sub_ok hA.1 h0.1, ih hA.2 h0.2⟩
theorem ak_gS_A : ∀ {S : ak_S} {st : List Value}, ak_gS s tb h lv S st → ak_gA s (S.map (fun e => e.1)) st := by
  intro S
  induction S with
  | nil =>
    intro st hS
    cases st with
    | nil => trivial
    | cons _ _ => exact hS.elim
  | cons e S ih =>
    intro st hS
    obtain ⟨v, st', rfl, h1, -, h3⟩ := ak_gS_c hS
    exact ⟨h1, ih h3⟩
theorem ak_gA_S : ∀ {A : List ak_A} {st : List Value}, ak_gA s A st → ak_gS s tb h lv (A.map (fun x => (x, none))) st := by
  intro A
  induction A with
  | nil =>
    intro st hA
    cases st with
    | nil => trivial
    | cons _ _ => exact hA.elim
  | cons x A ih =>
    intro st hA
    cases st with
    | nil => exact hA.elim
    | cons v st => exact ⟨hA.1, trivial, ih hA.2⟩
theorem ak_gS_drop : ∀ (n : Nat) {S : ak_S} {st : List Value}, ak_gS s tb h lv S st → ak_gS s tb h lv (S.drop n) (st.drop n) ∧ ak_gS s tb h lv (S.take n) (st.take n) := by
  intro n
  induction n with
  | zero =>
    intro S st hS
    exact ⟨hS, trivial⟩
  | succ n ih =>
    intro S st hS
    cases S with
    | nil =>
      cases st with
      | nil => exact ⟨trivial, trivial⟩
      | cons _ _ => exact hS.elim
    | cons e S =>
      obtain ⟨v, st', rfl, h1, h2, h3⟩ := ak_gS_c hS
      obtain ⟨k1, k2⟩ := ih h3
      exact ⟨k1, h1, h2, k2⟩
theorem ak_gA_app : ∀ {A B : List ak_A} {as bs : List Value}, ak_gA s A as → ak_gA s B bs → ak_gA s (A ++ B) (as ++ bs) := by
  intro A
  induction A with
  | nil =>
    intro B as bs hA hB
    cases as with
    | nil => exact hB
    | cons _ _ => exact hA.elim
  | cons x A ih =>
    intro B as bs hA hB
    cases as with
    | nil => exact hA.elim
    | cons v as => exact ⟨hA.1, ih hA.2 hB⟩
theorem ak_gA_rev : ∀ {A : List ak_A} {as : List Value}, ak_gA s A as → ak_gA s A.reverse as.reverse := by
  intro A
  induction A with
  | nil =>
    intro as hA
    cases as with
    | nil => trivial
    | cons _ _ => exact hA.elim
  | cons x A ih =>
    intro as hA
    cases as with
    | nil => exact hA.elim
    | cons v as =>
      rw [List.reverse_cons, List.reverse_cons]
      exact ak_gA_app (ih hA.2) ⟨hA.1, trivial⟩
theorem ak_gS_sum : ∀ {S : ak_S} {st : List Value}, ak_gS s tb h lv S st → aj_sum st = ak_cats S := by
  intro S
  induction S with
  | nil =>
    intro st hS
    cases st with
    | nil => rfl
    | cons _ _ => exact hS.elim
  | cons e S ih =>
    intro st hS
    obtain ⟨v, st', rfl, h1, -, h3⟩ := ak_gS_c hS
    have := ih h3
    unfold aj_sum ak_cats at this ⊢
    rw [List.map_cons, List.map_cons, List.sum_cons, List.sum_cons, this, ak_gcat h1]
theorem ak_gS_len : ∀ {S : ak_S} {st : List Value}, ak_gS s tb h lv S st → st.length = S.length := by
  intro S
  induction S with
  | nil =>
    intro st hS
    cases st with
    | nil => rfl
    | cons _ _ => exact hS.elim
  | cons e S ih =>
    intro st hS
    obtain ⟨v, st', rfl, h1, -, h3⟩ := ak_gS_c hS
    rw [List.length_cons, List.length_cons, ih h3]
theorem ak_gS_mono (u : List Nat) : ∀ {S : ak_S} {st : List Value}, ak_gS s tb h lv S st → ak_gS (s ++ u) tb h lv S st := by
  intro S
  induction S with
  | nil =>
    intro st hS
    cases st with
    | nil => trivial
    | cons _ _ => exact hS.elim
  | cons e S ih =>
    intro st hS
    obtain ⟨v, st', rfl, h1, h2, h3⟩ := ak_gS_c hS
    exact ⟨ak_gam_mono h1, h2, ih h3⟩
theorem ak_gL_mono (u : List Nat) {L : ak_L} (hL : ak_gL s old lv L) : ak_gL (s ++ u) old lv L := by
  intro q hq
  obtain ⟨v, h1, h2, h3⟩ := hL q hq
  exact ⟨v, h1, ak_gam_mono h2, h3⟩
theorem ak_gS_app : ∀ {S S2 : ak_S} {st st2 : List Value}, ak_gS s tb h lv S st → ak_gS s tb h lv S2 st2 → ak_gS s tb h lv (S ++ S2) (st ++ st2) := by
  intro S
  induction S with
  | nil =>
    intro S2 st st2 hS h2
    cases st with
    | nil => exact h2
    | cons _ _ => exact hS.elim
  | cons e S ih =>
    intro S2 st st2 hS h2
    obtain ⟨v, st', rfl, h1, hp, h3⟩ := ak_gS_c hS
    exact ⟨h1, hp, ih h3 h2⟩
/-- what is known behind a call -/
theorem ak_beh_ok (htb : ak_tbOK T tb) {M' : ak_Mo} {R : Option ak_A} {L : ak_L} {S : ak_S} {F : ak_F} {u : List Nat} {h1 : aj_H} {r : Option Value} (hL : ak_gL s old lv L) (hS : ak_gS s tb h lv S st) (hF : ak_gF tb h lv F) (he : ak_Ev T M' s h h1) (hr : ak_gR (s ++ u) R r) : ak_gAS (s ++ u) tb h1 old lv (r.toList ++ st) (ak_beh M' R L S F) := by
  refine ⟨ak_gL_mono u hL, ak_gS_app ?_ ?_, ?_⟩
  · unfold ak_gR at hr
    split at hr
    · trivial
    · exact ⟨hr, trivial, trivial⟩
    · exact hr.elim
  · refine ak_gS_h (f := ak_nop) (fun p v hp => ?_) (ak_gS_mono u hS)
    rcases p with _ | j | q
    · trivial
    · exact hp
    · trivial
  · intro z hz
    obtain ⟨z1, z2⟩ := List.mem_filter.mp hz
    obtain ⟨r', c, fs, x, m1, m2, m3, m4⟩ := hF z z1
    obtain ⟨q1, q2⟩ := (ak_obj_h htb).mp m2
    obtain ⟨fs', k1, k2⟩ := he.2.1 _ _ _ q2
    have hn : (c, z.1.2) ∉ M'.2 := fun hm => by
      simp only [Bool.not_eq_true', List.any_eq_false, beq_iff_eq] at z2
      exact z2 _ hm rfl
    exact ⟨r', c, fs', x, m1, (ak_obj_h htb).mpr ⟨q1, k1⟩, by rw [k2 _ hn]; exact m3, m4⟩
theorem ak_ac_ok (htb : ak_tbOK T tb) (hT : ak_Ty T s h) (hSP : SP s h) {d : Nat} {lo hi idx : Nat} {con : ak_Con} (hcon : ak_CT T SP tb d con.1 con.2.1 con.2.2.1 con.2.2.2) (ha : ak_gAS s tb h old lv st a) (h0 : ak_ac T M lk lo hi idx a con = some a') : ∃ kind mi as st' u r h1, aj_call lo hi tb lk pc idx lv st h = some (.inr (.inl (kind, mi, as, (pc + 3, lv, st')))) ∧ kind ≠ 5 ∧ aj_runs aj_rc aj_cls tb aj_mt d mi as h u.length (ak_slo T u) r h1 ∧ ak_Ty T (s ++ u) h1 ∧ SP (s ++ u) h1 ∧ ak_Ev T M s h h1 ∧ ak_gAS (s ++ u) tb h1 old lv (r.toList ++ st') a' := by
  obtain ⟨L, S, F⟩ := a
  obtain ⟨hL, hS, hF⟩ := ha
  unfold ak_ac at h0
  dsimp only at h0
  split at h0
  · rename_i kind mi n v hlk
    split at h0
    · rename_i hq
      obtain ⟨q1, q2, q3, q4, q5, q6⟩ := hq
      have hsub : (∀ t ∈ con.2.2.2.1, t ∈ M.1) ∧ ∀ q ∈ con.2.2.2.2, q ∈ M.2 := by
        refine ⟨fun t ht => ?_, fun q hq => ?_⟩
        · have := List.all_eq_true.mp q5 t ht
          simpa using this
        · have := List.all_eq_true.mp q6 q hq
          simpa using this
      obtain ⟨d1, d2⟩ := ak_gS_drop n hS
      split at h0
      · rename_i h6
        split at h0
        · rename_i hq
          cases h0
          have hA : ak_gA s con.2.1 (st.take n).reverse := ak_leA_ok (by rw [List.map_reverse]; exact ak_gA_rev (ak_gS_A d2)) hq.2.2
          obtain ⟨u, r, h1, k1, k2, k3, k4, k5⟩ := hcon d (Nat.le_refl _) s h _ hT hSP hA
          refine ⟨kind, mi, (st.take n).reverse, st.drop n, u, r, h1, ?_, q3, by rw [q4]; exact k1, k2, k3, ak_Ev_sub hsub k4, ak_beh_ok htb hL d1 hF k4 k5⟩
          unfold aj_call
          simp only [hlk]
          rw [if_pos ⟨q1, q2⟩, if_pos h6]
          exact if_pos ⟨by rw [ak_gS_len hS]; exact hq.1, by rw [ak_gS_sum d1]; exact hq.2.1⟩
        · cases h0
      · rename_i h6
        split at h0
        · rename_i ts p R hR
          split at h0
          · rename_i hq
            cases h0
            rw [hR] at d1
            obtain ⟨w, st', hst, g1, -, g3⟩ := ak_gS_c d1
            rcases ak_gr g1 with ⟨-, z⟩ | ⟨b, t, rfl, ht, hty⟩
            · cases z
            · have hA : ak_gA s con.2.1 (.ref b :: (st.take n).reverse) := ak_leA_ok (A := .inr (some (ts, false)) :: ((S.take n).reverse.map (fun e => e.1))) ⟨g1, by rw [List.map_reverse]; exact ak_gA_rev (ak_gS_A d2)⟩ hq.2.2
              obtain ⟨u, r, h1, k1, k2, k3, k4, k5⟩ := hcon d (Nat.le_refl _) s h _ hT hSP hA
              refine ⟨kind, mi, .ref b :: (st.take n).reverse, st', u, r, h1, ?_, q3, by rw [q4]; exact k1, k2, k3, ak_Ev_sub hsub k4, ak_beh_ok htb hL g3 hF k4 k5⟩
              unfold aj_call
              simp only [hlk]
              rw [if_pos ⟨q1, q2⟩, if_neg h6, hst]
              refine if_pos ⟨fun h2 => ?_, by rw [ak_gS_sum g3]; exact hq.2.1⟩
              obtain ⟨fs, fa, m1, -⟩ := ak_ty_obj htb hT hty (List.all_eq_true.mp (hq.1 h2) t ht)
              unfold aj_rcv
              rw [m1]
              simp
          · cases h0
        · cases h0
    · cases h0
  · cases h0
theorem ak_a6_ok (rc : Nat) (cls : List aj_C) (nL : Nat) (ret : Option FieldType) (isI : Bool) {i : Instr} (ha : ak_gAS s tb h old lv st a) (h0 : ak_a6 lk i len a = some a') : ∃ st', aj_step rc cls tb lk nL ret isI i len pc lv st h = some (.inl ((pc + len, lv, st'), h, 0, 0)) ∧ ak_gAS s tb h old lv st' a' := by
  obtain ⟨L, S, F⟩ := a
  obtain ⟨hL, hS, hF⟩ := ha
  unfold ak_a6 at h0
  split at h0
  · rename_i idx
    dsimp only at h0
    split at h0
    · rename_i q p1 p p2 R kind x1 x2 x3 hlk
      split at h0
      · rename_i hq
        obtain ⟨rfl, hq⟩ := hq
        obtain ⟨v1, st1, rfl, g1, -, g3⟩ := ak_gS_c hS
        obtain ⟨v2, st2, rfl, g4, -, g6⟩ := ak_gS_c g3
        obtain ⟨y, rfl, hw1⟩ := ak_gi g1
        obtain ⟨x, rfl, hw2⟩ := ak_gi g4
        have hsum : aj_sum st2 ≤ 8 := by rw [ak_gS_sum g6]; exact hq
        unfold ak_win at hw1 hw2
        split at h0
        · rename_i h7
          subst h7
          cases h0
          refine ⟨.int (if y < x then y else x) :: st2, ?_, hL, ⟨?_, trivial, g6⟩, hF⟩
          · unfold aj_step
            dsimp only
            rw [if_pos rfl]
            have e : aj_isNat lk idx = true := by
              unfold aj_isNat
              rw [hlk]
              rfl
            rw [if_pos e]
            unfold aj_nat
            simp only [hlk]
            unfold aj_nmm
            exact if_pos hsum
          · show ak_mn p.1 q.1 ≤ Int32.toInt _ ∧ Int32.toInt _ ≤ ak_mn p.2 q.2
            have a1 := ak_mn_le p.1 q.1
            have a2 : ak_mn p.2 q.2 = p.2 ∨ ak_mn p.2 q.2 = q.2 := by
              unfold ak_mn
              split
              · exact Or.inl rfl
              · exact Or.inr rfl
            split
            · rename_i hlt
              have hlt := Int32.lt_iff_toInt_lt.mp hlt
              rcases a2 with a2 | a2 <;> rw [a2] <;> omega
            · rename_i hlt
              have hlt := Int32.le_iff_toInt_le.mp (Int32.not_lt.mp hlt)
              rcases a2 with a2 | a2 <;> rw [a2] <;> omega
        · split at h0
          · rename_i h7
            subst h7
            cases h0
            refine ⟨.int (if x < y then y else x) :: st2, ?_, hL, ⟨?_, trivial, g6⟩, hF⟩
            · unfold aj_step
              dsimp only
              rw [if_pos rfl]
              have e : aj_isNat lk idx = true := by
                unfold aj_isNat
                rw [hlk]
                rfl
              rw [if_pos e]
              unfold aj_nat
              simp only [hlk]
              unfold aj_nmm
              exact if_pos hsum
            · show ak_mx p.1 q.1 ≤ Int32.toInt _ ∧ Int32.toInt _ ≤ ak_mx p.2 q.2
              have a1 := ak_mx_ge p.2 q.2
              have a2 : ak_mx p.1 q.1 = p.1 ∨ ak_mx p.1 q.1 = q.1 := by
                unfold ak_mx
                split
                · exact Or.inr rfl
                · exact Or.inl rfl
              split
              · rename_i hlt
                have hlt := Int32.lt_iff_toInt_lt.mp hlt
                rcases a2 with a2 | a2 <;> rw [a2] <;> omega
              · rename_i hlt
                have hlt := Int32.le_iff_toInt_le.mp (Int32.not_lt.mp hlt)
                rcases a2 with a2 | a2 <;> rw [a2] <;> omega
          · cases h0
      · cases h0
    · cases h0
  · cases h0
theorem ak_ar_ok (rc : Nat) (cls : List aj_C) (nL : Nat) {ret : Option FieldType} (isI : Bool) {i : Instr} {S : ak_S} {R : Option ak_A} (hS : ak_gS s tb h lv S st) (h0 : ak_ar i len ret S R = true) : ∃ r, aj_step rc cls tb lk nL ret isI i len pc lv st h = some (.inr (.inr r)) ∧ ak_gR s R r := by
  unfold ak_ar at h0
  rw [Bool.and_eq_true, decide_eq_true_eq] at h0
  obtain ⟨rfl, h0⟩ := h0
  split at h0
  · cases st with
    | nil => exact ⟨none, rfl, trivial⟩
    | cons _ _ => exact hS.elim
  · obtain ⟨v1, st1, rfl, g1, -, g3⟩ := ak_gS_c hS
    obtain ⟨x, rfl, hw⟩ := ak_gi g1
    cases st1 with
    | nil => exact ⟨some (.int x), rfl, ak_sub_ok g1 h0⟩
    | cons _ _ => exact g3.elim
  · obtain ⟨v1, st1, rfl, g1, -, g3⟩ := ak_gS_c hS
    obtain ⟨x, rfl, hw⟩ := ak_gi g1
    rw [Bool.and_eq_true] at h0
    cases st1 with
    | nil =>
      refine ⟨some (.int x), ?_, ak_sub_ok g1 h0.1⟩
      unfold aj_step
      dsimp only
      rw [if_pos rfl]
      exact if_pos ⟨rfl, ak_fitA_ok (ty := .boolean) (x := .inl (0, 1)) (ak_sub_ok g1 h0.2) rfl⟩
    | cons _ _ => exact g3.elim
  · obtain ⟨v1, st1, rfl, g1, -, g3⟩ := ak_gS_c hS
    obtain ⟨x, rfl⟩ := ak_gl g1
    cases st1 with
    | nil => exact ⟨some (.long x), rfl, ak_sub_ok g1 h0⟩
    | cons _ _ => exact g3.elim
  · obtain ⟨v1, st1, rfl, g1, -, g3⟩ := ak_gS_c hS
    cases st1 with
    | nil =>
      rcases ak_gr g1 with ⟨rfl, -⟩ | ⟨r, t, rfl, -⟩
      · exact ⟨some .null, rfl, ak_sub_ok g1 h0⟩
      · exact ⟨some (.ref r), rfl, ak_sub_ok g1 h0⟩
    | cons _ _ => exact g3.elim
  · obtain ⟨v1, st1, rfl, g1, -, g3⟩ := ak_gS_c hS
    cases st1 with
    | nil =>
      rcases ak_gr g1 with ⟨rfl, -⟩ | ⟨r, t, rfl, -⟩
      · exact ⟨some .null, rfl, ak_sub_ok g1 h0⟩
      · exact ⟨some (.ref r), rfl, ak_sub_ok g1 h0⟩
    | cons _ _ => exact g3.elim
  · cases h0
theorem ak_st_ok (htb : ak_tbOK T tb) (hT : ak_Ty T s h) (hSP : SP s h) (hc : ak_SPc T SP) (rc : Nat) (cls : List aj_C) (nL : Nat) (ret : Option FieldType) (isI : Bool) {i : Instr} {succs : List (Nat × ak_AS)} (ha : ak_gAS s tb h old lv st a) (h0 : ak_st T cls M lk nL i len pc a = some succs) : ∃ pc' lv' st' h' a', aj_step rc cls tb lk nL ret isI i len pc lv st h = some (.inl ((pc', lv', st'), h', 0, 0)) ∧ (pc', a') ∈ succs ∧ ak_Ty T s h' ∧ SP s h' ∧ ak_Ev T M s h h' ∧ ak_gAS s tb h' old lv' st' a' := by
  unfold ak_st at h0
  split at h0
  · rename_i S' h1
    cases h0
    obtain ⟨st', k1, k2⟩ := ak_a1_ok (pc := pc) rc cls lk nL ret isI ha.2.1 h1
    exact ⟨_, lv, st', h, _, k1, List.mem_singleton.mpr rfl, hT, hSP, ak_Ev_rf, ha.1, k2, ha.2.2⟩
  · split at h0
    · rename_i b h1
      cases h0
      obtain ⟨lv', st', k1, k2⟩ := ak_a2_ok (pc := pc) rc cls lk ret isI ha h1
      exact ⟨_, lv', st', h, _, k1, List.mem_singleton.mpr rfl, hT, hSP, ak_Ev_rf, k2⟩
    · split at h0
      · rename_i l h1
        cases h0
        obtain ⟨pc', st', a', k1, k2, k3⟩ := ak_a3_ok rc cls lk nL ret isI ha h1
        exact ⟨pc', lv, st', h, a', k1, k2, hT, hSP, ak_Ev_rf, k3⟩
      · split at h0
        · rename_i b h1
          cases h0
          obtain ⟨st', k1, k2⟩ := ak_a4_ok (pc := pc) htb hT rc cls nL ret isI ha h1
          exact ⟨_, lv, st', h, _, k1, List.mem_singleton.mpr rfl, hT, hSP, ak_Ev_rf, k2⟩
        · split at h0
          · rename_i b h1
            cases h0
            obtain ⟨st', h', k1, k2, k3, k4, k5⟩ := ak_a5_ok (pc := pc) htb hT hSP hc rc cls nL ret isI ha h1
            exact ⟨_, lv, st', h', _, k1, List.mem_singleton.mpr rfl, k2, k3, k4, k5⟩
          · split at h0
            · rename_i b h1
              cases h0
              obtain ⟨st', k1, k2⟩ := ak_a6_ok (pc := pc) rc cls nL ret isI ha h1
              exact ⟨_, lv, st', h, _, k1, List.mem_singleton.mpr rfl, hT, hSP, ak_Ev_rf, k2⟩
            · cases h0
end AKEX
