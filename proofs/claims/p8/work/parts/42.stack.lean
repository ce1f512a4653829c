/-! THE CHECKER: instructions of the stack alone -/
abbrev ak_S : Type := List (ak_A × ak_P)
/-- locals: number, value, how far from what it was (if told) -/
abbrev ak_L : Type := List (Nat × ak_A × Option Int)
/-- fields of objects in locals -/
abbrev ak_F : Type := List ((Nat × Nat) × (Int × Int))
def ak_gP (tb : aj_T) (h : aj_H) (lv : aj_V) : ak_P → Value → Prop
  | none, _ => True
  | some (.inl j), v => aj_lv lv j = some v
  | some (.inr q), v => ∃ (r c : Nat) (fs : List Value), aj_lv lv q.1 = some (.ref r) ∧ aj_obj tb h r = some (c, fs) ∧ fs[q.2]? = some v
def ak_gS (s : List Nat) (tb : aj_T) (h : aj_H) (lv : aj_V) : ak_S → List Value → Prop
  | [], [] => True
  | e :: S, v :: st => ak_gam s e.1 v ∧ ak_gP tb h lv e.2 v ∧ ak_gS s tb h lv S st
  | _, _ => False
def ak_gL (s : List Nat) (old : Nat → Int) (lv : aj_V) (L : ak_L) : Prop := ∀ q ∈ L, ∃ v, aj_lv lv q.1 = some v ∧ ak_gam s q.2.1 v ∧ ∀ z, q.2.2 = some z → ∃ x : Int32, v = .int x ∧ x.toInt = old q.1 + z
def ak_gF (tb : aj_T) (h : aj_H) (lv : aj_V) (F : ak_F) : Prop := ∀ q ∈ F, ∃ (r c : Nat) (fs : List Value) (x : Int32), aj_lv lv q.1.1 = some (.ref r) ∧ aj_obj tb h r = some (c, fs) ∧ fs[q.1.2]? = some (.int x) ∧ ak_win q.2 x
def ak_bin (f : Int × Int → Int × Int → Int × Int) (S : ak_S) : Option ak_S := match S with
  | (.inl q, _) :: (.inl p, _) :: R => some ((.inl (f p q), none) :: R)
  | _ => none
def ak_biz (f : Int × Int → Int × Int → Int × Int) (S : ak_S) : Option ak_S := match S with
  | (.inl q, _) :: (.inl p, _) :: R => if 1 ≤ q.1 then some ((.inl (f p q), none) :: R) else none
  | _ => none
def ak_bl (S : ak_S) : Option ak_S := match S with
  | (.inr none, _) :: (.inr none, _) :: R => some ((.inr none, none) :: R)
  | _ => none
def ak_cat (a : ak_A) : Nat := match a with
  | .inr none => 2
  | _ => 1
def ak_a1 (i : Instr) (len : Nat) (S : ak_S) : Option ak_S := match i with
  | .iconst n => if len = 1 ∧ -2147483648 ≤ n ∧ n < 2147483648 then some ((.inl (n, n), none) :: S) else none
  | .bipush n => if len = 2 ∧ -128 ≤ n ∧ n < 128 then some ((.inl (n, n), none) :: S) else none
  | .sipush n => if len = 3 ∧ -32768 ≤ n ∧ n < 32768 then some ((.inl (n, n), none) :: S) else none
  | .lconst _ => if len = 1 then some ((.inr none, none) :: S) else none
  | .aconst_null => if len = 1 then some ((.inr (some ([], true)), none) :: S) else none
  | .iadd => if len = 1 then ak_bin ak_fadd S else none
  | .isub => if len = 1 then ak_bin ak_fsub S else none
  | .imul => if len = 1 then ak_bin ak_fmul S else none
  | .iand => if len = 1 then ak_bin ak_fand S else none
  | .ior => if len = 1 then ak_bin (fun _ _ => ak_full) S else none
  | .ixor => if len = 1 then ak_bin (fun _ _ => ak_full) S else none
  | .ishl => if len = 1 then ak_bin (fun _ _ => ak_full) S else none
  | .ishr => if len = 1 then ak_bin ak_fshr S else none
  | .iushr => if len = 1 then ak_bin (fun _ _ => ak_full) S else none
  | .idiv => if len = 1 then ak_biz ak_fdiv S else none
  | .irem => if len = 1 then ak_biz ak_frem S else none
  | .ladd => if len = 1 then ak_bl S else none
  | .lmul => if len = 1 then ak_bl S else none
  | .lor => if len = 1 then ak_bl S else none
  | .lshl => match S with
    | (.inl _, _) :: (.inr none, _) :: R => if len = 1 then some ((.inr none, none) :: R) else none
    | _ => none
  | .lneg => match S with
    | (.inr none, _) :: R => if len = 1 then some ((.inr none, none) :: R) else none
    | _ => none
  | .lcmp => match S with
    | (.inr none, _) :: (.inr none, _) :: R => if len = 1 then some ((.inl ak_full, none) :: R) else none
    | _ => none
  | .i2l => match S with
    | (.inl _, _) :: R => if len = 1 then some ((.inr none, none) :: R) else none
    | _ => none
  | .l2i => match S with
    | (.inr none, _) :: R => if len = 1 then some ((.inl ak_full, none) :: R) else none
    | _ => none
  | .i2b => match S with
    | (.inl _, _) :: R => if len = 1 then some ((.inl (-128, 127), none) :: R) else none
    | _ => none
  | .i2c => match S with
    | (.inl _, _) :: R => if len = 1 then some ((.inl (0, 65535), none) :: R) else none
    | _ => none
  | .dup => match S with
    | (a, p) :: R => if len = 1 ∧ ak_cat a = 1 then some ((a, p) :: (a, p) :: R) else none
    | _ => none
  | .pop => match S with
    | (a, _) :: R => if len = 1 ∧ ak_cat a = 1 then some R else none
    | _ => none
  | .dup2 => match S with
    | (a, p) :: (b, q) :: R => if len = 1 ∧ ak_cat a = 1 ∧ ak_cat b = 1 then some ((a, p) :: (b, q) :: (a, p) :: (b, q) :: R) else none
    | _ => none
  | _ => none
section AKSTK
variable {T : ak_TT} {s : List Nat} {tb : aj_T} {h : aj_H} {lv : aj_V} {S S' : ak_S} {st : List Value} {v : Value}
theorem ak_gi {q : Int × Int} (hx : ak_gam s (.inl q) v) : ∃ x : Int32, v = .int x ∧ ak_win q x := by
  cases v with
  | int x => exact ⟨x, rfl, hx⟩
  | _ => exact hx.elim
theorem ak_gl (hx : ak_gam s (.inr none) v) : ∃ x : Int64, v = .long x := by
  cases v with
  | long x => exact ⟨x, rfl⟩
  | _ => exact hx.elim
theorem ak_gr {q : List Nat × Bool} (hx : ak_gam s (.inr (some q)) v) : (v = .null ∧ q.2 = true) ∨ ∃ (r t : Nat), v = .ref r ∧ t ∈ q.1 ∧ ak_ty s r t := by
  cases v with
  | null => exact Or.inl ⟨rfl, hx⟩
  | ref r =>
    obtain ⟨t, h1, h2⟩ := hx
    exact Or.inr ⟨r, t, rfl, h1, h2⟩
  | _ => exact hx.elim
theorem ak_gcat {a : ak_A} (hx : ak_gam s a v) : v.category = ak_cat a := by
  rcases a with q | ⟨_ | q⟩
  · obtain ⟨x, rfl, -⟩ := ak_gi hx
    rfl
  · obtain ⟨x, rfl⟩ := ak_gl hx
    rfl
  · rcases ak_gr hx with ⟨rfl, -⟩ | ⟨r, t, rfl, -⟩ <;> rfl
theorem ak_gS_c {e : ak_A × ak_P} (hS : ak_gS s tb h lv (e :: S) st) : ∃ v st', st = v :: st' ∧ ak_gam s e.1 v ∧ ak_gP tb h lv e.2 v ∧ ak_gS s tb h lv S st' := by
  cases st with
  | nil => exact hS.elim
  | cons v st' => exact ⟨v, st', rfl, hS⟩
theorem ak_bin_ok {f : Int × Int → Int × Int → Int × Int} {g : Int32 → Int32 → Int32} (hf : ∀ p q x y, ak_win p x → ak_win q y → ak_win (f p q) (g x y)) (hS : ak_gS s tb h lv S st) (h0 : ak_bin f S = some S') {pc : Nat} : ∃ st', aj_ii g pc lv st h = some (.inl ((pc + 1, lv, st'), h, 0, 0)) ∧ ak_gS s tb h lv S' st' := by
  unfold ak_bin at h0
  split at h0
  · cases h0
    obtain ⟨v1, st1, rfl, g1, -, hS1⟩ := ak_gS_c hS
    obtain ⟨v2, st2, rfl, g2, -, hS2⟩ := ak_gS_c hS1
    obtain ⟨y, rfl, g1⟩ := ak_gi g1
    obtain ⟨x, rfl, g2⟩ := ak_gi g2
    exact ⟨_, rfl, hf _ _ _ _ g2 g1, trivial, hS2⟩
  · cases h0
theorem ak_biz_ok {f : Int × Int → Int × Int → Int × Int} {g : Int32 → Int32 → Int32} (hf : ∀ p q x y, ak_win p x → ak_win q y → 1 ≤ q.1 → ak_win (f p q) (g x y)) (hS : ak_gS s tb h lv S st) (h0 : ak_biz f S = some S') {pc : Nat} : ∃ st', aj_iz g pc lv st h = some (.inl ((pc + 1, lv, st'), h, 0, 0)) ∧ ak_gS s tb h lv S' st' := by
  unfold ak_biz at h0
  split at h0
  · split at h0
    · rename_i h1
      cases h0
      obtain ⟨v1, st1, rfl, g1, -, hS1⟩ := ak_gS_c hS
      obtain ⟨v2, st2, rfl, g2, -, hS2⟩ := ak_gS_c hS1
      obtain ⟨y, rfl, g1⟩ := ak_gi g1
      obtain ⟨x, rfl, g2⟩ := ak_gi g2
      have hy : ¬ y = 0 := by
        intro hy
        subst hy
        have g1 := g1.1
        rw [Int32.toInt_zero] at g1
        omega
      exact ⟨_, if_neg hy, hf _ _ _ _ g2 g1 h1, trivial, hS2⟩
    · cases h0
  · cases h0
theorem ak_bl_ok {g : Int64 → Int64 → Int64} (hS : ak_gS s tb h lv S st) (h0 : ak_bl S = some S') {pc : Nat} : ∃ st', aj_ll g pc lv st h = some (.inl ((pc + 1, lv, st'), h, 0, 0)) ∧ ak_gS s tb h lv S' st' := by
  unfold ak_bl at h0
  split at h0
  · cases h0
    obtain ⟨v1, st1, rfl, g1, -, hS1⟩ := ak_gS_c hS
    obtain ⟨v2, st2, rfl, g2, -, hS2⟩ := ak_gS_c hS1
    obtain ⟨y, rfl⟩ := ak_gl g1
    obtain ⟨x, rfl⟩ := ak_gl g2
    exact ⟨_, rfl, trivial, trivial, hS2⟩
  · cases h0
theorem ak_win_k {n : Int} {x : Int32} (h : x.toInt = n) : ak_win (n, n) x := ⟨Int.le_of_eq h.symm, Int.le_of_eq h⟩
theorem ak_a1_ok (rc : Nat) (cls : List aj_C) (lk : List aj_L) (nL : Nat) (ret : Option FieldType) (isI : Bool) {i : Instr} {len pc : Nat} (hS : ak_gS s tb h lv S st) (h0 : ak_a1 i len S = some S') : ∃ st', aj_step rc cls tb lk nL ret isI i len pc lv st h = some (.inl ((pc + len, lv, st'), h, 0, 0)) ∧ ak_gS s tb h lv S' st' := by
  unfold ak_a1 at h0
  cases i
  case iconst n =>
    dsimp only at h0
    split at h0
    · rename_i hq
      cases h0
      obtain ⟨rfl, h1, h2⟩ := hq
      refine ⟨_, rfl, ak_win_k ?_, trivial, hS⟩
      exact Int32.toInt_ofInt_of_le (by omega) (by omega)
    · cases h0
  case bipush n =>
    dsimp only at h0
    split at h0
    · rename_i hq
      cases h0
      obtain ⟨rfl, h1, h2⟩ := hq
      refine ⟨_, rfl, ak_win_k ?_, trivial, hS⟩
      rw [Int8.toInt_toInt32]
      exact Int8.toInt_ofInt_of_le (by omega) (by omega)
    · cases h0
  case sipush n =>
    dsimp only at h0
    split at h0
    · rename_i hq
      cases h0
      obtain ⟨rfl, h1, h2⟩ := hq
      refine ⟨_, rfl, ak_win_k ?_, trivial, hS⟩
      rw [Int16.toInt_toInt32]
      exact Int16.toInt_ofInt_of_le (by omega) (by omega)
    · cases h0
  case lconst n =>
    dsimp only at h0
    split at h0
    · rename_i hq
      cases h0
      subst hq
      exact ⟨_, rfl, trivial, trivial, hS⟩
    · cases h0
  case aconst_null =>
    dsimp only at h0
    split at h0
    · rename_i hq
      cases h0
      subst hq
      exact ⟨_, rfl, rfl, trivial, hS⟩
    · cases h0
  case iadd =>
    dsimp only at h0
    split at h0
    · rename_i hq
      subst hq
      exact ak_bin_ok (fun _ _ _ _ => ak_fadd_ok) hS h0
    · cases h0
  case isub =>
    dsimp only at h0
    split at h0
    · rename_i hq
      subst hq
      exact ak_bin_ok (fun _ _ _ _ => ak_fsub_ok) hS h0
    · cases h0
  case imul =>
    dsimp only at h0
    split at h0
    · rename_i hq
      subst hq
      exact ak_bin_ok (fun _ _ _ _ => ak_fmul_ok) hS h0
    · cases h0
  case iand =>
    dsimp only at h0
    split at h0
    · rename_i hq
      subst hq
      exact ak_bin_ok (fun _ _ _ _ => ak_fand_ok) hS h0
    · cases h0
  case ior =>
    dsimp only at h0
    split at h0
    · rename_i hq
      subst hq
      exact ak_bin_ok (fun _ _ _ _ _ _ => ak_win_full _) hS h0
    · cases h0
  case ixor =>
    dsimp only at h0
    split at h0
    · rename_i hq
      subst hq
      exact ak_bin_ok (fun _ _ _ _ _ _ => ak_win_full _) hS h0
    · cases h0
  case ishl =>
    dsimp only at h0
    split at h0
    · rename_i hq
      subst hq
      exact ak_bin_ok (fun _ _ _ _ _ _ => ak_win_full _) hS h0
    · cases h0
  case ishr =>
    dsimp only at h0
    split at h0
    · rename_i hq
      subst hq
      exact ak_bin_ok (fun _ _ _ _ => ak_fshr_ok) hS h0
    · cases h0
  case iushr =>
    dsimp only at h0
    split at h0
    · rename_i hq
      subst hq
      exact ak_bin_ok (fun _ _ _ _ _ _ => ak_win_full _) hS h0
    · cases h0
  case idiv =>
    dsimp only at h0
    split at h0
    · rename_i hq
      subst hq
      exact ak_biz_ok (fun _ _ _ _ => ak_fdiv_ok) hS h0
    · cases h0
  case irem =>
    dsimp only at h0
    split at h0
    · rename_i hq
      subst hq
      exact ak_biz_ok (fun _ _ _ _ => ak_frem_ok) hS h0
    · cases h0
  case ladd =>
    dsimp only at h0
    split at h0
    · rename_i hq
      subst hq
      exact ak_bl_ok hS h0
    · cases h0
  case lmul =>
    dsimp only at h0
    split at h0
    · rename_i hq
      subst hq
      exact ak_bl_ok hS h0
    · cases h0
  case lor =>
    dsimp only at h0
    split at h0
    · rename_i hq
      subst hq
      exact ak_bl_ok hS h0
    · cases h0
  case lshl =>
    dsimp only at h0
    split at h0
    · split at h0
      · rename_i hq
        subst hq
        cases h0
        obtain ⟨v1, st1, rfl, g1, -, hS1⟩ := ak_gS_c hS
        obtain ⟨v2, st2, rfl, g2, -, hS2⟩ := ak_gS_c hS1
        obtain ⟨y, rfl, g1⟩ := ak_gi g1
        obtain ⟨x, rfl⟩ := ak_gl g2
        exact ⟨_, rfl, trivial, trivial, hS2⟩
      · cases h0
    · cases h0
  case lneg =>
    dsimp only at h0
    split at h0
    · split at h0
      · rename_i hq
        subst hq
        cases h0
        obtain ⟨v1, st1, rfl, g1, -, hS1⟩ := ak_gS_c hS
        obtain ⟨x, rfl⟩ := ak_gl g1
        exact ⟨_, rfl, trivial, trivial, hS1⟩
      · cases h0
    · cases h0
  case lcmp =>
    dsimp only at h0
    split at h0
    · split at h0
      · rename_i hq
        subst hq
        cases h0
        obtain ⟨v1, st1, rfl, g1, -, hS1⟩ := ak_gS_c hS
        obtain ⟨v2, st2, rfl, g2, -, hS2⟩ := ak_gS_c hS1
        obtain ⟨y, rfl⟩ := ak_gl g1
        obtain ⟨x, rfl⟩ := ak_gl g2
        exact ⟨_, rfl, ak_win_full _, trivial, hS2⟩
      · cases h0
    · cases h0
  case i2l =>
    dsimp only at h0
    split at h0
    · split at h0
      · rename_i hq
        subst hq
        cases h0
        obtain ⟨v1, st1, rfl, g1, -, hS1⟩ := ak_gS_c hS
        obtain ⟨x, rfl, g1⟩ := ak_gi g1
        exact ⟨_, rfl, trivial, trivial, hS1⟩
      · cases h0
    · cases h0
  case l2i =>
    dsimp only at h0
    split at h0
    · split at h0
      · rename_i hq
        subst hq
        cases h0
        obtain ⟨v1, st1, rfl, g1, -, hS1⟩ := ak_gS_c hS
        obtain ⟨x, rfl⟩ := ak_gl g1
        exact ⟨_, rfl, ak_win_full _, trivial, hS1⟩
      · cases h0
    · cases h0
  case i2b =>
    dsimp only at h0
    split at h0
    · split at h0
      · rename_i hq
        subst hq
        cases h0
        obtain ⟨v1, st1, rfl, g1, -, hS1⟩ := ak_gS_c hS
        obtain ⟨x, rfl, g1⟩ := ak_gi g1
        exact ⟨_, rfl, ak_i2b_ok x, trivial, hS1⟩
      · cases h0
    · cases h0
  case i2c =>
    dsimp only at h0
    split at h0
    · split at h0
      · rename_i hq
        subst hq
        cases h0
        obtain ⟨v1, st1, rfl, g1, -, hS1⟩ := ak_gS_c hS
        obtain ⟨x, rfl, g1⟩ := ak_gi g1
        exact ⟨_, rfl, ak_i2c_ok x, trivial, hS1⟩
      · cases h0
    · cases h0
  case dup =>
    dsimp only at h0
    split at h0
    · split at h0
      · rename_i hq
        obtain ⟨rfl, hq⟩ := hq
        cases h0
        obtain ⟨v1, st1, rfl, g1, g2, hS1⟩ := ak_gS_c hS
        have hc := (ak_gcat g1).trans hq
        exact ⟨v1 :: v1 :: st1, if_pos ⟨rfl, hc⟩, g1, g2, g1, g2, hS1⟩
      · cases h0
    · cases h0
  case pop =>
    dsimp only at h0
    split at h0
    · split at h0
      · rename_i hq
        obtain ⟨rfl, hq⟩ := hq
        cases h0
        obtain ⟨v1, st1, rfl, g1, g2, hS1⟩ := ak_gS_c hS
        have hc := (ak_gcat g1).trans hq
        exact ⟨st1, if_pos ⟨rfl, hc⟩, hS1⟩
      · cases h0
    · cases h0
  case dup2 =>
    dsimp only at h0
    split at h0
    · split at h0
      · rename_i hq
        obtain ⟨rfl, hq, hq2⟩ := hq
        cases h0
        obtain ⟨v1, st1, rfl, g1, g2, hS1⟩ := ak_gS_c hS
        obtain ⟨v2, st2, rfl, g3, g4, hS2⟩ := ak_gS_c hS1
        have hc := (ak_gcat g1).trans hq
        have hc2 := (ak_gcat g3).trans hq2
        exact ⟨v1 :: v2 :: v1 :: v2 :: st2, if_pos ⟨rfl, hc, hc2⟩, g1, g2, g3, g4, g1, g2, g3, g4, hS2⟩
      · cases h0
    · cases h0
  all_goals cases h0
end AKSTK
