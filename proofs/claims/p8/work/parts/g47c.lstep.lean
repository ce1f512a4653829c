/-! THE SECOND LAYER, A STEP -/
/-- how many the instruction takes from the stack, how many it puts there -/
def ak_pp (i : Instr) : Option (Nat × Nat) := match i with
  | .iconst _ | .bipush _ | .sipush _ | .lconst _ | .aconst_null => some (0, 1)
  | .iload_n _ | .iload _ | .lload_n _ | .lload _ | .aload_n _ | .aload _ => some (0, 1)
  | .istore_n _ | .istore _ | .lstore_n _ | .lstore _ | .astore_n _ | .astore _ => some (1, 0)
  | .iinc _ _ => some (0, 0)
  | .iadd | .isub | .imul | .iand | .ior | .ixor | .ishl | .ishr | .iushr | .idiv | .irem => some (2, 1)
  | .ladd | .lmul | .lor | .lshl | .lcmp => some (2, 1)
  | .lneg | .i2l | .l2i | .i2b | .i2c => some (1, 1)
  | .ifCond _ _ | .ifnull _ | .ifnonnull _ => some (1, 0)
  | .if_icmp _ _ => some (2, 0)
  | .goto _ => some (0, 0)
  | .tableswitch _ _ _ _ | .lookupswitch _ _ => some (1, 0)
  | .getfield _ => some (1, 1)
  | .putfield _ => some (2, 0)
  | .iaload | .caload | .baload | .laload | .aaload => some (2, 1)
  | .arraylength => some (1, 1)
  | .iastore | .castore | .bastore | .lastore => some (3, 0)
  | .getstatic _ | .ldc _ | .ldc_w _ | .ldc2_w _ => some (0, 1)
  | .pop => some (1, 0)
  | .dup => some (1, 2)
  | _ => none
section AKPP
variable {rc : Nat} {cls : List aj_C} {tb : aj_T} {lk : List aj_L} {nL : Nat} {ret : Option FieldType} {isI : Bool} {i : Instr} {len pc pc' dc ds : Nat} {lv lv' : aj_V} {st st' : List Value} {h h' : aj_H}
theorem ak_go_i {p : Nat} {l : aj_V} {s : List Value} {g : aj_H} (hs : aj_go p l s g = some (.inl ((pc', lv', st'), h', dc, ds))) : st' = s ∧ lv' = l ∧ h' = g ∧ pc' = p := by
  unfold aj_go at hs
  cases hs
  exact ⟨rfl, rfl, rfl, rfl⟩
theorem ak_pp_load {k kind : Nat} (hs : aj_load pc lv st h len k kind = some (.inl ((pc', lv', st'), h', dc, ds))) : ∃ new : List Value, new.length = 1 ∧ st' = new ++ st.drop 0 := by
  unfold aj_load at hs
  split at hs
  all_goals first
    | (split at hs
       · obtain ⟨rfl, -⟩ := ak_go_i hs
         exact ⟨[_], rfl, rfl⟩
       · cases hs)
    | cases hs
theorem ak_pp_store {k kind : Nat} (hs : aj_store nL pc lv st h len k kind = some (.inl ((pc', lv', st'), h', dc, ds))) : ∃ new : List Value, new.length = 0 ∧ st' = new ++ st.drop 1 := by
  unfold aj_store at hs
  split at hs
  all_goals first
    | (split at hs
       · obtain ⟨rfl, -⟩ := ak_go_i hs
         exact ⟨[], rfl, rfl⟩
       · cases hs)
    | cases hs
theorem ak_pp_ii {f : Int32 → Int32 → Int32} (hs : aj_ii f pc lv st h = some (.inl ((pc', lv', st'), h', dc, ds))) : ∃ x y r, st = .int y :: .int x :: r ∧ st' = .int (f x y) :: r := by
  unfold aj_ii at hs
  split at hs
  · obtain ⟨rfl, -⟩ := ak_go_i hs
    exact ⟨_, _, _, rfl, rfl⟩
  · cases hs
theorem ak_pp_iz {f : Int32 → Int32 → Int32} (hs : aj_iz f pc lv st h = some (.inl ((pc', lv', st'), h', dc, ds))) : ∃ x y r, st = .int y :: .int x :: r ∧ st' = .int (f x y) :: r := by
  unfold aj_iz at hs
  split at hs
  · split at hs
    · cases hs
    · obtain ⟨rfl, -⟩ := ak_go_i hs
      exact ⟨_, _, _, rfl, rfl⟩
  · cases hs
theorem ak_pp_ll {f : Int64 → Int64 → Int64} (hs : aj_ll f pc lv st h = some (.inl ((pc', lv', st'), h', dc, ds))) : ∃ x y r, st = .long y :: .long x :: r ∧ st' = .long (f x y) :: r := by
  unfold aj_ll at hs
  split at hs
  · obtain ⟨rfl, -⟩ := ak_go_i hs
    exact ⟨_, _, _, rfl, rfl⟩
  · cases hs
theorem ak_pp_jump {off : Int} (hs : aj_jump pc off lv st h = some (.inl ((pc', lv', st'), h', dc, ds))) : st' = st := by
  unfold aj_jump at hs
  split at hs
  · exact (ak_go_i hs).1
  · cases hs
theorem ak_pp_br {c : ClassFile.Cond} {x y : Int32} {off : Int} (hs : aj_br c x y pc off lv st h = some (.inl ((pc', lv', st'), h', dc, ds))) : st' = st ∧ ((aj_test c x y = true ∧ pc' = ((pc : Int) + off).toNat) ∨ (aj_test c x y = false ∧ pc' = pc + 3)) := by
  unfold aj_br at hs
  split at hs
  · split at hs
    · rename_i h1
      obtain ⟨e1, -, -, e2⟩ := ak_go_i hs
      exact ⟨e1, Or.inl ⟨h1, e2⟩⟩
    · rename_i h1
      obtain ⟨e1, -, -, e2⟩ := ak_go_i hs
      exact ⟨e1, Or.inr ⟨by simpa using h1, e2⟩⟩
  · cases hs
theorem ak_pp_ok {p q : Nat} (hp : ak_pp i = some (p, q)) (hs : aj_step rc cls tb lk nL ret isI i len pc lv st h = some (.inl ((pc', lv', st'), h', dc, ds))) : ∃ new : List Value, new.length = q ∧ st' = new ++ st.drop p := by
  unfold ak_pp at hp
  cases i
  all_goals first
    | (cases hp; done)
    | skip
  all_goals cases hp
  all_goals (unfold aj_step at hs; dsimp only at hs)
  case iload_n | iload | lload_n | lload | aload_n | aload =>
    split at hs
    · exact ak_pp_load hs
    · cases hs
  case istore_n | istore | lstore_n | lstore | astore_n | astore =>
    split at hs
    · exact ak_pp_store hs
    · cases hs
  case iconst | bipush | sipush | lconst | aconst_null =>
    split at hs
    · obtain ⟨rfl, -⟩ := ak_go_i hs
      exact ⟨[_], rfl, rfl⟩
    · cases hs
  case iinc =>
    split at hs
    · split at hs
      · obtain ⟨rfl, -⟩ := ak_go_i hs
        exact ⟨[], rfl, rfl⟩
      · cases hs
    · cases hs
  case iadd | isub | imul | iand | ior | ixor | ishl | ishr | iushr =>
    split at hs
    · obtain ⟨x, y, r, rfl, rfl⟩ := ak_pp_ii hs
      exact ⟨[_], rfl, rfl⟩
    · cases hs
  case idiv | irem =>
    split at hs
    · obtain ⟨x, y, r, rfl, rfl⟩ := ak_pp_iz hs
      exact ⟨[_], rfl, rfl⟩
    · cases hs
  case ladd | lmul | lor =>
    split at hs
    · obtain ⟨x, y, r, rfl, rfl⟩ := ak_pp_ll hs
      exact ⟨[_], rfl, rfl⟩
    · cases hs
  case lshl | lcmp | lneg | i2l | l2i | i2b | i2c =>
    split at hs
    · split at hs
      · obtain ⟨rfl, -⟩ := ak_go_i hs
        exact ⟨[_], rfl, rfl⟩
      · cases hs
    · cases hs
  case pop =>
    split at hs
    · split at hs
      · obtain ⟨rfl, -⟩ := ak_go_i hs
        exact ⟨[], rfl, rfl⟩
      · cases hs
    · cases hs
  case dup =>
    split at hs
    · split at hs
      · obtain ⟨rfl, -⟩ := ak_go_i hs
        exact ⟨[_, _], rfl, rfl⟩
      · cases hs
    · cases hs
  case ifCond =>
    split at hs
    · split at hs
      · obtain ⟨rfl, -⟩ := ak_pp_br hs
        exact ⟨[], rfl, rfl⟩
      · cases hs
    · cases hs
  case if_icmp =>
    split at hs
    · split at hs
      · obtain ⟨rfl, -⟩ := ak_pp_br hs
        exact ⟨[], rfl, rfl⟩
      · cases hs
    · cases hs
  case goto =>
    split at hs
    · exact ⟨[], rfl, ak_pp_jump hs⟩
    · cases hs
  case ifnull | ifnonnull =>
    split at hs
    · split at hs
      · first
          | (obtain ⟨rfl, -⟩ := ak_go_i hs
             exact ⟨[], rfl, rfl⟩)
          | exact ⟨[], rfl, ak_pp_jump hs⟩
      · cases hs
    · split at hs
      · first
          | (obtain ⟨rfl, -⟩ := ak_go_i hs
             exact ⟨[], rfl, rfl⟩)
          | exact ⟨[], rfl, ak_pp_jump hs⟩
      · cases hs
    · cases hs
  case tableswitch =>
    split at hs
    · split at hs
      · exact ⟨[], rfl, ak_pp_jump hs⟩
      · split at hs
        · exact ⟨[], rfl, ak_pp_jump hs⟩
        · cases hs
    · cases hs
  case lookupswitch =>
    split at hs
    · split at hs
      · exact ⟨[], rfl, ak_pp_jump hs⟩
      · cases hs
    · cases hs
  case getfield =>
    split at hs
    · unfold aj_getf at hs
      split at hs
      · split at hs
        · split at hs
          · split at hs
            · obtain ⟨rfl, -⟩ := ak_go_i hs
              exact ⟨[_], rfl, rfl⟩
            · cases hs
          · cases hs
        · cases hs
      · cases hs
    · cases hs
  case putfield =>
    split at hs
    · unfold aj_putf at hs
      split at hs
      · split at hs
        · split at hs
          · split at hs
            · obtain ⟨rfl, -⟩ := ak_go_i hs
              exact ⟨[], rfl, rfl⟩
            · cases hs
          · cases hs
        · cases hs
      · cases hs
    · cases hs
  case iaload | caload =>
    split at hs
    · unfold aj_ald at hs
      split at hs
      · split at hs
        · split at hs
          · obtain ⟨rfl, -⟩ := ak_go_i hs
            exact ⟨[_], rfl, rfl⟩
          · cases hs
        · cases hs
      · cases hs
    · cases hs
  case baload =>
    split at hs
    · unfold aj_bld at hs
      split at hs
      · split at hs
        · unfold aj_ald at hs
          dsimp only at hs
          split at hs
          · split at hs
            · obtain ⟨rfl, -⟩ := ak_go_i hs
              exact ⟨[_], rfl, rfl⟩
            · cases hs
          · cases hs
        · unfold aj_ald at hs
          dsimp only at hs
          split at hs
          · split at hs
            · obtain ⟨rfl, -⟩ := ak_go_i hs
              exact ⟨[_], rfl, rfl⟩
            · cases hs
          · cases hs
      · cases hs
    · cases hs
  case laload =>
    split at hs
    · unfold aj_lld at hs
      split at hs
      · split at hs
        · split at hs
          · obtain ⟨rfl, -⟩ := ak_go_i hs
            exact ⟨[_], rfl, rfl⟩
          · cases hs
        · cases hs
      · cases hs
    · cases hs
  case aaload =>
    split at hs
    · unfold aj_qld at hs
      split at hs
      · split at hs
        · cases hs
        · split at hs
          · split at hs
            · obtain ⟨rfl, -⟩ := ak_go_i hs
              exact ⟨[_], rfl, rfl⟩
            · cases hs
          · cases hs
      · cases hs
    · cases hs
  case arraylength =>
    split at hs
    · unfold aj_alen at hs
      split at hs
      · split at hs
        · split at hs
          · obtain ⟨rfl, -⟩ := ak_go_i hs
            exact ⟨[_], rfl, rfl⟩
          · cases hs
        · cases hs
      · cases hs
    · cases hs
  case iastore | castore =>
    split at hs
    · unfold aj_ast at hs
      split at hs
      · split at hs
        · cases hs
        · split at hs
          · split at hs
            · obtain ⟨rfl, -⟩ := ak_go_i hs
              exact ⟨[], rfl, rfl⟩
            · cases hs
          · cases hs
      · cases hs
    · cases hs
  case bastore =>
    split at hs
    · unfold aj_bst at hs
      split at hs
      · split at hs
        all_goals
          unfold aj_ast at hs
          dsimp only at hs
          split at hs
          · cases hs
          · split at hs
            · split at hs
              · obtain ⟨rfl, -⟩ := ak_go_i hs
                exact ⟨[], rfl, rfl⟩
              · cases hs
            · cases hs
      · cases hs
    · cases hs
  case lastore =>
    split at hs
    · unfold aj_lst at hs
      split at hs
      · split at hs
        · cases hs
        · split at hs
          · split at hs
            · obtain ⟨rfl, -⟩ := ak_go_i hs
              exact ⟨[], rfl, rfl⟩
            · cases hs
          · cases hs
      · cases hs
    · cases hs
  case getstatic =>
    split at hs
    · unfold aj_gets at hs
      split at hs
      · split at hs
        · obtain ⟨rfl, -⟩ := ak_go_i hs
          exact ⟨[_], rfl, rfl⟩
        · cases hs
      · cases hs
    · cases hs
  case ldc =>
    split at hs
    · unfold aj_ldc at hs
      split at hs
      · obtain ⟨rfl, -⟩ := ak_go_i hs
        exact ⟨[_], rfl, rfl⟩
      · split at hs
        · obtain ⟨rfl, -⟩ := ak_go_i hs
          exact ⟨[_], rfl, rfl⟩
        · cases hs
      · cases hs
    · cases hs
  case ldc_w | ldc2_w =>
    split at hs
    · split at hs
      · unfold aj_ldc at hs
        split at hs
        · obtain ⟨rfl, -⟩ := ak_go_i hs
          exact ⟨[_], rfl, rfl⟩
        · split at hs
          · obtain ⟨rfl, -⟩ := ak_go_i hs
            exact ⟨[_], rfl, rfl⟩
          · cases hs
        · cases hs
      · cases hs
    · cases hs
end AKPP
