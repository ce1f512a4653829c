section AJSYMRUN
variable {ρ : Nat → Int32} {tb' tb : aj_T} {pc : Nat} {lv : aj_V} {st : List Value} {h : aj_H} {out : aj_Out}
theorem aj_step_s (hT : aj_sT tb' tb) {rc : Nat} {cls : List aj_C} {lk : List aj_L} {nL : Nat} {ret : Option FieldType} {isI : Bool} {i : Instr} {len : Nat}
    (h0 : aj_step rc cls tb' lk nL ret isI i len pc lv st h = some out) : aj_step rc cls tb lk nL ret isI i len pc (aj_sV ρ lv) (st.map (aj_sv ρ)) (aj_sH ρ h) = some (aj_sO ρ out) := by
  cases i
  case dup =>
    rcases st with _ | ⟨v, r⟩
    · cases h0
    · by_cases hq : len = 1 ∧ v.category = 1
      · have h0 : aj_go (pc + 1) lv (v :: v :: r) h = some out := by
          have z : (if len = 1 ∧ v.category = 1 then aj_go (pc + 1) lv (v :: v :: r) h else none) = some out := h0
          rw [if_pos hq] at z
          exact z
        exact (if_pos (by rw [aj_sv_cat]; exact hq)).trans (aj_go_s h0)
      · have z : (if len = 1 ∧ v.category = 1 then aj_go (pc + 1) lv (v :: v :: r) h else none) = some out := h0
        rw [if_neg hq] at z
        cases z
  case pop =>
    rcases st with _ | ⟨v, r⟩
    · cases h0
    · by_cases hq : len = 1 ∧ v.category = 1
      · have h0 : aj_go (pc + 1) lv r h = some out := by
          have z : (if len = 1 ∧ v.category = 1 then aj_go (pc + 1) lv r h else none) = some out := h0
          rw [if_pos hq] at z
          exact z
        exact (if_pos (by rw [aj_sv_cat]; exact hq)).trans (aj_go_s h0)
      · have z : (if len = 1 ∧ v.category = 1 then aj_go (pc + 1) lv r h else none) = some out := h0
        rw [if_neg hq] at z
        cases z
  case dup2 =>
    rcases st with _ | ⟨v, _ | ⟨w, r⟩⟩
    · cases h0
    · cases h0
    · by_cases hq : len = 1 ∧ v.category = 1 ∧ w.category = 1
      · have h0 : aj_go (pc + 1) lv (v :: w :: v :: w :: r) h = some out := by
          have z : (if len = 1 ∧ v.category = 1 ∧ w.category = 1 then aj_go (pc + 1) lv (v :: w :: v :: w :: r) h else none) = some out := h0
          rw [if_pos hq] at z
          exact z
        exact (if_pos (by rw [aj_sv_cat, aj_sv_cat]; exact hq)).trans (aj_go_s h0)
      · have z : (if len = 1 ∧ v.category = 1 ∧ w.category = 1 then aj_go (pc + 1) lv (v :: w :: v :: w :: r) h else none) = some out := h0
        rw [if_neg hq] at z
        cases z
  case iinc k n =>
    unfold aj_step at h0 ⊢
    dsimp only at h0 ⊢
    split at h0
    · rename_i x hx
      split at h0
      · rename_i hq
        have hx := aj_lv_s (ρ := ρ) hx
        have g := aj_go_s (ρ := ρ) h0
        rw [aj_set1_s] at g
        rw [hx]
        exact (if_pos hq).trans g
      · cases h0
    · cases h0
  case tableswitch dflt lo hi offs =>
    unfold aj_step at h0
    dsimp only at h0
    split at h0
    · split at h0
      · rename_i hq
        exact (if_pos hq).trans (aj_jump_s h0)
      · rename_i hq
        split at h0
        · rename_i off ho
          refine (if_neg hq).trans ?_
          rw [ho]
          exact aj_jump_s h0
        · cases h0
    · cases h0
  case lookupswitch dflt ps =>
    unfold aj_step at h0
    dsimp only at h0
    split at h0
    · split at h0
      · rename_i hq
        exact (if_pos hq).trans (aj_jump_s h0)
      · cases h0
    · cases h0
  case ifnull off =>
    unfold aj_step at h0
    dsimp only at h0
    split at h0
    · split at h0
      · rename_i hq
        exact (if_pos hq).trans (aj_jump_s h0)
      · cases h0
    · split at h0
      · rename_i hq
        exact (if_pos hq).trans (aj_go_s h0)
      · cases h0
    · cases h0
  case ifnonnull off =>
    unfold aj_step at h0
    dsimp only at h0
    split at h0
    · split at h0
      · rename_i hq
        exact (if_pos hq).trans (aj_go_s h0)
      · cases h0
    · split at h0
      · rename_i hq
        exact (if_pos hq).trans (aj_jump_s h0)
      · cases h0
    · cases h0
  case ldc_w idx =>
    unfold aj_step at h0 ⊢
    dsimp only at h0 ⊢
    split at h0
    · rename_i hq
      rw [if_pos hq]
      split at h0
      · exact aj_ldc_s h0
      · cases h0
    · cases h0
  case ldc2_w idx =>
    unfold aj_step at h0 ⊢
    dsimp only at h0 ⊢
    split at h0
    · rename_i hq
      rw [if_pos hq]
      split at h0
      · exact aj_ldc_s h0
      · cases h0
    · cases h0
  case lshl | lneg | lcmp | i2l | l2i | i2b | i2c =>
    unfold aj_step at h0
    dsimp only at h0
    split at h0
    · split at h0
      · rename_i hq
        exact (if_pos hq).trans (aj_go_s h0)
      · cases h0
    · cases h0
  case ifCond c off =>
    unfold aj_step at h0
    dsimp only at h0
    split at h0
    · split at h0
      · rename_i hq
        exact (if_pos hq).trans (aj_br_s h0)
      · cases h0
    · cases h0
  case if_icmp c off =>
    unfold aj_step at h0
    dsimp only at h0
    split at h0
    · split at h0
      · rename_i hq
        exact (if_pos hq).trans (aj_br_s h0)
      · cases h0
    · cases h0
  all_goals first
    | (cases h0; done)
    | (unfold aj_step at h0 ⊢
       dsimp only at h0 ⊢
       split at h0
       · rename_i hq
         rw [if_pos hq]
         first
           | exact aj_go_s h0
           | exact aj_load_s h0
           | exact aj_store_s h0
           | exact aj_ii_s h0
           | exact aj_iz_s h0
           | exact aj_ll_s h0
           | exact aj_jump_s h0
           | exact aj_ald_s hT (by decide) h0
           | exact aj_bld_s hT h0
           | exact aj_lld_s hT h0
           | exact aj_qld_s hT h0
           | exact aj_alen_s hT h0
           | exact aj_ast_s hT h0
           | exact aj_bst_s hT h0
           | exact aj_lst_s hT h0
           | exact aj_qst_s hT h0
           | exact aj_getf_s hT h0
           | exact aj_putf_s hT h0
           | exact aj_gets_s hT h0
           | exact aj_new_s hT h0
           | exact aj_newa_s hT h0
           | exact aj_anew_s hT h0
           | exact aj_ldc_s h0
           | exact aj_call_s hT h0
           | exact aj_ret_s h0
           | (split at h0
              · rename_i hn
                exact (if_pos hn).trans (aj_nat_s hT h0)
              · rename_i hn
                exact (if_neg hn).trans (aj_call_s hT h0))
       · cases h0)
end AJSYMRUN
def aj_known (kn : List (Nat × Int32)) (j : Nat) : Value := match kn.find? (fun q => q.1 == j) with
  | some q => .int q.2
  | none => .retAddr j
/-- one instruction, with unknown numbers: sid is the script's number, L its length, kn what is known of it -/
def aj_stepS (kn : List (Nat × Int32)) (sid L rc : Nat) (cls : List aj_C) (tb : aj_T) (lk : List aj_L) (nL : Nat) (ret : Option FieldType) (isI : Bool) (i : Instr) (len pc : Nat) (lv : aj_V) (st : List Value) (h : aj_H) : Option aj_Out := match i with
  | .iload_n k => match aj_lv lv k with
    | some (.retAddr j) => if len = 1 then aj_go (pc + 1) lv (.retAddr j :: st) h else none
    | _ => aj_step rc cls tb lk nL ret isI (.iload_n k) len pc lv st h
  | .iload k => match aj_lv lv k with
    | some (.retAddr j) => if len = 2 then aj_go (pc + 2) lv (.retAddr j :: st) h else none
    | _ => aj_step rc cls tb lk nL ret isI (.iload k) len pc lv st h
  | .istore_n k => match st with
    | .retAddr j :: r => if len = 1 ∧ (k : Nat) < nL then aj_go (pc + 1) (aj_set1 lv k (.retAddr j)) r h else none
    | _ => aj_step rc cls tb lk nL ret isI (.istore_n k) len pc lv st h
  | .istore k => match st with
    | .retAddr j :: r => if len = 2 ∧ k < nL then aj_go (pc + 2) (aj_set1 lv k (.retAddr j)) r h else none
    | _ => aj_step rc cls tb lk nL ret isI (.istore k) len pc lv st h
  | .ireturn => match st, ret with
    | [.retAddr j], some .int => if len = 1 then some (.inr (.inr (some (.retAddr j)))) else none
    | _, _ => aj_step rc cls tb lk nL ret isI .ireturn len pc lv st h
  | .iaload => match st with
    | .int x :: .ref r :: rest => if r = sid then (if len = 1 ∧ aj_in x L = true then aj_go (pc + 1) lv (aj_known kn x.toNatClampNeg :: rest) h else none) else aj_step rc cls tb lk nL ret isI .iaload len pc lv st h
    | _ => none
  | .arraylength => match st with
    | .ref r :: rest => if r = sid then (if len = 1 then aj_go (pc + 1) lv (.int (Int32.ofNat L) :: rest) h else none) else aj_step rc cls tb lk nL ret isI .arraylength len pc lv st h
    | _ => none
  | .iand => match st with
    | .int y :: .retAddr j :: r => if len = 1 ∧ y = 31 ∧ j < 100 then aj_go (pc + 1) lv (.retAddr (j + 100) :: r) h else none
    | _ => aj_step rc cls tb lk nL ret isI .iand len pc lv st h
  | i => aj_step rc cls tb lk nL ret isI i len pc lv st h
theorem aj_sE_id (ρ : Nat → Int32) (v : Value) (h : ∀ j, v ≠ .retAddr j) : aj_sv ρ v = v := by
  cases v <;> first | rfl | exact absurd rfl (h _)
theorem aj_known_ok {kn : List (Nat × Int32)} {ρ xs : Nat → Int32} (hkn : ∀ q ∈ kn, xs q.1 = q.2) {j : Nat} (hj : ρ j = xs j) : aj_sv ρ (aj_known kn j) = .int (xs j) := by
  unfold aj_known
  split
  · rename_i q hq
    have h1 := hkn q (List.mem_of_find?_eq_some hq)
    have h2 : q.1 = j := by simpa using List.find?_some hq
    show Value.int _ = _
    rw [← h1, h2]
  · show Value.int _ = _
    rw [hj]
theorem aj_stepS_ok {kn : List (Nat × Int32)} {ρ xs : Nat → Int32} (hkn : ∀ q ∈ kn, xs q.1 = q.2) {tb' tb : aj_T} (hT : aj_sT tb' tb) {sid L : Nat} (hsid : sid < tb.length ∧ tb[sid]? = some (0, L, .inl xs)) (hL : L ≤ 100) (hρ : (∀ j, j < 100 → ρ j = xs j) ∧ ∀ j, j < 100 → ρ (j + 100) = ρ j &&& 31) {rc : Nat} {cls : List aj_C} {lk : List aj_L} {nL : Nat} {ret : Option FieldType} {isI : Bool} {i : Instr} {len pc : Nat} {lv : aj_V} {st : List Value} {h : aj_H} {out : aj_Out}
    (h0 : aj_stepS kn sid L rc cls tb' lk nL ret isI i len pc lv st h = some out) : aj_step rc cls tb lk nL ret isI i len pc (aj_sV ρ lv) (st.map (aj_sv ρ)) (aj_sH ρ h) = some (aj_sO ρ out) := by
  unfold aj_stepS at h0
  split at h0
  · split at h0
    · rename_i k j hx
      split at h0
      · rename_i hl
        have hx := aj_lv_s (ρ := ρ) hx
        have g := aj_go_s (ρ := ρ) h0
        unfold aj_step
        dsimp only
        rw [if_pos hl]
        unfold aj_load
        rw [hx]
        exact g
      · cases h0
    · exact aj_step_s hT h0
  · split at h0
    · rename_i k j hx
      split at h0
      · rename_i hl
        have hx := aj_lv_s (ρ := ρ) hx
        have g := aj_go_s (ρ := ρ) h0
        unfold aj_step
        dsimp only
        rw [if_pos hl]
        unfold aj_load
        rw [hx]
        exact g
      · cases h0
    · exact aj_step_s hT h0
  · split at h0
    · rename_i k j r
      split at h0
      · rename_i hl
        have g := aj_go_s (ρ := ρ) h0
        rw [aj_set1_s] at g
        unfold aj_step
        dsimp only
        rw [if_pos hl.1]
        exact (if_pos ⟨rfl, hl.2⟩).trans g
      · cases h0
    · exact aj_step_s hT h0
  · split at h0
    · rename_i k j r
      split at h0
      · rename_i hl
        have g := aj_go_s (ρ := ρ) h0
        rw [aj_set1_s] at g
        unfold aj_step
        dsimp only
        rw [if_pos hl.1]
        exact (if_pos ⟨rfl, hl.2⟩).trans g
      · cases h0
    · exact aj_step_s hT h0
  · split at h0
    · split at h0
      · rename_i hl
        cases h0
        unfold aj_step
        dsimp only
        rw [if_pos hl]
        rfl
      · cases h0
    · exact aj_step_s hT h0
  · split at h0
    · rename_i x r rest
      split at h0
      · rename_i hr
        subst hr
        split at h0
        · rename_i hq
          have g := aj_go_s (ρ := ρ) h0
          have hlt : x.toNatClampNeg < L := by
            have z := hq.2
            simp only [aj_in, Bool.and_eq_true, decide_eq_true_eq] at z
            exact z.2
          have e : aj_sv ρ (aj_known kn x.toNatClampNeg) = .int (xs x.toNatClampNeg) := aj_known_ok hkn (hρ.1 _ (by omega))
          rw [List.map_cons, e] at g
          unfold aj_step
          dsimp only
          rw [if_pos hq.1]
          have ha : aj_arr tb (aj_sH ρ h) r = some (0, L, .inl xs) := by
            unfold aj_arr
            rw [if_pos hsid.1]
            exact hsid.2
          simp only [aj_ald, List.map_cons, aj_sv, ha]
          exact (if_pos ⟨trivial, hq.2⟩).trans g
        · cases h0
      · exact aj_step_s hT h0
    · cases h0
  · split at h0
    · rename_i r rest
      split at h0
      · rename_i hr
        subst hr
        split at h0
        · rename_i hq
          have g := aj_go_s (ρ := ρ) h0
          unfold aj_step
          dsimp only
          rw [if_pos hq]
          have ha : aj_arr tb (aj_sH ρ h) r = some (0, L, .inl xs) := by
            unfold aj_arr
            rw [if_pos hsid.1]
            exact hsid.2
          simp only [aj_alen, List.map_cons, aj_sv, ha]
          exact (if_pos (by decide)).trans g
        · cases h0
      · exact aj_step_s hT h0
    · cases h0
  · split at h0
    · rename_i y j r
      split at h0
      · rename_i hq
        obtain ⟨hl, rfl, hj⟩ := hq
        have g := aj_go_s (ρ := ρ) h0
        have e : aj_sv ρ (.retAddr (j + 100)) = .int (ρ j &&& 31) := by
          show Value.int _ = _
          rw [hρ.2 _ hj]
        rw [List.map_cons, e] at g
        unfold aj_step
        dsimp only
        rw [if_pos hl]
        exact g
      · cases h0
    · exact aj_step_s hT h0
  · exact aj_step_s hT h0
/-- what has to hold at a told branch -/
abbrev aj_OS : Type := (ClassFile.Cond × Value × Value × Bool) ⊕ (Value × Int × Int × Bool)
def aj_num (ρ : Nat → Int32) : Value → Int32
  | .int x => x
  | .retAddr j => ρ j
  | _ => 0
def aj_osOK (ρ : Nat → Int32) : aj_OS → Prop
  | .inl (c, x, y, b) => aj_test c (aj_num ρ x) (aj_num ρ y) = b
  | .inr (x, lo, hi, true) => (aj_num ρ x).toInt = lo
  | .inr (x, lo, hi, false) => (aj_num ρ x).toInt < lo ∨ hi < (aj_num ρ x).toInt
def aj_iv : Value → Bool
  | .int _ => true
  | .retAddr _ => true
  | _ => false
theorem aj_iv_num {ρ : Nat → Int32} {v : Value} (h : aj_iv v = true) : aj_sv ρ v = .int (aj_num ρ v) := by
  cases v <;> first | rfl | cases h
def aj_askS (i : Instr) (len pc : Nat) (st : List Value) (b : Int) : Option (Nat × List Value × aj_OS) := match i with
  | .ifCond c off => match st with
    | x :: r => if aj_iv x = true ∧ len = 3 ∧ 0 ≤ (pc : Int) + off then some (if b = 1 then ((pc : Int) + off).toNat else pc + 3, r, .inl (c, x, .int 0, decide (b = 1))) else none
    | _ => none
  | .if_icmp c off => match st with
    | y :: x :: r => if aj_iv x = true ∧ aj_iv y = true ∧ len = 3 ∧ 0 ≤ (pc : Int) + off then some (if b = 1 then ((pc : Int) + off).toNat else pc + 3, r, .inl (c, x, y, decide (b = 1))) else none
    | _ => none
  | .tableswitch dflt lo hi offs => match st with
    | x :: r => if b < lo ∨ hi < b then (if aj_iv x = true ∧ 0 ≤ (pc : Int) + dflt then some (((pc : Int) + dflt).toNat, r, .inr (x, lo, hi, false)) else none) else match offs[(b - lo).toNat]? with
      | some off => if aj_iv x = true ∧ 0 ≤ (pc : Int) + off then some (((pc : Int) + off).toNat, r, .inr (x, b, b, true)) else none
      | none => none
    | _ => none
  | _ => none
theorem aj_askS_ok {ρ : Nat → Int32} {rc : Nat} {cls : List aj_C} {tb : aj_T} {lk : List aj_L} {nL : Nat} {ret : Option FieldType} {isI : Bool} {i : Instr} {len pc pc' : Nat} {lv : aj_V} {st st' : List Value} {h : aj_H} {b : Int} {o : aj_OS} (h0 : aj_askS i len pc st b = some (pc', st', o)) (ho : aj_osOK ρ o) : aj_step rc cls tb lk nL ret isI i len pc (aj_sV ρ lv) (st.map (aj_sv ρ)) (aj_sH ρ h) = some (.inl ((pc', aj_sV ρ lv, st'.map (aj_sv ρ)), aj_sH ρ h, 0, 0)) := by
  unfold aj_askS at h0
  split at h0
  · rename_i c off
    rcases st with _ | ⟨x, r⟩
    · cases h0
    · by_cases hq : aj_iv x = true ∧ len = 3 ∧ 0 ≤ (pc : Int) + off
      · have h9 : some (if b = 1 then ((pc : Int) + off).toNat else pc + 3, r, (.inl (c, x, .int 0, decide (b = 1)) : aj_OS)) = some (pc', st', o) := by
          have z : (if aj_iv x = true ∧ len = 3 ∧ 0 ≤ (pc : Int) + off then some (if b = 1 then ((pc : Int) + off).toNat else pc + 3, r, (.inl (c, x, .int 0, decide (b = 1)) : aj_OS)) else none) = some (pc', st', o) := h0
          rw [if_pos hq] at z
          exact z
        obtain ⟨hv, rfl, hp⟩ := hq
        cases h9
        have ho : aj_test c (aj_num ρ x) 0 = decide (b = 1) := ho
        rw [List.map_cons, aj_iv_num hv]
        simp only [aj_step, if_true, aj_br, if_pos hp, aj_go]
        by_cases hb : b = 1
        · simp [hb] at ho
          simp [hb, ho]
        · simp [hb] at ho
          simp [hb, ho]
      · have z : (if aj_iv x = true ∧ len = 3 ∧ 0 ≤ (pc : Int) + off then some (if b = 1 then ((pc : Int) + off).toNat else pc + 3, r, (.inl (c, x, .int 0, decide (b = 1)) : aj_OS)) else none) = some (pc', st', o) := h0
        rw [if_neg hq] at z
        cases z
  · rename_i c off
    rcases st with _ | ⟨y, _ | ⟨x, r⟩⟩
    · cases h0
    · cases h0
    · by_cases hq : aj_iv x = true ∧ aj_iv y = true ∧ len = 3 ∧ 0 ≤ (pc : Int) + off
      · have h9 : some (if b = 1 then ((pc : Int) + off).toNat else pc + 3, r, (.inl (c, x, y, decide (b = 1)) : aj_OS)) = some (pc', st', o) := by
          have z : (if aj_iv x = true ∧ aj_iv y = true ∧ len = 3 ∧ 0 ≤ (pc : Int) + off then some (if b = 1 then ((pc : Int) + off).toNat else pc + 3, r, (.inl (c, x, y, decide (b = 1)) : aj_OS)) else none) = some (pc', st', o) := h0
          rw [if_pos hq] at z
          exact z
        obtain ⟨hv, hw, rfl, hp⟩ := hq
        cases h9
        have ho : aj_test _ _ _ = _ := ho
        rw [List.map_cons, List.map_cons, aj_iv_num hv, aj_iv_num hw]
        simp only [aj_step, if_true, aj_br, if_pos hp, aj_go]
        by_cases hb : b = 1
        · simp [hb] at ho
          simp [hb, ho]
        · simp [hb] at ho
          simp [hb, ho]
      · have z : (if aj_iv x = true ∧ aj_iv y = true ∧ len = 3 ∧ 0 ≤ (pc : Int) + off then some (if b = 1 then ((pc : Int) + off).toNat else pc + 3, r, (.inl (c, x, y, decide (b = 1)) : aj_OS)) else none) = some (pc', st', o) := h0
        rw [if_neg hq] at z
        cases z
  · rename_i dflt lo hi offs
    rcases st with _ | ⟨x, r⟩
    · cases h0
    · by_cases hb : b < lo ∨ hi < b
      · have h0 : (if aj_iv x = true ∧ 0 ≤ (pc : Int) + dflt then some (((pc : Int) + dflt).toNat, r, (.inr (x, lo, hi, false) : aj_OS)) else none) = some (pc', st', o) := (if_pos hb).symm.trans h0
        split at h0
        · rename_i hp
          cases h0
          have ho : _ ∨ _ := ho
          rw [List.map_cons, aj_iv_num hp.1]
          simp only [aj_step, if_pos ho, aj_jump, if_pos hp.2, aj_go]
        · cases h0
      · have h0 : (match offs[(b - lo).toNat]? with | some off => if aj_iv x = true ∧ 0 ≤ (pc : Int) + off then some (((pc : Int) + off).toNat, r, (.inr (x, b, b, true) : aj_OS)) else none | none => none) = some (pc', st', o) := (if_neg hb).symm.trans h0
        split at h0
        · rename_i off hoff
          split at h0
          · rename_i hp
            cases h0
            have ho : Int32.toInt _ = _ := ho
            rw [List.map_cons, aj_iv_num hp.1]
            simp only [aj_step, ho, if_neg hb, hoff, aj_jump, if_pos hp.2, aj_go]
          · cases h0
        · cases h0
  · cases h0
