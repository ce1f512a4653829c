/-! LISTS OF INTS MADE; WHAT CHANGES NOTHING (for the lifting program) -/
def fx_na (X : fx_X) (n : Nat) : fx_X := (X.1, X.2.1, X.2.2.1, fun r => if r = X.2.2.2.2 then (0, n) else X.2.2.2.1 r, X.2.2.2.2 + 1)
section FX11
variable {tb : aj_T} {h : aj_H} {mm : aj_M} {M N pc m : Nat} {lv : aj_V} {st rest : List Value} {X : fx_X} {Q : Option Value → fx_X → Prop} {ct : List (Nat × Instr × Nat)}
theorem fx_T_na (hT : fx_T tb h) : fx_T tb (h ++ ([.inl (0, m, .inl (fun _ => 0))] : aj_H)) := by
  obtain ⟨t1, t2, t3, t4, t5, t6⟩ := hT
  refine ⟨t1, t2, by rw [List.length_append]; omega, fun c ci fs hx => ?_, fun c hc => ?_, fun c k n x hx => ?_⟩
  · by_cases hl : c < h.length
    · rw [List.getElem?_append_left hl] at hx
      obtain ⟨q, q1, q2, q3, q4, q5⟩ := t4 c ci fs hx
      refine ⟨q, q1, q2, q3, fun e he h1 => ⟨(q4 e he h1).1, ?_⟩, q5⟩
      rw [fx_c_in t1 (by rw [(q4 e he h1).2]; exact fx_fin9 e he)]
      exact (q4 e he h1).2
    · rw [List.getElem?_append_right (by omega)] at hx
      rcases hz : c - h.length with _ | z
      · rw [hz] at hx; cases hx
      · rw [hz] at hx; cases hx
  · rw [List.getElem?_append_left (by omega)]
    exact t5 c hc
  · by_cases hl : c < h.length
    · rw [List.getElem?_append_left hl] at hx
      exact t6 c k n x hx
    · rw [List.getElem?_append_right (by omega)] at hx
      rcases hz : c - h.length with _ | z
      · rw [hz] at hx; cases hx; exact ⟨by decide, fun f e i _ => by cases e; exact fx_rg0 _⟩
      · rw [hz] at hx; cases hx
theorem fx_V_na (htb : tb.length = 52) : fx_V tb (h ++ ([.inl (0, m, .inl (fun _ => 0))] : aj_H)) = fx_na (fx_V tb h) m := by
  have ht : (fx_V tb h).2.2.2.2 = 52 + h.length := by
    show tb.length + h.length = _
    rw [htb]
  have hi : ∀ {r : Nat}, r < 52 + h.length → fx_c tb (h ++ ([.inl (0, m, .inl (fun _ => 0))] : aj_H)) r = fx_c tb h r := fun hr => by rw [fx_c_app htb, if_pos hr]
  have hk : ∀ {r : Nat}, ¬ r < 52 + h.length → fx_c tb h r = none ∧ (r = 52 + h.length ∧ fx_c tb (h ++ ([.inl (0, m, .inl (fun _ => 0))] : aj_H)) r = some (.inl (0, m, .inl (fun _ => 0))) ∨ 52 + h.length + 1 ≤ r ∧ fx_c tb (h ++ ([.inl (0, m, .inl (fun _ => 0))] : aj_H)) r = none) := by
    intro r hr
    refine ⟨fx_c_out htb (by omega), ?_⟩
    rw [fx_c_app htb, if_neg hr]
    rcases hz : r - (52 + h.length) with _ | z
    · exact Or.inl ⟨by omega, rfl⟩
    · exact Or.inr ⟨by omega, rfl⟩
  refine fx_V_ext (fun r j => ?_) (fun r j => ?_) (fun r j => ?_) (fun r => ?_) ?_
  · show _ = fx_I (fx_c tb h r) j
    by_cases hr : r < 52 + h.length
    · rw [hi hr]
    · obtain ⟨k1, k2⟩ := hk hr
      rw [k1]
      rcases k2 with ⟨-, k2⟩ | ⟨-, k2⟩ <;> (rw [k2]; try rfl)
  · show _ = fx_L (fx_c tb h r) j
    by_cases hr : r < 52 + h.length
    · rw [hi hr]
    · obtain ⟨k1, k2⟩ := hk hr
      rw [k1]
      rcases k2 with ⟨-, k2⟩ | ⟨-, k2⟩ <;> (rw [k2]; try rfl)
  · show _ = fx_R (fx_c tb h r) j
    by_cases hr : r < 52 + h.length
    · rw [hi hr]
    · obtain ⟨k1, k2⟩ := hk hr
      rw [k1]
      rcases k2 with ⟨-, k2⟩ | ⟨-, k2⟩ <;> (rw [k2]; try rfl)
  · show _ = if r = (fx_V tb h).2.2.2.2 then (0, m) else fx_A (fx_c tb h r)
    rw [ht]
    by_cases hr : r < 52 + h.length
    · rw [hi hr, if_neg (by omega)]
    · obtain ⟨k1, k2⟩ := hk hr
      rw [k1]
      rcases k2 with ⟨e, k2⟩ | ⟨e, k2⟩ <;> rw [k2]
      · rw [if_pos e]; rfl
      · rw [if_neg (by omega)]
  · rw [List.length_append]
    show tb.length + (h.length + 1) = (fx_V tb h).2.2.2.2 + 1
    rw [ht, htb]
    omega
theorem fx_na_le (hT : fx_T tb h) : fx_le (fx_V tb h) (fx_na (fx_V tb h) m) := by
  have t1 := hT.1
  refine ⟨Nat.le_add_right _ _, fun r hr => ?_⟩
  rw [← fx_V_na t1]
  show fx_A (fx_c tb (h ++ ([.inl (0, m, .inl (fun _ => 0))] : aj_H)) r) = fx_A (fx_c tb h r)
  rw [fx_c_in t1 hr]
theorem fx_nA (hct : aj_ctOK ct mm.2.1) (hd : aj_ct ct pc = some (.newarray .int, 2)) (hM : M ≤ N + 1) {x : Int32} (kk : fx_le X (fx_na X x.toInt.toNat) → fx_W tb mm N (pc + 2) lv (.ref X.2.2.2.2 :: rest) (fx_na X x.toInt.toNat) Q) : fx_W tb mm M pc lv (.int x :: rest) X Q :=
  fx_g0 hct hd hM fun h hT hV out ho => by
    have h0 : aj_step aj_rc aj_cls tb mm.2.2.2.2.2.1 mm.2.2.1 mm.2.2.2.1 false (.newarray .int) 2 pc lv (.int x :: rest) h = (if 0 < 6 ∧ ¬ x < 0 ∧ x.toNatClampNeg ≤ 60000000 then some (.inl ((pc + 2, lv, .ref (tb.length + h.length) :: rest), h ++ ([.inl (0, aj_blank 0 x.toNatClampNeg)] : aj_H), 1, x.toNatClampNeg)) else none) := rfl
    rw [h0] at ho
    refine Or.inr ?_
    split at ho
    · cases ho
      have hle := fx_na_le (m := x.toInt.toNat) hT
      rw [hV] at hle
      have eV := fx_V_na (h := h) (m := x.toInt.toNat) hT.1
      rw [hV] at eV
      refine ⟨_, _, _, _, _, _, rfl, fx_T_na (m := x.toInt.toNat) hT, ?_, ?_⟩
      · show fx_le X (fx_V tb (h ++ ([.inl (0, x.toInt.toNat, .inl (fun _ => 0))] : aj_H)))
        rw [eV]
        exact hle
      · show fx_W tb mm N (pc + 2) lv (.ref (tb.length + h.length) :: rest) (fx_V tb (h ++ ([.inl (0, x.toInt.toNat, .inl (fun _ => 0))] : aj_H))) Q
        rw [eV]
        have ht : X.2.2.2.2 = tb.length + h.length := by rw [← hV]; rfl
        rw [ht] at kk
        exact kk hle
    · cases ho
end FX11
/-! methods that change nothing -/
def aj_pl (i : Instr) : Option Nat := match i with
  | .iconst _ => some 1
  | .bipush _ => some 2
  | .iload_n _ => some 1
  | .iload _ => some 2
  | .aload_n _ => some 1
  | .istore_n _ => some 1
  | .istore _ => some 2
  | .iinc _ _ => some 3
  | .iadd => some 1
  | .isub => some 1
  | .iand => some 1
  | .ior => some 1
  | .ixor => some 1
  | .ishl => some 1
  | .iushr => some 1
  | .iaload => some 1
  | .arraylength => some 1
  | .ldc_w _ => some 3
  | _ => none
def aj_pk (ct : List (Nat × Instr × Nat)) (pc : Nat) : Bool := (aj_ct ct pc).isSome
def aj_pj (ct : List (Nat × Instr × Nat)) (pc : Nat) (off : Int) : Bool := aj_pk ct ((pc : Int) + off).toNat
def aj_pu (ct : List (Nat × Instr × Nat)) (lk : List aj_L) (pc : Nat) (i : Instr) (len : Nat) : Bool := match aj_pl i with
  | some l => decide (len = l) && aj_pk ct (pc + l)
  | none => match i with
    | .if_icmp _ off => aj_pk ct (pc + 3) && aj_pj ct pc off
    | .ifCond _ off => aj_pk ct (pc + 3) && aj_pj ct pc off
    | .goto off => aj_pj ct pc off
    | .ireturn => true
    | .invokestatic idx => !(aj_isNat lk idx) && ((match aj_link lk idx with | some (_, mi, _, _) => decide (mi = 169 ∨ mi = 170) | none => false) && aj_pk ct (pc + 3))
    | _ => false
def aj_po (ct : List (Nat × Instr × Nat)) (h : aj_H) (out : aj_Out) : Prop := match out with
  | .inl ((pc', _, _), h', dc, _) => h' = h ∧ dc = 0 ∧ aj_pk ct pc' = true
  | .inr (.inl (kind, mi, _, (pc', _, _))) => kind = 6 ∧ (mi = 169 ∨ mi = 170) ∧ aj_pk ct pc' = true
  | .inr (.inr v) => ∃ x : Int32, v = some (.int x)
section AJPU
variable {ct : List (Nat × Instr × Nat)} {lk : List aj_L} {rc nL pc len : Nat} {cls : List aj_C} {tb : aj_T} {ret : Option FieldType} {isI : Bool} {i : Instr} {lv : aj_V} {st : List Value} {h : aj_H} {out : aj_Out} {m : aj_M} {deep : Bool}
theorem aj_po_go {p : Nat} {l : aj_V} {s : List Value} (hk : aj_pk ct p = true) (ho : aj_go p l s h = some out) : aj_po ct h out := by
  unfold aj_go at ho
  cases ho
  exact ⟨rfl, rfl, hk⟩
theorem aj_po_jump {off : Int} {l : aj_V} {s : List Value} (hk : aj_pj ct pc off = true) (ho : aj_jump pc off l s h = some out) : aj_po ct h out := by
  unfold aj_jump at ho
  split at ho
  · exact aj_po_go hk ho
  · cases ho
theorem aj_po_br {c : ClassFile.Cond} {x y : Int32} {off : Int} {l : aj_V} {s : List Value} (hk : aj_pk ct (pc + 3) = true ∧ aj_pj ct pc off = true) (ho : aj_br c x y pc off l s h = some out) : aj_po ct h out := by
  unfold aj_br at ho
  split at ho
  · split at ho
    · exact aj_po_go hk.2 ho
    · exact aj_po_go hk.1 ho
  · cases ho
theorem aj_po_load {l k kd : Nat} (hk : aj_pk ct (pc + l) = true) (ho : aj_load pc lv st h l k kd = some out) : aj_po ct h out := by
  unfold aj_load at ho
  repeat' split at ho
  all_goals first
    | exact aj_po_go hk ho
    | cases ho
theorem aj_po_store {l k kd : Nat} (hk : aj_pk ct (pc + l) = true) (ho : aj_store nL pc lv st h l k kd = some out) : aj_po ct h out := by
  unfold aj_store at ho
  repeat' split at ho
  all_goals first
    | exact aj_po_go hk ho
    | cases ho
theorem aj_po_ii {f : Int32 → Int32 → Int32} (hk : aj_pk ct (pc + 1) = true) (ho : aj_ii f pc lv st h = some out) : aj_po ct h out := by
  unfold aj_ii at ho
  split at ho
  · exact aj_po_go hk ho
  · cases ho
theorem aj_pure (hp : aj_pu ct lk pc i len = true) (ho : aj_step rc cls tb lk nL ret isI i len pc lv st h = some out) : aj_po ct h out := by
  cases i with
  | iconst n =>
    have hp : (decide (len = 1) && aj_pk ct (pc + 1)) = true := hp
    rw [Bool.and_eq_true, decide_eq_true_eq] at hp
    have ho : (if len = 1 then aj_go (pc + 1) lv (.int (Int32.ofInt n) :: st) h else none) = some out := ho
    rw [if_pos hp.1] at ho
    exact aj_po_go hp.2 ho
  | bipush n =>
    have hp : (decide (len = 2) && aj_pk ct (pc + 2)) = true := hp
    rw [Bool.and_eq_true, decide_eq_true_eq] at hp
    have ho : (if len = 2 then aj_go (pc + 2) lv (.int (Int8.ofInt n).toInt32 :: st) h else none) = some out := ho
    rw [if_pos hp.1] at ho
    exact aj_po_go hp.2 ho
  | iload_n k =>
    have hp : (decide (len = 1) && aj_pk ct (pc + 1)) = true := hp
    rw [Bool.and_eq_true, decide_eq_true_eq] at hp
    have ho : (if len = 1 then aj_load pc lv st h 1 k 0 else none) = some out := ho
    rw [if_pos hp.1] at ho
    exact aj_po_load hp.2 ho
  | iload k =>
    have hp : (decide (len = 2) && aj_pk ct (pc + 2)) = true := hp
    rw [Bool.and_eq_true, decide_eq_true_eq] at hp
    have ho : (if len = 2 then aj_load pc lv st h 2 k 0 else none) = some out := ho
    rw [if_pos hp.1] at ho
    exact aj_po_load hp.2 ho
  | aload_n k =>
    have hp : (decide (len = 1) && aj_pk ct (pc + 1)) = true := hp
    rw [Bool.and_eq_true, decide_eq_true_eq] at hp
    have ho : (if len = 1 then aj_load pc lv st h 1 k 2 else none) = some out := ho
    rw [if_pos hp.1] at ho
    exact aj_po_load hp.2 ho
  | istore_n k =>
    have hp : (decide (len = 1) && aj_pk ct (pc + 1)) = true := hp
    rw [Bool.and_eq_true, decide_eq_true_eq] at hp
    have ho : (if len = 1 then aj_store nL pc lv st h 1 k 0 else none) = some out := ho
    rw [if_pos hp.1] at ho
    exact aj_po_store hp.2 ho
  | istore k =>
    have hp : (decide (len = 2) && aj_pk ct (pc + 2)) = true := hp
    rw [Bool.and_eq_true, decide_eq_true_eq] at hp
    have ho : (if len = 2 then aj_store nL pc lv st h 2 k 0 else none) = some out := ho
    rw [if_pos hp.1] at ho
    exact aj_po_store hp.2 ho
  | iinc k n =>
    have hp : (decide (len = 3) && aj_pk ct (pc + 3)) = true := hp
    rw [Bool.and_eq_true, decide_eq_true_eq] at hp
    have ho : (match aj_lv lv k with
      | some (.int x) => if len = 3 ∧ k < nL then aj_go (pc + 3) (aj_set1 lv k (.int (x + Int32.ofInt n))) st h else none
      | _ => none) = some out := ho
    split at ho
    · split at ho
      · exact aj_po_go hp.2 ho
      · cases ho
    · cases ho
  | iadd =>
    have hp : (decide (len = 1) && aj_pk ct (pc + 1)) = true := hp
    rw [Bool.and_eq_true, decide_eq_true_eq] at hp
    have ho : (if len = 1 then aj_ii (fun x y => x + y) pc lv st h else none) = some out := ho
    rw [if_pos hp.1] at ho
    exact aj_po_ii hp.2 ho
  | isub =>
    have hp : (decide (len = 1) && aj_pk ct (pc + 1)) = true := hp
    rw [Bool.and_eq_true, decide_eq_true_eq] at hp
    have ho : (if len = 1 then aj_ii (fun x y => x - y) pc lv st h else none) = some out := ho
    rw [if_pos hp.1] at ho
    exact aj_po_ii hp.2 ho
  | iand =>
    have hp : (decide (len = 1) && aj_pk ct (pc + 1)) = true := hp
    rw [Bool.and_eq_true, decide_eq_true_eq] at hp
    have ho : (if len = 1 then aj_ii (fun x y => x &&& y) pc lv st h else none) = some out := ho
    rw [if_pos hp.1] at ho
    exact aj_po_ii hp.2 ho
  | ior =>
    have hp : (decide (len = 1) && aj_pk ct (pc + 1)) = true := hp
    rw [Bool.and_eq_true, decide_eq_true_eq] at hp
    have ho : (if len = 1 then aj_ii (fun x y => x ||| y) pc lv st h else none) = some out := ho
    rw [if_pos hp.1] at ho
    exact aj_po_ii hp.2 ho
  | ixor =>
    have hp : (decide (len = 1) && aj_pk ct (pc + 1)) = true := hp
    rw [Bool.and_eq_true, decide_eq_true_eq] at hp
    have ho : (if len = 1 then aj_ii (fun x y => x ^^^ y) pc lv st h else none) = some out := ho
    rw [if_pos hp.1] at ho
    exact aj_po_ii hp.2 ho
  | ishl =>
    have hp : (decide (len = 1) && aj_pk ct (pc + 1)) = true := hp
    rw [Bool.and_eq_true, decide_eq_true_eq] at hp
    have ho : (if len = 1 then aj_ii (fun x y => x <<< (y &&& 31)) pc lv st h else none) = some out := ho
    rw [if_pos hp.1] at ho
    exact aj_po_ii hp.2 ho
  | iushr =>
    have hp : (decide (len = 1) && aj_pk ct (pc + 1)) = true := hp
    rw [Bool.and_eq_true, decide_eq_true_eq] at hp
    have ho : (if len = 1 then aj_ii (fun x y => (x.toUInt32 >>> (y.toUInt32 &&& Int32.toUInt32 31)).toInt32) pc lv st h else none) = some out := ho
    rw [if_pos hp.1] at ho
    exact aj_po_ii hp.2 ho
  | iaload =>
    have hp : (decide (len = 1) && aj_pk ct (pc + 1)) = true := hp
    rw [Bool.and_eq_true, decide_eq_true_eq] at hp
    have ho : (if len = 1 then aj_ald 0 tb pc lv st h else none) = some out := ho
    rw [if_pos hp.1] at ho
    unfold aj_ald at ho
    repeat' split at ho
    all_goals first
      | exact aj_po_go hp.2 ho
      | cases ho
  | arraylength =>
    have hp : (decide (len = 1) && aj_pk ct (pc + 1)) = true := hp
    rw [Bool.and_eq_true, decide_eq_true_eq] at hp
    have ho : (if len = 1 then aj_alen tb pc lv st h else none) = some out := ho
    rw [if_pos hp.1] at ho
    unfold aj_alen at ho
    repeat' split at ho
    all_goals first
      | exact aj_po_go hp.2 ho
      | cases ho
  | ldc_w idx =>
    have hp : (decide (len = 3) && aj_pk ct (pc + 3)) = true := hp
    rw [Bool.and_eq_true, decide_eq_true_eq] at hp
    have ho : (if len = 3 then (match aj_link lk idx with | some (10, _) => aj_ldc lk 3 pc idx lv st h | _ => none) else none) = some out := ho
    rw [if_pos hp.1] at ho
    unfold aj_ldc at ho
    repeat' split at ho
    all_goals first
      | exact aj_po_go hp.2 ho
      | cases ho
  | if_icmp c off =>
    have hp : (aj_pk ct (pc + 3) && aj_pj ct pc off) = true := hp
    rw [Bool.and_eq_true] at hp
    unfold aj_step at ho
    dsimp only at ho
    split at ho
    · split at ho
      · exact aj_po_br hp ho
      · cases ho
    · cases ho
  | ifCond c off =>
    have hp : (aj_pk ct (pc + 3) && aj_pj ct pc off) = true := hp
    rw [Bool.and_eq_true] at hp
    unfold aj_step at ho
    dsimp only at ho
    split at ho
    · split at ho
      · exact aj_po_br hp ho
      · cases ho
    · cases ho
  | goto off =>
    have hp : aj_pj ct pc off = true := hp
    have ho : (if len = 3 then aj_jump pc off lv st h else none) = some out := ho
    split at ho
    · exact aj_po_jump hp ho
    · cases ho
  | ireturn =>
    have ho : (if len = 1 then aj_ret ret st 0 else none) = some out := ho
    split at ho
    · unfold aj_ret at ho
      repeat' split at ho
      all_goals first
        | (cases ho; exact ⟨_, rfl⟩)
        | (cases ho; done)
        | (rename_i hz; exact absurd hz (by decide))
        | omega
    · cases ho
  | invokestatic idx =>
    have hp : (!(aj_isNat lk idx) && ((match aj_link lk idx with | some (_, mi, _, _) => decide (mi = 169 ∨ mi = 170) | none => false) && aj_pk ct (pc + 3))) = true := hp
    rw [Bool.and_eq_true, Bool.and_eq_true, Bool.not_eq_true'] at hp
    obtain ⟨p1, p2, p3⟩ := hp
    have ho : (if len = 3 then (if aj_isNat lk idx = true then aj_nat tb lk pc idx lv st h else aj_call 6 6 tb lk pc idx lv st h) else none) = some out := ho
    split at ho
    · rw [p1, if_neg (by decide)] at ho
      unfold aj_call at ho
      cases hl : aj_link lk idx with
      | none => rw [hl] at ho; cases ho
      | some q =>
        obtain ⟨kind, mi, n, v⟩ := q
        rw [hl] at ho p2
        dsimp only at ho p2
        split at ho
        · rename_i hk
          have h6 : kind = 6 := by omega
          rw [if_pos h6] at ho
          split at ho
          · cases ho
            exact ⟨h6, of_decide_eq_true p2, p3⟩
          · cases ho
        · cases ho
    · cases ho
  | _ => exact absurd hp (by first | decide | (intro z; cases z))
theorem aj_frm_pure {call : Nat → List Value → aj_H → Nat → Nat → Option Value → aj_H → Prop} (hct : aj_ctOK ct m.2.1) (hall : ∀ pc i len, aj_ct ct pc = some (i, len) → aj_pu ct m.2.2.2.2.2.1 pc i len = true) (hc : ∀ mi as h mc ms r h', (mi = 169 ∨ mi = 170) → call mi as h mc ms r h' → h' = h) : ∀ (n pc : Nat) (lv : aj_V) (st : List Value) (h : aj_H) (kc ks mc ms : Nat) (r : Option Value) (hF : aj_H), aj_pk ct pc = true → aj_frm rc cls tb m isI deep call n pc lv st h kc ks mc ms r hF → hF = h ∧ ∃ x : Int32, r = some (.int x) := by
  intro n
  induction n with
  | zero => intro pc lv st h kc ks mc ms r hF _ q; exact q.elim
  | succ n ih =>
    intro pc lv st h kc ks mc ms r hF hk q
    unfold aj_pk at hk
    cases hi : aj_ct ct pc with
    | none => rw [hi] at hk; cases hk
    | some q0 =>
      obtain ⟨i, len⟩ := q0
      unfold aj_frm at q
      rw [aj_ct_ok hct hi] at q
      dsimp only at q
      cases ho : aj_step rc cls tb m.2.2.2.2.2.1 m.2.2.1 m.2.2.2.1 isI i len pc lv st h with
      | none => rw [ho] at q; exact q.elim
      | some out =>
        have hpo := aj_pure (hall pc i len hi) ho
        rw [ho] at q
        rcases out with ⟨⟨pc', lv', st'⟩, h', dc, ds⟩ | ⟨kind, mi, as, pc', lv', st'⟩ | v
        · obtain ⟨e1, e2, e3⟩ := hpo
          subst e1
          exact ih _ _ _ _ _ _ _ _ _ _ e3 q.2.2
        · obtain ⟨e1, e2, e3⟩ := hpo
          obtain ⟨-, q⟩ := q
          rcases q with ⟨k5, -⟩ | ⟨-, mc', ms', r', h', c1, -, -, -, q⟩
          · omega
          · have e := hc mi as h mc' ms' r' h' e2 c1
            subst e
            exact ih _ _ _ _ _ _ _ _ _ _ e3 q
        · obtain ⟨x, e⟩ := hpo
          exact ⟨q.2.1, x, by rw [q.1, e]⟩
theorem aj_pu_all (h0 : ct.all (fun q => aj_pu ct lk q.1 q.2.1 q.2.2) = true) : ∀ pc i len, aj_ct ct pc = some (i, len) → aj_pu ct lk pc i len = true := by
  intro pc i len h
  unfold aj_ct at h
  obtain ⟨q, hq, he⟩ := Option.map_eq_some_iff.mp h
  have h1 := List.find?_some hq
  have h3 : q.1 = pc := by simpa using h1
  have h2 := List.all_eq_true.mp h0 q (List.mem_of_find?_eq_some hq)
  rw [h3, he] at h2
  exact h2
theorem aj_runs_pure : ∀ (d mi : Nat) (as : List Value) (h : aj_H) (mc ms : Nat) (r : Option Value) (h' : aj_H), (mi = 169 ∨ mi = 170) → aj_runs rc cls tb aj_mt d mi as h mc ms r h' → h' = h ∧ ∃ x : Int32, r = some (.int x) := by
  have a169 := aj_pu_all (ct := aj_c169) (lk := aj_m169.2.2.2.2.2.1) (by decide +kernel)
  have a170 := aj_pu_all (ct := aj_c170) (lk := aj_m170.2.2.2.2.2.1) (by decide +kernel)
  have k169 : aj_pk aj_c169 0 = true := by decide +kernel
  have k170 : aj_pk aj_c170 0 = true := by decide +kernel
  intro d
  induction d with
  | zero =>
    intro mi as h mc ms r h' hm q
    obtain ⟨m, e, -, n, q⟩ := q
    rcases hm with hm | hm
    · subst hm
      rw [aj_m169_at] at e
      cases e
      exact aj_frm_pure aj_d169 a169 (fun _ _ _ _ _ _ _ _ z => z.elim) _ _ _ _ _ _ _ _ _ _ _ k169 q
    · subst hm
      rw [aj_m170_at] at e
      cases e
      exact aj_frm_pure aj_d170 a170 (fun _ _ _ _ _ _ _ _ z => z.elim) _ _ _ _ _ _ _ _ _ _ _ k170 q
  | succ d ih =>
    intro mi as h mc ms r h' hm q
    obtain ⟨m, e, -, n, q⟩ := q
    rcases hm with hm | hm
    · subst hm
      rw [aj_m169_at] at e
      cases e
      exact aj_frm_pure aj_d169 a169 (fun mi as h mc ms r h' hm z => (ih mi as h mc ms r h' hm z).1) _ _ _ _ _ _ _ _ _ _ _ k169 q
    · subst hm
      rw [aj_m170_at] at e
      cases e
      exact aj_frm_pure aj_d170 a170 (fun mi as h mc ms r h' hm z => (ih mi as h mc ms r h' hm z).1) _ _ _ _ _ _ _ _ _ _ _ k170 q
end AJPU
/-- a search that changes nothing -/
def gx_169 (_ _ _ _ _ : Int32) (X : fx_X) (_ : Int32) (X' : fx_X) : Prop := X' = X
theorem gx_169_ok {tb : aj_T} (p1 p2 p3 p4 p5 : Int32) {X : fx_X} : fx_K tb 169 [.ref 114, .int p1, .int p2, .int p3, .int p4, .int p5] X (fx_Q fx_qI (fun v X' => gx_169 p1 p2 p3 p4 p5 X v X')) := by
  intro d h mc ms r h' hT hV q
  obtain ⟨e, x, e2⟩ := aj_runs_pure d 169 _ h mc ms r h' (Or.inl rfl) q
  subst e
  refine ⟨hT, by rw [hV]; exact fx_le_rf, x, e2, ?_⟩
  show fx_V tb h' = X
  exact hV
