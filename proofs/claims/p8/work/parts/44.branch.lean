/-! THE CHECKER: branches -/
def ak_neg (c : ClassFile.Cond) : ClassFile.Cond := match c with
  | .eq => .ne
  | .ne => .eq
  | .lt => .ge
  | .ge => .lt
  | .gt => .le
  | .le => .gt
/-- what two ints are that compare so -/
def ak_rf (c : ClassFile.Cond) (p q : Int × Int) : (Int × Int) × (Int × Int) := match c with
  | .eq => ((ak_mx p.1 q.1, ak_mn p.2 q.2), (ak_mx p.1 q.1, ak_mn p.2 q.2))
  | .ne => ((if q.1 = q.2 ∧ p.1 = q.1 then p.1 + 1 else p.1, if q.1 = q.2 ∧ p.2 = q.1 then p.2 - 1 else p.2), (if p.1 = p.2 ∧ q.1 = p.1 then q.1 + 1 else q.1, if p.1 = p.2 ∧ q.2 = p.1 then q.2 - 1 else q.2))
  | .lt => ((p.1, ak_mn p.2 (q.2 - 1)), (ak_mx q.1 (p.1 + 1), q.2))
  | .ge => ((ak_mx p.1 q.1, p.2), (q.1, ak_mn q.2 p.2))
  | .gt => ((ak_mx p.1 (q.1 + 1), p.2), (q.1, ak_mn q.2 (p.2 - 1)))
  | .le => ((p.1, ak_mn p.2 q.2), (ak_mx q.1 p.1, q.2))
def ak_apL (j : Nat) (x : ak_A) (L : ak_L) : ak_L := L.map fun q => if q.1 = j then (q.1, x, q.2.2) else q
def ak_ap (p : ak_P) (iv : Int × Int) (a : ak_AS) : ak_AS := match p with
  | none => a
  | some (.inl j) => (ak_apL j (.inl iv) a.1, a.2)
  | some (.inr q) => (a.1, a.2.1, (q, iv) :: a.2.2.filter (fun z => !(z.1.1 == q.1 && z.1.2 == q.2)))
/-- the ways behind a comparison that came out so -/
def ak_way (c : ClassFile.Cond) (p q : Int × Int) (pp qq : ak_P) (tgt : Nat) (a : ak_AS) : List (Nat × ak_AS) := if (ak_rf c p q).1.1 ≤ (ak_rf c p q).1.2 ∧ (ak_rf c p q).2.1 ≤ (ak_rf c p q).2.2 then [(tgt, ak_ap qq (ak_rf c p q).2 (ak_ap pp (ak_rf c p q).1 a))] else []
def ak_apN (p : ak_P) (x : ak_A) (a : ak_AS) : ak_AS := match p with
  | some (.inl j) => (ak_apL j x a.1, a.2)
  | _ => a
def ak_nul (q : List Nat × Bool) (p : ak_P) (tn tr : Nat) (a : ak_AS) : List (Nat × ak_AS) := (if q.2 = true then [(tn, ak_apN p (.inr (some ([], true))) a)] else []) ++ (match q.1 with | [] => [] | _ => [(tr, ak_apN p (.inr (some (q.1, false))) a)])
def ak_a3 (i : Instr) (len pc : Nat) (a : ak_AS) : Option (List (Nat × ak_AS)) := match i with
  | .ifCond c off => match a.2.1 with
    | (.inl p, pp) :: R => if len = 3 ∧ 0 ≤ (pc : Int) + off then some (ak_way c p (0, 0) pp none ((pc : Int) + off).toNat (a.1, R, a.2.2) ++ ak_way (ak_neg c) p (0, 0) pp none (pc + 3) (a.1, R, a.2.2)) else none
    | _ => none
  | .if_icmp c off => match a.2.1 with
    | (.inl q, qq) :: (.inl p, pp) :: R => if len = 3 ∧ 0 ≤ (pc : Int) + off then some (ak_way c p q pp qq ((pc : Int) + off).toNat (a.1, R, a.2.2) ++ ak_way (ak_neg c) p q pp qq (pc + 3) (a.1, R, a.2.2)) else none
    | _ => none
  | .goto off => if len = 3 ∧ 0 ≤ (pc : Int) + off then some [(((pc : Int) + off).toNat, a)] else none
  | .ifnull off => match a.2.1 with
    | (.inr (some q), p) :: R => if len = 3 ∧ 0 ≤ (pc : Int) + off then some (ak_nul q p ((pc : Int) + off).toNat (pc + 3) (a.1, R, a.2.2)) else none
    | _ => none
  | .ifnonnull off => match a.2.1 with
    | (.inr (some q), p) :: R => if len = 3 ∧ 0 ≤ (pc : Int) + off then some (ak_nul q p (pc + 3) ((pc : Int) + off).toNat (a.1, R, a.2.2)) else none
    | _ => none
  | .tableswitch dflt lo hi offs => match a.2.1 with
    | (.inl _, _) :: R => if lo ≤ hi ∧ (hi - lo).toNat < offs.size ∧ (dflt :: offs.toList).all (fun o => decide (0 ≤ (pc : Int) + o)) = true then some ((dflt :: offs.toList).map fun o => (((pc : Int) + o).toNat, (a.1, R, a.2.2))) else none
    | _ => none
  | .lookupswitch dflt ps => match a.2.1 with
    | (.inl _, _) :: R => if (ps.toList.zip (ps.toList.drop 1)).all (fun (x, next) => x.1 < next.1) = true ∧ (dflt :: ps.toList.map (fun z => z.2)).all (fun o => decide (0 ≤ (pc : Int) + o)) = true then some ((dflt :: ps.toList.map (fun z => z.2)).map fun o => (((pc : Int) + o).toNat, (a.1, R, a.2.2))) else none
    | _ => none
  | _ => none
section AKBR
variable {s : List Nat} {tb : aj_T} {h : aj_H} {old : Nat → Int} {lv : aj_V} {st : List Value} {a a' : ak_AS} {v w : Value} {pc len : Nat}
theorem ak_test_neg (c : ClassFile.Cond) (x y : Int32) : aj_test (ak_neg c) x y = !aj_test c x y := by
  have k1 : ∀ a b : Int32, decide (b ≤ a) = !decide (a < b) := fun a b => by
    rw [← decide_not]
    exact decide_eq_decide.mpr Int32.not_lt.symm
  have k2 : ∀ a b : Int32, decide (a < b) = !decide (b ≤ a) := fun a b => by rw [k1, Bool.not_not]
  cases c
  · rfl
  · exact (Bool.not_not _).symm
  · exact k1 x y
  · exact k2 x y
  · exact k1 y x
  · exact k2 y x
theorem ak_rf_ok {c : ClassFile.Cond} {p q : Int × Int} {x y : Int32} (ht : aj_test c x y = true) (hx : ak_win p x) (hy : ak_win q y) : ak_win (ak_rf c p q).1 x ∧ ak_win (ak_rf c p q).2 y := by
  unfold ak_win at hx hy
  cases c
  case eq =>
    have e : x = y := of_decide_eq_true ht
    subst e
    unfold ak_win ak_rf ak_mx ak_mn
    dsimp only
    refine ⟨⟨?_, ?_⟩, ?_, ?_⟩ <;> split <;> omega
  case ne =>
    have e : ¬ x = y := by simpa [aj_test] using ht
    have e : x.toInt ≠ y.toInt := fun z => e (Int32.toInt_inj.mp z)
    unfold ak_win ak_rf
    dsimp only
    refine ⟨⟨?_, ?_⟩, ?_, ?_⟩ <;> split <;> omega
  case lt =>
    have e : x < y := of_decide_eq_true ht
    have e := Int32.lt_iff_toInt_lt.mp e
    unfold ak_win ak_rf ak_mx ak_mn
    dsimp only
    refine ⟨⟨?_, ?_⟩, ?_, ?_⟩ <;> (try split) <;> omega
  case ge =>
    have e : y ≤ x := of_decide_eq_true ht
    have e := Int32.le_iff_toInt_le.mp e
    unfold ak_win ak_rf ak_mx ak_mn
    dsimp only
    refine ⟨⟨?_, ?_⟩, ?_, ?_⟩ <;> (try split) <;> omega
  case gt =>
    have e : y < x := of_decide_eq_true ht
    have e := Int32.lt_iff_toInt_lt.mp e
    unfold ak_win ak_rf ak_mx ak_mn
    dsimp only
    refine ⟨⟨?_, ?_⟩, ?_, ?_⟩ <;> (try split) <;> omega
  case le =>
    have e : x ≤ y := of_decide_eq_true ht
    have e := Int32.le_iff_toInt_le.mp e
    unfold ak_win ak_rf ak_mx ak_mn
    dsimp only
    refine ⟨⟨?_, ?_⟩, ?_, ?_⟩ <;> (try split) <;> omega
theorem ak_apL_ok {j : Nat} {x : ak_A} {L : ak_L} (hL : ak_gL s old lv L) (hv : aj_lv lv j = some v) (hx : ak_gam s x v) : ak_gL s old lv (ak_apL j x L) := by
  intro q hq
  obtain ⟨z, hz, rfl⟩ := List.mem_map.mp hq
  obtain ⟨w, g1, g2, g3⟩ := hL z hz
  split
  · rename_i he
    rw [he, hv] at g1
    cases g1
    exact ⟨v, by rw [he]; exact hv, hx, g3⟩
  · exact ⟨w, g1, g2, g3⟩
theorem ak_ap_ok {p : ak_P} {iv : Int × Int} {x : Int32} (ha : ak_gAS s tb h old lv st a) (hp : ak_gP tb h lv p (.int x)) (hx : ak_win iv x) : ak_gAS s tb h old lv st (ak_ap p iv a) := by
  unfold ak_ap
  split
  · exact ha
  · exact ⟨ak_apL_ok ha.1 hp hx, ha.2⟩
  · refine ⟨ha.1, ha.2.1, ?_⟩
    intro q hq
    rcases List.mem_cons.mp hq with rfl | hq
    · obtain ⟨r, c, fs, g1, g2, g3⟩ := hp
      exact ⟨r, c, fs, x, g1, g2, g3, hx⟩
    · exact ha.2.2 q (List.mem_filter.mp hq).1
theorem ak_way_ok {c : ClassFile.Cond} {p q : Int × Int} {pp qq : ak_P} {x y : Int32} (tgt : Nat) (ha : ak_gAS s tb h old lv st a) (ht : aj_test c x y = true) (hx : ak_win p x) (hy : ak_win q y) (hp : ak_gP tb h lv pp (.int x)) (hq : ak_gP tb h lv qq (.int y)) : ∃ a', (tgt, a') ∈ ak_way c p q pp qq tgt a ∧ ak_gAS s tb h old lv st a' := by
  obtain ⟨g1, g2⟩ := ak_rf_ok ht hx hy
  unfold ak_way
  rw [if_pos ⟨Int.le_trans g1.1 g1.2, Int.le_trans g2.1 g2.2⟩]
  exact ⟨_, List.mem_singleton.mpr rfl, ak_ap_ok (ak_ap_ok ha hp g1) hq g2⟩
theorem ak_nul_ok {q : List Nat × Bool} {p : ak_P} (tn tr : Nat) (ha : ak_gAS s tb h old lv st a) (hv : ak_gam s (.inr (some q)) v) (hp : ak_gP tb h lv p v) : ∃ a', ((v = .null ∧ (tn, a') ∈ ak_nul q p tn tr a) ∨ (∃ r, v = .ref r ∧ (tr, a') ∈ ak_nul q p tn tr a)) ∧ ak_gAS s tb h old lv st a' := by
  have k : ∀ x, ak_gam s x v → ak_gAS s tb h old lv st (ak_apN p x a) := by
    intro x hx
    unfold ak_apN
    split
    · exact ⟨ak_apL_ok ha.1 hp hx, ha.2⟩
    · exact ha
  unfold ak_nul
  rcases ak_gr hv with ⟨rfl, hn⟩ | ⟨r, t, rfl, ht, hty⟩
  · refine ⟨_, Or.inl ⟨rfl, List.mem_append_left _ ?_⟩, k (.inr (some ([], true))) rfl⟩
    rw [if_pos hn]
    exact List.mem_singleton.mpr rfl
  · refine ⟨_, Or.inr ⟨r, rfl, List.mem_append_right _ ?_⟩, k (.inr (some (q.1, false))) ⟨t, ht, hty⟩⟩
    split
    · rename_i he
      rw [he] at ht
      cases ht
    · exact List.mem_singleton.mpr rfl
theorem ak_look (l : List (Int × Int)) (d k : Int) : Op.lookupswitch.offset l d k ∈ d :: l.map (fun z => z.2) := by
  induction l with
  | nil => exact List.mem_singleton.mpr rfl
  | cons q l ih =>
    obtain ⟨x, o⟩ := q
    show (if x = k then o else Op.lookupswitch.offset l d k) ∈ _
    split
    · exact List.mem_cons_of_mem _ List.mem_cons_self
    · rcases List.mem_cons.mp ih with e | e
      · exact List.mem_cons.mpr (Or.inl e)
      · exact List.mem_cons_of_mem _ (List.mem_cons_of_mem _ e)
theorem ak_a3_ok (rc : Nat) (cls : List aj_C) (lk : List aj_L) (nL : Nat) (ret : Option FieldType) (isI : Bool) {i : Instr} {succs : List (Nat × ak_AS)} (ha : ak_gAS s tb h old lv st a) (h0 : ak_a3 i len pc a = some succs) : ∃ pc' st' a', aj_step rc cls tb lk nL ret isI i len pc lv st h = some (.inl ((pc', lv, st'), h, 0, 0)) ∧ (pc', a') ∈ succs ∧ ak_gAS s tb h old lv st' a' := by
  obtain ⟨L, S, F⟩ := a
  unfold ak_a3 at h0
  cases i
  case ifCond c off =>
    dsimp only at h0
    split at h0
    · split at h0
      · rename_i p pp R hq
        cases h0
        obtain ⟨hL, hS, hF⟩ := ha
        obtain ⟨v, st', rfl, g1, g2, g3⟩ := ak_gS_c hS
        obtain ⟨x, rfl, hw⟩ := ak_gi g1
        have ha1 : ak_gAS s tb h old lv st' (L, R, F) := ⟨hL, g3, hF⟩
        have h00 : ak_win (0, 0) (0 : Int32) := ak_win_k Int32.toInt_zero
        cases ht : aj_test c x 0 with
        | true =>
          obtain ⟨a', k1, k2⟩ := ak_way_ok (qq := none) ((pc : Int) + off).toNat ha1 ht hw h00 g2 trivial
          refine ⟨_, st', a', ?_, List.mem_append_left _ k1, k2⟩
          unfold aj_step
          dsimp only
          rw [if_pos hq.1]
          unfold aj_br
          rw [if_pos hq.2, if_pos ht]
          rfl
        | false =>
          obtain ⟨a', k1, k2⟩ := ak_way_ok (qq := none) (pc + 3) ha1 (by rw [ak_test_neg, ht]; rfl) hw h00 g2 trivial
          refine ⟨_, st', a', ?_, List.mem_append_right _ k1, k2⟩
          unfold aj_step
          dsimp only
          rw [if_pos hq.1]
          unfold aj_br
          rw [if_pos hq.2, ht]
          rfl
      · cases h0
    · cases h0
  case if_icmp c off =>
    dsimp only at h0
    split at h0
    · split at h0
      · rename_i q qq p pp R hq
        cases h0
        obtain ⟨hL, hS, hF⟩ := ha
        obtain ⟨v1, st1, rfl, g1, g2, g3⟩ := ak_gS_c hS
        obtain ⟨v2, st2, rfl, g4, g5, g6⟩ := ak_gS_c g3
        obtain ⟨y, rfl, hw⟩ := ak_gi g1
        obtain ⟨x, rfl, hw2⟩ := ak_gi g4
        have ha1 : ak_gAS s tb h old lv st2 (L, R, F) := ⟨hL, g6, hF⟩
        cases ht : aj_test c x y with
        | true =>
          obtain ⟨a', k1, k2⟩ := ak_way_ok ((pc : Int) + off).toNat ha1 ht hw2 hw g5 g2
          refine ⟨_, st2, a', ?_, List.mem_append_left _ k1, k2⟩
          unfold aj_step
          dsimp only
          rw [if_pos hq.1]
          unfold aj_br
          rw [if_pos hq.2, if_pos ht]
          rfl
        | false =>
          obtain ⟨a', k1, k2⟩ := ak_way_ok (pc + 3) ha1 (show aj_test (ak_neg c) x y = true by rw [ak_test_neg, ht]; rfl) hw2 hw g5 g2
          refine ⟨_, st2, a', ?_, List.mem_append_right _ k1, k2⟩
          unfold aj_step
          dsimp only
          rw [if_pos hq.1]
          unfold aj_br
          rw [if_pos hq.2, ht]
          rfl
      · cases h0
    · cases h0
  case goto off =>
    dsimp only at h0
    split at h0
    · rename_i hq
      cases h0
      refine ⟨_, st, _, ?_, List.mem_singleton.mpr rfl, ha⟩
      unfold aj_step
      dsimp only
      rw [if_pos hq.1]
      unfold aj_jump
      rw [if_pos hq.2]
      rfl
    · cases h0
  case ifnull off =>
    dsimp only at h0
    split at h0
    · split at h0
      · rename_i q p R hq
        cases h0
        obtain ⟨hL, hS, hF⟩ := ha
        obtain ⟨v, st', rfl, g1, g2, g3⟩ := ak_gS_c hS
        have ha1 : ak_gAS s tb h old lv st' (L, R, F) := ⟨hL, g3, hF⟩
        obtain ⟨a', k1, k2⟩ := ak_nul_ok ((pc : Int) + off).toNat (pc + 3) ha1 g1 g2
        rcases k1 with ⟨rfl, k1⟩ | ⟨r, rfl, k1⟩
        · refine ⟨_, st', a', ?_, k1, k2⟩
          unfold aj_step
          dsimp only
          rw [if_pos hq.1]
          unfold aj_jump
          rw [if_pos hq.2]
          rfl
        · refine ⟨_, st', a', ?_, k1, k2⟩
          unfold aj_step
          dsimp only
          rw [if_pos hq.1]
          rfl
      · cases h0
    · cases h0
  case ifnonnull off =>
    dsimp only at h0
    split at h0
    · split at h0
      · rename_i q p R hq
        cases h0
        obtain ⟨hL, hS, hF⟩ := ha
        obtain ⟨v, st', rfl, g1, g2, g3⟩ := ak_gS_c hS
        have ha1 : ak_gAS s tb h old lv st' (L, R, F) := ⟨hL, g3, hF⟩
        obtain ⟨a', k1, k2⟩ := ak_nul_ok (pc + 3) ((pc : Int) + off).toNat ha1 g1 g2
        rcases k1 with ⟨rfl, k1⟩ | ⟨r, rfl, k1⟩
        · refine ⟨_, st', a', ?_, k1, k2⟩
          unfold aj_step
          dsimp only
          rw [if_pos hq.1]
          rfl
        · refine ⟨_, st', a', ?_, k1, k2⟩
          unfold aj_step
          dsimp only
          rw [if_pos hq.1]
          unfold aj_jump
          rw [if_pos hq.2]
          rfl
      · cases h0
    · cases h0
  case tableswitch dflt lo hi offs =>
    dsimp only at h0
    split at h0
    · split at h0
      · rename_i q p R hq
        cases h0
        obtain ⟨hL, hS, hF⟩ := ha
        obtain ⟨v, st', rfl, g1, g2, g3⟩ := ak_gS_c hS
        obtain ⟨x, rfl, hw⟩ := ak_gi g1
        have ha1 : ak_gAS s tb h old lv st' (L, R, F) := ⟨hL, g3, hF⟩
        obtain ⟨q1, q2, q3⟩ := hq
        have q4 := List.all_eq_true.mp q3
        have fin : ∀ o, o ∈ dflt :: offs.toList → aj_step rc cls tb lk nL ret isI (.tableswitch dflt lo hi offs) len pc lv (.int x :: st') h = aj_jump pc o lv st' h → ∃ pc' st1 a', aj_step rc cls tb lk nL ret isI (.tableswitch dflt lo hi offs) len pc lv (.int x :: st') h = some (.inl ((pc', lv, st1), h, 0, 0)) ∧ (pc', a') ∈ ((dflt :: offs.toList).map fun o => (((pc : Int) + o).toNat, (L, R, F))) ∧ ak_gAS s tb h old lv st1 a' := by
          intro o ho he
          refine ⟨_, st', _, ?_, List.mem_map.mpr ⟨o, ho, rfl⟩, ha1⟩
          rw [he]
          unfold aj_jump
          rw [if_pos (of_decide_eq_true (q4 o ho))]
          rfl
        by_cases hx : x.toInt < lo ∨ hi < x.toInt
        · refine fin dflt List.mem_cons_self ?_
          unfold aj_step
          dsimp only
          rw [if_pos hx]
        · have hl : (x.toInt - lo).toNat < offs.size := by omega
          refine fin offs[(x.toInt - lo).toNat] (List.mem_cons_of_mem _ ?_) ?_
          · exact Array.getElem_mem_toList hl
          · unfold aj_step
            dsimp only
            rw [if_neg hx, Array.getElem?_eq_getElem hl]
      · cases h0
    · cases h0
  case lookupswitch dflt ps =>
    dsimp only at h0
    split at h0
    · split at h0
      · rename_i q p R hq
        cases h0
        obtain ⟨hL, hS, hF⟩ := ha
        obtain ⟨v, st', rfl, g1, g2, g3⟩ := ak_gS_c hS
        obtain ⟨x, rfl, hw⟩ := ak_gi g1
        have ha1 : ak_gAS s tb h old lv st' (L, R, F) := ⟨hL, g3, hF⟩
        obtain ⟨q1, q3⟩ := hq
        have q4 := List.all_eq_true.mp q3
        have ho := ak_look ps.toList dflt x.toInt
        refine ⟨_, st', _, ?_, List.mem_map.mpr ⟨_, ho, rfl⟩, ha1⟩
        unfold aj_step
        dsimp only
        rw [if_pos q1]
        unfold aj_jump
        rw [if_pos (of_decide_eq_true (q4 _ ho))]
        rfl
      · cases h0
    · cases h0
  all_goals cases h0
end AKBR
