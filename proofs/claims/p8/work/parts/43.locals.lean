/-! THE CHECKER: locals and branches -/
abbrev ak_AS : Type := ak_L × ak_S × ak_F
def ak_gAS (s : List Nat) (tb : aj_T) (h : aj_H) (old : Nat → Int) (lv : aj_V) (st : List Value) (a : ak_AS) : Prop := ak_gL s old lv a.1 ∧ ak_gS s tb h lv a.2.1 st ∧ ak_gF tb h lv a.2.2
def ak_lkL (L : ak_L) (k : Nat) : Option (ak_A × Option Int) := (L.find? (fun q => q.1 == k)).map (fun q => q.2)
def ak_kd (a : ak_A) : Nat := match a with
  | .inl _ => 0
  | .inr none => 1
  | .inr (some _) => 2
def ak_ld (a : ak_AS) (k kind : Nat) : Option ak_AS := match ak_lkL a.1 k with
  | some (v, _) => if ak_kd v = kind then some (a.1, (v, some (.inl k)) :: a.2.1, a.2.2) else none
  | none => none
def ak_clr (b : Nat → Bool) (p : ak_P) : ak_P := match p with
  | none => none
  | some (.inl j) => if b j then none else p
  | some (.inr q) => if b q.1 then none else p
def ak_bad1 (k j : Nat) : Bool := j == k || j + 1 == k
def ak_bad2 (k j : Nat) : Bool := j == k || (j == k + 1 || j + 1 == k)
/-- a local of one slot is written -/
def ak_w1 (a : ak_AS) (k : Nat) (v : ak_A) (o : Option Int) : ak_AS := ((k, v, o) :: a.1.filter (fun q => !(q.1 == k) && !(q.1 + 1 == k && ak_cat q.2.1 == 2)), a.2.1.map (fun e => (e.1, ak_clr (ak_bad1 k) e.2)), a.2.2.filter (fun q => !(q.1.1 == k)))
/-- a local of two slots is written -/
def ak_w2 (a : ak_AS) (k : Nat) : ak_AS := ((k, .inr none, none) :: a.1.filter (fun q => !(q.1 == k) && (!(q.1 == k + 1) && !(q.1 + 1 == k && ak_cat q.2.1 == 2))), a.2.1.map (fun e => (e.1, ak_clr (ak_bad2 k) e.2)), a.2.2.filter (fun q => !(q.1.1 == k) && !(q.1.1 == k + 1)))
def ak_sto (nL : Nat) (a : ak_AS) (k kind : Nat) : Option ak_AS := match a.2.1 with
  | (v, _) :: R => if ak_kd v = kind then (if kind = 1 then (if k + 1 < nL then some (ak_w2 (a.1, R, a.2.2) k) else none) else (if k < nL then some (ak_w1 (a.1, R, a.2.2) k v none) else none)) else none
  | [] => none
def ak_inc (nL : Nat) (a : ak_AS) (k : Nat) (n : Int) : Option ak_AS := match ak_lkL a.1 k with
  | some (.inl q, o) => if k < nL ∧ -2147483648 ≤ n ∧ n < 2147483648 then some (ak_w1 a k (.inl (ak_fadd q (n, n))) (if -2147483648 ≤ q.1 + n ∧ q.2 + n ≤ 2147483647 then o.map (fun z => z + n) else none)) else none
  | _ => none
def ak_a2 (nL : Nat) (i : Instr) (len : Nat) (a : ak_AS) : Option ak_AS := match i with
  | .iload_n k => if len = 1 then ak_ld a k 0 else none
  | .iload k => if len = 2 then ak_ld a k 0 else none
  | .lload_n k => if len = 1 then ak_ld a k 1 else none
  | .lload k => if len = 2 then ak_ld a k 1 else none
  | .aload_n k => if len = 1 then ak_ld a k 2 else none
  | .aload k => if len = 2 then ak_ld a k 2 else none
  | .istore_n k => if len = 1 then ak_sto nL a k 0 else none
  | .istore k => if len = 2 then ak_sto nL a k 0 else none
  | .lstore_n k => if len = 1 then ak_sto nL a k 1 else none
  | .lstore k => if len = 2 then ak_sto nL a k 1 else none
  | .astore_n k => if len = 1 then ak_sto nL a k 2 else none
  | .astore k => if len = 2 then ak_sto nL a k 2 else none
  | .iinc k n => if len = 3 then ak_inc nL a k n else none
  | _ => none
def ak_no0 (i : Instr) : Bool := match i with
  | .istore_n k => decide ((k : Nat) ≠ 0)
  | .istore k => decide (k ≠ 0)
  | .lstore_n k => decide ((k : Nat) ≠ 0)
  | .lstore k => decide (k ≠ 0)
  | .astore_n k => decide ((k : Nat) ≠ 0)
  | .astore k => decide (k ≠ 0)
  | .iinc k _ => decide (k ≠ 0)
  | _ => true
section AKLOC
variable {s : List Nat} {tb : aj_T} {h : aj_H} {old : Nat → Int} {lv : aj_V} {st : List Value} {a a' : ak_AS} {v w : Value} {pc len : Nat}
theorem ak_find {α : Type} {p f : α → Bool} {q : α} : ∀ {l : List α}, l.find? p = some q → f q = true → (l.filter f).find? p = some q := by
  intro l
  induction l with
  | nil => intro h; cases h
  | cons x l ih =>
    intro h hf
    rw [List.find?_cons] at h
    split at h
    · rename_i hp
      cases h
      rw [List.filter_cons, if_pos hf, List.find?_cons, hp]
    · rename_i hp
      rw [List.filter_cons]
      split
      · rw [List.find?_cons, hp]
        exact ih h hf
      · exact ih h hf
theorem ak_lv_find {k : Nat} (hx : aj_lv lv k = some v) : ∃ q, lv.find? (fun q => q.1 == k) = some q ∧ q.1 = k ∧ q.2 = v := by
  unfold aj_lv at hx
  obtain ⟨q, h1, h2⟩ := Option.map_eq_some_iff.mp hx
  have h3 := List.find?_some h1
  exact ⟨q, h1, by simpa using h3, h2⟩
theorem ak_set1_eq (lv : aj_V) (k : Nat) (v : Value) : aj_lv (aj_set1 lv k v) k = some v := by
  unfold aj_lv aj_set1
  rw [List.find?_cons]
  simp
theorem ak_set2_eq (lv : aj_V) (k : Nat) (v : Value) : aj_lv (aj_set2 lv k v) k = some v := by
  unfold aj_lv aj_set2
  rw [List.find?_cons]
  simp
theorem ak_set1_ne {k j : Nat} (hx : aj_lv lv j = some w) (hj : j ≠ k) (hc : j + 1 = k → w.category ≠ 2) : aj_lv (aj_set1 lv k v) j = some w := by
  obtain ⟨q, h1, h2, h3⟩ := ak_lv_find hx
  have hk : (k == j) = false := beq_eq_false_iff_ne.mpr (Ne.symm hj)
  unfold aj_lv aj_set1
  rw [List.find?_cons]
  simp only [hk]
  rw [ak_find h1]
  · simp [h3]
  · have hj' : (q.1 == k) = false := by rw [h2]; exact beq_eq_false_iff_ne.mpr hj
    rw [hj']
    by_cases hq : q.1 + 1 = k
    · have := hc (by rw [← h2]; exact hq)
      rw [h3]
      simp [this]
    · have hq' : (q.1 + 1 == k) = false := beq_eq_false_iff_ne.mpr hq
      rw [hq']
      rfl
theorem ak_set2_ne {k j : Nat} (hx : aj_lv lv j = some w) (hj : j ≠ k) (hj1 : j ≠ k + 1) (hc : j + 1 = k → w.category ≠ 2) : aj_lv (aj_set2 lv k v) j = some w := by
  obtain ⟨q, h1, h2, h3⟩ := ak_lv_find hx
  have hk : (k == j) = false := beq_eq_false_iff_ne.mpr (Ne.symm hj)
  unfold aj_lv aj_set2
  rw [List.find?_cons]
  simp only [hk]
  rw [ak_find h1]
  · simp [h3]
  · have hj' : (q.1 == k) = false := by rw [h2]; exact beq_eq_false_iff_ne.mpr hj
    have hj2 : (q.1 == k + 1) = false := by rw [h2]; exact beq_eq_false_iff_ne.mpr hj1
    rw [hj', hj2]
    by_cases hq : q.1 + 1 = k
    · have := hc (by rw [← h2]; exact hq)
      rw [h3]
      simp [this]
    · have hq' : (q.1 + 1 == k) = false := beq_eq_false_iff_ne.mpr hq
      rw [hq']
      rfl
theorem ak_lkL_ok {L : ak_L} {k : Nat} {x : ak_A} {o : Option Int} (hL : ak_gL s old lv L) (h0 : ak_lkL L k = some (x, o)) : ∃ v, aj_lv lv k = some v ∧ ak_gam s x v ∧ ∀ z, o = some z → ∃ y : Int32, v = .int y ∧ y.toInt = old k + z := by
  unfold ak_lkL at h0
  obtain ⟨q, h1, h2⟩ := Option.map_eq_some_iff.mp h0
  have h3 := List.find?_some h1
  have h4 : q.1 = k := by simpa using h3
  have h5 := hL q (List.mem_of_find?_eq_some h1)
  rw [h4, h2] at h5
  exact h5
theorem ak_ld_ok {k kind : Nat} (ha : ak_gAS s tb h old lv st a) (h0 : ak_ld a k kind = some a') : ∃ v, aj_load pc lv st h len k kind = some (.inl ((pc + len, lv, v :: st), h, 0, 0)) ∧ ak_gAS s tb h old lv (v :: st) a' := by
  unfold ak_ld at h0
  split at h0
  · rename_i x o hx
    split at h0
    · rename_i hk
      cases h0
      obtain ⟨hL, hS, hF⟩ := ha
      obtain ⟨v, h1, h2, -⟩ := ak_lkL_ok hL hx
      refine ⟨v, ?_, hL, ⟨h2, h1, hS⟩, hF⟩
      unfold aj_load
      rw [h1]
      rcases x with q | ⟨_ | q⟩
      · obtain ⟨y, rfl, -⟩ := ak_gi h2
        exact if_pos hk.symm
      · obtain ⟨y, rfl⟩ := ak_gl h2
        exact if_pos hk.symm
      · rcases ak_gr h2 with ⟨rfl, -⟩ | ⟨r, t, rfl, -⟩
        · exact if_pos hk.symm
        · exact if_pos hk.symm
    · cases h0
  · cases h0
theorem ak_gS_map {lv' : aj_V} {f : ak_P → ak_P} (hf : ∀ p v x, ak_gam s x v → ak_gP tb h lv p v → ak_gP tb h lv' (f p) v) : ∀ {S : ak_S} {st : List Value}, ak_gS s tb h lv S st → ak_gS s tb h lv' (S.map (fun e => (e.1, f e.2))) st := by
  intro S
  induction S with
  | nil =>
    intro st hS
    cases st with
    | nil => trivial
    | cons v st => exact hS.elim
  | cons e S ih =>
    intro st hS
    obtain ⟨v, st', rfl, h1, h2, h3⟩ := ak_gS_c hS
    exact ⟨h1, hf _ _ _ h1 h2, ih h3⟩
theorem ak_w1_ok {k : Nat} {x : ak_A} {o : Option Int} (ha : ak_gAS s tb h old lv st a) (hv : ak_gam s x v) (ho : ∀ z, o = some z → ∃ y : Int32, v = .int y ∧ y.toInt = old k + z) : ak_gAS s tb h old (aj_set1 lv k v) st (ak_w1 a k x o) := by
  obtain ⟨hL, hS, hF⟩ := ha
  refine ⟨?_, ?_, ?_⟩
  · intro q hq
    rcases List.mem_cons.mp hq with rfl | hq
    · exact ⟨v, ak_set1_eq lv k v, hv, ho⟩
    · obtain ⟨h1, h2⟩ := List.mem_filter.mp hq
      obtain ⟨w, g1, g2, g3⟩ := hL q h1
      simp only [Bool.and_eq_true, Bool.not_eq_true', beq_eq_false_iff_ne, Bool.and_eq_false_iff] at h2
      refine ⟨w, ak_set1_ne g1 h2.1 fun hk => ?_, g2, g3⟩
      rw [ak_gcat g2]
      rcases h2.2 with h2 | h2
      · exact absurd hk h2
      · exact h2
  · refine ak_gS_map (f := ak_clr (ak_bad1 k)) (fun p w y hy hp => ?_) hS
    unfold ak_clr
    split
    · trivial
    · split
      · trivial
      · rename_i hb
        simp only [ak_bad1, Bool.or_eq_true, beq_iff_eq, not_or] at hb
        exact ak_set1_ne hp hb.1 fun z => absurd z hb.2
    · split
      · trivial
      · rename_i hb
        simp only [ak_bad1, Bool.or_eq_true, beq_iff_eq, not_or] at hb
        obtain ⟨r, c, fs, g1, g2⟩ := hp
        exact ⟨r, c, fs, ak_set1_ne g1 hb.1 fun z => absurd z hb.2, g2⟩
  · intro q hq
    obtain ⟨h1, h2⟩ := List.mem_filter.mp hq
    obtain ⟨r, c, fs, y, g1, g2⟩ := hF q h1
    simp only [Bool.not_eq_true', beq_eq_false_iff_ne] at h2
    exact ⟨r, c, fs, y, ak_set1_ne g1 h2 fun _ => (by decide : (1 : Nat) ≠ 2), g2⟩
theorem ak_w2_ok {k : Nat} {x : Int64} (ha : ak_gAS s tb h old lv st a) : ak_gAS s tb h old (aj_set2 lv k (.long x)) st (ak_w2 a k) := by
  obtain ⟨hL, hS, hF⟩ := ha
  refine ⟨?_, ?_, ?_⟩
  · intro q hq
    rcases List.mem_cons.mp hq with rfl | hq
    · exact ⟨_, ak_set2_eq lv k _, trivial, fun z hz => by cases hz⟩
    · obtain ⟨h1, h2⟩ := List.mem_filter.mp hq
      obtain ⟨w, g1, g2, g3⟩ := hL q h1
      simp only [Bool.and_eq_true, Bool.not_eq_true', beq_eq_false_iff_ne, Bool.and_eq_false_iff] at h2
      refine ⟨w, ak_set2_ne g1 h2.1 h2.2.1 fun hk => ?_, g2, g3⟩
      rw [ak_gcat g2]
      rcases h2.2.2 with h2 | h2
      · exact absurd hk h2
      · exact h2
  · refine ak_gS_map (f := ak_clr (ak_bad2 k)) (fun p w y hy hp => ?_) hS
    unfold ak_clr
    split
    · trivial
    · split
      · trivial
      · rename_i hb
        simp only [ak_bad2, Bool.or_eq_true, beq_iff_eq, not_or] at hb
        exact ak_set2_ne hp hb.1 hb.2.1 fun z => absurd z hb.2.2
    · split
      · trivial
      · rename_i hb
        simp only [ak_bad2, Bool.or_eq_true, beq_iff_eq, not_or] at hb
        obtain ⟨r, c, fs, g1, g2⟩ := hp
        exact ⟨r, c, fs, ak_set2_ne g1 hb.1 hb.2.1 fun z => absurd z hb.2.2, g2⟩
  · intro q hq
    obtain ⟨h1, h2⟩ := List.mem_filter.mp hq
    obtain ⟨r, c, fs, y, g1, g2⟩ := hF q h1
    simp only [Bool.and_eq_true, Bool.not_eq_true', beq_eq_false_iff_ne] at h2
    exact ⟨r, c, fs, y, ak_set2_ne g1 h2.1 h2.2 fun _ => (by decide : (1 : Nat) ≠ 2), g2⟩
theorem ak_sto_ok {nL k kind : Nat} (ha : ak_gAS s tb h old lv st a) (h0 : ak_sto nL a k kind = some a') : ∃ lv' st', aj_store nL pc lv st h len k kind = some (.inl ((pc + len, lv', st'), h, 0, 0)) ∧ ak_gAS s tb h old lv' st' a' ∧ (k ≠ 0 → ∀ v0, aj_lv lv 0 = some v0 → v0.category = 1 → aj_lv lv' 0 = some v0) := by
  obtain ⟨L, S, F⟩ := a
  unfold ak_sto at h0
  split at h0
  · rename_i x p R hS0
    split at h0
    · rename_i hk
      obtain ⟨hL, hS, hF⟩ := ha
      dsimp only at hS0 h0
      subst hS0
      obtain ⟨v, st', rfl, g1, -, g3⟩ := ak_gS_c hS
      have ha1 : ak_gAS s tb h old lv st' (L, R, F) := ⟨hL, g3, hF⟩
      split at h0
      · rename_i hk1
        split at h0
        · rename_i hn
          cases h0
          rw [hk1] at hk
          rcases x with q | ⟨_ | q⟩
          · cases hk
          · obtain ⟨y, rfl⟩ := ak_gl g1
            refine ⟨_, st', ?_, ak_w2_ok (x := y) ha1, fun hk0 v0 hv0 hc => ak_set2_ne hv0 (Ne.symm hk0) (by omega) fun _ => by rw [hc]; decide⟩
            unfold aj_store
            exact if_pos ⟨hk1, hn⟩
          · cases hk
        · cases h0
      · rename_i hk1
        split at h0
        · rename_i hn
          cases h0
          refine ⟨_, st', ?_, ak_w1_ok (v := v) ha1 g1 (fun z hz => by cases hz), fun hk0 v0 hv0 hc => ak_set1_ne hv0 (Ne.symm hk0) fun _ => by rw [hc]; decide⟩
          unfold aj_store
          rcases x with q | ⟨_ | q⟩
          · obtain ⟨y, rfl, -⟩ := ak_gi g1
            exact if_pos ⟨hk.symm, hn⟩
          · exact absurd hk.symm hk1
          · rcases ak_gr g1 with ⟨rfl, -⟩ | ⟨r, t, rfl, -⟩
            · exact if_pos ⟨hk.symm, hn⟩
            · exact if_pos ⟨hk.symm, hn⟩
        · cases h0
    · cases h0
  · cases h0
theorem ak_inc_ok {nL k : Nat} {n : Int} (rc : Nat) (cls : List aj_C) (lk : List aj_L) (ret : Option FieldType) (isI : Bool) (ha : ak_gAS s tb h old lv st a) (h0 : ak_inc nL a k n = some a') : ∃ lv', aj_step rc cls tb lk nL ret isI (.iinc k n) 3 pc lv st h = some (.inl ((pc + 3, lv', st), h, 0, 0)) ∧ ak_gAS s tb h old lv' st a' ∧ (k ≠ 0 → ∀ v0, aj_lv lv 0 = some v0 → v0.category = 1 → aj_lv lv' 0 = some v0) := by
  unfold ak_inc at h0
  split at h0
  · rename_i q o hx
    split at h0
    · rename_i hk
      cases h0
      obtain ⟨v, h1, h2, h3⟩ := ak_lkL_ok ha.1 hx
      obtain ⟨y, rfl, hw⟩ := ak_gi h2
      have hn : (Int32.ofInt n).toInt = n := Int32.toInt_ofInt_of_le (by omega) (by omega)
      refine ⟨aj_set1 lv k (.int (y + Int32.ofInt n)), ?_, ak_w1_ok ha (ak_fadd_ok hw (ak_win_k hn)) fun z hz => ?_, fun hk0 v0 hv0 hc => ak_set1_ne hv0 (Ne.symm hk0) fun _ => by rw [hc]; decide⟩
      · unfold aj_step
        dsimp only
        rw [h1]
        exact if_pos ⟨rfl, hk.1⟩
      · refine ⟨_, rfl, ?_⟩
        split at hz
        · rename_i hr
          obtain ⟨z0, e1, e2⟩ := Option.map_eq_some_iff.mp hz
          obtain ⟨y', e3, e4⟩ := h3 z0 e1
          cases e3
          unfold ak_win at hw
          rw [Int32.toInt_add, hn, ak_bm (by omega) (by omega)]
          omega
        · cases hz
    · cases h0
  · cases h0
theorem ak_a2_ok (rc : Nat) (cls : List aj_C) (lk : List aj_L) (ret : Option FieldType) (isI : Bool) {nL : Nat} {i : Instr} (ha : ak_gAS s tb h old lv st a) (h0 : ak_a2 nL i len a = some a') : ∃ lv' st', aj_step rc cls tb lk nL ret isI i len pc lv st h = some (.inl ((pc + len, lv', st'), h, 0, 0)) ∧ ak_gAS s tb h old lv' st' a' ∧ (ak_no0 i = true → ∀ v0, aj_lv lv 0 = some v0 → v0.category = 1 → aj_lv lv' 0 = some v0) := by
  unfold ak_a2 at h0
  cases i
  case iload_n k =>
    dsimp only at h0
    split at h0
    · rename_i hq
      subst hq
      obtain ⟨v, g1, g2⟩ := ak_ld_ok (pc := pc) (len := 1) ha h0
      exact ⟨lv, _, g1, g2, fun _ _ hv _ => hv⟩
    · cases h0
  case iload k =>
    dsimp only at h0
    split at h0
    · rename_i hq
      subst hq
      obtain ⟨v, g1, g2⟩ := ak_ld_ok (pc := pc) (len := 2) ha h0
      exact ⟨lv, _, g1, g2, fun _ _ hv _ => hv⟩
    · cases h0
  case lload_n k =>
    dsimp only at h0
    split at h0
    · rename_i hq
      subst hq
      obtain ⟨v, g1, g2⟩ := ak_ld_ok (pc := pc) (len := 1) ha h0
      exact ⟨lv, _, g1, g2, fun _ _ hv _ => hv⟩
    · cases h0
  case lload k =>
    dsimp only at h0
    split at h0
    · rename_i hq
      subst hq
      obtain ⟨v, g1, g2⟩ := ak_ld_ok (pc := pc) (len := 2) ha h0
      exact ⟨lv, _, g1, g2, fun _ _ hv _ => hv⟩
    · cases h0
  case aload_n k =>
    dsimp only at h0
    split at h0
    · rename_i hq
      subst hq
      obtain ⟨v, g1, g2⟩ := ak_ld_ok (pc := pc) (len := 1) ha h0
      exact ⟨lv, _, g1, g2, fun _ _ hv _ => hv⟩
    · cases h0
  case aload k =>
    dsimp only at h0
    split at h0
    · rename_i hq
      subst hq
      obtain ⟨v, g1, g2⟩ := ak_ld_ok (pc := pc) (len := 2) ha h0
      exact ⟨lv, _, g1, g2, fun _ _ hv _ => hv⟩
    · cases h0
  case istore_n k =>
    dsimp only at h0
    split at h0
    · rename_i hq
      subst hq
      obtain ⟨lv', st', g1, g2, g3⟩ := ak_sto_ok (pc := pc) (len := 1) ha h0
      exact ⟨lv', st', g1, g2, fun hn => g3 (of_decide_eq_true hn)⟩
    · cases h0
  case istore k =>
    dsimp only at h0
    split at h0
    · rename_i hq
      subst hq
      obtain ⟨lv', st', g1, g2, g3⟩ := ak_sto_ok (pc := pc) (len := 2) ha h0
      exact ⟨lv', st', g1, g2, fun hn => g3 (of_decide_eq_true hn)⟩
    · cases h0
  case lstore_n k =>
    dsimp only at h0
    split at h0
    · rename_i hq
      subst hq
      obtain ⟨lv', st', g1, g2, g3⟩ := ak_sto_ok (pc := pc) (len := 1) ha h0
      exact ⟨lv', st', g1, g2, fun hn => g3 (of_decide_eq_true hn)⟩
    · cases h0
  case lstore k =>
    dsimp only at h0
    split at h0
    · rename_i hq
      subst hq
      obtain ⟨lv', st', g1, g2, g3⟩ := ak_sto_ok (pc := pc) (len := 2) ha h0
      exact ⟨lv', st', g1, g2, fun hn => g3 (of_decide_eq_true hn)⟩
    · cases h0
  case astore_n k =>
    dsimp only at h0
    split at h0
    · rename_i hq
      subst hq
      obtain ⟨lv', st', g1, g2, g3⟩ := ak_sto_ok (pc := pc) (len := 1) ha h0
      exact ⟨lv', st', g1, g2, fun hn => g3 (of_decide_eq_true hn)⟩
    · cases h0
  case astore k =>
    dsimp only at h0
    split at h0
    · rename_i hq
      subst hq
      obtain ⟨lv', st', g1, g2, g3⟩ := ak_sto_ok (pc := pc) (len := 2) ha h0
      exact ⟨lv', st', g1, g2, fun hn => g3 (of_decide_eq_true hn)⟩
    · cases h0
  case iinc k n =>
    dsimp only at h0
    split at h0
    · rename_i hq
      subst hq
      obtain ⟨lv', g1, g2, g3⟩ := ak_inc_ok (pc := pc) rc cls lk ret isI ha h0
      exact ⟨lv', st, g1, g2, fun hn => g3 (of_decide_eq_true hn)⟩
    · cases h0
  all_goals cases h0
end AKLOC
