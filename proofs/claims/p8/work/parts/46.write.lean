/-! THE CHECKER: what writes the heap -/
def ak_sub (a b : ak_A) : Bool := match a, b with
  | .inl p, .inl q => decide (q.1 ≤ p.1) && decide (p.2 ≤ q.2)
  | .inr none, .inr none => true
  | .inr (some p), .inr (some q) => p.1.all (fun t => q.1.contains t) && (!p.2 || q.2)
  | _, _ => false
def ak_fitA (ty : FieldType) (a : ak_A) : Bool := match ty, a with
  | .int, .inl _ => true
  | .boolean, .inl q => decide (0 ≤ q.1) && decide (q.2 ≤ 1)
  | .long, .inr none => true
  | .object _, .inr (some _) => true
  | .array _, .inr (some _) => true
  | _, _ => false
def ak_clf (k : Nat) (p : ak_P) : ak_P := match p with
  | some (.inr q) => if q.2 = k then none else p
  | _ => p
def ak_ptF (k : Nat) (x : ak_A) (p : ak_P) (F : ak_F) : ak_F := match x, p with
  | .inl q, some (.inl j) => ((j, k), q) :: F.filter (fun z => !(z.1.2 == k))
  | _, _ => F.filter (fun z => !(z.1.2 == k))
def ak_pf (T : ak_TT) (cls : List aj_C) (M : ak_Mo) (lk : List aj_L) (a : ak_AS) (idx : Nat) : Option ak_AS := match a.2.1 with
  | (x, _) :: (.inr (some (ts, false)), p) :: R => match aj_link lk idx with
    | some (kind, c, k, fin) => (match T.2.1[c]?, cls[c]? with
      | some fa, some q => (match fa[k]? with
        | some y => if kind < 2 ∧ fin = 0 ∧ ts.all (ak_isC T c) = true ∧ M.2.contains (c, k) = true ∧ T.2.2.2.contains (c, k) = false ∧ ak_fitA (q.2.2.2 k) x = true ∧ ak_sub x y = true then some (a.1, R.map (fun e => (e.1, ak_clf k e.2)), ak_ptF k x p a.2.2) else none
        | none => none)
      | _, _ => none)
    | none => none
  | _ => none
/-- what an array keeps of an int -/
def ak_nar (kd : Nat) (q : Int × Int) : Int × Int := if kd = 0 then q else if kd = 2 then (0, 1) else if kd = 3 then (0, 65535) else if -128 ≤ q.1 ∧ q.2 ≤ 127 then q else (-128, 127)
def ak_as (T : ak_TT) (M : ak_Mo) (kd1 kd2 : Nat) (a : ak_AS) : Option ak_AS := match a.2.1 with
  | (.inl v, _) :: (.inl q, _) :: (.inr (some ([t], false)), _) :: R => match T.1[t]? with
    | some (.inr (kd, n1, _, y)) => if (kd = kd1 ∨ kd = kd2) ∧ 0 ≤ q.1 ∧ q.2 < (n1 : Int) ∧ 52 ≤ t ∧ M.1.contains t = true ∧ T.2.2.1.contains t = false ∧ ak_sub (.inl (ak_nar kd v)) y = true then some (a.1, R, a.2.2) else none
    | _ => none
  | _ => none
def ak_asl (T : ak_TT) (M : ak_Mo) (a : ak_AS) : Option ak_AS := match a.2.1 with
  | (.inr none, _) :: (.inl q, _) :: (.inr (some ([t], false)), _) :: R => match T.1[t]? with
    | some (.inr (kd, n1, _, _)) => if kd = 1 ∧ 0 ≤ q.1 ∧ q.2 < (n1 : Int) ∧ 52 ≤ t ∧ M.1.contains t = true ∧ T.2.2.1.contains t = false then some (a.1, R, a.2.2) else none
    | _ => none
  | _ => none
def ak_a5 (T : ak_TT) (cls : List aj_C) (M : ak_Mo) (lk : List aj_L) (i : Instr) (len : Nat) (a : ak_AS) : Option ak_AS := match i with
  | .putfield idx => if len = 3 then ak_pf T cls M lk a idx else none
  | .iastore => if len = 1 then ak_as T M 0 0 a else none
  | .castore => if len = 1 then ak_as T M 3 3 a else none
  | .bastore => if len = 1 then ak_as T M 2 4 a else none
  | .lastore => if len = 1 then ak_asl T M a else none
  | _ => none
/-- a change that what is held of the heap bears -/
def ak_ben (T : ak_TT) (s : List Nat) (i : Nat) (e e' : aj_E) : Prop := (∃ (t kd n : Nat) (x x' : (Nat → Int32) ⊕ (Nat → Int64) ⊕ (Nat → UInt32) ⊕ (Nat → UInt64) ⊕ (Nat → Option Nat)), s[i]? = some t ∧ t ∉ T.2.2.1 ∧ e = .inl (kd, n, x) ∧ e' = .inl (kd, n, x')) ∨ (∃ (c : Nat) (fs fs' : List Value), e = .inr (c, fs) ∧ e' = .inr (c, fs') ∧ fs'.length = fs.length ∧ ∀ k, (c, k) ∈ T.2.2.2 → fs'[k]? = fs[k]?)
def ak_SPc (T : ak_TT) (SP : List Nat → aj_H → Prop) : Prop := ∀ (s : List Nat) (h : aj_H) (i : Nat) (e e' : aj_E), SP s h → h[i]? = some e → ak_ben T s i e e' → SP s (h.set i e')
section AKWR
variable {T : ak_TT} {SP : List Nat → aj_H → Prop} {M : ak_Mo} {s : List Nat} {tb : aj_T} {h : aj_H} {old : Nat → Int} {lv : aj_V} {st : List Value} {a a' : ak_AS} {v w : Value} {pc len : Nat} {lk : List aj_L}
theorem ak_sub_ok {x y : ak_A} (hv : ak_gam s x v) (h0 : ak_sub x y = true) : ak_gam s y v := by
  unfold ak_sub at h0
  split at h0
  · rename_i p q
    simp only [Bool.and_eq_true, decide_eq_true_eq] at h0
    obtain ⟨z, rfl, hz⟩ := ak_gi hv
    exact ⟨Int.le_trans h0.1 hz.1, Int.le_trans hz.2 h0.2⟩
  · exact hv
  · rename_i p q
    simp only [Bool.and_eq_true, List.all_eq_true, List.contains_eq_mem, decide_eq_true_eq, Bool.or_eq_true, Bool.not_eq_true'] at h0
    rcases ak_gr hv with ⟨rfl, hn⟩ | ⟨r, t, rfl, ht, hty⟩
    · rcases h0.2 with z | z
      · rw [hn] at z
        cases z
      · exact z
    · exact ⟨t, h0.1 t ht, hty⟩
  · cases h0
theorem ak_fitA_ok {ty : FieldType} {x : ak_A} (hv : ak_gam s x v) (h0 : ak_fitA ty x = true) : aj_fit ty v = true := by
  unfold ak_fitA at h0
  split at h0
  · obtain ⟨z, rfl, -⟩ := ak_gi hv
    rfl
  · rename_i q
    simp only [Bool.and_eq_true, decide_eq_true_eq] at h0
    obtain ⟨z, rfl, hz⟩ := ak_gi hv
    unfold ak_win at hz
    have : z.toInt = 0 ∨ z.toInt = 1 := by omega
    show (decide (z = 0) || decide (z = 1)) = true
    rw [Bool.or_eq_true, decide_eq_true_eq, decide_eq_true_eq]
    rcases this with e | e
    · exact Or.inl (Int32.toInt_inj.mp (by rw [e]; rfl))
    · exact Or.inr (Int32.toInt_inj.mp (by rw [e]; rfl))
  · obtain ⟨z, rfl⟩ := ak_gl hv
    rfl
  · rcases ak_gr hv with ⟨rfl, -⟩ | ⟨r, t, rfl, -⟩ <;> rfl
  · rcases ak_gr hv with ⟨rfl, -⟩ | ⟨r, t, rfl, -⟩ <;> rfl
  · cases h0
theorem ak_obj_h (htb : ak_tbOK T tb) {r c : Nat} {fs : List Value} : aj_obj tb h r = some (c, fs) ↔ 52 ≤ r ∧ h[r - 52]? = some (.inr (c, fs)) := by
  unfold aj_obj
  rw [htb.1]
  constructor
  · intro z
    split at z
    · cases z
    · rename_i hr
      refine ⟨by omega, ?_⟩
      split at z
      · rename_i b hb
        cases z
        exact hb
      · cases z
  · intro z
    rw [if_neg (by omega), z.2]
theorem ak_seta (htb : ak_tbOK T tb) (hT : ak_Ty T s h) (hSP : SP s h) (hc : ak_SPc T SP) {i t kd n n1 n2 : Nat} {x x' : (Nat → Int32) ⊕ (Nat → Int64) ⊕ (Nat → UInt32) ⊕ (Nat → UInt64) ⊕ (Nat → Option Nat)} {y : ak_A} (hi : h[i]? = some (.inl (kd, n, x))) (hs : s[i]? = some t) (ht : T.1[t]? = some (.inr (kd, n1, n2, y))) (hx : ak_xOK s kd n x' y) (hM : t ∈ M.1) (hn : t ∉ T.2.2.1) : ak_Ty T s (h.set i (.inl (kd, n, x'))) ∧ SP s (h.set i (.inl (kd, n, x'))) ∧ ak_Ev T M s h (h.set i (.inl (kd, n, x'))) ∧ ∀ r c fs, aj_obj tb h r = some (c, fs) → aj_obj tb (h.set i (.inl (kd, n, x'))) r = some (c, fs) := by
  have hl : i < h.length := (List.getElem?_eq_some_iff.mp hi).1
  refine ⟨⟨by rw [List.length_set]; exact hT.1, fun j t' hj => ?_⟩, hc s h i _ _ hSP hi (Or.inl ⟨t, kd, n, x, x', hs, hn, rfl, rfl⟩), ⟨fun j t' z q1 q2 q3 => ?_, fun j c fs q => ?_, fun j kd' n' z q => ?_⟩, fun r c fs q => ?_⟩
  · obtain ⟨g1, e, g2, g3⟩ := hT.2 j t' hj
    refine ⟨g1, ?_⟩
    by_cases hij : i = j
    · subst hij
      rw [hs] at hj
      cases hj
      rw [hi] at g2
      cases g2
      refine ⟨_, by rw [List.getElem?_set_self hl], ?_⟩
      unfold ak_cOK at g3 ⊢
      rw [ht] at g3 ⊢
      obtain ⟨n', f, e1, e2, e3, e4⟩ := g3
      cases e1
      exact ⟨_, _, rfl, e2, e3, hx⟩
    · exact ⟨e, by rw [List.getElem?_set_ne hij]; exact g2, g3⟩
  · by_cases hij : i = j
    · subst hij
      rw [hs] at q1
      cases q1
      exact absurd hM q3
    · rw [List.getElem?_set_ne hij]
  · by_cases hij : i = j
    · subst hij
      rw [hi] at q
      cases q
    · exact ⟨fs, by rw [List.getElem?_set_ne hij]; exact q, fun _ _ => rfl⟩
  · by_cases hij : i = j
    · subst hij
      rw [hi] at q
      cases q
      exact ⟨x', by rw [List.getElem?_set_self hl]⟩
    · exact ⟨z, by rw [List.getElem?_set_ne hij]; exact q⟩
  · obtain ⟨q1, q2⟩ := (ak_obj_h htb).mp q
    refine (ak_obj_h htb).mpr ⟨q1, ?_⟩
    by_cases hij : i = r - 52
    · subst hij
      rw [hi] at q2
      cases q2
    · rw [List.getElem?_set_ne hij]
      exact q2
theorem ak_seto (htb : ak_tbOK T tb) (hT : ak_Ty T s h) (hSP : SP s h) (hc : ak_SPc T SP) {i t c k : Nat} {fs : List Value} {fa : List ak_A} {y : ak_A} (hi : h[i]? = some (.inr (c, fs))) (hs : s[i]? = some t) (ht : T.1[t]? = some (.inl c)) (hfa : T.2.1[c]? = some fa) (hy : fa[k]? = some y) (hv : ak_gam s y v) (hM : (c, k) ∈ M.2) (hn : (c, k) ∉ T.2.2.2) : ak_Ty T s (h.set i (.inr (c, fs.set k v))) ∧ SP s (h.set i (.inr (c, fs.set k v))) ∧ ak_Ev T M s h (h.set i (.inr (c, fs.set k v))) ∧ ∀ r c' fs', aj_obj tb h r = some (c', fs') → ∃ fs2, aj_obj tb (h.set i (.inr (c, fs.set k v))) r = some (c', fs2) ∧ ∀ k', k' ≠ k → fs2[k']? = fs'[k']? := by
  have hl : i < h.length := (List.getElem?_eq_some_iff.mp hi).1
  refine ⟨⟨by rw [List.length_set]; exact hT.1, fun j t' hj => ?_⟩, hc s h i _ _ hSP hi (Or.inr ⟨c, fs, _, rfl, rfl, List.length_set, fun k' hk' => ?_⟩), ⟨fun j t' z q1 q2 q3 => ?_, fun j c' fs' q => ?_, fun j kd' n' z q => ?_⟩, fun r c' fs' q => ?_⟩
  · obtain ⟨g1, e, g2, g3⟩ := hT.2 j t' hj
    refine ⟨g1, ?_⟩
    by_cases hij : i = j
    · subst hij
      rw [hs] at hj
      cases hj
      rw [hi] at g2
      cases g2
      refine ⟨_, by rw [List.getElem?_set_self hl], ?_⟩
      unfold ak_cOK at g3 ⊢
      rw [ht] at g3 ⊢
      obtain ⟨fs1, e1, fa1, e2, e3, e4⟩ := g3
      cases e1
      rw [hfa] at e2
      cases e2
      refine ⟨_, rfl, fa, hfa, by rw [List.length_set]; exact e3, fun k' a' ha' => ?_⟩
      by_cases hk : k = k'
      · subst hk
        rw [hy] at ha'
        cases ha'
        have : k < fs.length := by
          rw [e3]
          exact (List.getElem?_eq_some_iff.mp hy).1
        exact ⟨v, by rw [List.getElem?_set_self this], hv⟩
      · obtain ⟨w, w1, w2⟩ := e4 k' a' ha'
        exact ⟨w, by rw [List.getElem?_set_ne hk]; exact w1, w2⟩
    · exact ⟨e, by rw [List.getElem?_set_ne hij]; exact g2, g3⟩
  · have : k ≠ k' := fun z => hn (by rw [z]; exact hk')
    rw [List.getElem?_set_ne this]
  · by_cases hij : i = j
    · subst hij
      rw [hs] at q1
      cases q1
      rw [ht] at q2
      cases q2
    · rw [List.getElem?_set_ne hij]
  · by_cases hij : i = j
    · subst hij
      rw [hi] at q
      cases q
      refine ⟨_, by rw [List.getElem?_set_self hl], fun k' hk' => ?_⟩
      have : k ≠ k' := fun z => hk' (by rw [← z]; exact hM)
      rw [List.getElem?_set_ne this]
    · exact ⟨fs', by rw [List.getElem?_set_ne hij]; exact q, fun _ _ => rfl⟩
  · by_cases hij : i = j
    · subst hij
      rw [hi] at q
      cases q
    · exact ⟨z, by rw [List.getElem?_set_ne hij]; exact q⟩
  · obtain ⟨q1, q2⟩ := (ak_obj_h htb).mp q
    by_cases hij : i = r - 52
    · subst hij
      rw [hi] at q2
      cases q2
      exact ⟨_, (ak_obj_h htb).mpr ⟨q1, by rw [List.getElem?_set_self hl]⟩, fun k' hk' => by rw [List.getElem?_set_ne (Ne.symm hk')]⟩
    · exact ⟨fs', (ak_obj_h htb).mpr ⟨q1, by rw [List.getElem?_set_ne hij]; exact q2⟩, fun _ _ => rfl⟩
theorem ak_gS_h {h' : aj_H} {f : ak_P → ak_P} (hf : ∀ p v, ak_gP tb h lv p v → ak_gP tb h' lv (f p) v) : ∀ {S : ak_S} {st : List Value}, ak_gS s tb h lv S st → ak_gS s tb h' lv (S.map (fun e => (e.1, f e.2))) st := by
  intro S
  induction S with
  | nil =>
    intro st hS
    cases st with
    | nil => trivial
    | cons v st => exact hS.elim
  | cons e S ih =>
    intro st hS
    obtain ⟨v, st', rfl, h1, h2, h3⟩ := ak_gS_c hS
    exact ⟨h1, hf _ _ h2, ih h3⟩
theorem ak_gS_same {h' : aj_H} (ho : ∀ r c fs, aj_obj tb h r = some (c, fs) → aj_obj tb h' r = some (c, fs)) {S : ak_S} {st : List Value} (hS : ak_gS s tb h lv S st) : ak_gS s tb h' lv S st := by
  have k := ak_gS_h (h' := h') (f := id) (fun p v hp => ?_) hS
  · have e : S.map (fun e => (e.1, id e.2)) = S := by
      conv => rhs; rw [← List.map_id S]
      rfl
    rw [e] at k
    exact k
  · unfold ak_gP at hp
    show ak_gP tb h' lv p v
    unfold ak_gP
    split at hp
    · trivial
    · exact hp
    · obtain ⟨r, c, fs, g1, g2, g3⟩ := hp
      exact ⟨r, c, fs, g1, ho _ _ _ g2, g3⟩
theorem ak_gF_same {h' : aj_H} (ho : ∀ r c fs, aj_obj tb h r = some (c, fs) → aj_obj tb h' r = some (c, fs)) {F : ak_F} (hF : ak_gF tb h lv F) : ak_gF tb h' lv F := by
  intro q hq
  obtain ⟨r, c, fs, x, g1, g2, g3⟩ := hF q hq
  exact ⟨r, c, fs, x, g1, ho _ _ _ g2, g3⟩
theorem ak_nar_ok {kd : Nat} {q : Int × Int} {x : Int32} (hx : ak_win q x) (hk : kd = 0 ∨ kd = 2 ∨ kd = 3 ∨ kd = 4) : ak_win (ak_nar kd q) (aj_nar kd x) := by
  rcases hk with rfl | rfl | rfl | rfl
  · exact hx
  · have := ak_and_r (x := x) (y := 1) (by decide)
    exact this
  · have := ak_and_r (x := x) (y := 65535) (by decide)
    rw [← lg_i2c_mask] at this
    exact this
  · have k := ak_i2b_ok x
    show ak_win (ak_nar 4 q) x.toInt8.toInt32
    unfold ak_nar
    rw [if_neg (by decide), if_neg (by decide), if_neg (by decide)]
    split
    · rename_i hr
      have e : x.toInt8.toInt32.toInt = x.toInt := by
        unfold ak_win at hx
        have e1 : x.toInt8.toInt32.toInt = x.toInt8.toInt := Int8.toInt_toInt32 _
        have e2 : x.toInt8.toInt = x.toInt.bmod (2 ^ 8) := Int32.toInt_toInt8 x
        rw [e1, e2]
        apply Int.bmod_eq_of_le <;> omega
      unfold ak_win at hx ⊢
      rw [e]
      exact hx
    · exact k
theorem ak_as_ok (htb : ak_tbOK T tb) (hT : ak_Ty T s h) (hSP : SP s h) (hc : ak_SPc T SP) {kd1 kd2 : Nat} (hk1 : kd1 = 0 ∨ kd1 = 2 ∨ kd1 = 3 ∨ kd1 = 4) (hk2 : kd2 = 0 ∨ kd2 = 2 ∨ kd2 = 3 ∨ kd2 = 4) (ha : ak_gAS s tb h old lv st a) (h0 : ak_as T M kd1 kd2 a = some a') : ∃ (v x : Int32) (r n kd : Nat) (f : Nat → Int32) (st' : List Value), st = .int v :: .int x :: .ref r :: st' ∧ 52 ≤ r ∧ h[r - 52]? = some (.inl (kd, n, .inl f)) ∧ (kd = kd1 ∨ kd = kd2) ∧ aj_in x n = true ∧ ak_Ty T s (h.set (r - 52) (.inl (kd, n, .inl (upd f x.toNatClampNeg (aj_nar kd v))))) ∧ SP s (h.set (r - 52) (.inl (kd, n, .inl (upd f x.toNatClampNeg (aj_nar kd v))))) ∧ ak_Ev T M s h (h.set (r - 52) (.inl (kd, n, .inl (upd f x.toNatClampNeg (aj_nar kd v))))) ∧ ak_gAS s tb (h.set (r - 52) (.inl (kd, n, .inl (upd f x.toNatClampNeg (aj_nar kd v))))) old lv st' a' := by
  obtain ⟨L, S, F⟩ := a
  unfold ak_as at h0
  dsimp only at h0
  split at h0
  · rename_i qv p0 q p1 t p2 R
    split at h0
    · rename_i kd n1 n2 y ht
      split at h0
      · rename_i hq
        cases h0
        obtain ⟨hL, hS, hF⟩ := ha
        obtain ⟨v0, st0, rfl, g0, -, f3⟩ := ak_gS_c hS
        obtain ⟨v1, st1, rfl, g1, -, g3⟩ := ak_gS_c f3
        obtain ⟨v2, st2, rfl, g4, -, g6⟩ := ak_gS_c g3
        obtain ⟨v, rfl, hwv⟩ := ak_gi g0
        obtain ⟨x, rfl, hw⟩ := ak_gi g1
        obtain ⟨q1, q2, q3, q4, q5, q6, q7⟩ := hq
        rcases ak_gr g4 with ⟨-, z⟩ | ⟨r, t', rfl, ht', hty⟩
        · cases z
        · have ht' : t' = t := List.mem_singleton.mp ht'
          subst ht'
          obtain ⟨n, f, k1, k2, k3, k4, k5⟩ := ak_ty_arr htb hT hty ht
          obtain ⟨m1, m2⟩ := ak_in_ok (n := n) hw q2 (by omega)
          obtain ⟨k6, k7, k8⟩ := k5 q4
          have hkd : kd = 0 ∨ kd = 2 ∨ kd = 3 ∨ kd = 4 := by
            rcases q1 with rfl | rfl
            · exact hk1
            · exact hk2
          obtain ⟨g, rfl, hg⟩ := ak_x_int k4 (by omega) (by omega)
          have hx' : ak_xOK s kd n (.inl (upd g x.toNatClampNeg (aj_nar kd v))) y := by
            refine ⟨by omega, by omega, fun j hj => ?_⟩
            unfold upd
            split
            · exact ak_sub_ok (x := .inl (ak_nar kd qv)) (ak_nar_ok hwv hkd) q7
            · exact hg j hj
          have hM : t' ∈ M.1 := by simpa using q5
          have hn : t' ∉ T.2.2.1 := by simpa using q6
          obtain ⟨w1, w2, w3, w4⟩ := ak_seta (M := M) htb hT hSP hc k8 k7 ht hx' hM hn
          exact ⟨v, x, r, n, kd, g, st2, rfl, k6, k8, q1, m1, w1, w2, w3, hL, ak_gS_same w4 g6, ak_gF_same w4 hF⟩
      · cases h0
    · cases h0
  · cases h0
theorem ak_a5_ok (htb : ak_tbOK T tb) (hT : ak_Ty T s h) (hSP : SP s h) (hc : ak_SPc T SP) (rc : Nat) (cls : List aj_C) (nL : Nat) (ret : Option FieldType) (isI : Bool) {i : Instr} (ha : ak_gAS s tb h old lv st a) (h0 : ak_a5 T cls M lk i len a = some a') : ∃ st' h', aj_step rc cls tb lk nL ret isI i len pc lv st h = some (.inl ((pc + len, lv, st'), h', 0, 0)) ∧ ak_Ty T s h' ∧ SP s h' ∧ ak_Ev T M s h h' ∧ ak_gAS s tb h' old lv st' a' := by
  unfold ak_a5 at h0
  cases i
  case putfield idx =>
    dsimp only at h0
    split at h0
    · rename_i hq
      subst hq
      obtain ⟨L, S, F⟩ := a
      unfold ak_pf at h0
      dsimp only at h0
      split at h0
      · rename_i x p0 ts p R
        split at h0
        · rename_i kind c k fin hlk
          split at h0
          · rename_i fa q hfa hcl
            split at h0
            · rename_i y hy
              split at h0
              · rename_i hq
                cases h0
                obtain ⟨q1, q2, q3, q4, q5, q6, q7⟩ := hq
                obtain ⟨hL, hS, hF⟩ := ha
                obtain ⟨v, st0, rfl, g0, -, f3⟩ := ak_gS_c hS
                obtain ⟨v1, st1, rfl, g1, g2, g3⟩ := ak_gS_c f3
                rcases ak_gr g1 with ⟨-, z⟩ | ⟨r, t, rfl, ht, hty⟩
                · cases z
                · obtain ⟨fs, fa', k1, k2, k3, k4, k5, k6, k7, k8⟩ := ak_ty_obj htb hT hty (List.all_eq_true.mp q3 t ht)
                  rw [hfa] at k6
                  cases k6
                  have hM : (c, k) ∈ M.2 := by simpa using q4
                  have hn : (c, k) ∉ T.2.2.2 := by simpa using q5
                  obtain ⟨w1, w2, w3, w4⟩ := ak_seto (M := M) (v := v) htb hT hSP hc k4 k3 k5 hfa hy (ak_sub_ok g0 q7) hM hn
                  have hk : k < fs.length := by
                    rw [k7]
                    exact (List.getElem?_eq_some_iff.mp hy).1
                  have hob : aj_obj tb (h.set (r - 52) (.inr (c, fs.set k v))) r = some (c, fs.set k v) := (ak_obj_h htb).mpr ⟨k2, by rw [List.getElem?_set_self (List.getElem?_eq_some_iff.mp k4).1]⟩
                  refine ⟨st1, h.set (r - 52) (.inr (c, fs.set k v)), ?_, w1, w2, w3, hL, ?_, ?_⟩
                  · unfold aj_step
                    dsimp only
                    rw [if_pos rfl]
                    obtain ⟨c1, c2, c3, ty⟩ := q
                    unfold aj_putf
                    simp only [hlk, k1, hcl, htb.1]
                    exact if_pos ⟨q1, trivial, hk, ak_fitA_ok g0 q6, Or.inl q2⟩
                  · refine ak_gS_h (f := ak_clf k) (fun p' v' hp => ?_) g3
                    rcases p' with _ | j | q'
                    · trivial
                    · exact hp
                    · show ak_gP tb _ lv (if q'.2 = k then none else some (.inr q')) v'
                      split
                      · trivial
                      · rename_i hz
                        obtain ⟨r', c', fs', m1, m2, m3⟩ := hp
                        obtain ⟨fs2, n1, n2⟩ := w4 _ _ _ m2
                        exact ⟨r', c', fs2, m1, n1, by rw [n2 _ hz]; exact m3⟩
                  · have hf : ak_gF tb (h.set (r - 52) (.inr (c, fs.set k v))) lv (F.filter (fun z => !(z.1.2 == k))) := by
                      intro z hz
                      obtain ⟨z1, z2⟩ := List.mem_filter.mp hz
                      obtain ⟨r', c', fs', y', m1, m2, m3, m4⟩ := hF z z1
                      simp only [Bool.not_eq_true', beq_eq_false_iff_ne] at z2
                      obtain ⟨fs2, n1, n2⟩ := w4 _ _ _ m2
                      exact ⟨r', c', fs2, y', m1, n1, by rw [n2 _ z2]; exact m3, m4⟩
                    show ak_gF tb _ lv (ak_ptF k x p F)
                    unfold ak_ptF
                    split
                    · rename_i qx j
                      intro z hz
                      rcases List.mem_cons.mp hz with rfl | hz
                      · obtain ⟨xv, rfl, hxv⟩ := ak_gi g0
                        exact ⟨r, c, _, xv, g2, hob, by rw [List.getElem?_set_self hk], hxv⟩
                      · exact hf z hz
                    · exact hf
              · cases h0
            · cases h0
          · cases h0
        · cases h0
      · cases h0
    · cases h0
  case iastore =>
    dsimp only at h0
    split at h0
    · rename_i hq
      subst hq
      obtain ⟨v, x, r, n, kd, f, st', rfl, k1, k2, k3, k4, k5, k6, k7, k8⟩ := ak_as_ok htb hT hSP hc (Or.inl rfl) (Or.inl rfl) ha h0
      have k3 : kd = 0 := k3.elim id id
      subst k3
      refine ⟨st', _, ?_, k5, k6, k7, k8⟩
      unfold aj_step
      dsimp only
      rw [if_pos rfl]
      unfold aj_ast
      dsimp only
      rw [htb.1, if_neg (show ¬ r < 52 by omega)]
      simp only [k2]
      exact if_pos ⟨trivial, k4⟩
    · cases h0
  case castore =>
    dsimp only at h0
    split at h0
    · rename_i hq
      subst hq
      obtain ⟨v, x, r, n, kd, f, st', rfl, k1, k2, k3, k4, k5, k6, k7, k8⟩ := ak_as_ok htb hT hSP hc (Or.inr (Or.inr (Or.inl rfl))) (Or.inr (Or.inr (Or.inl rfl))) ha h0
      have k3 : kd = 3 := k3.elim id id
      subst k3
      refine ⟨st', _, ?_, k5, k6, k7, k8⟩
      unfold aj_step
      dsimp only
      rw [if_pos rfl]
      unfold aj_ast
      dsimp only
      rw [htb.1, if_neg (show ¬ r < 52 by omega)]
      simp only [k2]
      exact if_pos ⟨trivial, k4⟩
    · cases h0
  case bastore =>
    dsimp only at h0
    split at h0
    · rename_i hq
      subst hq
      obtain ⟨v, x, r, n, kd, f, st', rfl, k1, k2, k3, k4, k5, k6, k7, k8⟩ := ak_as_ok htb hT hSP hc (Or.inr (Or.inl rfl)) (Or.inr (Or.inr (Or.inr rfl))) ha h0
      rcases k3 with rfl | rfl
      · refine ⟨st', _, ?_, k5, k6, k7, k8⟩
        unfold aj_step
        dsimp only
        rw [if_pos rfl]
        unfold aj_bst
        dsimp only
        simp only [htb.1, k2]
        unfold aj_ast
        dsimp only
        rw [htb.1, if_neg (show ¬ r < 52 by omega)]
        simp only [k2]
        exact if_pos ⟨trivial, k4⟩
      · refine ⟨st', _, ?_, k5, k6, k7, k8⟩
        unfold aj_step
        dsimp only
        rw [if_pos rfl]
        unfold aj_bst
        dsimp only
        simp only [htb.1, k2]
        unfold aj_ast
        dsimp only
        rw [htb.1, if_neg (show ¬ r < 52 by omega)]
        simp only [k2]
        exact if_pos ⟨trivial, k4⟩
    · cases h0
  case lastore =>
    dsimp only at h0
    split at h0
    · rename_i hq
      subst hq
      obtain ⟨L, S, F⟩ := a
      unfold ak_asl at h0
      dsimp only at h0
      split at h0
      · rename_i p0 q p1 t p2 R
        split at h0
        · rename_i kd n1 n2 y ht
          split at h0
          · rename_i hq
            cases h0
            obtain ⟨hL, hS, hF⟩ := ha
            obtain ⟨v0, st0, rfl, g0, -, f3⟩ := ak_gS_c hS
            obtain ⟨v1, st1, rfl, g1, -, g3⟩ := ak_gS_c f3
            obtain ⟨v2, st2, rfl, g4, -, g6⟩ := ak_gS_c g3
            obtain ⟨v, rfl⟩ := ak_gl g0
            obtain ⟨x, rfl, hw⟩ := ak_gi g1
            obtain ⟨q1, q2, q3, q4, q5, q6⟩ := hq
            subst q1
            rcases ak_gr g4 with ⟨-, z⟩ | ⟨r, t', rfl, ht', hty⟩
            · cases z
            · have ht' : t' = t := List.mem_singleton.mp ht'
              subst ht'
              obtain ⟨n, f, k1, k2, k3, k4, k5⟩ := ak_ty_arr htb hT hty ht
              obtain ⟨m1, m2⟩ := ak_in_ok (n := n) hw q2 (by omega)
              obtain ⟨k6, k7, k8⟩ := k5 q4
              have hf : ∃ g : Nat → Int64, f = .inr (.inl g) ∧ y = .inr none := by
                unfold ak_xOK at k4
                split at k4
                · exact absurd rfl k4.1
                · exact ⟨_, rfl, k4.2⟩
                · exact absurd k4.1 (by decide)
                · exact k4.elim
              obtain ⟨g, rfl, rfl⟩ := hf
              have hx' : ak_xOK s 1 n (.inr (.inl (vp_updL g x.toNatClampNeg v))) (.inr none) := ⟨rfl, rfl⟩
              have hM : t' ∈ M.1 := by simpa using q5
              have hn : t' ∉ T.2.2.1 := by simpa using q6
              obtain ⟨w1, w2, w3, w4⟩ := ak_seta (M := M) htb hT hSP hc k8 k7 ht hx' hM hn
              refine ⟨st2, _, ?_, w1, w2, w3, hL, ak_gS_same w4 g6, ak_gF_same w4 hF⟩
              unfold aj_step
              dsimp only
              rw [if_pos rfl]
              unfold aj_lst
              dsimp only
              rw [htb.1, if_neg (show ¬ r < 52 by omega)]
              simp only [k8]
              exact if_pos m1
          · cases h0
        · cases h0
      · cases h0
    · cases h0
  all_goals cases h0
end AKWR
