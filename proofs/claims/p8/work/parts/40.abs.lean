/-! INTERVALS: abstract values, types of cells, what holds of a heap; a checker of methods (41 ..) -/
/-- an int between two bounds; a long; a reference to a cell of one of some types, or null -/
abbrev ak_A : Type := (Int × Int) ⊕ (Option (List Nat × Bool))
/-- where a value on the stack comes from: a local, or a field of the object in a local -/
abbrev ak_P : Type := Option (Nat ⊕ (Nat × Nat))
/-- a type of cells: a class, or an array: kind, least and greatest length, content -/
abbrev ak_TI : Type := Nat ⊕ (Nat × Nat × Nat × ak_A)
/-- the types (below 52 the static arrays), the fields of each class, what the checker never writes: types of arrays, fields -/
abbrev ak_TT : Type := List ak_TI × List (List ak_A) × List Nat × List (Nat × Nat)
/-- what may be changed: arrays of these types, these fields -/
abbrev ak_Mo : Type := List Nat × List (Nat × Nat)
def ak_ty (s : List Nat) (r t : Nat) : Prop := (r < 52 ∧ t = r) ∨ (52 ≤ r ∧ 52 ≤ t ∧ s[r - 52]? = some t)
def ak_gam (s : List Nat) : ak_A → Value → Prop
  | .inl q, .int x => q.1 ≤ x.toInt ∧ x.toInt ≤ q.2
  | .inr none, .long _ => True
  | .inr (some q), .null => q.2 = true
  | .inr (some q), .ref r => ∃ t, t ∈ q.1 ∧ ak_ty s r t
  | _, _ => False
def ak_xOK (s : List Nat) (kd n : Nat) (x : (Nat → Int32) ⊕ (Nat → Int64) ⊕ (Nat → UInt32) ⊕ (Nat → UInt64) ⊕ (Nat → Option Nat)) (a : ak_A) : Prop := match x with
  | .inl f => kd ≠ 1 ∧ kd < 5 ∧ ∀ j, j < n → ak_gam s a (.int (f j))
  | .inr (.inl _) => kd = 1 ∧ a = .inr none
  | .inr (.inr (.inr (.inr f))) => kd = 5 ∧ ∀ j, j < n → ak_gam s a (va_rf (f j))
  | _ => False
def ak_cOK (T : ak_TT) (s : List Nat) (t : Nat) (e : aj_E) : Prop := match T.1[t]? with
  | some (.inl c) => ∃ fs : List Value, e = .inr (c, fs) ∧ ∃ fa : List ak_A, T.2.1[c]? = some fa ∧ fs.length = fa.length ∧ ∀ (k : Nat) (a : ak_A), fa[k]? = some a → ∃ v, fs[k]? = some v ∧ ak_gam s a v
  | some (.inr (kd, n1, n2, a)) => ∃ n x, e = .inl (kd, n, x) ∧ n1 ≤ n ∧ n ≤ n2 ∧ ak_xOK s kd n x a
  | none => False
def ak_tbOK (T : ak_TT) (tb : aj_T) : Prop := tb.length = 52 ∧ ∀ (r : Nat) (e : Nat × vp_A), tb[r]? = some e → ∃ (n1 n2 : Nat) (a : ak_A), T.1[r]? = some (.inr (e.1, n1, n2, a)) ∧ n1 ≤ e.2.1 ∧ e.2.1 ≤ n2 ∧ ak_xOK [] e.1 e.2.1 e.2.2 a
def ak_Ty (T : ak_TT) (s : List Nat) (h : aj_H) : Prop := h.length = s.length ∧ ∀ (i t : Nat), s[i]? = some t → 52 ≤ t ∧ ∃ e, h[i]? = some e ∧ ak_cOK T s t e
def ak_slot (T : ak_TT) (t : Nat) : Nat := match T.1[t]? with
  | some (.inl c) => ((T.2.1[c]?).getD []).length
  | some (.inr (_, _, n2, _)) => n2
  | none => 0
def ak_slo (T : ak_TT) (u : List Nat) : Nat := (u.map (ak_slot T)).sum
/-- how the heap went on -/
def ak_Ev (T : ak_TT) (M : ak_Mo) (s : List Nat) (h h' : aj_H) : Prop :=
  (∀ (i t : Nat) (x : Nat × Nat × Nat × ak_A), s[i]? = some t → T.1[t]? = some (.inr x) → t ∉ M.1 → h'[i]? = h[i]?) ∧
  (∀ (i c : Nat) (fs : List Value), h[i]? = some (.inr (c, fs)) → ∃ fs' : List Value, h'[i]? = some (.inr (c, fs')) ∧ ∀ k : Nat, (c, k) ∉ M.2 → fs'[k]? = fs[k]?) ∧
  (∀ (i kd n : Nat) (x : (Nat → Int32) ⊕ (Nat → Int64) ⊕ (Nat → UInt32) ⊕ (Nat → UInt64) ⊕ (Nat → Option Nat)), h[i]? = some (.inl (kd, n, x)) → ∃ x', h'[i]? = some (.inl (kd, n, x')))
def ak_gR (s : List Nat) : Option ak_A → Option Value → Prop
  | none, none => True
  | some a, some v => ak_gam s a v
  | _, _ => False
def ak_gA (s : List Nat) : List ak_A → List Value → Prop
  | [], [] => True
  | a :: A, v :: as => ak_gam s a v ∧ ak_gA s A as
  | _, _ => False
/-- facts of fields of the first argument -/
abbrev ak_Q : Type := List (Nat × (Int × Int))
/-- how far fields of the first argument go -/
abbrev ak_D : Type := List (Nat × (Int × Int))
/-- a contract: method, arguments, answer, what may be changed; fields ahead, fields behind (answer 0 or none; another int), how far the clock has gone (likewise), arguments if the answer is an int but 0, how far fields go (likewise) -/
abbrev ak_Con : Type := Nat × List ak_A × Option ak_A × ak_Mo × ak_Q × ak_Q × ak_Q × Int × Int × ak_Q × ak_D × ak_D
/-- an int field of an object -/
def ak_fv (tb : aj_T) (h : aj_H) (v0 : Option Value) (k : Nat) : Int := match v0 with
  | some (.ref r) => (match aj_obj tb h r with
    | some q => (match q.2[k]? with
      | some (.int x) => x.toInt
      | _ => 0)
    | none => 0)
  | _ => 0
def ak_gD (tb : aj_T) (h : aj_H) (v0 : Option Value) (gh : Nat → Int) (d : ak_D) : Prop := ∀ e ∈ d, e.2.1 ≤ ak_fv tb h v0 e.1 - gh e.1 ∧ ak_fv tb h v0 e.1 - gh e.1 ≤ e.2.2
def ak_isT (r : Option Value) : Prop := ∃ x : Int32, r = some (.int x) ∧ x.toInt ≠ 0
def ak_winq (q : Int × Int) (x : Int32) : Prop := q.1 ≤ x.toInt ∧ x.toInt ≤ q.2
def ak_gQ (tb : aj_T) (h : aj_H) (v0 : Option Value) (q : ak_Q) : Prop := ∀ e ∈ q, ∃ (r c : Nat) (fs : List Value) (x : Int32), v0 = some (.ref r) ∧ aj_obj tb h r = some (c, fs) ∧ fs[e.1]? = some (.int x) ∧ ak_winq e.2 x
def ak_gC (as : List Value) (q : ak_Q) : Prop := ∀ e ∈ q, ∃ x : Int32, as[e.1]? = some (.int x) ∧ ak_winq e.2 x
def ak_post (kap : aj_H → Int) (tb : aj_T) (con : ak_Con) (k0 : Int) (gh : Nat → Int) (v0 : Option Value) (r : Option Value) (h' : aj_H) : Prop := (ak_isT r → k0 + con.2.2.2.2.2.2.2.2.1 ≤ kap h' ∧ ak_gQ tb h' v0 con.2.2.2.2.2.2.1 ∧ ak_gD tb h' v0 gh con.2.2.2.2.2.2.2.2.2.2.2) ∧ (¬ ak_isT r → k0 + con.2.2.2.2.2.2.2.1 ≤ kap h' ∧ ak_gQ tb h' v0 con.2.2.2.2.2.1 ∧ ak_gD tb h' v0 gh con.2.2.2.2.2.2.2.2.2.2.1)
/-- the contract of a method: calls at most k deep; from such arguments it ends, with such an answer, changing no more than told -/
def ak_CT (T : ak_TT) (SP : List Nat → aj_H → Prop) (kap : aj_H → Int) (tb : aj_T) (k : Nat) (con : ak_Con) : Prop := ∀ d, k ≤ d → ∀ (s : List Nat) (h : aj_H) (as : List Value), ak_Ty T s h → SP s h → ak_gA s con.2.1 as → ak_gQ tb h as.head? con.2.2.2.2.1 → ∃ (u : List Nat) (r : Option Value) (h' : aj_H), aj_runs aj_rc aj_cls tb aj_mt d con.1 as h u.length (ak_slo T u) r h' ∧ ak_Ty T (s ++ u) h' ∧ SP (s ++ u) h' ∧ ak_Ev T con.2.2.2.1 s h h' ∧ ak_gR (s ++ u) con.2.2.1 r ∧ ak_post kap tb con (kap h) (ak_fv tb h as.head?) as.head? r h' ∧ (ak_isT r → ak_gC as con.2.2.2.2.2.2.2.2.2.1)
/-- a frame goes on to its end -/
def ak_G (T : ak_TT) (SP : List Nat → aj_H → Prop) (kap : aj_H → Int) (tb : aj_T) (d : Nat) (mm : aj_M) (con : ak_Con) (k0 : Int) (gh : Nat → Int) (v0 : Option Value) (s : List Nat) (h : aj_H) (kc ks pc : Nat) (lv : aj_V) (st : List Value) : Prop := ∃ (u : List Nat) (r : Option Value) (h' : aj_H), aj_TF aj_rc aj_cls tb mm (aj_isI mm) true (aj_runs aj_rc aj_cls tb aj_mt d) pc lv st h kc ks (kc + u.length) (ks + ak_slo T u) r h' ∧ ak_Ty T (s ++ u) h' ∧ SP (s ++ u) h' ∧ ak_Ev T con.2.2.2.1 s h h' ∧ ak_gR (s ++ u) con.2.2.1 r ∧ ak_post kap tb con k0 gh v0 r h'
section AKABS
variable {T : ak_TT} {SP : List Nat → aj_H → Prop} {tb : aj_T} {M M' : ak_Mo} {s u : List Nat} {h h1 h2 : aj_H} {a : ak_A} {v : Value}
theorem ak_ty_mono {r t : Nat} (hx : ak_ty s r t) : ak_ty (s ++ u) r t := by
  rcases hx with hx | ⟨h1, h2, h3⟩
  · exact Or.inl hx
  · refine Or.inr ⟨h1, h2, ?_⟩
    rw [List.getElem?_append_left (List.getElem?_eq_some_iff.mp h3).1]
    exact h3
theorem ak_gam_mono (hx : ak_gam s a v) : ak_gam (s ++ u) a v := by
  unfold ak_gam at hx ⊢
  split at hx
  · exact hx
  · exact hx
  · exact hx
  · obtain ⟨t, h1, h2⟩ := hx
    exact ⟨t, h1, ak_ty_mono h2⟩
  · exact hx.elim
theorem ak_Ev_rf : ak_Ev T M s h h := ⟨fun _ _ _ _ _ _ => rfl, fun _ _ fs q => ⟨fs, q, fun _ _ => rfl⟩, fun _ _ _ x q => ⟨x, q⟩⟩
theorem ak_Ev_tr (h01 : ak_Ev T M s h h1) (h12 : ak_Ev T M (s ++ u) h1 h2) : ak_Ev T M s h h2 := by
  refine ⟨fun i t x q1 q2 q3 => ?_, fun i c fs q => ?_, fun i kd n x q => ?_⟩
  · have e : (s ++ u)[i]? = some t := by
      rw [List.getElem?_append_left (List.getElem?_eq_some_iff.mp q1).1]
      exact q1
    rw [h12.1 i t x e q2 q3, h01.1 i t x q1 q2 q3]
  · obtain ⟨f1, g1, g2⟩ := h01.2.1 i c fs q
    obtain ⟨f2, g3, g4⟩ := h12.2.1 i c f1 g1
    exact ⟨f2, g3, fun k hk => (g4 k hk).trans (g2 k hk)⟩
  · obtain ⟨x1, g1⟩ := h01.2.2 i kd n x q
    exact h12.2.2 i kd n x1 g1
theorem ak_Ev_sub (hM : (∀ t ∈ M.1, t ∈ M'.1) ∧ ∀ q ∈ M.2, q ∈ M'.2) (hx : ak_Ev T M s h h1) : ak_Ev T M' s h h1 :=
  ⟨fun i t x q1 q2 q3 => hx.1 i t x q1 q2 fun z => q3 (hM.1 t z), fun i c fs q => by
    obtain ⟨f1, g1, g2⟩ := hx.2.1 i c fs q
    exact ⟨f1, g1, fun k hk => g2 k fun z => hk (hM.2 _ z)⟩, hx.2.2⟩
theorem ak_slo_app (u v : List Nat) : ak_slo T (u ++ v) = ak_slo T u + ak_slo T v := by
  unfold ak_slo
  rw [List.map_append, List.sum_append]
/-- a step that makes nothing -/
theorem ak_Gn {kap : aj_H → Int} {d : Nat} {mm : aj_M} {con : ak_Con} {k0 : Int} {gh : Nat → Int} {v0 : Option Value} {ct : List (Nat × Instr × Nat)} (hct : aj_ctOK ct mm.2.1) {kc ks pc pc' len : Nat} {lv lv' : aj_V} {st st' : List Value} {i : Instr} (hd : aj_ct ct pc = some (i, len)) (hs : aj_step aj_rc aj_cls tb mm.2.2.2.2.2.1 mm.2.2.1 mm.2.2.2.1 (aj_isI mm) i len pc lv st h = some (.inl ((pc', lv', st'), h1, 0, 0))) (he : ak_Ev T con.2.2.2.1 s h h1) (k : ak_G T SP kap tb d mm con k0 gh v0 s h1 kc ks pc' lv' st') : ak_G T SP kap tb d mm con k0 gh v0 s h kc ks pc lv st := by
  obtain ⟨u, r, h', k1, k2, k3, k4, k5, k6⟩ := k
  refine ⟨u, r, h', aj_tn hct ⟨Nat.le_add_right _ _, Nat.le_add_right _ _⟩ hd hs k1, k2, k3, ?_, k5, k6⟩
  exact ak_Ev_tr (u := []) he (by rw [List.append_nil]; exact k4)
/-- a call -/
theorem ak_Gk {kap : aj_H → Int} {d : Nat} {mm : aj_M} {con : ak_Con} {k0 : Int} {gh : Nat → Int} {v0 : Option Value} {ct : List (Nat × Instr × Nat)} (hct : aj_ctOK ct mm.2.1) {kc ks pc pc' len kind mi : Nat} {as : List Value} {lv lv' : aj_V} {st st' : List Value} {i : Instr} (hd : aj_ct ct pc = some (i, len)) (hs : aj_step aj_rc aj_cls tb mm.2.2.2.2.2.1 mm.2.2.1 mm.2.2.2.1 (aj_isI mm) i len pc lv st h = some (.inr (.inl (kind, mi, as, (pc', lv', st'))))) (h5 : kind ≠ 5) (hT : ak_Ty T s h) {u : List Nat} {r : Option Value} (hr : aj_runs aj_rc aj_cls tb aj_mt d mi as h u.length (ak_slo T u) r h1) (hT1 : ak_Ty T (s ++ u) h1) (he : ak_Ev T con.2.2.2.1 s h h1) (k : ak_G T SP kap tb d mm con k0 gh v0 (s ++ u) h1 (kc + u.length) (ks + ak_slo T u) pc' lv' (r.toList ++ st')) : ak_G T SP kap tb d mm con k0 gh v0 s h kc ks pc lv st := by
  obtain ⟨u2, r2, h2, k1, k2, k3, k4, k5, k6⟩ := k
  refine ⟨u ++ u2, r2, h2, ?_, by rw [← List.append_assoc]; exact k2, by rw [← List.append_assoc]; exact k3, ak_Ev_tr he k4, by rw [← List.append_assoc]; exact k5, k6⟩
  have hl : h1.length = h.length + u.length := by rw [hT1.1, hT.1, List.length_append]
  rw [List.length_append, ak_slo_app, ← Nat.add_assoc, ← Nat.add_assoc]
  exact aj_tk hct hd hs rfl h5 hr hl ⟨Nat.le_add_right _ _, Nat.le_add_right _ _⟩ k1
/-- an end -/
theorem ak_Ge {kap : aj_H → Int} {d : Nat} {mm : aj_M} {con : ak_Con} {k0 : Int} {gh : Nat → Int} {v0 : Option Value} {ct : List (Nat × Instr × Nat)} (hct : aj_ctOK ct mm.2.1) {kc ks pc len : Nat} {lv : aj_V} {st : List Value} {i : Instr} (hd : aj_ct ct pc = some (i, len)) {r : Option Value} (hs : aj_step aj_rc aj_cls tb mm.2.2.2.2.2.1 mm.2.2.1 mm.2.2.2.1 (aj_isI mm) i len pc lv st h = some (.inr (.inr r))) (hT : ak_Ty T s h) (hSP : SP s h) (hR : ak_gR s con.2.2.1 r) (hp : ak_post kap tb con k0 gh v0 r h) : ak_G T SP kap tb d mm con k0 gh v0 s h kc ks pc lv st := by
  refine ⟨[], r, h, ?_, by rw [List.append_nil]; exact hT, by rw [List.append_nil]; exact hSP, ak_Ev_rf, by rw [List.append_nil]; exact hR, hp⟩
  exact aj_te hct hd hs
end AKABS
