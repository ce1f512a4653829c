/-! THE CHECKER'S SECOND LAYER: linear facts of locals and fields -/
/-- a local; a field of the object in a local; a field of the first argument as it was at the start -/
abbrev ak_At : Type := Nat × Nat × Nat
abbrev ak_E : Type := List (ak_At × Int) × Int
def ak_val (tb : aj_T) (h : aj_H) (lv : aj_V) (gh : Nat → Int) (a : ak_At) : Int := if a.1 = 0 then ak_iv lv a.2.1 else if a.1 = 1 then ak_fv tb h (aj_lv lv a.2.1) a.2.2 else gh a.2.1
def ak_ev (x : ak_At → Int) : List (ak_At × Int) → Int
  | [] => 0
  | q :: l => q.2 * x q.1 + ak_ev x l
def ak_evE (x : ak_At → Int) (e : ak_E) : Int := ak_ev x e.1 + e.2
def ak_ins (a : ak_At) (c : Int) : List (ak_At × Int) → List (ak_At × Int)
  | [] => if c = 0 then [] else [(a, c)]
  | q :: l => if a = q.1 then (if c + q.2 = 0 then l else (q.1, c + q.2) :: l) else q :: ak_ins a c l
def ak_addL : List (ak_At × Int) → List (ak_At × Int) → List (ak_At × Int)
  | [], l => l
  | q :: k, l => ak_ins q.1 q.2 (ak_addL k l)
def ak_addE (e f : ak_E) : ak_E := (ak_addL e.1 f.1, e.2 + f.2)
def ak_scl (m : Int) (e : ak_E) : ak_E := (e.1.map (fun q => (q.1, m * q.2)), m * e.2)
def ak_subE (e f : ak_E) : ak_E := ak_addE (ak_scl (-1) f) e
section AKLIN
variable {x y : ak_At → Int}
theorem ak_ins_ok (a : ak_At) (c : Int) : ∀ l, ak_ev x (ak_ins a c l) = c * x a + ak_ev x l := by
  intro l
  induction l with
  | nil =>
    unfold ak_ins
    split
    · rename_i h
      subst h
      simp [ak_ev]
    · simp [ak_ev]
  | cons q l ih =>
    unfold ak_ins
    split
    · rename_i h
      subst h
      split
      · rename_i h0
        have e : c * x q.1 + q.2 * x q.1 = 0 := by rw [← Int.add_mul, h0, Int.zero_mul]
        show ak_ev x l = c * x q.1 + (q.2 * x q.1 + ak_ev x l)
        omega
      · show (c + q.2) * x q.1 + ak_ev x l = c * x q.1 + (q.2 * x q.1 + ak_ev x l)
        rw [Int.add_mul]
        omega
    · show q.2 * x q.1 + ak_ev x (ak_ins a c l) = c * x a + (q.2 * x q.1 + ak_ev x l)
      rw [ih]
      omega
theorem ak_addL_ok : ∀ k l, ak_ev x (ak_addL k l) = ak_ev x k + ak_ev x l := by
  intro k
  induction k with
  | nil => intro l; simp [ak_addL, ak_ev]
  | cons q k ih =>
    intro l
    unfold ak_addL
    rw [ak_ins_ok, ih]
    show q.2 * x q.1 + (ak_ev x k + ak_ev x l) = (q.2 * x q.1 + ak_ev x k) + ak_ev x l
    omega
theorem ak_addE_ok (e f : ak_E) : ak_evE x (ak_addE e f) = ak_evE x e + ak_evE x f := by
  unfold ak_evE ak_addE
  dsimp only
  rw [ak_addL_ok]
  omega
theorem ak_scl_ok (m : Int) (e : ak_E) : ak_evE x (ak_scl m e) = m * ak_evE x e := by
  unfold ak_evE ak_scl
  dsimp only
  have : ∀ l : List (ak_At × Int), ak_ev x (l.map (fun q => (q.1, m * q.2))) = m * ak_ev x l := by
    intro l
    induction l with
    | nil => simp [ak_ev]
    | cons q l ih =>
      show m * q.2 * x q.1 + ak_ev x (l.map (fun q => (q.1, m * q.2))) = m * (q.2 * x q.1 + ak_ev x l)
      rw [ih, Int.mul_add, Int.mul_assoc]
  rw [this, Int.mul_add]
theorem ak_subE_ok (e f : ak_E) : ak_evE x (ak_subE e f) = ak_evE x e - ak_evE x f := by
  unfold ak_subE
  rw [ak_addE_ok, ak_scl_ok]
  omega
end AKLIN
/-- how an atom may have changed: not known, or by so much -/
abbrev ak_Ch : Type := ak_At → Option (Int × Int)
def ak_chOK (ch : ak_Ch) (x y : ak_At → Int) : Prop := ∀ a q, ch a = some q → q.1 ≤ y a - x a ∧ y a - x a ≤ q.2
/-- a fact, told of the new values -/
def ak_mvL (ch : ak_Ch) : List (ak_At × Int) → Option Int
  | [] => some 0
  | q :: l => match ch q.1, ak_mvL ch l with
    | some z, some r => some (ak_mx (-(q.2 * z.1)) (-(q.2 * z.2)) + r)
    | _, _ => none
def ak_mvF (ch : ak_Ch) (e : ak_E) : Option ak_E := (ak_mvL ch e.1).map (fun r => (e.1, e.2 + r))
def ak_mxL (ch : ak_Ch) : List (ak_At × Int) → Option Int
  | [] => some 0
  | q :: l => match ch q.1, ak_mxL ch l with
    | some z, some r => if z.1 = z.2 then some (-(q.2 * z.1) + r) else none
    | _, _ => none
def ak_mvX (ch : ak_Ch) (e : ak_E) : Option ak_E := (ak_mxL ch e.1).map (fun r => (e.1, e.2 + r))
section AKMV
variable {ch : ak_Ch} {x y : ak_At → Int}
theorem ak_mvL_ok (hc : ak_chOK ch x y) : ∀ {l : List (ak_At × Int)} {r : Int}, ak_mvL ch l = some r → ak_ev x l ≤ ak_ev y l + r := by
  intro l
  induction l with
  | nil => intro r h; cases h; exact Int.le_refl _
  | cons q l ih =>
    intro r h
    unfold ak_mvL at h
    split at h
    · rename_i z r' h1 h2
      cases h
      have k := ih h2
      have g := hc _ _ h1
      have e : q.2 * x q.1 = q.2 * y q.1 - q.2 * (y q.1 - x q.1) := by rw [Int.mul_sub]; omega
      have m := ak_mul1 (a := z.1) (b := z.2) (x := y q.1 - x q.1) q.2 g.1 g.2
      have m1 := ak_mx_ge (-(q.2 * z.1)) (-(q.2 * z.2))
      have m2 : ak_mn (z.1 * q.2) (z.2 * q.2) = z.1 * q.2 ∨ ak_mn (z.1 * q.2) (z.2 * q.2) = z.2 * q.2 := by
        unfold ak_mn
        split
        · exact Or.inl rfl
        · exact Or.inr rfl
      rw [Int.mul_comm q.2 z.1, Int.mul_comm q.2 z.2] at m1 ⊢
      rw [Int.mul_comm (y q.1 - x q.1) q.2] at m
      show q.2 * x q.1 + ak_ev x l ≤ q.2 * y q.1 + ak_ev y l + _
      rcases m2 with m2 | m2 <;> rw [m2] at m <;> omega
    · cases h
theorem ak_mxL_ok (hc : ak_chOK ch x y) : ∀ {l : List (ak_At × Int)} {r : Int}, ak_mxL ch l = some r → ak_ev x l = ak_ev y l + r := by
  intro l
  induction l with
  | nil => intro r h; cases h; rfl
  | cons q l ih =>
    intro r h
    unfold ak_mxL at h
    split at h
    · rename_i z r' h1 h2
      split at h
      · rename_i hz
        cases h
        have k := ih h2
        have g := hc _ _ h1
        have e0 : y q.1 - x q.1 = z.1 := by omega
        have e : q.2 * x q.1 = q.2 * y q.1 - q.2 * z.1 := by rw [← e0, Int.mul_sub]; omega
        show q.2 * x q.1 + ak_ev x l = q.2 * y q.1 + ak_ev y l + _
        omega
      · cases h
    · cases h
theorem ak_mvF_ok (hc : ak_chOK ch x y) {e f : ak_E} (h : ak_mvF ch e = some f) (h0 : 0 ≤ ak_evE x e) : 0 ≤ ak_evE y f := by
  unfold ak_mvF at h
  obtain ⟨r, h1, rfl⟩ := Option.map_eq_some_iff.mp h
  have := ak_mvL_ok hc h1
  unfold ak_evE at h0 ⊢
  dsimp only
  omega
theorem ak_mvX_ok (hc : ak_chOK ch x y) {e f : ak_E} (h : ak_mvX ch e = some f) : ak_evE y f = ak_evE x e := by
  unfold ak_mvX at h
  obtain ⟨r, h1, rfl⟩ := Option.map_eq_some_iff.mp h
  have := ak_mxL_ok hc h1
  unfold ak_evE
  dsimp only
  omega
end AKMV
abbrev ak_X : Type := List (Option ak_E)
def ak_gX (x : ak_At → Int) (X : ak_X) (st : List Value) : Prop := ∀ (i : Nat) (e : ak_E), X[i]? = some (some e) → ∃ y : Int32, st[i]? = some (Value.int y) ∧ y.toInt = ak_evE x e
def ak_gR2 (x : ak_At → Int) (R : List ak_E) : Prop := ∀ e ∈ R, 0 ≤ ak_evE x e
/-- bounds of atoms -/
def ak_bd (T : ak_TT) (a : ak_AS) (t : ak_At) : Option (Int × Int) := if t.1 = 0 then (match ak_lkL a.1 t.2.1 with
    | some (.inl q, _) => some q
    | _ => none) else if t.1 = 1 then (match ak_lkF a.2.2 t.2.1 t.2.2 with
    | some q => some q
    | none => match ak_lkL a.1 t.2.1 with
      | some (.inr (some ([ty], false)), _) => (match T.1[ty]? with
        | some (.inl c) => if 52 ≤ ty then (match T.2.1[c]? with
          | some fa => (match fa[t.2.2]? with
            | some (.inl q) => some q
            | _ => none)
          | none => none) else none
        | _ => none)
      | _ => none) else none
def ak_lbL (bd : ak_At → Option (Int × Int)) : List (ak_At × Int) → Option Int
  | [] => some 0
  | q :: l => match bd q.1, ak_lbL bd l with
    | some z, some r => some ((if 0 ≤ q.2 then q.2 * z.1 else q.2 * z.2) + r)
    | _, _ => none
def ak_lb (bd : ak_At → Option (Int × Int)) (e : ak_E) : Option Int := (ak_lbL bd e.1).map (fun r => r + e.2)
def ak_om (p q : Option Int) : Option Int := match p, q with
  | some a, some b => some (ak_mx a b)
  | some a, none => some a
  | none, q => q
/-- the best lower bound by up to n facts -/
def ak_lbR (bd : ak_At → Option (Int × Int)) (R : List ak_E) : Nat → ak_E → Option Int
  | 0, e => ak_lb bd e
  | n + 1, e => R.foldl (fun b g => ak_om b (ak_lbR bd R n (ak_subE e g))) (ak_lb bd e)
def ak_ent (bd : ak_At → Option (Int × Int)) (R : List ak_E) (e : ak_E) : Bool := match ak_lbR bd R 2 e with
  | some b => decide (0 ≤ b)
  | none => false
section AKBD
variable {T : ak_TT} {s : List Nat} {tb : aj_T} {h : aj_H} {old : Nat → Int} {lv : aj_V} {st : List Value} {a : ak_AS} {gh : Nat → Int} {x : ak_At → Int} {bd : ak_At → Option (Int × Int)} {R : List ak_E}
theorem ak_bd_f (htb : ak_tbOK T tb) (hT : ak_Ty T s h) (ha : ak_gAS s tb h old lv st a) {t : ak_At} {q : Int × Int} (h1 : t.1 = 1) (h0 : ak_bd T a t = some q) : ∃ (r c : Nat) (fs : List Value) (y : Int32), aj_lv lv t.2.1 = some (.ref r) ∧ aj_obj tb h r = some (c, fs) ∧ fs[t.2.2]? = some (.int y) ∧ ak_win q y := by
  unfold ak_bd at h0
  rw [h1, if_neg (by decide), if_pos rfl] at h0
  split at h0
  · rename_i q' hF
    cases h0
    unfold ak_lkF at hF
    obtain ⟨z, z1, z2⟩ := Option.map_eq_some_iff.mp hF
    have z3 := List.find?_some z1
    simp only [Bool.and_eq_true, beq_iff_eq] at z3
    obtain ⟨r', c', fs', y, m1, m2, m3, m4⟩ := ha.2.2 z (List.mem_of_find?_eq_some z1)
    rw [z3.1] at m1
    rw [z3.2] at m3
    rw [z2] at m4
    exact ⟨r', c', fs', y, m1, m2, m3, m4⟩
  · split at h0
    · rename_i ty o hL
      obtain ⟨v, k1, k2, -⟩ := ak_lkL_ok ha.1 hL
      rcases ak_gr k2 with ⟨-, z⟩ | ⟨r, t', rfl, ht', hty⟩
      · cases z
      · have ht' : t' = ty := List.mem_singleton.mp ht'
        subst ht'
        split at h0
        · rename_i c hc
          split at h0
          · rename_i h52
            have hisC : ak_isC T c t' = true := by
              unfold ak_isC
              rw [hc]
              simp [h52]
            obtain ⟨fs, fa, g1, g2, g3, g4, g5, g6, g7, g8⟩ := ak_ty_obj htb hT hty hisC
            split at h0
            · rename_i fa' hfa
              rw [g6] at hfa
              cases hfa
              split at h0
              · rename_i q' hq
                cases h0
                obtain ⟨v, w1, w2⟩ := g8 _ _ hq
                obtain ⟨y, rfl, w3⟩ := ak_gi w2
                exact ⟨r, c, fs, y, k1, g1, w1, w3⟩
              · cases h0
            · cases h0
          · cases h0
        · cases h0
    · cases h0
theorem ak_fv_of {r c k : Nat} {fs : List Value} {y : Int32} (h1 : aj_obj tb h r = some (c, fs)) (h2 : fs[k]? = some (.int y)) : ak_fv tb h (some (.ref r)) k = y.toInt := by
  unfold ak_fv
  simp only [h1, h2]
theorem ak_bd_ok (htb : ak_tbOK T tb) (hT : ak_Ty T s h) (ha : ak_gAS s tb h old lv st a) {t : ak_At} {q : Int × Int} (h0 : ak_bd T a t = some q) : q.1 ≤ ak_val tb h lv gh t ∧ ak_val tb h lv gh t ≤ q.2 := by
  by_cases h1 : t.1 = 0
  · unfold ak_bd at h0
    rw [if_pos h1] at h0
    unfold ak_val
    rw [if_pos h1]
    split at h0
    · rename_i q' o hL
      cases h0
      obtain ⟨v, k1, k2, -⟩ := ak_lkL_ok ha.1 hL
      obtain ⟨y, rfl, hw⟩ := ak_gi k2
      unfold ak_iv
      rw [k1]
      exact hw
    · cases h0
  · by_cases h2 : t.1 = 1
    · obtain ⟨r, c, fs, y, k1, k2, k3, k4⟩ := ak_bd_f htb hT ha h2 h0
      unfold ak_val
      rw [if_neg h1, if_pos h2, k1, ak_fv_of k2 k3]
      exact k4
    · unfold ak_bd at h0
      rw [if_neg h1, if_neg h2] at h0
      cases h0
theorem ak_lbL_ok (hb : ∀ t q, bd t = some q → q.1 ≤ x t ∧ x t ≤ q.2) : ∀ {l : List (ak_At × Int)} {r : Int}, ak_lbL bd l = some r → r ≤ ak_ev x l := by
  intro l
  induction l with
  | nil => intro r h; cases h; exact Int.le_refl _
  | cons q l ih =>
    intro r h
    unfold ak_lbL at h
    split at h
    · rename_i z r' h1 h2
      cases h
      have k := ih h2
      have g := hb _ _ h1
      show _ ≤ q.2 * x q.1 + ak_ev x l
      split
      · rename_i hq
        have := Int.mul_le_mul_of_nonneg_left g.1 hq
        omega
      · rename_i hq
        have := Int.mul_le_mul_of_nonpos_left (show q.2 ≤ 0 by omega) g.2
        omega
    · cases h
theorem ak_lb_ok (hb : ∀ t q, bd t = some q → q.1 ≤ x t ∧ x t ≤ q.2) {e : ak_E} {r : Int} (h : ak_lb bd e = some r) : r ≤ ak_evE x e := by
  unfold ak_lb at h
  obtain ⟨r', h1, rfl⟩ := Option.map_eq_some_iff.mp h
  have := ak_lbL_ok hb h1
  unfold ak_evE
  omega
theorem ak_lbR_ok (hb : ∀ t q, bd t = some q → q.1 ≤ x t ∧ x t ≤ q.2) (hR : ak_gR2 x R) : ∀ (n : Nat) {e : ak_E} {r : Int}, ak_lbR bd R n e = some r → r ≤ ak_evE x e := by
  intro n
  induction n with
  | zero => intro e r h; exact ak_lb_ok hb h
  | succ n ih =>
    intro e r h
    unfold ak_lbR at h
    have key : ∀ (R' : List ak_E), (∀ g ∈ R', 0 ≤ ak_evE x g) → ∀ (b : Option Int), (∀ r, b = some r → r ≤ ak_evE x e) → ∀ r, R'.foldl (fun b g => ak_om b (ak_lbR bd R n (ak_subE e g))) b = some r → r ≤ ak_evE x e := by
      intro R'
      induction R' with
      | nil => intro _ b hb0 r h; exact hb0 r h
      | cons g R' ih2 =>
        intro hg b hb0 r h
        refine ih2 (fun g' hg' => hg g' (List.mem_cons_of_mem _ hg')) _ ?_ r h
        intro r1 h1
        have hs : ∀ r2, ak_lbR bd R n (ak_subE e g) = some r2 → r2 ≤ ak_evE x e := by
          intro r2 h2
          have := ih h2
          rw [ak_subE_ok] at this
          have := hg g List.mem_cons_self
          omega
        have h1 : ak_om b (ak_lbR bd R n (ak_subE e g)) = some r1 := h1
        cases b with
        | none => exact hs _ h1
        | some b0 =>
          have k1 := hb0 b0 rfl
          cases h2 : ak_lbR bd R n (ak_subE e g) with
          | none =>
            rw [h2] at h1
            cases h1
            exact k1
          | some b1 =>
            rw [h2] at h1
            cases h1
            have k2 := hs b1 h2
            unfold ak_mx
            split <;> omega
    exact key R hR _ (fun r h => ak_lb_ok hb h) r h
theorem ak_ent_ok (hb : ∀ t q, bd t = some q → q.1 ≤ x t ∧ x t ≤ q.2) (hR : ak_gR2 x R) {e : ak_E} (h : ak_ent bd R e = true) : 0 ≤ ak_evE x e := by
  unfold ak_ent at h
  split at h
  · rename_i b hb'
    have := ak_lbR_ok hb hR 2 hb'
    have := of_decide_eq_true h
    omega
  · cases h
end AKBD
