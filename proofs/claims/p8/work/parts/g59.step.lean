/-! STEPS OF THE CLASS'S METHODS BY HAND: fields and arrays of typed cells, what is seen of what the checker leaves alone -/
def cw_F (h : aj_H) (i c k : Nat) (v : Value) : Prop := ∃ fs : List Value, h[i]? = some (.inr (c, fs)) ∧ fs[k]? = some v
abbrev cw_X : Type := (Nat → Int32) ⊕ (Nat → Int64) ⊕ (Nat → UInt32) ⊕ (Nat → UInt64) ⊕ (Nat → Option Nat)
def cw_A (h : aj_H) (i kd n : Nat) (x : cw_X) : Prop := h[i]? = some (.inl (kd, n, x))
def cw_sf (h : aj_H) (i k : Nat) (v : Value) : aj_H := match h[i]? with
  | some (.inr (c, fs)) => h.set i (.inr (c, fs.set k v))
  | _ => h
def cw_sa (h : aj_H) (i : Nat) (x : cw_X) : aj_H := match h[i]? with
  | some (.inl (kd, n, _)) => h.set i (.inl (kd, n, x))
  | _ => h
/-- what is seen: of each object its class and those fields, of the first cells' arrays those -/
def cw_ob (h : aj_H) (i : Nat) : Option (Nat × (Nat → Option Value)) := match h[i]? with
  | some (.inr (c, fs)) => some (c, fun k => if (c, k) ∈ ak_spFC then fs[k]? else none)
  | _ => none
def cw_oa (h : aj_H) (i : Nat) : Option (Nat × Nat × cw_X) := match h[i]? with
  | some (.inl (kd, n, x)) => some (kd, n, if ((ak_s0[i]?).map (fun t => ak_spTC.contains t)) = some true then x else .inl (fun _ => 0))
  | _ => none
abbrev cw_O : Type := (Nat → Option (Nat × (Nat → Option Value))) × (Nat → Option (Nat × Nat × cw_X))
def cw_o (h : aj_H) : cw_O := (cw_ob h, cw_oa h)
/-- the cells: the first ones, and what is made later: rows, their arrays, lists -/
def cw_B (s : List Nat) : Prop := ∃ u : List Nat, s = ak_s0 ++ u ∧ ∀ t ∈ u, t ∈ [58, 94, 95, 96, 98]
def cw_SPo (o : cw_O) (s : List Nat) (h : aj_H) : Prop := cw_B s ∧ cw_o h = o
section CWS
variable {T : ak_TT} {Φ : List Nat → Option Value → aj_H → Prop} {tb : aj_T} {d : Nat} {mm : aj_M} {con : ak_Con} {s : List Nat} {h : aj_H} {kc ks pc : Nat} {lv : aj_V} {st rest : List Value} {ct : List (Nat × Instr × Nat)} {i i' c c' k k' kd kd' n n' t : Nat} {v v' w : Value} {x x' : cw_X}
theorem cw_sf_eq {fs : List Value} (h0 : h[i]? = some (.inr (c, fs))) : cw_sf h i k v = h.set i (.inr (c, fs.set k v)) := by
  unfold cw_sf
  rw [h0]
theorem cw_sa_eq (h0 : cw_A h i kd n x) : cw_sa h i x' = h.set i (.inl (kd, n, x')) := by
  unfold cw_A at h0
  unfold cw_sa
  rw [h0]
theorem cw_F_lt (h0 : cw_F h i c k v) : i < h.length := by
  obtain ⟨fs, h1, -⟩ := h0
  exact (List.getElem?_eq_some_iff.mp h1).1
theorem cw_F_u (h0 : cw_F h i c k v) (h1 : cw_F h i c' k v') : c = c' ∧ v = v' := by
  obtain ⟨fs, a1, a2⟩ := h0
  obtain ⟨fs', b1, b2⟩ := h1
  rw [a1] at b1
  cases b1
  rw [a2] at b2
  cases b2
  exact ⟨rfl, rfl⟩
theorem cw_A_u (h0 : cw_A h i kd n x) (h1 : cw_A h i kd' n' x') : kd = kd' ∧ n = n' ∧ x = x' := by
  unfold cw_A at h0 h1
  rw [h0] at h1
  cases h1
  exact ⟨rfl, rfl, rfl⟩
theorem cw_sf_same (h0 : cw_F h i c k w) : cw_F (cw_sf h i k v) i c k v := by
  have hl := cw_F_lt h0
  obtain ⟨fs, h1, h2⟩ := h0
  rw [cw_sf_eq h1]
  refine ⟨fs.set k v, List.getElem?_set_self hl, ?_⟩
  exact List.getElem?_set_self (List.getElem?_eq_some_iff.mp h2).1
theorem cw_sf_ne (h0 : cw_F h i' c' k' v') (hn : i' ≠ i ∨ k' ≠ k) : cw_F (cw_sf h i k v) i' c' k' v' := by
  have hl := cw_F_lt h0
  obtain ⟨fs, h1, h2⟩ := h0
  unfold cw_sf
  split
  · rename_i c2 fs2 h3
    by_cases e : i' = i
    · subst e
      rw [h1] at h3
      cases h3
      refine ⟨fs.set k v, List.getElem?_set_self hl, ?_⟩
      rcases hn with hn | hn
      · exact absurd rfl hn
      · rw [List.getElem?_set_ne (fun z => hn z.symm)]
        exact h2
    · exact ⟨fs, by rw [List.getElem?_set_ne (fun z => e z.symm)]; exact h1, h2⟩
  · exact ⟨fs, h1, h2⟩
theorem cw_sf_A (h0 : cw_A h i' kd n x) : cw_A (cw_sf h i k v) i' kd n x := by
  unfold cw_A at h0 ⊢
  unfold cw_sf
  split
  · rename_i c2 fs2 h3
    by_cases e : i' = i
    · subst e
      rw [h0] at h3
      cases h3
    · rw [List.getElem?_set_ne (fun z => e z.symm)]
      exact h0
  · exact h0
theorem cw_sa_same (h0 : cw_A h i kd n x) : cw_A (cw_sa h i x') i kd n x' := by
  rw [cw_sa_eq h0]
  unfold cw_A at h0 ⊢
  exact List.getElem?_set_self (List.getElem?_eq_some_iff.mp h0).1
theorem cw_sa_ne (h0 : cw_A h i' kd n x) (hn : i' ≠ i) : cw_A (cw_sa h i x') i' kd n x := by
  unfold cw_A at h0 ⊢
  unfold cw_sa
  split
  · rw [List.getElem?_set_ne (fun z => hn z.symm)]
    exact h0
  · exact h0
theorem cw_sa_F (h0 : cw_F h i' c' k' v') : cw_F (cw_sa h i x') i' c' k' v' := by
  obtain ⟨fs, h1, h2⟩ := h0
  refine ⟨fs, ?_, h2⟩
  unfold cw_sa
  split
  · rename_i kd2 n2 x2 h3
    by_cases e : i' = i
    · subst e
      rw [h1] at h3
      cases h3
    · rw [List.getElem?_set_ne (fun z => e z.symm)]
      exact h1
  · exact h1
theorem cw_tyF (hT : ak_Ty T s h) (hs : s[i]? = some t) (ht : T.1[t]? = some (.inl c)) {fa : List ak_A} (hfa : T.2.1[c]? = some fa) {y : ak_A} (hy : fa[k]? = some y) : ∃ v, cw_F h i c k v ∧ ak_gam s y v := by
  obtain ⟨-, e, he, hc⟩ := hT.2 i t hs
  unfold ak_cOK at hc
  rw [ht] at hc
  obtain ⟨fs, rfl, fa', h1, h2, h3⟩ := hc
  rw [hfa] at h1
  cases h1
  obtain ⟨v, h4, h5⟩ := h3 k y hy
  exact ⟨v, ⟨fs, he, h4⟩, h5⟩
theorem cw_tyA (hT : ak_Ty T s h) (hs : s[i]? = some t) {n1 n2 : Nat} {y : ak_A} (ht : T.1[t]? = some (.inr (kd, n1, n2, y))) : ∃ n x, cw_A h i kd n x ∧ n1 ≤ n ∧ n ≤ n2 ∧ ak_xOK s kd n x y := by
  obtain ⟨-, e, he, hc⟩ := hT.2 i t hs
  unfold ak_cOK at hc
  rw [ht] at hc
  obtain ⟨n, x, rfl, h1, h2, h3⟩ := hc
  exact ⟨n, x, he, h1, h2, h3⟩
theorem cw_n (hct : aj_ctOK ct mm.2.1) {j : Instr} {len : Nat} (hd : aj_ct ct pc = some (j, len)) {pc' : Nat} {lv' : aj_V} {st' : List Value} (hs : aj_step aj_rc aj_cls tb mm.2.2.2.2.2.1 mm.2.2.1 mm.2.2.2.1 (aj_isI mm) j len pc lv st h = some (.inl ((pc', lv', st'), h, 0, 0))) (kk : cw_W T Φ tb d mm con s h kc ks pc' lv' st') : cw_W T Φ tb d mm con s h kc ks pc lv st := cw_Wn hct hd hs ak_Ev_rf kk
theorem cw_any (hct : aj_ctOK ct mm.2.1) {j : Instr} {len : Nat} (hd : aj_ct ct pc = some (j, len)) {pc' : Nat} {lv' : aj_V} {rest' : List Value} {y : Int32} (hs : aj_step aj_rc aj_cls tb mm.2.2.2.2.2.1 mm.2.2.1 mm.2.2.2.1 (aj_isI mm) j len pc lv st h = some (.inl ((pc', lv', .int y :: rest'), h, 0, 0))) (kk : ∀ z : Int32, z = y → cw_W T Φ tb d mm con s h kc ks pc' lv' (.int z :: rest')) : cw_W T Φ tb d mm con s h kc ks pc lv st := cw_n hct hd hs (kk y rfl)
theorem cw_add (hct : aj_ctOK ct mm.2.1) (hd : aj_ct ct pc = some (.iadd, 1)) {x y : Int32} {a b : Int} (hx : x.toInt = a) (hy : y.toInt = b) (h1 : -2147483648 ≤ a + b) (h2 : a + b ≤ 2147483647) (kk : ∀ z : Int32, z.toInt = a + b → cw_W T Φ tb d mm con s h kc ks (pc + 1) lv (.int z :: rest)) : cw_W T Φ tb d mm con s h kc ks pc lv (.int y :: .int x :: rest) :=
  cw_n hct hd rfl (kk (x + y) (by rw [Int32.toInt_add, hx, hy]; exact ak_bm h1 h2))
theorem cw_sub (hct : aj_ctOK ct mm.2.1) (hd : aj_ct ct pc = some (.isub, 1)) {x y : Int32} {a b : Int} (hx : x.toInt = a) (hy : y.toInt = b) (h1 : -2147483648 ≤ a - b) (h2 : a - b ≤ 2147483647) (kk : ∀ z : Int32, z.toInt = a - b → cw_W T Φ tb d mm con s h kc ks (pc + 1) lv (.int z :: rest)) : cw_W T Φ tb d mm con s h kc ks pc lv (.int y :: .int x :: rest) :=
  cw_n hct hd rfl (kk (x - y) (by rw [Int32.toInt_sub, hx, hy]; exact ak_bm h1 h2))
theorem cw_mul (hct : aj_ctOK ct mm.2.1) (hd : aj_ct ct pc = some (.imul, 1)) {x y : Int32} {a b : Int} (hx : x.toInt = a) (hy : y.toInt = b) (h1 : -2147483648 ≤ a * b) (h2 : a * b ≤ 2147483647) (kk : ∀ z : Int32, z.toInt = a * b → cw_W T Φ tb d mm con s h kc ks (pc + 1) lv (.int z :: rest)) : cw_W T Φ tb d mm con s h kc ks pc lv (.int y :: .int x :: rest) :=
  cw_n hct hd rfl (kk (x * y) (by rw [Int32.toInt_mul, hx, hy]; exact ak_bm h1 h2))
theorem cw_c (hct : aj_ctOK ct mm.2.1) {cc : ClassFile.Cond} {off : Int} {tgt : Nat} (hd : aj_ct ct pc = some (.if_icmp cc off, 3)) (ht : (pc : Int) + off = (tgt : Int)) {x y : Int32} (k1 : aj_test cc x y = true → cw_W T Φ tb d mm con s h kc ks tgt lv rest) (k2 : aj_test cc x y = false → cw_W T Φ tb d mm con s h kc ks (pc + 3) lv rest) : cw_W T Φ tb d mm con s h kc ks pc lv (.int y :: .int x :: rest) := by
  cases hb : aj_test cc x y with
  | true =>
    obtain ⟨u, r, h', q1, q2⟩ := k1 hb
    exact ⟨u, r, h', aj_tc hct ⟨Nat.le_add_right _ _, Nat.le_add_right _ _⟩ hd ht (fun _ => q1) (fun z => by rw [hb] at z; cases z), q2⟩
  | false =>
    obtain ⟨u, r, h', q1, q2⟩ := k2 hb
    exact ⟨u, r, h', aj_tc hct ⟨Nat.le_add_right _ _, Nat.le_add_right _ _⟩ hd ht (fun z => by rw [hb] at z; cases z) (fun _ => q1), q2⟩
theorem cw_z (hct : aj_ctOK ct mm.2.1) {cc : ClassFile.Cond} {off : Int} {tgt : Nat} (hd : aj_ct ct pc = some (.ifCond cc off, 3)) (ht : (pc : Int) + off = (tgt : Int)) {x : Int32} (k1 : aj_test cc x 0 = true → cw_W T Φ tb d mm con s h kc ks tgt lv rest) (k2 : aj_test cc x 0 = false → cw_W T Φ tb d mm con s h kc ks (pc + 3) lv rest) : cw_W T Φ tb d mm con s h kc ks pc lv (.int x :: rest) := by
  cases hb : aj_test cc x 0 with
  | true =>
    obtain ⟨u, r, h', q1, q2⟩ := k1 hb
    exact ⟨u, r, h', aj_tz hct ⟨Nat.le_add_right _ _, Nat.le_add_right _ _⟩ hd ht (fun _ => q1) (fun z => by rw [hb] at z; cases z), q2⟩
  | false =>
    obtain ⟨u, r, h', q1, q2⟩ := k2 hb
    exact ⟨u, r, h', aj_tz hct ⟨Nat.le_add_right _ _, Nat.le_add_right _ _⟩ hd ht (fun z => by rw [hb] at z; cases z) (fun _ => q1), q2⟩
theorem cw_inc (hct : aj_ctOK ct mm.2.1) {j : Nat} {n : Int} (hd : aj_ct ct pc = some (.iinc j n, 3)) {x : Int32} (hx : aj_lv lv j = some (.int x)) {a : Int} (ha : x.toInt = a) (h1 : -2147483648 ≤ a + n) (h2 : a + n ≤ 2147483647) (hn : -2147483648 ≤ n ∧ n ≤ 2147483647) (hj : j < mm.2.2.1) (kk : ∀ z : Int32, z.toInt = a + n → cw_W T Φ tb d mm con s h kc ks (pc + 3) (aj_set1 lv j (.int z)) st) : cw_W T Φ tb d mm con s h kc ks pc lv st := by
  refine cw_n hct hd ?_ (kk (x + Int32.ofInt n) ?_)
  · unfold aj_step
    dsimp only
    rw [hx]
    dsimp only
    rw [if_pos ⟨rfl, hj⟩]
    rfl
  · rw [Int32.toInt_add, ha, Int32.toInt_ofInt, ak_bm hn.1 hn.2]
    exact ak_bm h1 h2
theorem cw_g (htb : tb.length = 52) (hct : aj_ctOK ct mm.2.1) {idx : Nat} (hd : aj_ct ct pc = some (.getfield idx, 3)) {kind : Nat} {fin : Int} (hlk : aj_link mm.2.2.2.2.2.1 idx = some (kind, c, k, fin)) (hk2 : kind < 2) (hF : cw_F h i c k v) (kk : cw_W T Φ tb d mm con s h kc ks (pc + 3) lv (v :: rest)) : cw_W T Φ tb d mm con s h kc ks pc lv (.ref (52 + i) :: rest) := by
  obtain ⟨u, r, h', k1, k2⟩ := kk
  obtain ⟨fs, f1, f2⟩ := hF
  refine ⟨u, r, h', aj_tg hct ⟨Nat.le_add_right _ _, Nat.le_add_right _ _⟩ hd hlk hk2 (fs := fs) ?_ f2 k1, k2⟩
  unfold aj_obj
  rw [htb, if_neg (by omega), Nat.add_sub_cancel_left, f1]
theorem cw_Tn (htb : ak_tbOK T tb) : ak_tbOK (T.1, T.2.1, [], []) tb := htb
theorem cw_Ev_n {M : ak_Mo} {h' : aj_H} (h0 : ak_Ev (T.1, T.2.1, [], []) M s h h') : ak_Ev T M s h h' := h0
theorem cw_SPt {T : ak_TT} : ak_SPc T (fun _ _ => True) := fun _ _ _ _ _ _ _ _ => trivial
theorem cw_p (htb : ak_tbOK T tb) (hct : aj_ctOK ct mm.2.1) {idx : Nat} (hd : aj_ct ct pc = some (.putfield idx, 3)) (hlk : aj_link mm.2.2.2.2.2.1 idx = some (0, c, k, 0)) (hT : ak_Ty T s h) (hs : s[i]? = some t) (ht : T.1[t]? = some (.inl c)) {fa : List ak_A} (hfa : T.2.1[c]? = some fa) {y : ak_A} (hy : fa[k]? = some y) (hv : ak_gam s y v) (hM : (c, k) ∈ con.2.2.2.1.2) {q : aj_C} (hq : aj_cls[c]? = some q) (hf : aj_fit (q.2.2.2 k) v = true) (kk : ak_Ty T s (cw_sf h i k v) → cw_W T Φ tb d mm con s (cw_sf h i k v) kc ks (pc + 3) lv rest) : cw_W T Φ tb d mm con s h kc ks pc lv (v :: .ref (52 + i) :: rest) := by
  obtain ⟨w, ⟨fs, f1, f2⟩, -⟩ := cw_tyF (k := k) hT hs ht hfa hy
  have e := cw_sf_eq (k := k) (v := v) f1
  obtain ⟨g1, -, g3, -⟩ := ak_seto (T := (T.1, T.2.1, [], [])) (SP := fun _ _ => True) (M := con.2.2.2.1) (cw_Tn htb) hT trivial cw_SPt f1 hs ht hfa hy hv hM (fun z => by cases z)
  have kk := kk (by rw [e]; exact g1)
  rw [e] at kk
  refine cw_Wn hct hd ?_ g3 kk
  have ho : aj_obj tb h (52 + i) = some (c, fs) := by
    unfold aj_obj
    rw [htb.1, if_neg (by omega), Nat.add_sub_cancel_left, f1]
  unfold aj_step aj_putf
  dsimp only
  rw [if_pos rfl, hlk, ho]
  dsimp only
  rw [hq]
  dsimp only
  rw [if_pos ⟨by decide, rfl, (List.getElem?_eq_some_iff.mp f2).1, hf, Or.inl rfl⟩, htb.1, Nat.add_sub_cancel_left]
  rfl
theorem cw_in {z : Int32} {a : Int} {n : Nat} (hz : z.toInt = a) (h0 : 0 ≤ a) (h1 : a < n) : aj_in z n = true ∧ z.toNatClampNeg = a.toNat := by
  have e : z.toNatClampNeg = a.toNat := by rw [← hz]; rfl
  refine ⟨?_, e⟩
  unfold aj_in
  rw [Bool.and_eq_true, decide_eq_true_eq, e]
  refine ⟨?_, by omega⟩
  rw [Bool.not_eq_true', decide_eq_false_iff_not, Int32.lt_iff_toInt_lt, hz, Int32.toInt_zero]
  omega
theorem cw_ld (htb : tb.length = 52) (hct : aj_ctOK ct mm.2.1) {j : Instr} (hi : j = .iaload ∧ kd = 0 ∨ j = .caload ∧ kd = 3 ∨ j = .baload ∧ kd = 2 ∨ j = .baload ∧ kd = 4) (hd : aj_ct ct pc = some (j, 1)) {f : Nat → Int32} (hA : cw_A h i kd n (.inl f)) {z : Int32} {a : Int} (hz : z.toInt = a) (h0 : 0 ≤ a) (h1 : a < n) (kk : ∀ y : Int32, y = f a.toNat → cw_W T Φ tb d mm con s h kc ks (pc + 1) lv (.int y :: rest)) : cw_W T Φ tb d mm con s h kc ks pc lv (.int z :: .ref (52 + i) :: rest) := by
  obtain ⟨e1, e2⟩ := cw_in (n := n) hz h0 h1
  obtain ⟨u, r, h', k1, k2⟩ := kk _ rfl
  refine ⟨u, r, h', aj_ta hct ⟨Nat.le_add_right _ _, Nat.le_add_right _ _⟩ hi hd (a := 52 + i) (n := n) (f := f) ?_ e1 (by rw [e2]; exact k1), k2⟩
  unfold aj_arr
  rw [htb, if_neg (by omega), Nat.add_sub_cancel_left, show h[i]? = _ from hA]
theorem cw_ldl (htb : tb.length = 52) (hct : aj_ctOK ct mm.2.1) (hd : aj_ct ct pc = some (.laload, 1)) {f : Nat → Int64} (hA : cw_A h i 1 n (.inr (.inl f))) {z : Int32} {a : Int} (hz : z.toInt = a) (h0 : 0 ≤ a) (h1 : a < n) (kk : ∀ y : Int64, y = f a.toNat → cw_W T Φ tb d mm con s h kc ks (pc + 1) lv (.long y :: rest)) : cw_W T Φ tb d mm con s h kc ks pc lv (.int z :: .ref (52 + i) :: rest) := by
  obtain ⟨e1, e2⟩ := cw_in (n := n) hz h0 h1
  refine cw_n hct hd ?_ (kk _ rfl)
  unfold aj_step aj_lld
  dsimp only
  rw [if_pos rfl]
  have : aj_arr tb h (52 + i) = some (1, n, .inr (.inl f)) := by
    unfold aj_arr
    rw [htb, if_neg (by omega), Nat.add_sub_cancel_left, show h[i]? = _ from hA]
  rw [this]
  show (if aj_in z n = true then _ else none) = _
  rw [if_pos e1, e2]
  rfl
theorem cw_ldq (htb : tb.length = 52) (hct : aj_ctOK ct mm.2.1) (hd : aj_ct ct pc = some (.aaload, 1)) {f : Nat → Option Nat} (hA : cw_A h i 5 n (.inr (.inr (.inr (.inr f))))) {z : Int32} {a : Int} (hz : z.toInt = a) (h0 : 0 ≤ a) (h1 : a < n) (kk : cw_W T Φ tb d mm con s h kc ks (pc + 1) lv (va_rf (f a.toNat) :: rest)) : cw_W T Φ tb d mm con s h kc ks pc lv (.int z :: .ref (52 + i) :: rest) := by
  obtain ⟨e1, e2⟩ := cw_in (n := n) hz h0 h1
  refine cw_n hct hd ?_ kk
  unfold aj_step aj_qld
  dsimp only
  rw [if_pos rfl, htb, if_neg (show ¬ (52 + i < 52) by omega), Nat.add_sub_cancel_left, show h[i]? = _ from hA]
  show (if aj_in z n = true then _ else none) = _
  rw [if_pos e1, e2]
  rfl
theorem cw_alen (htb : tb.length = 52) (hct : aj_ctOK ct mm.2.1) (hd : aj_ct ct pc = some (.arraylength, 1)) (hA : cw_A h i kd n x) (hk : kd < 6) (hn : n ≤ 2147483647) (kk : ∀ y : Int32, y.toInt = n → cw_W T Φ tb d mm con s h kc ks (pc + 1) lv (.int y :: rest)) : cw_W T Φ tb d mm con s h kc ks pc lv (.ref (52 + i) :: rest) := by
  refine cw_n hct hd ?_ (kk (Int32.ofNat n) ?_)
  · unfold aj_step aj_alen
    dsimp only
    have : aj_arr tb h (52 + i) = some (kd, n, x) := by
      unfold aj_arr
      rw [htb, if_neg (by omega), Nat.add_sub_cancel_left, show h[i]? = _ from hA]
    rw [if_pos rfl, this]
    dsimp only
    rw [if_pos hk]
    rfl
  · rw [show Int32.ofNat n = Int32.ofInt (n : Int) from rfl, Int32.toInt_ofInt]
    exact ak_bm (by omega) (by omega)
theorem cw_st (htb : ak_tbOK T tb) (hct : aj_ctOK ct mm.2.1) {j : Instr} (hi : j = .iastore ∧ kd = 0 ∨ j = .castore ∧ kd = 3 ∨ j = .bastore ∧ kd = 2 ∨ j = .bastore ∧ kd = 4) (hd : aj_ct ct pc = some (j, 1)) {f : Nat → Int32} (hA : cw_A h i kd n (.inl f)) (hT : ak_Ty T s h) (hs : s[i]? = some t) {n1 n2 : Nat} {lo hi' : Int} (ht : T.1[t]? = some (.inr (kd, n1, n2, .inl (lo, hi')))) (hM : t ∈ con.2.2.2.1.1) {z y : Int32} {a : Int} (hz : z.toInt = a) (h0 : 0 ≤ a) (h1 : a < n) (hy : lo ≤ (aj_nar kd y).toInt ∧ (aj_nar kd y).toInt ≤ hi') (kk : ak_Ty T s (cw_sa h i (.inl (upd f a.toNat (aj_nar kd y)))) → cw_W T Φ tb d mm con s (cw_sa h i (.inl (upd f a.toNat (aj_nar kd y)))) kc ks (pc + 1) lv rest) : cw_W T Φ tb d mm con s h kc ks pc lv (.int y :: .int z :: .ref (52 + i) :: rest) := by
  obtain ⟨e1, e2⟩ := cw_in (n := n) hz h0 h1
  have e := cw_sa_eq (x' := .inl (upd f a.toNat (aj_nar kd y))) hA
  obtain ⟨n', x, a1, -, -, a4⟩ := cw_tyA hT hs ht
  obtain ⟨-, rfl, rfl⟩ := cw_A_u hA a1
  obtain ⟨g1, -, g3, -⟩ := ak_seta (T := (T.1, T.2.1, [], [])) (SP := fun _ _ => True) (M := con.2.2.2.1) (x' := .inl (upd f a.toNat (aj_nar kd y))) (cw_Tn htb) hT trivial cw_SPt hA hs ht (by
    refine ⟨a4.1, a4.2.1, fun q hq => ?_⟩
    show lo ≤ (upd f a.toNat (aj_nar kd y) q).toInt ∧ (upd f a.toNat (aj_nar kd y) q).toInt ≤ hi'
    unfold upd
    split
    · exact hy
    · exact a4.2.2 q hq) hM (fun z => by cases z)
  have kk := kk (by rw [e]; exact g1)
  rw [e] at kk
  obtain ⟨u, r, h', k1, k2, k3, k4, k5⟩ := kk
  refine ⟨u, r, h', aj_ts hct ⟨Nat.le_add_right _ _, Nat.le_add_right _ _⟩ hi hd (a := 52 + i) (n := n) (f := f) (by rw [htb.1]; omega) (by rw [htb.1, Nat.add_sub_cancel_left]; exact hA) e1 (by rw [htb.1, Nat.add_sub_cancel_left, e2]; exact k1), k2, k3, ?_, k5⟩
  exact ak_Ev_tr (u := []) g3 (by rw [List.append_nil]; exact k4)
theorem cw_stl (htb : ak_tbOK T tb) (hct : aj_ctOK ct mm.2.1) (hd : aj_ct ct pc = some (.lastore, 1)) {f : Nat → Int64} (hA : cw_A h i 1 n (.inr (.inl f))) (hT : ak_Ty T s h) (hs : s[i]? = some t) {n1 n2 : Nat} (ht : T.1[t]? = some (.inr (1, n1, n2, .inr none))) (hM : t ∈ con.2.2.2.1.1) {z : Int32} {y : Int64} {a : Int} (hz : z.toInt = a) (h0 : 0 ≤ a) (h1 : a < n) (kk : ak_Ty T s (cw_sa h i (.inr (.inl (vp_updL f a.toNat y)))) → cw_W T Φ tb d mm con s (cw_sa h i (.inr (.inl (vp_updL f a.toNat y)))) kc ks (pc + 1) lv rest) : cw_W T Φ tb d mm con s h kc ks pc lv (.long y :: .int z :: .ref (52 + i) :: rest) := by
  obtain ⟨e1, e2⟩ := cw_in (n := n) hz h0 h1
  have e := cw_sa_eq (x' := .inr (.inl (vp_updL f a.toNat y))) hA
  obtain ⟨g1, -, g3, -⟩ := ak_seta (T := (T.1, T.2.1, [], [])) (SP := fun _ _ => True) (M := con.2.2.2.1) (x' := .inr (.inl (vp_updL f a.toNat y))) (cw_Tn htb) hT trivial cw_SPt hA hs ht ⟨rfl, rfl⟩ hM (fun z => by cases z)
  have kk := kk (by rw [e]; exact g1)
  rw [e] at kk
  refine cw_Wn hct hd ?_ g3 kk
  unfold aj_step aj_lst
  dsimp only
  rw [if_pos rfl, htb.1, if_neg (show ¬ (52 + i < 52) by omega), Nat.add_sub_cancel_left, show h[i]? = _ from hA]
  show (if aj_in z n = true then _ else none) = _
  rw [if_pos e1, e2]
  rfl
/-- a call -/
theorem cw_k (hct : aj_ctOK ct mm.2.1) {idx n : Nat} {w : Int} (htb : ak_tbOK T tb) (hT : ak_Ty T s h) (hd : aj_ct ct pc = some (.invokevirtual idx, 3)) {con' : ak_Con} (hl : aj_link mm.2.2.2.2.2.1 idx = some (2, con'.1, n, w)) (args : List Value) (hst : st = args ++ .ref (52 + i) :: rest) (hn : args.length = n) (ho : ∃ fs : List Value, h[i]? = some (.inr (w.toNat, fs))) (hsum : aj_sum rest ≤ 8) {Φ' : List Nat → Option Value → aj_H → Prop} (hM : (∀ t ∈ con'.2.2.2.1.1, t ∈ con.2.2.2.1.1) ∧ ∀ q ∈ con'.2.2.2.1.2, q ∈ con.2.2.2.1.2) (hc : cw_K T Φ' tb d con' (.ref (52 + i) :: args.reverse) s h) (kk : ∀ (u : List Nat) (r : Option Value) (h1 : aj_H), ak_Ty T (s ++ u) h1 → Φ' (s ++ u) r h1 → ak_gR (s ++ u) con'.2.2.1 r → ak_Ev T con'.2.2.2.1 s h h1 → cw_W T Φ tb d mm con (s ++ u) h1 (kc + u.length) (ks + ak_slo T u) (pc + 3) lv (r.toList ++ rest)) : cw_W T Φ tb d mm con s h kc ks pc lv st := by
  obtain ⟨u, r, h1, q1, q2, q3, q4, q5⟩ := hc
  obtain ⟨fs, ho⟩ := ho
  subst hst
  subst hn
  refine cw_Wk hct hd (kind := 2) (mi := con'.1) (as := .ref (52 + i) :: args.reverse) ?_ (by decide) hT q1 q2 (ak_Ev_sub hM q4) (kk u r h1 q2 q3 q5 q4)
  unfold aj_step aj_call
  dsimp only
  rw [if_pos rfl, hl]
  dsimp only
  rw [if_pos ⟨Nat.le_refl _, Nat.le_refl _⟩, if_neg (by decide), List.drop_left]
  dsimp only
  have : aj_rcv tb h (52 + i) w = true := by
    unfold aj_rcv aj_obj
    rw [htb.1, if_neg (by omega), Nat.add_sub_cancel_left, ho]
    simp
  rw [if_pos ⟨fun _ => this, hsum⟩, List.take_left]
/-- a call of a method of the class itself, or of none -/
theorem cw_ks (hct : aj_ctOK ct mm.2.1) {idx n : Nat} {w : Int} (hT : ak_Ty T s h) (hd : aj_ct ct pc = some (.invokestatic idx, 3)) (hnat : aj_isNat mm.2.2.2.2.2.1 idx = false) {con' : ak_Con} (hl : aj_link mm.2.2.2.2.2.1 idx = some (6, con'.1, n, w)) (args : List Value) (hst : st = args ++ rest) (hn : args.length = n) (hsum : aj_sum rest ≤ 8) {Φ' : List Nat → Option Value → aj_H → Prop} (hM : (∀ t ∈ con'.2.2.2.1.1, t ∈ con.2.2.2.1.1) ∧ ∀ q ∈ con'.2.2.2.1.2, q ∈ con.2.2.2.1.2) (hc : cw_K T Φ' tb d con' args.reverse s h) (kk : ∀ (u : List Nat) (r : Option Value) (h1 : aj_H), ak_Ty T (s ++ u) h1 → Φ' (s ++ u) r h1 → ak_gR (s ++ u) con'.2.2.1 r → ak_Ev T con'.2.2.2.1 s h h1 → cw_W T Φ tb d mm con (s ++ u) h1 (kc + u.length) (ks + ak_slo T u) (pc + 3) lv (r.toList ++ rest)) : cw_W T Φ tb d mm con s h kc ks pc lv st := by
  obtain ⟨u, r, h1, q1, q2, q3, q4, q5⟩ := hc
  subst hst
  subst hn
  refine cw_Wk hct hd (kind := 6) (mi := con'.1) (as := args.reverse) ?_ (by decide) hT q1 q2 (ak_Ev_sub hM q4) (kk u r h1 q2 q3 q5 q4)
  unfold aj_step aj_call
  dsimp only
  rw [if_pos rfl, hnat, if_neg (by decide), hl]
  dsimp only
  rw [if_pos ⟨by decide, by decide⟩, if_pos rfl, if_pos ⟨by rw [List.length_append]; omega, by rw [List.drop_left]; exact hsum⟩, List.take_left, List.drop_left]
/-! what is seen, and what the checker writes -/
theorem cw_ob_out {fs fs' : List Value} (hi : h[i]? = some (.inr (c, fs))) (hs : ∀ k, (c, k) ∈ ak_spFC → fs'[k]? = fs[k]?) : cw_o (h.set i (.inr (c, fs'))) = cw_o h := by
  have hl := (List.getElem?_eq_some_iff.mp hi).1
  refine Prod.ext ?_ ?_
  · funext j
    show cw_ob _ j = cw_ob h j
    unfold cw_ob
    by_cases e : j = i
    · subst e
      rw [List.getElem?_set_self hl, hi]
      dsimp only
      congr 2
      funext k
      split
      · exact hs k (by assumption)
      · rfl
    · rw [List.getElem?_set_ne (fun z => e z.symm)]
  · funext j
    show cw_oa _ j = cw_oa h j
    unfold cw_oa
    by_cases e : j = i
    · subst e
      rw [List.getElem?_set_self hl, hi]
    · rw [List.getElem?_set_ne (fun z => e z.symm)]
theorem cw_oa_out (hi : h[i]? = some (.inl (kd, n, x))) (hs : ak_s0[i]? = none ∨ ∃ t, ak_s0[i]? = some t ∧ t ∉ ak_spTC) : cw_o (h.set i (.inl (kd, n, x'))) = cw_o h := by
  have hl := (List.getElem?_eq_some_iff.mp hi).1
  refine Prod.ext ?_ ?_
  · funext j
    show cw_ob _ j = cw_ob h j
    unfold cw_ob
    by_cases q : j = i
    · subst q
      rw [List.getElem?_set_self hl, hi]
    · rw [List.getElem?_set_ne (fun z => q z.symm)]
  · funext j
    show cw_oa _ j = cw_oa h j
    unfold cw_oa
    by_cases q : j = i
    · subst q
      have : ¬ ((ak_s0[j]?).map (fun t => ak_spTC.contains t)) = some true := by
        rcases hs with hs | ⟨t, hs, ht⟩
        · rw [hs]
          intro z
          cases z
        · rw [hs]
          intro z
          simp at z
          exact ht z
      rw [List.getElem?_set_self hl, hi]
      dsimp only
      rw [if_neg this, if_neg this]
    · rw [List.getElem?_set_ne (fun z => q z.symm)]
/-- what the checker writes is not seen -/
theorem cw_ben {T : ak_TT} (hT1 : T.2.2.1 = ak_spTC) (hT2 : T.2.2.2 = ak_spFC) (hB : cw_B s) {e e' : aj_E} (hi : h[i]? = some e) (hb : ak_ben T s i e e') : cw_o (h.set i e') = cw_o h := by
  rcases hb with ⟨t, kd, n, x, x', h1, h2, rfl, rfl⟩ | ⟨c, fs, fs', rfl, rfl, h1, h2⟩
  · refine cw_oa_out hi ?_
    obtain ⟨u, rfl, -⟩ := hB
    by_cases hl : i < ak_s0.length
    · rw [List.getElem?_append_left hl] at h1
      exact Or.inr ⟨t, h1, by rw [hT1] at h2; exact h2⟩
    · exact Or.inl (List.getElem?_eq_none (by omega))
  · exact cw_ob_out hi (fun k hk => h2 k (by rw [hT2]; exact hk))
/-- whatever speaks of the cells and of what is seen stays -/
theorem cw_SPI {T : ak_TT} (hT1 : T.2.2.1 = ak_spTC) (hT2 : T.2.2.2 = ak_spFC) {I : List Nat → cw_O → Prop} : ak_SPc T (fun s h => cw_B s ∧ I s (cw_o h)) := by
  intro s h i e e' hS hi hb
  exact ⟨hS.1, by rw [cw_ben hT1 hT2 hS.1 hi hb]; exact hS.2⟩
end CWS
