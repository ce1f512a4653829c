/-! THE CHECKER: a method that is checked keeps its contract -/
def ak_La : Nat → List ak_A → ak_L
  | _, [] => []
  | i, x :: A => (i, x, none) :: ak_La (if ak_cat x = 2 then i + 2 else i + 1) A
def ak_n0 (ct : List (Nat × Instr × Nat)) (A : List ak_A) : Bool := ct.all (fun q => ak_no0 q.2.1) && (match A with
  | x :: _ => ak_cat x == 1
  | [] => false)
def ak_en (con : ak_Con) : ak_AS := (ak_La 0 con.2.1, [], con.2.2.2.2.1.map (fun e => ((0, e.1), e.2)))
/-- a place: as above, and facts -/
abbrev ak_P2 : Type := ak_Pt × List ak_E
def ak_tgI (bd : ak_At → Option (Int × Int)) (R : List ak_E) (e : ak_E) (q : Int × Int) : Int × Int := (match ak_lbR bd R 2 e with
  | some b => ak_mx q.1 b
  | none => q.1, match ak_lbR bd R 2 (ak_scl (-1) e) with
  | some b => ak_mn q.2 (-b)
  | none => q.2)
def ak_tgS (bd : ak_At → Option (Int × Int)) (R : List ak_E) : Nat → ak_S → ak_X → ak_S
  | n + 1, x :: S, o :: X => (match x.1, o with
    | .inl q, some e => (.inl (ak_tgI bd R e q), x.2)
    | _, _ => x) :: ak_tgS bd R n S X
  | _, S, _ => S
def ak_atoms (R : List ak_E) : List ak_At := R.flatMap (fun e => e.1.map (fun q => q.1))
def ak_tgF (bd : ak_At → Option (Int × Int)) (R : List ak_E) (F : ak_F) : ak_F := ((ak_atoms R).filterMap (fun t => if t.1 = 1 then (bd t).map (fun q => ((t.2.1, t.2.2), ak_tgI bd R ([(t, 1)], 0) q)) else none)) ++ F
def ak_tgL (bd : ak_At → Option (Int × Int)) (R : List ak_E) (L : ak_L) : ak_L := L.map (fun q => match q.2.1 with
  | .inl iv => (q.1, .inl (ak_tgI bd R ([((0, q.1, 0), 1)], 0) iv), q.2.2)
  | _ => q)
/-- where bounds are wanted, they are made closer by the facts -/
def ak_tg (T : ak_TT) (i : Instr) (X : ak_X) (R : List ak_E) (a : ak_AS) : ak_AS := if R = [] then a else match i with
  | .iaload | .baload | .caload | .laload | .aaload | .iastore | .bastore | .castore | .lastore | .istore_n _ | .istore _ => (a.1, ak_tgS (ak_bd T a) R 3 a.2.1 X, a.2.2)
  | .putfield _ => (a.1, ak_tgS (ak_bd T a) R 1 a.2.1 X, a.2.2)
  | .invokevirtual _ | .invokespecial _ | .invokestatic _ | .ireturn | .return_ | .areturn | .lreturn => (a.1, ak_tgS (ak_bd T a) R 6 a.2.1 X, ak_tgF (ak_bd T a) R a.2.2)
  | _ => a
def ak_tgA (T : ak_TT) (R : List ak_E) (a : ak_AS) : ak_AS := if R = [] then a else (ak_tgL (ak_bd T a) R a.1, a.2.1, ak_tgF (ak_bd T a) R a.2.2)
/-- what a call changes -/
def ak_chc (T : ak_TT) (a : ak_AS) (M : ak_Mo) (j : Option Nat) (d : ak_D) : ak_Ch := fun t => if t.1 = 1 then
    (if j = some t.2.1 ∧ d.any (fun e => e.1 == t.2.2) = true then (d.find? (fun e => e.1 == t.2.2)).map (fun e => e.2)
    else match ak_lkL a.1 t.2.1 with
      | some (.inr (some x), _) => if M.2.any (fun q => q.2 == t.2.2 && x.1.any (ak_isC T q.1)) = true then none else some (0, 0)
      | _ => none) else some (0, 0)
def ak_idx (i : Instr) : Nat := match i with
  | .invokevirtual idx => idx
  | .invokespecial idx => idx
  | .invokestatic idx => idx
  | _ => 0
def ak_xc (lk : List aj_L) (i : Instr) (R : Option ak_A) (ch : ak_Ch) (X : ak_X) : ak_X := List.replicate R.toList.length none ++ (X.drop (ak_pops lk (ak_idx i))).map (fun o => o.bind (ak_mvX ch))
def ak_dE (k : Nat) (c : Int) : ak_E := ([((1, 0, k), 1), ((2, k, 0), -1)], c)
def ak_rdd (T : ak_TT) (z : Bool) (a : ak_AS) (R : List ak_E) (d : ak_D) : Bool := d.all (fun e => z && (ak_ent (ak_bd T a) R (ak_dE e.1 (-e.2.1)) && ak_ent (ak_bd T a) R (ak_scl (-1) (ak_dE e.1 (-e.2.2)))))
def ak_rd (T : ak_TT) (z : Bool) (con : ak_Con) (a : ak_AS) (R : List ak_E) (may : Bool × Bool) : Bool := (!may.1 || ak_rdd T z a R con.2.2.2.2.2.2.2.2.2.2.2) && (!may.2 || ak_rdd T z a R con.2.2.2.2.2.2.2.2.2.2.1)
/-- facts that are kept: of these atoms alone -/
def ak_flt (fl : List ak_At) (R : List ak_E) : List ak_E := R.filter (fun e => !e.1.isEmpty && e.1.all (fun q => fl.contains q.1))
def ak_ex (T : ak_TT) (cls : List aj_C) (con : ak_Con) (z : Bool) (lk : List aj_L) (nL : Nat) (ret : Option FieldType) (ct : List (Nat × Instr × Nat)) (cs : List (Nat × ak_Con)) (fs : List (Nat × Nat × Option Int)) (fl : List ak_At) (pts : List ak_P2) (C : ak_C) (W : List Nat) (pos wk : Nat) : Nat → Bool → Nat → ak_AS → ak_X → List ak_E → Int → Int → Bool
  | 0, _, _, _, _, _, _, _ => false
  | n + 1, first, pc, a, X, R, del, eps => if first = false ∧ pts.any (fun q => q.1.1 == pc) = true then pts.any (fun pt => pt.1.1 == pc && (ak_at C W pos wk (ak_tgA T R a) del eps pt.1 && pt.2.all (fun e => ak_ent (ak_bd T (ak_tgA T R a)) R e))) else
    match aj_ct ct pc with
      | none => false
      | some (i, len) => match ak_st T cls con.2.2.2.1 lk nL i len pc (ak_tg T i X R a) with
        | some succs => succs.all (fun q => (ak_frk q.1 fs [q.2]).all (fun b => ak_ex T cls con z lk nL ret ct cs fs fl pts C W pos wk n false q.1 b (ak_xn lk i (ak_tg T i X R a) q.2 X) (ak_flt fl (ak_rn lk i pc q.1 (ak_tg T i X R a) X R)) del eps))
        | none => if cs.any (fun q => q.1 == pc) = true then cs.any (fun q => q.1 == pc && (match ak_aci T con.2.2.2.1 lk i len (ak_tg T i X R a) q.2 with
            | some l => l.all (fun w => (ak_frk (pc + 3) fs [w.1]).all (fun b => ak_ex T cls con z lk nL ret ct cs fs fl pts C W pos wk n false (pc + 3) b (ak_xc lk i q.2.2.2.1 (ak_chc T (ak_tg T i X R a) q.2.2.2.2.1 w.2.2.1 w.2.2.2) X) (R.filterMap (ak_mvF (ak_chc T (ak_tg T i X R a) q.2.2.2.2.1 w.2.2.1 w.2.2.2))) (del + w.2.1) (eps + w.2.1)))
            | none => false))
          else ak_ar i len ret (ak_tg T i X R a).2.1 con.2.2.1 && (ak_rp z con (ak_tg T i X R a).2.2 eps (ak_may (ak_tg T i X R a).2.1) && ak_rd T z con (ak_tg T i X R a) R (ak_may (ak_tg T i X R a).2.1))
def ak_en2 (con : ak_Con) : List ak_E := (con.2.2.2.2.2.2.2.2.2.2.1 ++ con.2.2.2.2.2.2.2.2.2.2.2).flatMap (fun e => [ak_dE e.1 0, ak_scl (-1) (ak_dE e.1 0)])
def ak_meth (T : ak_TT) (cls : List aj_C) (mm : aj_M) (ct : List (Nat × Instr × Nat)) (cs : List (Nat × ak_Con)) (fs : List (Nat × Nat × Option Int)) (fl : List ak_At) (pts : List ak_P2) (C : ak_C) (W0 : List Nat) (P0 n : Nat) (con : ak_Con) : Bool :=
  decide ((con.2.1.map ak_cat).sum ≤ mm.2.2.1) && (decide (con.2.2.2.2.2.2.2.2.2.1 = []) && (W0.all (fun w => w == 0) && (ak_ex T cls con (ak_n0 ct con.2.1) mm.2.2.2.2.2.1 mm.2.2.1 mm.2.2.2.1 ct cs fs fl pts C W0 P0 0 n true 0 (ak_en con) [] (ak_en2 con) 0 0 && pts.all (fun pt => ak_ex T cls con (ak_n0 ct con.2.1) mm.2.2.2.2.2.1 mm.2.2.1 mm.2.2.2.1 ct cs fs fl pts C pt.1.2.2.2.2.1 pt.1.2.2.2.2.2.1 pt.1.2.2.2.2.2.2.1 n true pt.1.1 (ak_ptAS pt.1) [] pt.2 0 pt.1.2.2.2.2.2.2.2))))
/-- the clock: what the checker writes leaves it, it stays in its bounds -/
def ak_kpc (T : ak_TT) (kap : aj_H → Int) : Prop := (∀ (s : List Nat) (h : aj_H) (i : Nat) (e e' : aj_E), h[i]? = some e → ak_ben T s i e e' → kap (h.set i e') = kap h) ∧ ∀ (s : List Nat) (h : aj_H), ak_Ty T s h → 0 ≤ kap h ∧ kap h ≤ 1001
section AKMETH
variable {T : ak_TT} {SP : List Nat → aj_H → Prop} {kap : aj_H → Int} {M : ak_Mo} {s : List Nat} {tb : aj_T} {h : aj_H} {old : Nat → Int} {lv : aj_V} {st : List Value} {a a' : ak_AS} {v w : Value} {pc len : Nat} {lk : List aj_L}
theorem ak_le_ok {pt : ak_Pt} (ha : ak_gAS s tb h old lv st a) (h0 : ak_le a pt = true) : ak_gAS s tb h (ak_iv lv) lv st (ak_ptAS pt) := by
  obtain ⟨hL, hS, hF⟩ := ha
  unfold ak_le at h0
  rw [Bool.and_eq_true, Bool.and_eq_true] at h0
  obtain ⟨q1, q2, q3⟩ := h0
  refine ⟨?_, ?_, ?_⟩
  · intro q hq
    obtain ⟨z, hz, rfl⟩ := List.mem_map.mp hq
    have := List.all_eq_true.mp q1 z hz
    split at this
    · rename_i x o hx
      obtain ⟨v, k1, k2, -⟩ := ak_lkL_ok hL hx
      have k3 := ak_sub_ok k2 this
      refine ⟨v, k1, k3, fun δ hδ => ?_⟩
      unfold ak_o0 at hδ
      split at hδ
      · cases hδ
        rename_i iv hiv
        have hiv : z.2 = .inl iv := hiv
        rw [hiv] at k3
        obtain ⟨y, rfl, -⟩ := ak_gi k3
        refine ⟨y, rfl, ?_⟩
        show y.toInt = ak_iv lv z.1 + 0
        unfold ak_iv
        rw [k1]
        simp
      · cases hδ
    · cases this
  · exact ak_gA_S (ak_leA_ok (ak_gS_A hS) q2)
  · intro q hq
    have := List.all_eq_true.mp q3 q hq
    obtain ⟨z, hz, hz2⟩ := List.any_eq_true.mp this
    simp only [Bool.and_eq_true, beq_iff_eq, decide_eq_true_eq] at hz2
    obtain ⟨⟨⟨e1, e2⟩, e3⟩, e4⟩ := hz2
    obtain ⟨r, c, fs, x, k1, k2, k3, k4⟩ := hF z hz
    exact ⟨r, c, fs, x, by rw [← e1]; exact k1, k2, by rw [← e2]; exact k3, Int.le_trans e3 k4.1, Int.le_trans k4.2 e4⟩
theorem ak_fk_ok {f : Nat × Nat × Option Int} (ha : ak_gAS s tb h old lv st a) : ∃ b ∈ ak_fk f a, ak_gAS s tb h old lv st b := by
  unfold ak_fk
  split
  · rename_i q o c h1 h2
    obtain ⟨v, k1, k2, -⟩ := ak_lkL_ok ha.1 h1
    obtain ⟨x, rfl, hw⟩ := ak_gi k2
    unfold ak_win at hw
    by_cases hx : x.toInt ≤ c
    · refine ⟨(ak_apL f.2.1 (.inl (q.1, ak_mn q.2 c)) a.1, a.2), List.mem_append_left _ (by rw [if_pos (by omega)]; exact List.mem_singleton.mpr rfl), ak_apL_ok ha.1 k1 ?_, ha.2⟩
      show q.1 ≤ x.toInt ∧ x.toInt ≤ ak_mn q.2 c
      unfold ak_mn
      refine ⟨hw.1, ?_⟩
      split <;> omega
    · refine ⟨(ak_apL f.2.1 (.inl (ak_mx q.1 (c + 1), q.2)) a.1, a.2), List.mem_append_right _ (by rw [if_pos (by omega)]; exact List.mem_singleton.mpr rfl), ak_apL_ok ha.1 k1 ?_, ha.2⟩
      show ak_mx q.1 (c + 1) ≤ x.toInt ∧ x.toInt ≤ q.2
      unfold ak_mx
      refine ⟨?_, hw.2⟩
      split <;> omega
  · rename_i q o h1 h2
    obtain ⟨v, k1, k2, -⟩ := ak_lkL_ok ha.1 h1
    rcases ak_gr k2 with ⟨rfl, hn⟩ | ⟨r, t, rfl, ht, hty⟩
    · exact ⟨(ak_apL f.2.1 (.inr (some ([], true))) a.1, a.2), List.mem_append_left _ (by rw [if_pos hn]; exact List.mem_singleton.mpr rfl), ak_apL_ok ha.1 k1 (show ak_gam s (.inr (some ([], true))) .null from rfl), ha.2⟩
    · exact ⟨(ak_apL f.2.1 (.inr (some ([t], false))) a.1, a.2), List.mem_append_right _ (List.mem_map.mpr ⟨t, ht, rfl⟩), ak_apL_ok ha.1 k1 (show ak_gam s (.inr (some ([t], false))) (.ref r) from ⟨t, List.mem_singleton.mpr rfl, hty⟩), ha.2⟩
  · exact ⟨a, List.mem_singleton.mpr rfl, ha⟩
theorem ak_frk_ok : ∀ {fs : List (Nat × Nat × Option Int)} {l : List ak_AS}, (∃ b ∈ l, ak_gAS s tb h old lv st b) → ∃ b ∈ ak_frk pc fs l, ak_gAS s tb h old lv st b := by
  intro fs
  induction fs with
  | nil => intro l hl; exact hl
  | cons f fs ih =>
    intro l hl
    refine ih ?_
    split
    · obtain ⟨b, hb, hg⟩ := hl
      obtain ⟨b', hb', hg'⟩ := ak_fk_ok (f := f) hg
      exact ⟨b', List.mem_flatMap.mpr ⟨b, hb, hb'⟩, hg'⟩
    · exact hl
theorem ak_clk_ok {w w' : Nat} {del k0 k1 : Int} (hk : k0 + del ≤ k1) (h0 : 0 ≤ k0 ∧ k0 ≤ 1001) (h1 : 0 ≤ k1 ∧ k1 ≤ 1001) : (w' : Int) * (1001 - k1) ≤ (w : Int) * (1001 - k0) + ak_clk w w' del := by
  unfold ak_clk
  have hw : 0 ≤ (w : Int) * (1001 - k0) := Int.mul_nonneg (Int.natCast_nonneg _) (by omega)
  split
  · rename_i hz
    subst hz
    simp only [Int.natCast_zero, Int.zero_mul]
    omega
  · split
    · rename_i hz
      subst hz
      have e : (w' : Int) * (1001 - k1) ≤ (w' : Int) * (1001 - k0 - del) := Int.mul_le_mul_of_nonneg_left (by omega) (Int.natCast_nonneg _)
      have e2 : (w' : Int) * (1001 - k0 - del) = (w' : Int) * (1001 - k0) - (w' : Int) * del := Int.mul_sub _ _ _
      omega
    · have e : (w' : Int) * (1001 - k1) ≤ (w' : Int) * 1001 := Int.mul_le_mul_of_nonneg_left (by omega) (Int.natCast_nonneg _)
      omega
theorem ak_tgI_ok {bd : ak_At → Option (Int × Int)} {R : List ak_E} {x : ak_At → Int} (hb : ∀ t q, bd t = some q → q.1 ≤ x t ∧ x t ≤ q.2) (hR : ak_gR2 x R) {e : ak_E} {q : Int × Int} {y : Int32} (hy : y.toInt = ak_evE x e) (hq : ak_win q y) : ak_win (ak_tgI bd R e q) y := by
  unfold ak_win at hq
  unfold ak_win ak_tgI
  dsimp only
  refine ⟨?_, ?_⟩
  · split
    · rename_i b hb'
      have := ak_lbR_ok hb hR 2 hb'
      unfold ak_mx
      split <;> omega
    · exact hq.1
  · split
    · rename_i b hb'
      have := ak_lbR_ok hb hR 2 hb'
      rw [ak_scl_ok] at this
      unfold ak_mn
      split <;> omega
    · exact hq.2
theorem ak_tgS_ok {bd : ak_At → Option (Int × Int)} {R : List ak_E} {x : ak_At → Int} (hb : ∀ t q, bd t = some q → q.1 ≤ x t ∧ x t ≤ q.2) (hR : ak_gR2 x R) : ∀ (n : Nat) {S : ak_S} {X : ak_X} {st : List Value}, ak_gS s tb h lv S st → ak_gX x X st → ak_gS s tb h lv (ak_tgS bd R n S X) st := by
  intro n
  induction n with
  | zero => intro S X st hS _; exact hS
  | succ n ih =>
    intro S X st hS hX
    cases S with
    | nil => exact hS
    | cons y S =>
      cases X with
      | nil => exact hS
      | cons o X =>
        obtain ⟨v, st', rfl, g1, g2, g3⟩ := ak_gS_c hS
        have k := ih (S := S) (X := X) (st := st') g3 (fun j e hj => hX (j + 1) e hj)
        show ak_gS s tb h lv (_ :: ak_tgS bd R n S X) (v :: st')
        split
        · rename_i q e h1
          rw [h1] at g1
          obtain ⟨z, rfl, hw⟩ := ak_gi g1
          obtain ⟨z', e1, e2⟩ := hX 0 e rfl
          cases e1
          exact ⟨ak_tgI_ok hb hR e2 hw, g2, k⟩
        · exact ⟨g1, g2, k⟩
theorem ak_one {x : ak_At → Int} (t : ak_At) : ak_evE x (([(t, 1)], 0) : ak_E) = x t := by
  unfold ak_evE
  simp [ak_ev]
theorem ak_tgF_ok {gh : Nat → Int} (htb : ak_tbOK T tb) (hT : ak_Ty T s h) (ha : ak_gAS s tb h old lv st a) {R : List ak_E} (hR : ak_gR2 (ak_val tb h lv gh) R) : ak_gF tb h lv (ak_tgF (ak_bd T a) R a.2.2) := by
  have hb : ∀ t q, ak_bd T a t = some q → q.1 ≤ ak_val tb h lv gh t ∧ ak_val tb h lv gh t ≤ q.2 := fun t q hq => ak_bd_ok htb hT ha hq
  intro q hq
  rcases List.mem_append.mp hq with hq | hq
  · obtain ⟨t, -, ht⟩ := List.mem_filterMap.mp hq
    split at ht
    · rename_i h1
      obtain ⟨iv, h2, rfl⟩ := Option.map_eq_some_iff.mp ht
      obtain ⟨r, c, fs, y, k1, k2, k3, k4⟩ := ak_bd_f htb hT ha h1 h2
      refine ⟨r, c, fs, y, k1, k2, k3, ak_tgI_ok hb hR ?_ k4⟩
      rw [ak_one]
      unfold ak_val
      rw [if_neg (by rw [h1]; decide), if_pos h1, k1]
      exact (ak_fv_of k2 k3).symm
    · cases ht
  · exact ha.2.2 q hq
theorem ak_tgL_ok {gh : Nat → Int} (htb : ak_tbOK T tb) (hT : ak_Ty T s h) (ha : ak_gAS s tb h old lv st a) {R : List ak_E} (hR : ak_gR2 (ak_val tb h lv gh) R) : ak_gL s old lv (ak_tgL (ak_bd T a) R a.1) := by
  have hb : ∀ t q, ak_bd T a t = some q → q.1 ≤ ak_val tb h lv gh t ∧ ak_val tb h lv gh t ≤ q.2 := fun t q hq => ak_bd_ok htb hT ha hq
  intro q hq
  obtain ⟨z, hz, rfl⟩ := List.mem_map.mp hq
  obtain ⟨v, k1, k2, k3⟩ := ha.1 z hz
  split
  · rename_i iv hiv
    rw [hiv] at k2
    obtain ⟨y, rfl, hw⟩ := ak_gi k2
    refine ⟨_, k1, ak_tgI_ok hb hR ?_ hw, k3⟩
    rw [ak_one]
    unfold ak_val
    rw [if_pos rfl]
    unfold ak_iv
    rw [k1]
  · exact ⟨v, k1, k2, k3⟩
theorem ak_tg_ok {gh : Nat → Int} (htb : ak_tbOK T tb) (hT : ak_Ty T s h) (ha : ak_gAS s tb h old lv st a) {R : List ak_E} {X : ak_X} (hR : ak_gR2 (ak_val tb h lv gh) R) (hX : ak_gX (ak_val tb h lv gh) X st) (i : Instr) : ak_gAS s tb h old lv st (ak_tg T i X R a) := by
  have hb : ∀ t q, ak_bd T a t = some q → q.1 ≤ ak_val tb h lv gh t ∧ ak_val tb h lv gh t ≤ q.2 := fun t q hq => ak_bd_ok htb hT ha hq
  unfold ak_tg
  split
  · exact ha
  · split
    all_goals first
      | exact ha
      | exact ⟨ha.1, ak_tgS_ok hb hR _ ha.2.1 hX, ak_tgF_ok htb hT ha hR⟩
      | exact ⟨ha.1, ak_tgS_ok hb hR _ ha.2.1 hX, ha.2.2⟩
theorem ak_tgA_ok {gh : Nat → Int} (htb : ak_tbOK T tb) (hT : ak_Ty T s h) (ha : ak_gAS s tb h old lv st a) {R : List ak_E} (hR : ak_gR2 (ak_val tb h lv gh) R) : ak_gAS s tb h old lv st (ak_tgA T R a) := by
  unfold ak_tgA
  split
  · exact ha
  · exact ⟨ak_tgL_ok htb hT ha hR, ha.2.1, ak_tgF_ok htb hT ha hR⟩
theorem ak_chc_ok {gh : Nat → Int} (htb : ak_tbOK T tb) (hT : ak_Ty T s h) (ha : ak_gAS s tb h old lv st a) {h1 : aj_H} {M : ak_Mo} (he : ak_Ev T M s h h1) {j : Option Nat} {d : ak_D} (hd : ∀ i, j = some i → ak_gD tb h1 (aj_lv lv i) (ak_fv tb h (aj_lv lv i)) d) : ak_chOK (ak_chc T a M j d) (ak_val tb h lv gh) (ak_val tb h1 lv gh) := by
  intro t q hq
  unfold ak_chc at hq
  split at hq
  · rename_i h1'
    have e : ∀ g : aj_H, ak_val tb g lv gh t = ak_fv tb g (aj_lv lv t.2.1) t.2.2 := by
      intro g
      unfold ak_val
      rw [if_neg (by rw [h1']; decide), if_pos h1']
    split at hq
    · rename_i hj
      obtain ⟨z, z1, rfl⟩ := Option.map_eq_some_iff.mp hq
      have z2 := List.find?_some z1
      have z3 := hd _ hj.1 z (List.mem_of_find?_eq_some z1)
      have z2 : z.1 = t.2.2 := by simpa using z2
      rw [e, e, ← z2]
      exact z3
    · split at hq
      · rename_i x o hL
        split at hq
        · cases hq
        · rename_i hM
          refine ak_ch_eq ?_ hq
          rw [e, e]
          obtain ⟨v, k1, k2, -⟩ := ak_lkL_ok ha.1 hL
          rw [k1]
          rcases ak_gr k2 with ⟨rfl, -⟩ | ⟨r, ty, rfl, hmem, hty⟩
          · rfl
          · unfold ak_fv
            dsimp only
            cases ho : aj_obj tb h r with
            | some p =>
              obtain ⟨c, fs⟩ := p
              obtain ⟨q1, q2⟩ := (ak_obj_h htb).mp ho
              obtain ⟨fs', g1, g2⟩ := he.2.1 _ _ _ q2
              rw [(ak_obj_h htb).mpr ⟨q1, g1⟩]
              dsimp only
              have hc : ak_isC T c ty = true := by
                rcases hty with ⟨g, -⟩ | ⟨w1, w2, w3⟩
                · omega
                · obtain ⟨w4, ec, hec, hce⟩ := hT.2 _ _ w3
                  rw [q2] at hec
                  cases hec
                  unfold ak_cOK at hce
                  unfold ak_isC
                  rw [Bool.and_eq_true, decide_eq_true_eq]
                  refine ⟨w4, ?_⟩
                  split at hce
                  · rename_i c' hc'
                    obtain ⟨fs2, e2, -⟩ := hce
                    cases e2
                    rw [hc']
                    simp
                  · obtain ⟨n, x', e2, -⟩ := hce
                    cases e2
                  · exact hce.elim
              have hn : (c, t.2.2) ∉ M.2 := fun hm => hM (List.any_eq_true.mpr ⟨_, hm, by rw [Bool.and_eq_true]; exact ⟨by simp, List.any_eq_true.mpr ⟨ty, hmem, hc⟩⟩⟩)
              rw [g2 _ hn]
            | none =>
              have : aj_obj tb h1 r = none := by
                unfold aj_obj at ho ⊢
                rw [htb.1] at ho ⊢
                split at ho
                · rename_i h52
                  rw [if_pos h52]
                · rename_i h52
                  rw [if_neg h52]
                  rcases hty with ⟨g, -⟩ | ⟨g1, g2, g3⟩
                  · exact absurd g h52
                  · obtain ⟨-, ec, hec, hce⟩ := hT.2 _ _ g3
                    rw [hec] at ho
                    rcases ec with ⟨kd, n, x⟩ | ec
                    · obtain ⟨x', hx'⟩ := he.2.2 _ _ _ _ hec
                      rw [hx']
                    · cases ho
              rw [this]
      · cases hq
  · rename_i h1'
    refine ak_ch_eq ?_ hq
    unfold ak_val
    split
    · rfl
    · first
        | rfl
        | rw [if_neg h1', if_neg h1']
theorem ak_rdd_ok {gh : Nat → Int} (htb : ak_tbOK T tb) (hT : ak_Ty T s h) (ha : ak_gAS s tb h old lv st a) {R : List ak_E} (hR : ak_gR2 (ak_val tb h lv gh) R) {z : Bool} {v0 : Option Value} (hz : z = true → aj_lv lv 0 = v0) {d : ak_D} (h0 : ak_rdd T z a R d = true) : ak_gD tb h v0 gh d := by
  have hb : ∀ t q, ak_bd T a t = some q → q.1 ≤ ak_val tb h lv gh t ∧ ak_val tb h lv gh t ≤ q.2 := fun t q hq => ak_bd_ok htb hT ha hq
  intro e he
  have := List.all_eq_true.mp h0 e he
  rw [Bool.and_eq_true, Bool.and_eq_true] at this
  obtain ⟨q1, q2, q3⟩ := this
  have k1 := ak_ent_ok hb hR q2
  have k2 := ak_ent_ok hb hR q3
  rw [ak_scl_ok] at k2
  have ev : ∀ c, ak_evE (ak_val tb h lv gh) (ak_dE e.1 c) = ak_fv tb h v0 e.1 - gh e.1 + c := by
    intro c
    unfold ak_evE ak_dE
    have e1 : ak_val tb h lv gh (1, 0, e.1) = ak_fv tb h v0 e.1 := by
      unfold ak_val
      rw [if_neg (by decide : ¬ (1 : Nat) = 0), if_pos rfl, hz q1]
    have e2 : ak_val tb h lv gh (2, e.1, 0) = gh e.1 := by
      unfold ak_val
      rw [if_neg (by decide : ¬ (2 : Nat) = 0), if_neg (by decide : ¬ (2 : Nat) = 1)]
    show (1 * ak_val tb h lv gh (1, 0, e.1) + (-1 * ak_val tb h lv gh (2, e.1, 0) + 0)) + c = _
    rw [e1, e2]
    omega
  rw [ev] at k1 k2
  omega
theorem ak_ex_ok (htb : ak_tbOK T tb) (hc : ak_SPc T SP) (hK : ak_kpc T kap) {d : Nat} {mm : aj_M} {con : ak_Con} {k0 kp : Int} {gh : Nat → Int} {v0 : Option Value} {ct : List (Nat × Instr × Nat)} (hct : aj_ctOK ct mm.2.1) {z : Bool} (hz : z = true → ct.all (fun q => ak_no0 q.2.1) = true ∧ ∃ v, v0 = some v ∧ v.category = 1) {cs : List (Nat × ak_Con)} (hcs : ∀ q ∈ cs, ak_CT T SP kap tb d q.2) {fs : List (Nat × Nat × Option Int)} {fl : List ak_At} {pts : List ak_P2} {C : ak_C} {W : List Nat} {pos wk : Nat} (hkp : 0 ≤ kp ∧ kp ≤ 1001)
    (hnn : ak_nn old C W) (hIH : ∀ pt ∈ pts, ∀ s h lv st kc ks, ak_Ty T s h → SP s h → ak_gAS s tb h (ak_iv lv) lv st (ak_ptAS pt.1) → ak_gR2 (ak_val tb h lv gh) pt.2 → (z = true → aj_lv lv 0 = v0) → k0 + pt.1.2.2.2.2.2.2.2 ≤ kap h → ak_nn (ak_iv lv) C pt.1.2.2.2.2.1 → ak_mu (ak_iv lv) C pt.1.2.2.2.2.1 + (pt.1.2.2.2.2.2.2.1 : Int) * (1001 - kap h) + pt.1.2.2.2.2.2.1 < ak_mu old C W + (wk : Int) * (1001 - kp) + pos → ak_G T SP kap tb d mm con k0 gh v0 s h kc ks pt.1.1 lv st) :
    ∀ (n : Nat) (first : Bool) (pc : Nat) (a : ak_AS) (X : ak_X) (R : List ak_E) (del eps : Int), ak_ex T aj_cls con z mm.2.2.2.2.2.1 mm.2.2.1 mm.2.2.2.1 ct cs fs fl pts C W pos wk n first pc a X R del eps = true → ∀ s h lv st kc ks, ak_Ty T s h → SP s h → ak_gAS s tb h old lv st a → ak_gX (ak_val tb h lv gh) X st → ak_gR2 (ak_val tb h lv gh) R → (z = true → aj_lv lv 0 = v0) → kp + del ≤ kap h → k0 + eps ≤ kap h → ak_G T SP kap tb d mm con k0 gh v0 s h kc ks pc lv st := by
  intro n
  induction n with
  | zero => intro first pc a X R del eps h0; cases h0
  | succ n ih =>
    intro first pc a X R del eps h0 s h lv st kc ks hT hSP ha hX hR hz0 hdel heps
    unfold ak_ex at h0
    split at h0
    · obtain ⟨pt, hm, hp⟩ := List.any_eq_true.mp h0
      rw [Bool.and_eq_true, beq_iff_eq] at hp
      rw [Bool.and_eq_true] at hp
      obtain ⟨hp, hat, hfa⟩ := hp
      have ha := ak_tgA_ok htb hT ha hR
      have hfa : ak_gR2 (ak_val tb h lv gh) pt.2 := fun e he => ak_ent_ok (fun t q hq => ak_bd_ok htb hT ha hq) hR (List.all_eq_true.mp hfa e he)
      unfold ak_at at hat
      rw [Bool.and_eq_true, Bool.and_eq_true, decide_eq_true_eq] at hat
      obtain ⟨q1, q3, q2⟩ := hat
      split at q2
      · rename_i e he
        have q2 := of_decide_eq_true q2
        obtain ⟨k1, k2⟩ := ak_dec_ok ha.1 he hnn
        have hkr := hK.2 s h hT
        have k3 := ak_clk_ok (w := wk) (w' := pt.1.2.2.2.2.2.2.1) hdel hkp hkr
        rw [← hp]
        exact hIH pt hm s h lv st kc ks hT hSP (ak_le_ok ha q1) hfa hz0 (by omega) k1 (by omega)
      · cases q2
    · split at h0
      · cases h0
      · rename_i i len hd
        have hno : z = true → ak_no0 i = true := fun hzt => by
          have := (hz hzt).1
          unfold aj_ct at hd
          obtain ⟨q, g1, g2⟩ := Option.map_eq_some_iff.mp hd
          have g3 := List.all_eq_true.mp this q (List.mem_of_find?_eq_some g1)
          rw [g2] at g3
          exact g3
        have ha := ak_tg_ok htb hT ha hR hX i
        split at h0
        · rename_i succs hs
          have hc2 : ak_SPc T (fun s h' => SP s h' ∧ kap h' = kap h) := fun s h1 i e e' q1 q2 q3 => ⟨hc s h1 i e e' q1.1 q2 q3, (hK.1 s h1 i e e' q2 q3).trans q1.2⟩
          obtain ⟨pc', lv', st', h', b, k1, k2, k3, k4, k5, k6, k7⟩ := ak_st_ok (SP := fun s h' => SP s h' ∧ kap h' = kap h) (M := con.2.2.2.1) htb hT ⟨hSP, rfl⟩ hc2 aj_rc aj_cls mm.2.2.1 mm.2.2.2.1 (aj_isI mm) ha hs
          obtain ⟨b', hb', hg'⟩ := ak_frk_ok (pc := pc') (fs := fs) ⟨b, List.mem_singleton.mpr rfl, k6⟩
          obtain ⟨x1, x2⟩ := ak_l2_ok htb hT ha hX hR hs k1 k6
          refine ak_Gn hct hd k1 k5 (ih false pc' b' _ _ del eps (List.all_eq_true.mp (List.all_eq_true.mp h0 _ k2) b' hb') s h' lv' st' kc ks k3 k4.1 hg' x1 (fun e he => x2 e ((List.mem_filter.mp he).1)) (fun hzt => ?_) (by rw [k4.2]; exact hdel) (by rw [k4.2]; exact heps))
          obtain ⟨v, hv, hvc⟩ := (hz hzt).2
          rw [hv]
          exact k7 (hno hzt) v ((hz0 hzt).trans hv) hvc
        · split at h0
          · obtain ⟨con', hm, hp⟩ := List.any_eq_true.mp h0
            rw [Bool.and_eq_true] at hp
            obtain ⟨-, hp⟩ := hp
            split at hp
            · rename_i l hl
              have hk := hcs con' hm
              have fin : ∀ lo hi idx, ak_idx i = idx → ak_ac T con.2.2.2.1 mm.2.2.2.2.2.1 lo hi idx (ak_tg T i X R a) con'.2 = some l → aj_step aj_rc aj_cls tb mm.2.2.2.2.2.1 mm.2.2.1 mm.2.2.2.1 (aj_isI mm) i len pc lv st h = aj_call lo hi tb mm.2.2.2.2.2.1 pc idx lv st h → ak_G T SP kap tb d mm con k0 gh v0 s h kc ks pc lv st := by
                intro lo hi idx hidx hb he
                obtain ⟨kind, mi, as, st', u, r, h1, k1, k2, k3, k4, k5, k6, k6', hst', hgr, b, hb1, hb2, hb3, hb4⟩ := ak_ac_ok (pc := pc) htb hT hSP hk ha hb
                obtain ⟨b', hb', hg'⟩ := ak_frk_ok (pc := pc + 3) (fs := fs) ⟨b.1, List.mem_singleton.mpr rfl, hb2⟩
                have hch := ak_chc_ok (gh := gh) htb hT ha k6' hb4
                refine ak_Gk hct hd (he.trans k1) k2 hT k3 k4 k6 (ih false (pc + 3) b' _ _ _ _ (List.all_eq_true.mp (List.all_eq_true.mp hp b hb1) b' hb') (s ++ u) h1 lv (r.toList ++ st') _ _ k4 k5 hg' ?_ (ak_gR_mv hch hR) hz0 (by omega) (by omega))
                unfold ak_xc
                rw [hidx]
                have hlen : con'.2.2.2.1.toList.length = r.toList.length := by
                  cases hR1 : con'.2.2.2.1 with
                  | none =>
                    rw [hR1] at hgr
                    cases r with
                    | none => rfl
                    | some v => exact hgr.elim
                  | some x =>
                    rw [hR1] at hgr
                    cases r with
                    | none => exact hgr.elim
                    | some v => rfl
                rw [hlen]
                intro j e hj
                by_cases hjl : j < r.toList.length
                · rw [List.getElem?_append_left (by simpa using hjl), List.getElem?_replicate, if_pos hjl] at hj
                  cases hj
                · rw [List.getElem?_append_right (by simpa using hjl), List.length_replicate] at hj
                  obtain ⟨y, y1, y2⟩ := ak_gX_mv hch (ak_gX_drop hX _) _ _ hj
                  refine ⟨y, ?_, y2⟩
                  rw [List.getElem?_append_right (by omega), hst']
                  exact y1
              unfold ak_aci at hl
              split at hl
              · rename_i idx
                split at hl
                · rename_i hln
                  refine fin _ _ _ rfl hl ?_
                  unfold aj_step
                  dsimp only
                  rw [if_pos hln]
                  rfl
                · cases hl
              · rename_i idx
                split at hl
                · rename_i hln
                  refine fin _ _ _ rfl hl ?_
                  unfold aj_step
                  dsimp only
                  rw [if_pos hln]
                  rfl
                · cases hl
              · rename_i idx
                split at hl
                · rename_i hln
                  refine fin _ _ _ rfl hl ?_
                  unfold aj_step
                  dsimp only
                  rw [if_pos hln.1, hln.2, if_neg (by decide)]
                  rfl
                · cases hl
              · cases hl
            · cases hp
          · rw [Bool.and_eq_true, Bool.and_eq_true] at h0
            obtain ⟨h0, h00, hrd⟩ := h0
            unfold ak_rd at hrd
            rw [Bool.and_eq_true, Bool.or_eq_true, Bool.or_eq_true] at hrd
            obtain ⟨r, k1, k2, k3, k4⟩ := ak_ar_ok (pc := pc) (lk := mm.2.2.2.2.2.1) (h := h) (lv := lv) aj_rc aj_cls mm.2.2.1 (aj_isI mm) ha.2.1 h0
            exact ak_Ge hct hd k1 hT hSP k2 (ak_rp_ok ha.2.1 ha.2.2 hz0 heps k3 k4 (fun hm => by
              rcases hrd.1 with g | g
              · rw [hm] at g
                cases g
              · exact ak_rdd_ok htb hT ha hR hz0 g) (fun hm => by
              rcases hrd.2 with g | g
              · rw [hm] at g
                cases g
              · exact ak_rdd_ok htb hT ha hR hz0 g) h00)
theorem ak_CT_mono {k k' : Nat} {con : ak_Con} (hk : k ≤ k') (h0 : ak_CT T SP kap tb k con) : ak_CT T SP kap tb k' con := fun d hd => h0 d (Nat.le_trans hk hd)
theorem ak_nn0 {x : Nat → Int} : ∀ {C : ak_C} {W : List Nat}, W.all (fun w => w == 0) = true → ak_nn x C W := by
  intro C
  induction C with
  | nil => intro W _; cases W <;> trivial
  | cons c C ih =>
    intro W hW
    cases W with
    | nil => trivial
    | cons w W =>
      rw [List.all_cons, Bool.and_eq_true] at hW
      have hw : w = 0 := by simpa using hW.1
      exact ⟨fun z => absurd hw z, ih hW.2⟩
theorem ak_La_lo : ∀ (A : List ak_A) (i : Nat), ∀ q ∈ ak_La i A, i ≤ q.1 := by
  intro A
  induction A with
  | nil => intro i q hq; cases hq
  | cons x A ih =>
    intro i q hq
    rcases List.mem_cons.mp hq with rfl | hq
    · exact Nat.le_refl _
    · have := ih _ q hq
      split at this <;> omega
theorem ak_args_ok : ∀ (A : List ak_A) (as : List Value) (i : Nat), ak_gA s A as → ∀ q ∈ ak_La i A, ∃ v, aj_lv (lv_args i as) q.1 = some v ∧ ak_gam s q.2.1 v ∧ q.2.2 = none := by
  intro A
  induction A with
  | nil => intro as i _ q hq; cases hq
  | cons x A ih =>
    intro as i hA q hq
    cases as with
    | nil => exact hA.elim
    | cons v as =>
      rcases List.mem_cons.mp hq with rfl | hq
      · refine ⟨v, ?_, hA.1, rfl⟩
        unfold lv_args aj_lv
        simp
      · have hlo := ak_La_lo A _ q hq
        have hne : (i == q.1) = false := by
          rw [beq_eq_false_iff_ne]
          split at hlo <;> omega
        obtain ⟨w, k1, k2, k3⟩ := ih as (if ak_cat x = 2 then i + 2 else i + 1) hA.2 q hq
        refine ⟨w, ?_, k2, k3⟩
        unfold lv_args
        unfold aj_lv at k1 ⊢
        rw [List.find?_cons]
        simp only [hne]
        rw [ak_gcat hA.1]
        exact k1
theorem ak_sl_len : ∀ {A : List ak_A} {as : List Value}, ak_gA s A as → (lg_sl as).length = (A.map ak_cat).sum := by
  intro A
  induction A with
  | nil =>
    intro as hA
    cases as with
    | nil => rfl
    | cons _ _ => exact hA.elim
  | cons x A ih =>
    intro as hA
    cases as with
    | nil => exact hA.elim
    | cons v as =>
      have k := ih hA.2
      unfold lg_sl at k ⊢
      rw [List.flatMap_cons, List.length_append, k, List.map_cons, List.sum_cons, ak_gcat hA.1]
      have : ak_cat x = 1 ∨ ak_cat x = 2 := by
        unfold ak_cat
        split
        · exact Or.inr rfl
        · exact Or.inl rfl
      rcases this with e | e <;> rw [e] <;> rfl
theorem ak_head (as : List Value) : aj_lv (lv_args 0 as) 0 = as.head? := by
  cases as with
  | nil => rfl
  | cons v as =>
    unfold lv_args aj_lv
    simp
theorem ak_meth_ok (htb : ak_tbOK T tb) (hc : ak_SPc T SP) (hK : ak_kpc T kap) {k : Nat} {mm : aj_M} {con : ak_Con} (hmi : aj_mt[con.1]? = some mm) {ct : List (Nat × Instr × Nat)} (hct : aj_ctOK ct mm.2.1) {cs : List (Nat × ak_Con)} (hcs : ∀ q ∈ cs, ak_CT T SP kap tb k q.2) {fs : List (Nat × Nat × Option Int)} {fl : List ak_At} {pts : List ak_P2} {C : ak_C} {W0 : List Nat} {P0 n : Nat} (h0 : ak_meth T aj_cls mm ct cs fs fl pts C W0 P0 n con = true) : ak_CT T SP kap tb (k + 1) con := by
  unfold ak_meth at h0
  rw [Bool.and_eq_true, Bool.and_eq_true, Bool.and_eq_true, Bool.and_eq_true, decide_eq_true_eq, decide_eq_true_eq] at h0
  obtain ⟨hsl, hqc, hW0, hent, hpts⟩ := h0
  intro d hd s h as hT hSP hA hQ
  obtain ⟨d, rfl⟩ : ∃ d', d = d' + 1 := ⟨d - 1, by omega⟩
  have hcs' : ∀ q ∈ cs, ak_CT T SP kap tb d q.2 := fun q hq => ak_CT_mono (by omega) (hcs q hq)
  have hz : ak_n0 ct con.2.1 = true → ct.all (fun q => ak_no0 q.2.1) = true ∧ ∃ v, as.head? = some v ∧ v.category = 1 := by
    intro hz
    unfold ak_n0 at hz
    rw [Bool.and_eq_true] at hz
    refine ⟨hz.1, ?_⟩
    cases hA1 : con.2.1 with
    | nil =>
      rw [hA1] at hz
      cases hz.2
    | cons x A =>
      rw [hA1] at hz hA
      cases as with
      | nil => exact hA.elim
      | cons v as =>
        refine ⟨v, rfl, ?_⟩
        rw [ak_gcat hA.1]
        simpa using hz.2
  have main : ∀ N : Nat, ∀ pt ∈ pts, ∀ s h' lv st kc ks, ak_Ty T s h' → SP s h' → ak_gAS s tb h' (ak_iv lv) lv st (ak_ptAS pt.1) → ak_gR2 (ak_val tb h' lv (ak_fv tb h as.head?)) pt.2 → (ak_n0 ct con.2.1 = true → aj_lv lv 0 = as.head?) → kap h + pt.1.2.2.2.2.2.2.2 ≤ kap h' → ak_nn (ak_iv lv) C pt.1.2.2.2.2.1 → ak_mu (ak_iv lv) C pt.1.2.2.2.2.1 + (pt.1.2.2.2.2.2.2.1 : Int) * (1001 - kap h') + pt.1.2.2.2.2.2.1 < N → ak_G T SP kap tb d mm con (kap h) (ak_fv tb h as.head?) as.head? s h' kc ks pt.1.1 lv st := by
    intro N
    induction N with
    | zero =>
      intro pt hpt s h' lv st kc ks hT hSP ha hfa hz0 hk hn hlt
      have := ak_mu_nn hn
      have hr := hK.2 s h' hT
      have : 0 ≤ (pt.1.2.2.2.2.2.2.1 : Int) * (1001 - kap h') := Int.mul_nonneg (Int.natCast_nonneg _) (by omega)
      omega
    | succ N ih =>
      intro pt hpt s h' lv st kc ks hT hSP ha hfa hz0 hk hn hlt
      exact ak_ex_ok htb hc hK hct hz hcs' (hK.2 s h' hT) hn (fun pt' hpt' s h' lv' st kc ks hT hSP ha hfa hz0 hk hn' hlt' => ih pt' hpt' s h' lv' st kc ks hT hSP ha hfa hz0 hk hn' (by omega)) n true pt.1.1 (ak_ptAS pt.1) [] pt.2 0 _ (List.all_eq_true.mp hpts pt hpt) s h' lv st kc ks hT hSP ha (fun j e hj => by simp at hj) hfa hz0 (by omega) hk
  have hent' : ak_G T SP kap tb d mm con (kap h) (ak_fv tb h as.head?) as.head? s h 0 0 0 (lv_args 0 as) [] := by
    have hn0 : ak_nn (ak_iv (lv_args 0 as)) C W0 := ak_nn0 hW0
    have hr := hK.2 s h hT
    refine ak_ex_ok htb hc hK hct hz hcs' hr hn0 (fun pt hpt s h' lv' st kc ks hT hSP ha hfa hz0 hk hn hlt => main (ak_mu (ak_iv (lv_args 0 as)) C W0 + ((0 : Nat) : Int) * (1001 - kap h) + P0).toNat pt hpt s h' lv' st kc ks hT hSP ha hfa hz0 hk hn ?_) n true 0 _ [] _ 0 0 hent s h (lv_args 0 as) [] 0 0 hT hSP ⟨?_, trivial, ?_⟩ (fun j e hj => by simp at hj) ?_ (fun _ => ak_head as) (by omega) (by omega)
    · have := ak_mu_nn hn0
      omega
    · intro q hq
      obtain ⟨v, k1, k2, k3⟩ := ak_args_ok con.2.1 as 0 hA q hq
      exact ⟨v, k1, k2, fun z hz => by rw [k3] at hz; cases hz⟩
    · intro q hq
      obtain ⟨e, he, rfl⟩ := List.mem_map.mp hq
      obtain ⟨r, c, fs, x, m1, m2, m3, m4⟩ := hQ e he
      exact ⟨r, c, fs, x, (ak_head as).trans m1, m2, m3, m4⟩
    · intro f hf
      obtain ⟨e, -, hf⟩ := List.mem_flatMap.mp hf
      have ev : ak_evE (ak_val tb h (lv_args 0 as) (ak_fv tb h as.head?)) (ak_dE e.1 0) = 0 := by
        unfold ak_evE ak_dE
        have e1 : ak_val tb h (lv_args 0 as) (ak_fv tb h as.head?) (1, 0, e.1) = ak_fv tb h as.head? e.1 := by
          unfold ak_val
          rw [if_neg (by decide : ¬ (1 : Nat) = 0), if_pos rfl, ak_head as]
        have e2 : ak_val tb h (lv_args 0 as) (ak_fv tb h as.head?) (2, e.1, 0) = ak_fv tb h as.head? e.1 := by
          unfold ak_val
          rw [if_neg (by decide : ¬ (2 : Nat) = 0), if_neg (by decide : ¬ (2 : Nat) = 1)]
        show (1 * ak_val tb h (lv_args 0 as) (ak_fv tb h as.head?) (1, 0, e.1) + (-1 * ak_val tb h (lv_args 0 as) (ak_fv tb h as.head?) (2, e.1, 0) + 0)) + 0 = 0
        rw [e1, e2]
        omega
      rcases List.mem_cons.mp hf with rfl | hf
      · rw [ev]
        exact Int.le_refl _
      · cases List.mem_singleton.mp hf
        rw [ak_scl_ok, ev]
        exact Int.le_refl _
  obtain ⟨u, r, h', k1, k2, k3, k4, k5, k6⟩ := hent'
  refine ⟨u, r, h', ?_, k2, k3, k4, k5, k6, fun _ => by rw [hqc]; intro e he; cases he⟩
  rw [Nat.zero_add, Nat.zero_add] at k1
  exact aj_leaf hmi (by rw [ak_sl_len hA]; exact hsl) k1
end AKMETH
