/-! THE CHECKER: a method that is checked keeps its contract -/
def ak_La : Nat → List ak_A → ak_L
  | _, [] => []
  | i, x :: A => (i, x, none) :: ak_La (if ak_cat x = 2 then i + 2 else i + 1) A
def ak_n0 (ct : List (Nat × Instr × Nat)) (A : List ak_A) : Bool := ct.all (fun q => ak_no0 q.2.1) && (match A with
  | x :: _ => ak_cat x == 1
  | [] => false)
def ak_en (con : ak_Con) : ak_AS := (ak_La 0 con.2.1, [], con.2.2.2.2.1.map (fun e => ((0, e.1), e.2)))
def ak_meth (T : ak_TT) (cls : List aj_C) (mm : aj_M) (ct : List (Nat × Instr × Nat)) (cs : List (Nat × ak_Con)) (fs : List (Nat × Nat × Option Int)) (pts : List ak_Pt) (C : ak_C) (W0 : List Nat) (P0 n : Nat) (con : ak_Con) : Bool :=
  decide ((con.2.1.map ak_cat).sum ≤ mm.2.2.1) && (decide (con.2.2.2.2.2.2.2.2.2 = []) && (W0.all (fun w => w == 0) && (ak_ex T cls con (ak_n0 ct con.2.1) mm.2.2.2.2.2.1 mm.2.2.1 mm.2.2.2.1 ct cs fs pts C W0 P0 0 n true 0 (ak_en con) 0 0 && pts.all (fun pt => ak_ex T cls con (ak_n0 ct con.2.1) mm.2.2.2.2.2.1 mm.2.2.1 mm.2.2.2.1 ct cs fs pts C pt.2.2.2.2.1 pt.2.2.2.2.2.1 pt.2.2.2.2.2.2.1 n true pt.1 (ak_ptAS pt) 0 pt.2.2.2.2.2.2.2))))
/-- the clock: what the checker writes leaves it, it stays in its bounds -/
def ak_kpc (T : ak_TT) (kap : aj_H → Int) : Prop := (∀ (s : List Nat) (h : aj_H) (i : Nat) (e e' : aj_E), h[i]? = some e → ak_ben T s i e e' → kap (h.set i e') = kap h) ∧ ∀ (s : List Nat) (h : aj_H), ak_Ty T s h → 0 ≤ kap h ∧ kap h ≤ 1001
section AKMETH
variable {T : ak_TT} {SP : List Nat → aj_H → Prop} {kap : aj_H → Int} {M : ak_Mo} {s : List Nat} {tb : aj_T} {h : aj_H} {old : Nat → Int} {lv : aj_V} {st : List Value} {a a' : ak_AS} {v w : Value} {pc len : Nat} {lk : List aj_L}
theorem ak_le_ok {pt : ak_Pt} (ha : ak_gAS s tb h old lv st a) (h0 : ak_le a pt = true) : ak_gAS s tb h (ak_iv lv) lv st (ak_ptAS pt) := by
  obtain ⟨hL, hS, hF⟩ := ha
  unfold ak_le at h0
  rw [Bool.and_eq_true, Bool.and_eq_true] at h0
  obtain ⟨q1, q2, q3⟩ := h0
  refine ⟨?_, ?_, ?_⟩
  · intro q hq
    obtain ⟨z, hz, rfl⟩ := List.mem_map.mp hq
    have := List.all_eq_true.mp q1 z hz
    split at this
    · rename_i x o hx
      obtain ⟨v, k1, k2, -⟩ := ak_lkL_ok hL hx
      have k3 := ak_sub_ok k2 this
      refine ⟨v, k1, k3, fun δ hδ => ?_⟩
      unfold ak_o0 at hδ
      split at hδ
      · cases hδ
        rename_i iv hiv
        have hiv : z.2 = .inl iv := hiv
        rw [hiv] at k3
        obtain ⟨y, rfl, -⟩ := ak_gi k3
        refine ⟨y, rfl, ?_⟩
        show y.toInt = ak_iv lv z.1 + 0
        unfold ak_iv
        rw [k1]
        simp
      · cases hδ
    · cases this
  · exact ak_gA_S (ak_leA_ok (ak_gS_A hS) q2)
  · intro q hq
    have := List.all_eq_true.mp q3 q hq
    obtain ⟨z, hz, hz2⟩ := List.any_eq_true.mp this
    simp only [Bool.and_eq_true, beq_iff_eq, decide_eq_true_eq] at hz2
    obtain ⟨⟨⟨e1, e2⟩, e3⟩, e4⟩ := hz2
    obtain ⟨r, c, fs, x, k1, k2, k3, k4⟩ := hF z hz
    exact ⟨r, c, fs, x, by rw [← e1]; exact k1, k2, by rw [← e2]; exact k3, Int.le_trans e3 k4.1, Int.le_trans k4.2 e4⟩
theorem ak_fk_ok {f : Nat × Nat × Option Int} (ha : ak_gAS s tb h old lv st a) : ∃ b ∈ ak_fk f a, ak_gAS s tb h old lv st b := by
  unfold ak_fk
  split
  · rename_i q o c h1 h2
    obtain ⟨v, k1, k2, -⟩ := ak_lkL_ok ha.1 h1
    obtain ⟨x, rfl, hw⟩ := ak_gi k2
    unfold ak_win at hw
    by_cases hx : x.toInt ≤ c
    · refine ⟨(ak_apL f.2.1 (.inl (q.1, ak_mn q.2 c)) a.1, a.2), List.mem_append_left _ (by rw [if_pos (by omega)]; exact List.mem_singleton.mpr rfl), ak_apL_ok ha.1 k1 ?_, ha.2⟩
      show q.1 ≤ x.toInt ∧ x.toInt ≤ ak_mn q.2 c
      unfold ak_mn
      refine ⟨hw.1, ?_⟩
      split <;> omega
    · refine ⟨(ak_apL f.2.1 (.inl (ak_mx q.1 (c + 1), q.2)) a.1, a.2), List.mem_append_right _ (by rw [if_pos (by omega)]; exact List.mem_singleton.mpr rfl), ak_apL_ok ha.1 k1 ?_, ha.2⟩
      show ak_mx q.1 (c + 1) ≤ x.toInt ∧ x.toInt ≤ q.2
      unfold ak_mx
      refine ⟨?_, hw.2⟩
      split <;> omega
  · rename_i q o h1 h2
    obtain ⟨v, k1, k2, -⟩ := ak_lkL_ok ha.1 h1
    rcases ak_gr k2 with ⟨rfl, hn⟩ | ⟨r, t, rfl, ht, hty⟩
    · exact ⟨(ak_apL f.2.1 (.inr (some ([], true))) a.1, a.2), List.mem_append_left _ (by rw [if_pos hn]; exact List.mem_singleton.mpr rfl), ak_apL_ok ha.1 k1 (show ak_gam s (.inr (some ([], true))) .null from rfl), ha.2⟩
    · exact ⟨(ak_apL f.2.1 (.inr (some ([t], false))) a.1, a.2), List.mem_append_right _ (List.mem_map.mpr ⟨t, ht, rfl⟩), ak_apL_ok ha.1 k1 (show ak_gam s (.inr (some ([t], false))) (.ref r) from ⟨t, List.mem_singleton.mpr rfl, hty⟩), ha.2⟩
  · exact ⟨a, List.mem_singleton.mpr rfl, ha⟩
theorem ak_frk_ok : ∀ {fs : List (Nat × Nat × Option Int)} {l : List ak_AS}, (∃ b ∈ l, ak_gAS s tb h old lv st b) → ∃ b ∈ ak_frk pc fs l, ak_gAS s tb h old lv st b := by
  intro fs
  induction fs with
  | nil => intro l hl; exact hl
  | cons f fs ih =>
    intro l hl
    refine ih ?_
    split
    · obtain ⟨b, hb, hg⟩ := hl
      obtain ⟨b', hb', hg'⟩ := ak_fk_ok (f := f) hg
      exact ⟨b', List.mem_flatMap.mpr ⟨b, hb, hb'⟩, hg'⟩
    · exact hl
theorem ak_clk_ok {w w' : Nat} {del k0 k1 : Int} (hk : k0 + del ≤ k1) (h0 : 0 ≤ k0 ∧ k0 ≤ 1001) (h1 : 0 ≤ k1 ∧ k1 ≤ 1001) : (w' : Int) * (1001 - k1) ≤ (w : Int) * (1001 - k0) + ak_clk w w' del := by
  unfold ak_clk
  have hw : 0 ≤ (w : Int) * (1001 - k0) := Int.mul_nonneg (Int.natCast_nonneg _) (by omega)
  split
  · rename_i hz
    subst hz
    simp only [Int.natCast_zero, Int.zero_mul]
    omega
  · split
    · rename_i hz
      subst hz
      have e : (w' : Int) * (1001 - k1) ≤ (w' : Int) * (1001 - k0 - del) := Int.mul_le_mul_of_nonneg_left (by omega) (Int.natCast_nonneg _)
      have e2 : (w' : Int) * (1001 - k0 - del) = (w' : Int) * (1001 - k0) - (w' : Int) * del := Int.mul_sub _ _ _
      omega
    · have e : (w' : Int) * (1001 - k1) ≤ (w' : Int) * 1001 := Int.mul_le_mul_of_nonneg_left (by omega) (Int.natCast_nonneg _)
      omega
theorem ak_ex_ok (htb : ak_tbOK T tb) (hc : ak_SPc T SP) (hK : ak_kpc T kap) {d : Nat} {mm : aj_M} {con : ak_Con} {k0 kp : Int} {v0 : Option Value} {ct : List (Nat × Instr × Nat)} (hct : aj_ctOK ct mm.2.1) {z : Bool} (hz : z = true → ct.all (fun q => ak_no0 q.2.1) = true ∧ ∃ v, v0 = some v ∧ v.category = 1) {cs : List (Nat × ak_Con)} (hcs : ∀ q ∈ cs, ak_CT T SP kap tb d q.2) {fs : List (Nat × Nat × Option Int)} {pts : List ak_Pt} {C : ak_C} {W : List Nat} {pos wk : Nat} (hkp : 0 ≤ kp ∧ kp ≤ 1001)
    (hnn : ak_nn old C W) (hIH : ∀ pt ∈ pts, ∀ s h lv st kc ks, ak_Ty T s h → SP s h → ak_gAS s tb h (ak_iv lv) lv st (ak_ptAS pt) → (z = true → aj_lv lv 0 = v0) → k0 + pt.2.2.2.2.2.2.2 ≤ kap h → ak_nn (ak_iv lv) C pt.2.2.2.2.1 → ak_mu (ak_iv lv) C pt.2.2.2.2.1 + (pt.2.2.2.2.2.2.1 : Int) * (1001 - kap h) + pt.2.2.2.2.2.1 < ak_mu old C W + (wk : Int) * (1001 - kp) + pos → ak_G T SP kap tb d mm con k0 v0 s h kc ks pt.1 lv st) :
    ∀ (n : Nat) (first : Bool) (pc : Nat) (a : ak_AS) (del eps : Int), ak_ex T aj_cls con z mm.2.2.2.2.2.1 mm.2.2.1 mm.2.2.2.1 ct cs fs pts C W pos wk n first pc a del eps = true → ∀ s h lv st kc ks, ak_Ty T s h → SP s h → ak_gAS s tb h old lv st a → (z = true → aj_lv lv 0 = v0) → kp + del ≤ kap h → k0 + eps ≤ kap h → ak_G T SP kap tb d mm con k0 v0 s h kc ks pc lv st := by
  intro n
  induction n with
  | zero => intro first pc a del eps h0; cases h0
  | succ n ih =>
    intro first pc a del eps h0 s h lv st kc ks hT hSP ha hz0 hdel heps
    unfold ak_ex at h0
    split at h0
    · obtain ⟨pt, hm, hp⟩ := List.any_eq_true.mp h0
      rw [Bool.and_eq_true, beq_iff_eq] at hp
      obtain ⟨hp, hat⟩ := hp
      unfold ak_at at hat
      rw [Bool.and_eq_true, Bool.and_eq_true, decide_eq_true_eq] at hat
      obtain ⟨q1, q3, q2⟩ := hat
      split at q2
      · rename_i e he
        have q2 := of_decide_eq_true q2
        obtain ⟨k1, k2⟩ := ak_dec_ok ha.1 he hnn
        have hkr := hK.2 s h hT
        have k3 := ak_clk_ok (w := wk) (w' := pt.2.2.2.2.2.2.1) hdel hkp hkr
        rw [← hp]
        exact hIH pt hm s h lv st kc ks hT hSP (ak_le_ok ha q1) hz0 (by omega) k1 (by omega)
      · cases q2
    · split at h0
      · cases h0
      · rename_i i len hd
        have hno : z = true → ak_no0 i = true := fun hzt => by
          have := (hz hzt).1
          unfold aj_ct at hd
          obtain ⟨q, g1, g2⟩ := Option.map_eq_some_iff.mp hd
          have g3 := List.all_eq_true.mp this q (List.mem_of_find?_eq_some g1)
          rw [g2] at g3
          exact g3
        split at h0
        · rename_i succs hs
          have hc2 : ak_SPc T (fun s h' => SP s h' ∧ kap h' = kap h) := fun s h1 i e e' q1 q2 q3 => ⟨hc s h1 i e e' q1.1 q2 q3, (hK.1 s h1 i e e' q2 q3).trans q1.2⟩
          obtain ⟨pc', lv', st', h', b, k1, k2, k3, k4, k5, k6, k7⟩ := ak_st_ok (SP := fun s h' => SP s h' ∧ kap h' = kap h) (M := con.2.2.2.1) htb hT ⟨hSP, rfl⟩ hc2 aj_rc aj_cls mm.2.2.1 mm.2.2.2.1 (aj_isI mm) ha hs
          obtain ⟨b', hb', hg'⟩ := ak_frk_ok (pc := pc') (fs := fs) ⟨b, List.mem_singleton.mpr rfl, k6⟩
          refine ak_Gn hct hd k1 k5 (ih false pc' b' del eps (List.all_eq_true.mp (List.all_eq_true.mp h0 _ k2) b' hb') s h' lv' st' kc ks k3 k4.1 hg' (fun hzt => ?_) (by rw [k4.2]; exact hdel) (by rw [k4.2]; exact heps))
          obtain ⟨v, hv, hvc⟩ := (hz hzt).2
          rw [hv]
          exact k7 (hno hzt) v ((hz0 hzt).trans hv) hvc
        · split at h0
          · obtain ⟨con', hm, hp⟩ := List.any_eq_true.mp h0
            rw [Bool.and_eq_true] at hp
            obtain ⟨-, hp⟩ := hp
            split at hp
            · rename_i l hl
              have hk := hcs con' hm
              have fin : ∀ lo hi idx, ak_ac T con.2.2.2.1 mm.2.2.2.2.2.1 lo hi idx a con'.2 = some l → aj_step aj_rc aj_cls tb mm.2.2.2.2.2.1 mm.2.2.1 mm.2.2.2.1 (aj_isI mm) i len pc lv st h = aj_call lo hi tb mm.2.2.2.2.2.1 pc idx lv st h → ak_G T SP kap tb d mm con k0 v0 s h kc ks pc lv st := by
                intro lo hi idx hb he
                obtain ⟨kind, mi, as, st', u, r, h1, k1, k2, k3, k4, k5, k6, b, hb1, hb2, hb3⟩ := ak_ac_ok (pc := pc) htb hT hSP hk ha hb
                obtain ⟨b', hb', hg'⟩ := ak_frk_ok (pc := pc + 3) (fs := fs) ⟨b.1, List.mem_singleton.mpr rfl, hb2⟩
                exact ak_Gk hct hd (he.trans k1) k2 hT k3 k4 k6 (ih false (pc + 3) b' _ _ (List.all_eq_true.mp (List.all_eq_true.mp hp b hb1) b' hb') (s ++ u) h1 lv (r.toList ++ st') _ _ k4 k5 hg' hz0 (by omega) (by omega))
              unfold ak_aci at hl
              split at hl
              · rename_i idx
                split at hl
                · rename_i hln
                  refine fin _ _ _ hl ?_
                  unfold aj_step
                  dsimp only
                  rw [if_pos hln]
                · cases hl
              · rename_i idx
                split at hl
                · rename_i hln
                  refine fin _ _ _ hl ?_
                  unfold aj_step
                  dsimp only
                  rw [if_pos hln]
                · cases hl
              · rename_i idx
                split at hl
                · rename_i hln
                  refine fin _ _ _ hl ?_
                  unfold aj_step
                  dsimp only
                  rw [if_pos hln.1, hln.2, if_neg (by decide)]
                · cases hl
              · cases hl
            · cases hp
          · rw [Bool.and_eq_true] at h0
            obtain ⟨r, k1, k2, k3, k4⟩ := ak_ar_ok (pc := pc) (lk := mm.2.2.2.2.2.1) (h := h) (lv := lv) aj_rc aj_cls mm.2.2.1 (aj_isI mm) ha.2.1 h0.1
            exact ak_Ge hct hd k1 hT hSP k2 (ak_rp_ok ha.2.1 ha.2.2 hz0 heps k3 k4 h0.2)
theorem ak_CT_mono {k k' : Nat} {con : ak_Con} (hk : k ≤ k') (h0 : ak_CT T SP kap tb k con) : ak_CT T SP kap tb k' con := fun d hd => h0 d (Nat.le_trans hk hd)
theorem ak_nn0 {x : Nat → Int} : ∀ {C : ak_C} {W : List Nat}, W.all (fun w => w == 0) = true → ak_nn x C W := by
  intro C
  induction C with
  | nil => intro W _; cases W <;> trivial
  | cons c C ih =>
    intro W hW
    cases W with
    | nil => trivial
    | cons w W =>
      rw [List.all_cons, Bool.and_eq_true] at hW
      have hw : w = 0 := by simpa using hW.1
      exact ⟨fun z => absurd hw z, ih hW.2⟩
theorem ak_La_lo : ∀ (A : List ak_A) (i : Nat), ∀ q ∈ ak_La i A, i ≤ q.1 := by
  intro A
  induction A with
  | nil => intro i q hq; cases hq
  | cons x A ih =>
    intro i q hq
    rcases List.mem_cons.mp hq with rfl | hq
    · exact Nat.le_refl _
    · have := ih _ q hq
      split at this <;> omega
theorem ak_args_ok : ∀ (A : List ak_A) (as : List Value) (i : Nat), ak_gA s A as → ∀ q ∈ ak_La i A, ∃ v, aj_lv (lv_args i as) q.1 = some v ∧ ak_gam s q.2.1 v ∧ q.2.2 = none := by
  intro A
  induction A with
  | nil => intro as i _ q hq; cases hq
  | cons x A ih =>
    intro as i hA q hq
    cases as with
    | nil => exact hA.elim
    | cons v as =>
      rcases List.mem_cons.mp hq with rfl | hq
      · refine ⟨v, ?_, hA.1, rfl⟩
        unfold lv_args aj_lv
        simp
      · have hlo := ak_La_lo A _ q hq
        have hne : (i == q.1) = false := by
          rw [beq_eq_false_iff_ne]
          split at hlo <;> omega
        obtain ⟨w, k1, k2, k3⟩ := ih as (if ak_cat x = 2 then i + 2 else i + 1) hA.2 q hq
        refine ⟨w, ?_, k2, k3⟩
        unfold lv_args
        unfold aj_lv at k1 ⊢
        rw [List.find?_cons]
        simp only [hne]
        rw [ak_gcat hA.1]
        exact k1
theorem ak_sl_len : ∀ {A : List ak_A} {as : List Value}, ak_gA s A as → (lg_sl as).length = (A.map ak_cat).sum := by
  intro A
  induction A with
  | nil =>
    intro as hA
    cases as with
    | nil => rfl
    | cons _ _ => exact hA.elim
  | cons x A ih =>
    intro as hA
    cases as with
    | nil => exact hA.elim
    | cons v as =>
      have k := ih hA.2
      unfold lg_sl at k ⊢
      rw [List.flatMap_cons, List.length_append, k, List.map_cons, List.sum_cons, ak_gcat hA.1]
      have : ak_cat x = 1 ∨ ak_cat x = 2 := by
        unfold ak_cat
        split
        · exact Or.inr rfl
        · exact Or.inl rfl
      rcases this with e | e <;> rw [e] <;> rfl
theorem ak_head (as : List Value) : aj_lv (lv_args 0 as) 0 = as.head? := by
  cases as with
  | nil => rfl
  | cons v as =>
    unfold lv_args aj_lv
    simp
theorem ak_meth_ok (htb : ak_tbOK T tb) (hc : ak_SPc T SP) (hK : ak_kpc T kap) {k : Nat} {mm : aj_M} {con : ak_Con} (hmi : aj_mt[con.1]? = some mm) {ct : List (Nat × Instr × Nat)} (hct : aj_ctOK ct mm.2.1) {cs : List (Nat × ak_Con)} (hcs : ∀ q ∈ cs, ak_CT T SP kap tb k q.2) {fs : List (Nat × Nat × Option Int)} {pts : List ak_Pt} {C : ak_C} {W0 : List Nat} {P0 n : Nat} (h0 : ak_meth T aj_cls mm ct cs fs pts C W0 P0 n con = true) : ak_CT T SP kap tb (k + 1) con := by
  unfold ak_meth at h0
  rw [Bool.and_eq_true, Bool.and_eq_true, Bool.and_eq_true, Bool.and_eq_true, decide_eq_true_eq, decide_eq_true_eq] at h0
  obtain ⟨hsl, hqc, hW0, hent, hpts⟩ := h0
  intro d hd s h as hT hSP hA hQ
  obtain ⟨d, rfl⟩ : ∃ d', d = d' + 1 := ⟨d - 1, by omega⟩
  have hcs' : ∀ q ∈ cs, ak_CT T SP kap tb d q.2 := fun q hq => ak_CT_mono (by omega) (hcs q hq)
  have hz : ak_n0 ct con.2.1 = true → ct.all (fun q => ak_no0 q.2.1) = true ∧ ∃ v, as.head? = some v ∧ v.category = 1 := by
    intro hz
    unfold ak_n0 at hz
    rw [Bool.and_eq_true] at hz
    refine ⟨hz.1, ?_⟩
    cases hA1 : con.2.1 with
    | nil =>
      rw [hA1] at hz
      cases hz.2
    | cons x A =>
      rw [hA1] at hz hA
      cases as with
      | nil => exact hA.elim
      | cons v as =>
        refine ⟨v, rfl, ?_⟩
        rw [ak_gcat hA.1]
        simpa using hz.2
  have main : ∀ N : Nat, ∀ pt ∈ pts, ∀ s h' lv st kc ks, ak_Ty T s h' → SP s h' → ak_gAS s tb h' (ak_iv lv) lv st (ak_ptAS pt) → (ak_n0 ct con.2.1 = true → aj_lv lv 0 = as.head?) → kap h + pt.2.2.2.2.2.2.2 ≤ kap h' → ak_nn (ak_iv lv) C pt.2.2.2.2.1 → ak_mu (ak_iv lv) C pt.2.2.2.2.1 + (pt.2.2.2.2.2.2.1 : Int) * (1001 - kap h') + pt.2.2.2.2.2.1 < N → ak_G T SP kap tb d mm con (kap h) as.head? s h' kc ks pt.1 lv st := by
    intro N
    induction N with
    | zero =>
      intro pt hpt s h' lv st kc ks hT hSP ha hz0 hk hn hlt
      have := ak_mu_nn hn
      have hr := hK.2 s h' hT
      have : 0 ≤ (pt.2.2.2.2.2.2.1 : Int) * (1001 - kap h') := Int.mul_nonneg (Int.natCast_nonneg _) (by omega)
      omega
    | succ N ih =>
      intro pt hpt s h' lv st kc ks hT hSP ha hz0 hk hn hlt
      exact ak_ex_ok htb hc hK hct hz hcs' (hK.2 s h' hT) hn (fun pt' hpt' s h' lv' st kc ks hT hSP ha hz0 hk hn' hlt' => ih pt' hpt' s h' lv' st kc ks hT hSP ha hz0 hk hn' (by omega)) n true pt.1 (ak_ptAS pt) 0 _ (List.all_eq_true.mp hpts pt hpt) s h' lv st kc ks hT hSP ha hz0 (by omega) hk
  have hent' : ak_G T SP kap tb d mm con (kap h) as.head? s h 0 0 0 (lv_args 0 as) [] := by
    have hn0 : ak_nn (ak_iv (lv_args 0 as)) C W0 := ak_nn0 hW0
    have hr := hK.2 s h hT
    refine ak_ex_ok htb hc hK hct hz hcs' hr hn0 (fun pt hpt s h' lv' st kc ks hT hSP ha hz0 hk hn hlt => main (ak_mu (ak_iv (lv_args 0 as)) C W0 + ((0 : Nat) : Int) * (1001 - kap h) + P0).toNat pt hpt s h' lv' st kc ks hT hSP ha hz0 hk hn ?_) n true 0 _ 0 0 hent s h (lv_args 0 as) [] 0 0 hT hSP ⟨?_, trivial, ?_⟩ (fun _ => ak_head as) (by omega) (by omega)
    · have := ak_mu_nn hn0
      omega
    · intro q hq
      obtain ⟨v, k1, k2, k3⟩ := ak_args_ok con.2.1 as 0 hA q hq
      exact ⟨v, k1, k2, fun z hz => by rw [k3] at hz; cases hz⟩
    · intro q hq
      obtain ⟨e, he, rfl⟩ := List.mem_map.mp hq
      obtain ⟨r, c, fs, x, m1, m2, m3, m4⟩ := hQ e he
      exact ⟨r, c, fs, x, (ak_head as).trans m1, m2, m3, m4⟩
  obtain ⟨u, r, h', k1, k2, k3, k4, k5, k6⟩ := hent'
  refine ⟨u, r, h', ?_, k2, k3, k4, k5, k6, fun _ => by rw [hqc]; intro e he; cases he⟩
  rw [Nat.zero_add, Nat.zero_add] at k1
  exact aj_leaf hmi (by rw [ak_sl_len hA]; exact hsl) k1
end AKMETH
