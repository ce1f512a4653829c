/-! THE CHECKER: a method that is checked keeps its contract -/
def ak_La : Nat → List ak_A → ak_L
  | _, [] => []
  | i, x :: A => (i, x, none) :: ak_La (if ak_cat x = 2 then i + 2 else i + 1) A
def ak_meth (T : ak_TT) (cls : List aj_C) (mm : aj_M) (ct : List (Nat × Instr × Nat)) (cs : List (Nat × ak_Con)) (pts : List ak_Pt) (C : ak_C) (W0 : List Nat) (P0 n : Nat) (A : List ak_A) (R : Option ak_A) (M : ak_Mo) : Bool :=
  decide ((A.map ak_cat).sum ≤ mm.2.2.1) && (W0.all (fun w => w == 0) && (ak_ex T cls M mm.2.2.2.2.2.1 mm.2.2.1 mm.2.2.2.1 R ct cs pts C W0 P0 n true 0 (ak_La 0 A, [], []) && pts.all (fun pt => ak_ex T cls M mm.2.2.2.2.2.1 mm.2.2.1 mm.2.2.2.1 R ct cs pts C pt.2.2.2.2.1 pt.2.2.2.2.2 n true pt.1 (ak_ptAS pt))))
section AKMETH
variable {T : ak_TT} {SP : List Nat → aj_H → Prop} {M : ak_Mo} {s : List Nat} {tb : aj_T} {h : aj_H} {old : Nat → Int} {lv : aj_V} {st : List Value} {a a' : ak_AS} {v w : Value} {pc len : Nat} {lk : List aj_L}
theorem ak_le_ok (htb : ak_tbOK T tb) {pt : ak_Pt} (ha : ak_gAS s tb h old lv st a) (h0 : ak_le a pt = true) : ak_gAS s tb h (ak_iv lv) lv st (ak_ptAS pt) := by
  obtain ⟨hL, hS, hF⟩ := ha
  unfold ak_le at h0
  rw [Bool.and_eq_true, Bool.and_eq_true] at h0
  obtain ⟨q1, q2, q3⟩ := h0
  refine ⟨?_, ?_, ?_⟩
  · intro q hq
    obtain ⟨z, hz, rfl⟩ := List.mem_map.mp hq
    have := List.all_eq_true.mp q1 z hz
    split at this
    · rename_i x o hx
      obtain ⟨v, k1, k2, -⟩ := ak_lkL_ok hL hx
      have k3 := ak_sub_ok k2 this
      refine ⟨v, k1, k3, fun δ hδ => ?_⟩
      unfold ak_o0 at hδ
      split at hδ
      · cases hδ
        rename_i iv hiv
        have hiv : z.2 = .inl iv := hiv
        rw [hiv] at k3
        obtain ⟨y, rfl, -⟩ := ak_gi k3
        refine ⟨y, rfl, ?_⟩
        show y.toInt = ak_iv lv z.1 + 0
        unfold ak_iv
        rw [k1]
        simp
      · cases hδ
    · cases this
  · exact ak_gA_S (ak_leA_ok (ak_gS_A hS) q2)
  · intro q hq
    have := List.all_eq_true.mp q3 q hq
    obtain ⟨z, hz, hz2⟩ := List.any_eq_true.mp this
    simp only [Bool.and_eq_true, beq_iff_eq, decide_eq_true_eq] at hz2
    obtain ⟨⟨⟨e1, e2⟩, e3⟩, e4⟩ := hz2
    obtain ⟨r, c, fs, x, k1, k2, k3, k4⟩ := hF z hz
    exact ⟨r, c, fs, x, by rw [← e1]; exact k1, k2, by rw [← e2]; exact k3, Int.le_trans e3 k4.1, Int.le_trans k4.2 e4⟩
theorem ak_ex_ok (htb : ak_tbOK T tb) (hc : ak_SPc T SP) {d : Nat} {mm : aj_M} {R : Option ak_A} {ct : List (Nat × Instr × Nat)} (hct : aj_ctOK ct mm.2.1) {cs : List (Nat × ak_Con)} (hcs : ∀ q ∈ cs, ak_CT T SP tb d q.2.1 q.2.2.1 q.2.2.2.1 q.2.2.2.2) {pts : List ak_Pt} {C : ak_C} {W : List Nat} {pos : Nat}
    (hnn : ak_nn old C W) (hIH : ∀ pt ∈ pts, ∀ s h lv st kc ks, ak_Ty T s h → SP s h → ak_gAS s tb h (ak_iv lv) lv st (ak_ptAS pt) → ak_nn (ak_iv lv) C pt.2.2.2.2.1 → ak_mu (ak_iv lv) C pt.2.2.2.2.1 + pt.2.2.2.2.2 < ak_mu old C W + pos → ak_G T SP tb d mm M R s h kc ks pt.1 lv st) :
    ∀ (n : Nat) (first : Bool) (pc : Nat) (a : ak_AS), ak_ex T aj_cls M mm.2.2.2.2.2.1 mm.2.2.1 mm.2.2.2.1 R ct cs pts C W pos n first pc a = true → ∀ s h lv st kc ks, ak_Ty T s h → SP s h → ak_gAS s tb h old lv st a → ak_G T SP tb d mm M R s h kc ks pc lv st := by
  intro n
  induction n with
  | zero => intro first pc a h0; cases h0
  | succ n ih =>
    intro first pc a h0 s h lv st kc ks hT hSP ha
    unfold ak_ex at h0
    split at h0
    · rename_i pt hpt
      split at hpt
      · cases hpt
      · have hm := List.mem_of_find?_eq_some hpt
        have hp := List.find?_some hpt
        have hp : pt.1 = pc := by simpa using hp
        rw [Bool.and_eq_true] at h0
        obtain ⟨q1, q2⟩ := h0
        split at q2
        · rename_i e he
          have q2 := of_decide_eq_true q2
          obtain ⟨k1, k2⟩ := ak_dec_ok ha.1 he hnn
          rw [← hp]
          exact hIH pt hm s h lv st kc ks hT hSP (ak_le_ok htb ha q1) k1 (by omega)
        · cases q2
    · split at h0
      · cases h0
      · rename_i i len hd
        split at h0
        · rename_i succs hs
          obtain ⟨pc', lv', st', h', b, k1, k2, k3, k4, k5, k6⟩ := ak_st_ok (M := M) htb hT hSP hc aj_rc aj_cls mm.2.2.1 mm.2.2.2.1 (aj_isI mm) ha hs
          exact ak_Gn hct hd k1 k5 (ih false pc' b (List.all_eq_true.mp h0 _ k2) s h' lv' st' kc ks k3 k4 k6)
        · split at h0
          · rename_i con hcon
            have hm := List.mem_of_find?_eq_some hcon
            split at h0
            · rename_i b hb
              have hk := hcs con hm
              unfold ak_aci at hb
              split at hb
              · rename_i idx
                split at hb
                · rename_i hl
                  obtain ⟨kind, mi, as, st', u, r, h1, k1, k2, k3, k4, k5, k6, k7⟩ := ak_ac_ok (pc := pc) htb hT hSP hk ha hb
                  refine ak_Gk hct hd ?_ k2 hT k3 k4 k6 (ih false (pc + 3) b h0 (s ++ u) h1 lv (r.toList ++ st') _ _ k4 k5 k7)
                  unfold aj_step
                  dsimp only
                  rw [if_pos hl]
                  exact k1
                · cases hb
              · rename_i idx
                split at hb
                · rename_i hl
                  obtain ⟨kind, mi, as, st', u, r, h1, k1, k2, k3, k4, k5, k6, k7⟩ := ak_ac_ok (pc := pc) htb hT hSP hk ha hb
                  refine ak_Gk hct hd ?_ k2 hT k3 k4 k6 (ih false (pc + 3) b h0 (s ++ u) h1 lv (r.toList ++ st') _ _ k4 k5 k7)
                  unfold aj_step
                  dsimp only
                  rw [if_pos hl]
                  exact k1
                · cases hb
              · rename_i idx
                split at hb
                · rename_i hl
                  obtain ⟨kind, mi, as, st', u, r, h1, k1, k2, k3, k4, k5, k6, k7⟩ := ak_ac_ok (pc := pc) htb hT hSP hk ha hb
                  refine ak_Gk hct hd ?_ k2 hT k3 k4 k6 (ih false (pc + 3) b h0 (s ++ u) h1 lv (r.toList ++ st') _ _ k4 k5 k7)
                  unfold aj_step
                  dsimp only
                  rw [if_pos hl.1, hl.2, if_neg (by decide)]
                  exact k1
                · cases hb
              · cases hb
            · cases h0
          · obtain ⟨r, k1, k2⟩ := ak_ar_ok (pc := pc) (lk := mm.2.2.2.2.2.1) (h := h) (lv := lv) aj_rc aj_cls mm.2.2.1 (aj_isI mm) ha.2.1 h0
            exact ak_Ge hct hd k1 hT hSP k2
theorem ak_CT_mono {k k' mi : Nat} {A : List ak_A} {R : Option ak_A} (hk : k ≤ k') (h0 : ak_CT T SP tb k mi A R M) : ak_CT T SP tb k' mi A R M := fun d hd => h0 d (Nat.le_trans hk hd)
theorem ak_nn0 {x : Nat → Int} : ∀ {C : ak_C} {W : List Nat}, W.all (fun w => w == 0) = true → ak_nn x C W := by
  intro C
  induction C with
  | nil => intro W _; cases W <;> trivial
  | cons c C ih =>
    intro W hW
    cases W with
    | nil => trivial
    | cons w W =>
      rw [List.all_cons, Bool.and_eq_true] at hW
      have hw : w = 0 := by simpa using hW.1
      exact ⟨fun z => absurd hw z, ih hW.2⟩
theorem ak_La_lo : ∀ (A : List ak_A) (i : Nat), ∀ q ∈ ak_La i A, i ≤ q.1 := by
  intro A
  induction A with
  | nil => intro i q hq; cases hq
  | cons x A ih =>
    intro i q hq
    rcases List.mem_cons.mp hq with rfl | hq
    · exact Nat.le_refl _
    · have := ih _ q hq
      split at this <;> omega
theorem ak_args_ok : ∀ (A : List ak_A) (as : List Value) (i : Nat), ak_gA s A as → ∀ q ∈ ak_La i A, ∃ v, aj_lv (lv_args i as) q.1 = some v ∧ ak_gam s q.2.1 v ∧ q.2.2 = none := by
  intro A
  induction A with
  | nil => intro as i _ q hq; cases hq
  | cons x A ih =>
    intro as i hA q hq
    cases as with
    | nil => exact hA.elim
    | cons v as =>
      rcases List.mem_cons.mp hq with rfl | hq
      · refine ⟨v, ?_, hA.1, rfl⟩
        unfold lv_args aj_lv
        simp
      · have hlo := ak_La_lo A _ q hq
        have hne : (i == q.1) = false := by
          rw [beq_eq_false_iff_ne]
          split at hlo <;> omega
        obtain ⟨w, k1, k2, k3⟩ := ih as (if ak_cat x = 2 then i + 2 else i + 1) hA.2 q hq
        refine ⟨w, ?_, k2, k3⟩
        unfold lv_args
        unfold aj_lv at k1 ⊢
        rw [List.find?_cons]
        simp only [hne]
        rw [ak_gcat hA.1]
        exact k1
theorem ak_sl_len : ∀ {A : List ak_A} {as : List Value}, ak_gA s A as → (lg_sl as).length = (A.map ak_cat).sum := by
  intro A
  induction A with
  | nil =>
    intro as hA
    cases as with
    | nil => rfl
    | cons _ _ => exact hA.elim
  | cons x A ih =>
    intro as hA
    cases as with
    | nil => exact hA.elim
    | cons v as =>
      have k := ih hA.2
      unfold lg_sl at k ⊢
      rw [List.flatMap_cons, List.length_append, k, List.map_cons, List.sum_cons, ak_gcat hA.1]
      have : ak_cat x = 1 ∨ ak_cat x = 2 := by
        unfold ak_cat
        split
        · exact Or.inr rfl
        · exact Or.inl rfl
      rcases this with e | e <;> rw [e] <;> rfl
theorem ak_meth_ok (htb : ak_tbOK T tb) (hc : ak_SPc T SP) {k mi : Nat} {mm : aj_M} (hmi : aj_mt[mi]? = some mm) {ct : List (Nat × Instr × Nat)} (hct : aj_ctOK ct mm.2.1) {cs : List (Nat × ak_Con)} (hcs : ∀ q ∈ cs, ak_CT T SP tb k q.2.1 q.2.2.1 q.2.2.2.1 q.2.2.2.2) {pts : List ak_Pt} {C : ak_C} {W0 : List Nat} {P0 n : Nat} {A : List ak_A} {R : Option ak_A} (h0 : ak_meth T aj_cls mm ct cs pts C W0 P0 n A R M = true) : ak_CT T SP tb (k + 1) mi A R M := by
  unfold ak_meth at h0
  rw [Bool.and_eq_true, Bool.and_eq_true, Bool.and_eq_true, decide_eq_true_eq] at h0
  obtain ⟨hsl, hW0, hent, hpts⟩ := h0
  intro d hd s h as hT hSP hA
  obtain ⟨d, rfl⟩ : ∃ d', d = d' + 1 := ⟨d - 1, by omega⟩
  have hcs' : ∀ q ∈ cs, ak_CT T SP tb d q.2.1 q.2.2.1 q.2.2.2.1 q.2.2.2.2 := fun q hq => ak_CT_mono (by omega) (hcs q hq)
  have main : ∀ N : Nat, ∀ pt ∈ pts, ∀ s h lv st kc ks, ak_Ty T s h → SP s h → ak_gAS s tb h (ak_iv lv) lv st (ak_ptAS pt) → ak_nn (ak_iv lv) C pt.2.2.2.2.1 → ak_mu (ak_iv lv) C pt.2.2.2.2.1 + pt.2.2.2.2.2 < N → ak_G T SP tb d mm M R s h kc ks pt.1 lv st := by
    intro N
    induction N with
    | zero =>
      intro pt hpt s h lv st kc ks hT hSP ha hn hlt
      have := ak_mu_nn hn
      omega
    | succ N ih =>
      intro pt hpt s h lv st kc ks hT hSP ha hn hlt
      exact ak_ex_ok htb hc hct hcs' hn (fun pt' hpt' s h lv' st kc ks hT hSP ha hn' hlt' => ih pt' hpt' s h lv' st kc ks hT hSP ha hn' (by omega)) n true pt.1 (ak_ptAS pt) (List.all_eq_true.mp hpts pt hpt) s h lv st kc ks hT hSP ha
  have hent' : ak_G T SP tb d mm M R s h 0 0 0 (lv_args 0 as) [] := by
    have hn0 : ak_nn (ak_iv (lv_args 0 as)) C W0 := ak_nn0 hW0
    refine ak_ex_ok htb hc hct hcs' hn0 (fun pt hpt s h lv' st kc ks hT hSP ha hn hlt => main (ak_mu (ak_iv (lv_args 0 as)) C W0 + P0).toNat pt hpt s h lv' st kc ks hT hSP ha hn ?_) n true 0 _ hent s h (lv_args 0 as) [] 0 0 hT hSP ⟨?_, trivial, fun q hq => by cases hq⟩
    · have := ak_mu_nn hn0
      omega
    · intro q hq
      obtain ⟨v, k1, k2, k3⟩ := ak_args_ok A as 0 hA q hq
      exact ⟨v, k1, k2, fun z hz => by rw [k3] at hz; cases hz⟩
  obtain ⟨u, r, h', k1, k2, k3, k4, k5⟩ := hent'
  refine ⟨u, r, h', ?_, k2, k3, k4, k5⟩
  rw [Nat.zero_add, Nat.zero_add] at k1
  exact aj_leaf hmi (by rw [ak_sl_len hA]; exact hsl) k1
end AKMETH
