/-! HANDS AND CHECKER TOGETHER: a frame whose end keeps what is told; the checker goes on up to places that are told, the rest by hand -/
/-- a frame goes on to its end, and there what is told holds -/
def cw_W (T : ak_TT) (Φ : List Nat → Option Value → aj_H → Prop) (tb : aj_T) (d : Nat) (mm : aj_M) (con : ak_Con) (s : List Nat) (h : aj_H) (kc ks pc : Nat) (lv : aj_V) (st : List Value) : Prop := ∃ (u : List Nat) (r : Option Value) (h' : aj_H), aj_TF aj_rc aj_cls tb mm (aj_isI mm) true (aj_runs aj_rc aj_cls tb aj_mt d) pc lv st h kc ks (kc + u.length) (ks + ak_slo T u) r h' ∧ ak_Ty T (s ++ u) h' ∧ Φ (s ++ u) r h' ∧ ak_Ev T con.2.2.2.1 s h h' ∧ ak_gR (s ++ u) con.2.2.1 r
/-- a method does -/
def cw_K (T : ak_TT) (Φ : List Nat → Option Value → aj_H → Prop) (tb : aj_T) (d : Nat) (con : ak_Con) (as : List Value) (s : List Nat) (h : aj_H) : Prop := ∃ (u : List Nat) (r : Option Value) (h' : aj_H), aj_runs aj_rc aj_cls tb aj_mt d con.1 as h u.length (ak_slo T u) r h' ∧ ak_Ty T (s ++ u) h' ∧ Φ (s ++ u) r h' ∧ ak_Ev T con.2.2.2.1 s h h' ∧ ak_gR (s ++ u) con.2.2.1 r
abbrev cw_kap : aj_H → Int := fun _ => 0
section CWW
variable {T : ak_TT} {SP : List Nat → aj_H → Prop} {Φ : List Nat → Option Value → aj_H → Prop} {kap : aj_H → Int} {M : ak_Mo} {s : List Nat} {tb : aj_T} {h h1 : aj_H} {old : Nat → Int} {lv : aj_V} {st : List Value} {a a' : ak_AS} {v w : Value} {pc len : Nat} {lk : List aj_L} {d : Nat} {mm : aj_M} {con : ak_Con}
theorem cw_hK : ak_kpc T cw_kap := ⟨fun _ _ _ _ _ _ _ => rfl, fun _ _ _ => ⟨Int.le_refl _, (by decide : (0 : Int) ≤ 1001)⟩⟩
theorem cw_Wn {ct : List (Nat × Instr × Nat)} (hct : aj_ctOK ct mm.2.1) {kc ks pc pc' len : Nat} {lv lv' : aj_V} {st st' : List Value} {i : Instr} (hd : aj_ct ct pc = some (i, len)) (hs : aj_step aj_rc aj_cls tb mm.2.2.2.2.2.1 mm.2.2.1 mm.2.2.2.1 (aj_isI mm) i len pc lv st h = some (.inl ((pc', lv', st'), h1, 0, 0))) (he : ak_Ev T con.2.2.2.1 s h h1) (k : cw_W T Φ tb d mm con s h1 kc ks pc' lv' st') : cw_W T Φ tb d mm con s h kc ks pc lv st := by
  obtain ⟨u, r, h', k1, k2, k3, k4, k5⟩ := k
  refine ⟨u, r, h', aj_tn hct ⟨Nat.le_add_right _ _, Nat.le_add_right _ _⟩ hd hs k1, k2, k3, ?_, k5⟩
  exact ak_Ev_tr (u := []) he (by rw [List.append_nil]; exact k4)
theorem cw_Wk {ct : List (Nat × Instr × Nat)} (hct : aj_ctOK ct mm.2.1) {kc ks pc pc' len kind mi : Nat} {as : List Value} {lv lv' : aj_V} {st st' : List Value} {i : Instr} (hd : aj_ct ct pc = some (i, len)) (hs : aj_step aj_rc aj_cls tb mm.2.2.2.2.2.1 mm.2.2.1 mm.2.2.2.1 (aj_isI mm) i len pc lv st h = some (.inr (.inl (kind, mi, as, (pc', lv', st'))))) (h5 : kind ≠ 5) (hT : ak_Ty T s h) {u : List Nat} {r : Option Value} (hr : aj_runs aj_rc aj_cls tb aj_mt d mi as h u.length (ak_slo T u) r h1) (hT1 : ak_Ty T (s ++ u) h1) (he : ak_Ev T con.2.2.2.1 s h h1) (k : cw_W T Φ tb d mm con (s ++ u) h1 (kc + u.length) (ks + ak_slo T u) pc' lv' (r.toList ++ st')) : cw_W T Φ tb d mm con s h kc ks pc lv st := by
  obtain ⟨u2, r2, h2, k1, k2, k3, k4, k5⟩ := k
  refine ⟨u ++ u2, r2, h2, ?_, by rw [← List.append_assoc]; exact k2, by rw [← List.append_assoc]; exact k3, ak_Ev_tr he k4, by rw [← List.append_assoc]; exact k5⟩
  have hl : h1.length = h.length + u.length := by rw [hT1.1, hT.1, List.length_append]
  rw [List.length_append, ak_slo_app, ← Nat.add_assoc, ← Nat.add_assoc]
  exact aj_tk hct hd hs rfl h5 hr hl ⟨Nat.le_add_right _ _, Nat.le_add_right _ _⟩ k1
theorem cw_Wr {ct : List (Nat × Instr × Nat)} (hct : aj_ctOK ct mm.2.1) {kc ks pc len : Nat} {lv : aj_V} {st : List Value} {i : Instr} (hd : aj_ct ct pc = some (i, len)) {r : Option Value} (hs : aj_step aj_rc aj_cls tb mm.2.2.2.2.2.1 mm.2.2.1 mm.2.2.2.1 (aj_isI mm) i len pc lv st h = some (.inr (.inr r))) (hT : ak_Ty T s h) (hP : Φ s r h) (hR : ak_gR s con.2.2.1 r) : cw_W T Φ tb d mm con s h kc ks pc lv st := by
  refine ⟨[], r, h, ?_, by rw [List.append_nil]; exact hT, by rw [List.append_nil]; exact hP, ak_Ev_rf, by rw [List.append_nil]; exact hR⟩
  exact aj_te hct hd hs
theorem cw_We {k0 : Int} {gh : Nat → Int} {v0 : Option Value} {ct : List (Nat × Instr × Nat)} (hct : aj_ctOK ct mm.2.1) {kc ks pc len : Nat} {lv : aj_V} {st : List Value} {i : Instr} (hd : aj_ct ct pc = some (i, len)) {r : Option Value} (hs : aj_step aj_rc aj_cls tb mm.2.2.2.2.2.1 mm.2.2.1 mm.2.2.2.1 (aj_isI mm) i len pc lv st h = some (.inr (.inr r))) (hT : ak_Ty T s h) (hP : Φ s r h) (hR : ak_gR s con.2.2.1 r) (_ : ak_post kap tb con k0 gh v0 r h) : cw_W T Φ tb d mm con s h kc ks pc lv st := cw_Wr hct hd hs hT hP hR
theorem cw_mono {Φ' : List Nat → Option Value → aj_H → Prop} {as : List Value} (hq : ∀ s r h, Φ s r h → Φ' s r h) (k : cw_K T Φ tb d con as s h) : cw_K T Φ' tb d con as s h := by
  obtain ⟨u, r, h', k1, k2, k3, k4, k5⟩ := k
  exact ⟨u, r, h', k1, k2, hq _ _ _ k3, k4, k5⟩
theorem cw_Wmono {Φ' : List Nat → Option Value → aj_H → Prop} {kc ks : Nat} (hq : ∀ s r h, Φ s r h → Φ' s r h) (k : cw_W T Φ tb d mm con s h kc ks pc lv st) : cw_W T Φ' tb d mm con s h kc ks pc lv st := by
  obtain ⟨u, r, h', k1, k2, k3, k4, k5⟩ := k
  exact ⟨u, r, h', k1, k2, hq _ _ _ k3, k4, k5⟩
theorem cw_m {as : List Value} (hmi : aj_mt[con.1]? = some mm) (hl : (lg_sl as).length ≤ mm.2.2.1) (k : cw_W T Φ tb d mm con s h 0 0 0 (lv_args 0 as) []) : cw_K T Φ tb (d + 1) con as s h := by
  obtain ⟨u, r, h', k1, k2, k3, k4, k5⟩ := k
  refine ⟨u, r, h', ?_, k2, k3, k4, k5⟩
  rw [Nat.zero_add, Nat.zero_add] at k1
  exact aj_leaf hmi hl k1
/-- what a contract says -/
theorem cw_of {k : Nat} (hd : k ≤ d) (hC : ak_CT T SP kap tb k con) {as : List Value} (hT : ak_Ty T s h) (hSP : SP s h) (hA : ak_gA s con.2.1 as) (hQ : ak_gQ tb h as.head? con.2.2.2.2.1) : cw_K T (fun s' r h' => SP s' h' ∧ ak_post kap tb con (kap h) (ak_fv tb h as.head?) as.head? r h') tb d con as s h := by
  obtain ⟨u, r, h', k1, k2, k3, k4, k5, k6, -⟩ := hC d hd s h as hT hSP hA hQ
  exact ⟨u, r, h', k1, k2, ⟨k3, k6⟩, k4, k5⟩
/-- a contract from a method by hand -/
theorem cw_CT {k : Nat} (h0 : con.2.2.2.2.2 = ([], [], 0, 0, [], [], [])) (hK : ∀ d, k ≤ d → ∀ (s : List Nat) (h : aj_H) (as : List Value), ak_Ty T s h → SP s h → ak_gA s con.2.1 as → ak_gQ tb h as.head? con.2.2.2.2.1 → cw_K T (fun s' _ h' => SP s' h') tb d con as s h) : ak_CT T SP cw_kap tb k con := by
  intro d hd s h as hT hSP hA hQ
  obtain ⟨u, r, h', k1, k2, k3, k4, k5⟩ := hK d hd s h as hT hSP hA hQ
  refine ⟨u, r, h', k1, k2, k3, k4, k5, ?_, ?_⟩
  · unfold ak_post
    rw [h0]
    have q0 : ak_gQ tb h' as.head? [] := by
      intro e he
      cases he
    have d0 : ak_gD tb h' as.head? (ak_fv tb h as.head?) [] := by
      intro e he
      cases he
    exact ⟨fun _ => ⟨Int.le_refl _, q0, d0⟩, fun _ => ⟨Int.le_refl _, q0, d0⟩⟩
  · intro _
    rw [h0]
    intro e he
    cases he
theorem cw_ex_ok (htb : ak_tbOK T tb) (hc : ak_SPc T SP) (hK : ak_kpc T kap) {d : Nat} {mm : aj_M} {con : ak_Con} {k0 kp : Int} {gh : Nat → Int} {v0 : Option Value} {Φ : List Nat → Option Value → aj_H → Prop} (hf : ∀ s h r, SP s h → ak_gR s con.2.2.1 r → Φ s r h) {ct : List (Nat × Instr × Nat)} (hct : aj_ctOK ct mm.2.1) {z : Bool} (hz : z = true → ct.all (fun q => ak_no0 q.2.1) = true ∧ ∃ v, v0 = some v ∧ v.category = 1) {cs : List (Nat × ak_Con)} (hcs : ∀ q ∈ cs, ak_CT T SP kap tb d q.2) {fs : List (Nat × Nat × Option Int)} {fl : List ak_At} {pts : List ak_P2} {C : ak_C} {W : List Nat} {pos wk : Nat} (hkp : 0 ≤ kp ∧ kp ≤ 1001)
    (hnn : ak_nn old C W) (hIH : ∀ pt ∈ pts, ∀ s h lv st kc ks, ak_Ty T s h → SP s h → ak_gAS s tb h (ak_iv lv) lv st (ak_ptAS pt.1) → ak_gR2 (ak_val tb h lv gh) pt.2 → (z = true → aj_lv lv 0 = v0) → k0 + pt.1.2.2.2.2.2.2.2 ≤ kap h → ak_nn (ak_iv lv) C pt.1.2.2.2.2.1 → ak_mu (ak_iv lv) C pt.1.2.2.2.2.1 + (pt.1.2.2.2.2.2.2.1 : Int) * (1001 - kap h) + pt.1.2.2.2.2.2.1 < ak_mu old C W + (wk : Int) * (1001 - kp) + pos → cw_W T Φ tb d mm con s h kc ks pt.1.1 lv st) :
    ∀ (n : Nat) (first : Bool) (pc : Nat) (a : ak_AS) (X : ak_X) (R : List ak_E) (del eps : Int), ak_ex T aj_cls con z mm.2.2.2.2.2.1 mm.2.2.1 mm.2.2.2.1 ct cs fs fl pts C W pos wk n first pc a X R del eps = true → ∀ s h lv st kc ks, ak_Ty T s h → SP s h → ak_gAS s tb h old lv st a → ak_gX (ak_val tb h lv gh) X st → ak_gR2 (ak_val tb h lv gh) R → (z = true → aj_lv lv 0 = v0) → kp + del ≤ kap h → k0 + eps ≤ kap h → cw_W T Φ tb d mm con s h kc ks pc lv st := by
  intro n
  induction n with
  | zero => intro first pc a X R del eps h0; cases h0
  | succ n ih =>
    intro first pc a X R del eps h0 s h lv st kc ks hT hSP ha hX hR hz0 hdel heps
    unfold ak_ex at h0
    split at h0
    · obtain ⟨pt, hm, hp⟩ := List.any_eq_true.mp h0
      rw [Bool.and_eq_true, beq_iff_eq] at hp
      rw [Bool.and_eq_true] at hp
      obtain ⟨hp, hat, hfa⟩ := hp
      have ha := ak_tgA_ok htb hT ha hR
      have hfa : ak_gR2 (ak_val tb h lv gh) pt.2 := fun e he => ak_ent_ok (fun t q hq => ak_bd_ok htb hT ha hq) hR (List.all_eq_true.mp hfa e he)
      unfold ak_at at hat
      rw [Bool.and_eq_true, Bool.and_eq_true, decide_eq_true_eq] at hat
      obtain ⟨q1, q3, q2⟩ := hat
      split at q2
      · rename_i e he
        have q2 := of_decide_eq_true q2
        obtain ⟨k1, k2⟩ := ak_dec_ok ha.1 he hnn
        have hkr := hK.2 s h hT
        have k3 := ak_clk_ok (w := wk) (w' := pt.1.2.2.2.2.2.2.1) hdel hkp hkr
        rw [← hp]
        exact hIH pt hm s h lv st kc ks hT hSP (ak_le_ok ha q1) hfa hz0 (by omega) k1 (by omega)
      · cases q2
    · split at h0
      · cases h0
      · rename_i i len hd
        have hno : z = true → ak_no0 i = true := fun hzt => by
          have := (hz hzt).1
          unfold aj_ct at hd
          obtain ⟨q, g1, g2⟩ := Option.map_eq_some_iff.mp hd
          have g3 := List.all_eq_true.mp this q (List.mem_of_find?_eq_some g1)
          rw [g2] at g3
          exact g3
        have ha := ak_tg_ok htb hT ha hR hX i
        split at h0
        · rename_i succs hs
          have hc2 : ak_SPc T (fun s h' => SP s h' ∧ kap h' = kap h) := fun s h1 i e e' q1 q2 q3 => ⟨hc s h1 i e e' q1.1 q2 q3, (hK.1 s h1 i e e' q2 q3).trans q1.2⟩
          obtain ⟨pc', lv', st', h', b, k1, k2, k3, k4, k5, k6, k7⟩ := ak_st_ok (SP := fun s h' => SP s h' ∧ kap h' = kap h) (M := con.2.2.2.1) htb hT ⟨hSP, rfl⟩ hc2 aj_rc aj_cls mm.2.2.1 mm.2.2.2.1 (aj_isI mm) ha hs
          obtain ⟨b', hb', hg'⟩ := ak_frk_ok (pc := pc') (fs := fs) ⟨b, List.mem_singleton.mpr rfl, k6⟩
          obtain ⟨x1, x2⟩ := ak_l2_ok htb hT ha hX hR hs k1 k6
          refine cw_Wn hct hd k1 k5 (ih false pc' b' _ _ del eps (List.all_eq_true.mp (List.all_eq_true.mp h0 _ k2) b' hb') s h' lv' st' kc ks k3 k4.1 hg' x1 (fun e he => x2 e ((List.mem_filter.mp he).1)) (fun hzt => ?_) (by rw [k4.2]; exact hdel) (by rw [k4.2]; exact heps))
          obtain ⟨v, hv, hvc⟩ := (hz hzt).2
          rw [hv]
          exact k7 (hno hzt) v ((hz0 hzt).trans hv) hvc
        · split at h0
          · obtain ⟨con', hm, hp⟩ := List.any_eq_true.mp h0
            rw [Bool.and_eq_true] at hp
            obtain ⟨-, hp⟩ := hp
            split at hp
            · rename_i l hl
              have hk := hcs con' hm
              have fin : ∀ lo hi idx, ak_idx i = idx → ak_ac T con.2.2.2.1 mm.2.2.2.2.2.1 lo hi idx (ak_tg T i X R a) con'.2 = some l → aj_step aj_rc aj_cls tb mm.2.2.2.2.2.1 mm.2.2.1 mm.2.2.2.1 (aj_isI mm) i len pc lv st h = aj_call lo hi tb mm.2.2.2.2.2.1 pc idx lv st h → cw_W T Φ tb d mm con s h kc ks pc lv st := by
                intro lo hi idx hidx hb he
                obtain ⟨kind, mi, as, st', u, r, h1, k1, k2, k3, k4, k5, k6, k6', hst', hgr, b, hb1, hb2, hb3, hb4⟩ := ak_ac_ok (pc := pc) htb hT hSP hk ha hb
                obtain ⟨b', hb', hg'⟩ := ak_frk_ok (pc := pc + 3) (fs := fs) ⟨b.1, List.mem_singleton.mpr rfl, hb2⟩
                have hch := ak_chc_ok (gh := gh) htb hT ha k6' hb4
                refine cw_Wk hct hd (he.trans k1) k2 hT k3 k4 k6 (ih false (pc + 3) b' _ _ _ _ (List.all_eq_true.mp (List.all_eq_true.mp hp b hb1) b' hb') (s ++ u) h1 lv (r.toList ++ st') _ _ k4 k5 hg' ?_ (ak_gR_mv hch hR) hz0 (by omega) (by omega))
                unfold ak_xc
                rw [hidx]
                have hlen : con'.2.2.2.1.toList.length = r.toList.length := by
                  cases hR1 : con'.2.2.2.1 with
                  | none =>
                    rw [hR1] at hgr
                    cases r with
                    | none => rfl
                    | some v => exact hgr.elim
                  | some x =>
                    rw [hR1] at hgr
                    cases r with
                    | none => exact hgr.elim
                    | some v => rfl
                rw [hlen]
                intro j e hj
                by_cases hjl : j < r.toList.length
                · rw [List.getElem?_append_left (by simpa using hjl), List.getElem?_replicate, if_pos hjl] at hj
                  cases hj
                · rw [List.getElem?_append_right (by simpa using hjl), List.length_replicate] at hj
                  obtain ⟨y, y1, y2⟩ := ak_gX_mv hch (ak_gX_drop hX _) _ _ hj
                  refine ⟨y, ?_, y2⟩
                  rw [List.getElem?_append_right (by omega), hst']
                  exact y1
              unfold ak_aci at hl
              split at hl
              · rename_i idx
                split at hl
                · rename_i hln
                  refine fin _ _ _ rfl hl ?_
                  unfold aj_step
                  dsimp only
                  rw [if_pos hln]
                  rfl
                · cases hl
              · rename_i idx
                split at hl
                · rename_i hln
                  refine fin _ _ _ rfl hl ?_
                  unfold aj_step
                  dsimp only
                  rw [if_pos hln]
                  rfl
                · cases hl
              · rename_i idx
                split at hl
                · rename_i hln
                  refine fin _ _ _ rfl hl ?_
                  unfold aj_step
                  dsimp only
                  rw [if_pos hln.1, hln.2, if_neg (by decide)]
                  rfl
                · cases hl
              · cases hl
            · cases hp
          · rw [Bool.and_eq_true, Bool.and_eq_true] at h0
            obtain ⟨h0, h00, hrd⟩ := h0
            unfold ak_rd at hrd
            rw [Bool.and_eq_true, Bool.or_eq_true, Bool.or_eq_true] at hrd
            obtain ⟨r, k1, k2, k3, k4⟩ := ak_ar_ok (pc := pc) (lk := mm.2.2.2.2.2.1) (h := h) (lv := lv) aj_rc aj_cls mm.2.2.1 (aj_isI mm) ha.2.1 h0
            exact cw_We (kap := kap) (k0 := k0) (gh := gh) (v0 := v0) hct hd k1 hT (hf _ _ _ hSP k2) k2 (ak_rp_ok ha.2.1 ha.2.2 hz0 heps k3 k4 (fun hm => by
              rcases hrd.1 with g | g
              · rw [hm] at g
                cases g
              · exact ak_rdd_ok htb hT ha hR hz0 g) (fun hm => by
              rcases hrd.2 with g | g
              · rw [hm] at g
                cases g
              · exact ak_rdd_ok htb hT ha hR hz0 g) h00)
def cw_chk (T : ak_TT) (mm : aj_M) (ct : List (Nat × Instr × Nat)) (cs : List (Nat × ak_Con)) (fs : List (Nat × Nat × Option Int)) (fl : List ak_At) (pts sps : List ak_P2) (C : ak_C) (W0 : List Nat) (P0 n : Nat) (con : ak_Con) (pc : Nat) (a : ak_AS) (R : List ak_E) : Bool :=
  W0.all (fun w => w == 0) && (ak_ex T aj_cls con false mm.2.2.2.2.2.1 mm.2.2.1 mm.2.2.2.1 ct cs fs fl (pts ++ sps) C W0 P0 0 n true pc a [] R 0 0 && pts.all (fun pt => ak_ex T aj_cls con false mm.2.2.2.2.2.1 mm.2.2.1 mm.2.2.2.1 ct cs fs fl (pts ++ sps) C pt.1.2.2.2.2.1 pt.1.2.2.2.2.2.1 0 n true pt.1.1 (ak_ptAS pt.1) [] pt.2 0 0 && (pt.1.2.2.2.2.2.2.1 == 0)))
/-- what is wanted at the places where the hands go on -/
def cw_at (T : ak_TT) (SP : List Nat → aj_H → Prop) (Φ : List Nat → Option Value → aj_H → Prop) (tb : aj_T) (d : Nat) (mm : aj_M) (con : ak_Con) (pc : Nat) (a : ak_AS) (R : List ak_E) : Prop := ∀ s h lv st kc ks, ak_Ty T s h → SP s h → ak_gAS s tb h (ak_iv lv) lv st a → ak_gR2 (ak_val tb h lv (fun _ => 0)) R → cw_W T Φ tb d mm con s h kc ks pc lv st
theorem cw_seg (htb : ak_tbOK T tb) (hc : ak_SPc T SP) {ct : List (Nat × Instr × Nat)} (hct : aj_ctOK ct mm.2.1) {cs : List (Nat × ak_Con)} (hcs : ∀ q ∈ cs, ak_CT T SP cw_kap tb d q.2) (hf : ∀ s h r, SP s h → ak_gR s con.2.2.1 r → Φ s r h) {fs : List (Nat × Nat × Option Int)} {fl : List ak_At} {pts sps : List ak_P2} {C : ak_C} {W0 : List Nat} {P0 n pc : Nat} {a : ak_AS} {R : List ak_E} (h0 : cw_chk T mm ct cs fs fl pts sps C W0 P0 n con pc a R = true) (hS : ∀ pt ∈ sps, cw_at T SP Φ tb d mm con pt.1.1 (ak_ptAS pt.1) pt.2) : cw_at T SP Φ tb d mm con pc a R := by
  unfold cw_chk at h0
  rw [Bool.and_eq_true, Bool.and_eq_true] at h0
  obtain ⟨hW0, hent, hpts⟩ := h0
  have hzz : (false = true → ct.all (fun q => ak_no0 q.2.1) = true ∧ ∃ v, (none : Option Value) = some v ∧ v.category = 1) := fun z => by cases z
  have main : ∀ N : Nat, ∀ pt ∈ pts, ∀ s h' lv st kc ks, ak_Ty T s h' → SP s h' → ak_gAS s tb h' (ak_iv lv) lv st (ak_ptAS pt.1) → ak_gR2 (ak_val tb h' lv (fun _ => 0)) pt.2 → ak_nn (ak_iv lv) C pt.1.2.2.2.2.1 → ak_mu (ak_iv lv) C pt.1.2.2.2.2.1 + pt.1.2.2.2.2.2.1 < N → cw_W T Φ tb d mm con s h' kc ks pt.1.1 lv st := by
    intro N
    induction N with
    | zero =>
      intro pt hpt s h' lv st kc ks hT hSP ha hfa hn hlt
      have := ak_mu_nn hn
      omega
    | succ N ih =>
      intro pt hpt s h' lv st kc ks hT hSP ha hfa hn hlt
      have hp := List.all_eq_true.mp hpts pt hpt
      rw [Bool.and_eq_true] at hp
      refine cw_ex_ok (kap := cw_kap) (k0 := 0) (kp := 0) (gh := fun _ => 0) (v0 := none) (z := false) htb hc cw_hK hf hct hzz hcs ⟨Int.le_refl _, (by decide : (0 : Int) ≤ 1001)⟩ hn (fun pt' hpt' s h' lv' st kc ks hT hSP ha hfa _ _ hn' hlt' => ?_) n true pt.1.1 (ak_ptAS pt.1) [] pt.2 0 0 hp.1 s h' lv st kc ks hT hSP ha (fun j e hj => by simp at hj) hfa (fun z => by cases z) (Int.le_refl _) (Int.le_refl _)
      rcases List.mem_append.mp hpt' with q | q
      · have hp' := List.all_eq_true.mp hpts pt' q
        rw [Bool.and_eq_true, beq_iff_eq] at hp'
        rw [hp'.2] at hlt'
        exact ih pt' q s h' lv' st kc ks hT hSP ha hfa hn' (by simp only [cw_kap] at hlt'; omega)
      · exact hS pt' q s h' lv' st kc ks hT hSP ha hfa
  intro s h lv st kc ks hT hSP ha hR
  have hn0 : ak_nn (ak_iv lv) C W0 := ak_nn0 hW0
  refine cw_ex_ok (kap := cw_kap) (k0 := 0) (kp := 0) (gh := fun _ => 0) (v0 := none) (z := false) htb hc cw_hK hf hct hzz hcs ⟨Int.le_refl _, (by decide : (0 : Int) ≤ 1001)⟩ hn0 (fun pt' hpt' s h' lv' st kc ks hT hSP ha hfa _ _ hn' hlt' => ?_) n true pc a [] R 0 0 hent s h lv st kc ks hT hSP ha (fun j e hj => by simp at hj) hR (fun z => by cases z) (Int.le_refl _) (Int.le_refl _)
  rcases List.mem_append.mp hpt' with q | q
  · have hnn := ak_mu_nn hn'
    exact main (ak_mu (ak_iv lv') C pt'.1.2.2.2.2.1 + pt'.1.2.2.2.2.2.1 + 1).toNat pt' q s h' lv' st kc ks hT hSP ha hfa hn' (by omega)
  · exact hS pt' q s h' lv' st kc ks hT hSP ha hfa
/-- from a frame's first states -/
theorem cw_ent {as : List Value} (hT : ak_Ty T s h) (hA : ak_gA s con.2.1 as) : ak_gAS s tb h (ak_iv (lv_args 0 as)) (lv_args 0 as) [] (ak_La 0 con.2.1, [], []) := by
  refine ⟨?_, trivial, fun q hq => by cases hq⟩
  intro q hq
  obtain ⟨v, k1, k2, k3⟩ := ak_args_ok con.2.1 as 0 hA q hq
  exact ⟨v, k1, k2, fun z hz => by rw [k3] at hz; cases hz⟩
end CWW
