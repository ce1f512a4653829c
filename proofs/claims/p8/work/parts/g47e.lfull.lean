/-! THE SECOND LAYER: all of a step -/
def ak_wr (i : Instr) : Bool := match i with
  | .istore_n _ | .istore _ | .lstore_n _ | .lstore _ | .astore_n _ | .astore _ | .iinc _ _ | .putfield _ => true
  | _ => false
section AKLF
variable {T : ak_TT} {SP : List Nat → aj_H → Prop} {M : ak_Mo} {s : List Nat} {tb : aj_T} {h h' : aj_H} {old : Nat → Int} {lv lv' : aj_V} {st st' : List Value} {a a' : ak_AS} {v w : Value} {pc pc' len : Nat} {lk : List aj_L} {gh : Nat → Int} {X : ak_X} {R : List ak_E} {i : Instr} {rc nL dc ds : Nat} {cls : List aj_C} {ret : Option FieldType} {isI : Bool} {succs : List (Nat × ak_AS)}
theorem ak_def_ok (htb : ak_tbOK T tb) (hT : ak_Ty T s h) (hni : ak_wr i = false) (ha : ak_gAS s tb h old lv st a) (hst : ak_st T cls M lk nL i len pc a = some succs) (hs : aj_step rc cls tb lk nL ret isI i len pc lv st h = some (.inl ((pc', lv', st'), h', dc, ds))) : lv' = lv ∧ ∀ r, aj_obj tb h' r = aj_obj tb h r := by
  unfold ak_st at hst
  split at hst
  · rename_i S' h1
    obtain ⟨st'', k1, k2⟩ := ak_a1_ok (pc := pc) rc cls lk nL ret isI ha.2.1 h1
    rw [k1] at hs
    cases hs
    exact ⟨rfl, fun _ => rfl⟩
  · split at hst
    · rename_i b h1
      clear hst
      unfold ak_a2 at h1
      cases i
      all_goals first
        | (cases h1; done)
        | (cases hni; done)
        | skip
      all_goals
        unfold aj_step at hs
        dsimp only at hs
        split at hs
        · exact ak_load_i hs
        · cases hs
    · split at hst
      · rename_i l h1
        obtain ⟨pc'', st'', a'', k1, k2, k3⟩ := ak_a3_ok rc cls lk nL ret isI ha h1
        rw [k1] at hs
        cases hs
        exact ⟨rfl, fun _ => rfl⟩
      · split at hst
        · rename_i b h1
          obtain ⟨st'', k1, k2⟩ := ak_a4_ok (pc := pc) htb hT rc cls nL ret isI ha h1
          rw [k1] at hs
          cases hs
          exact ⟨rfl, fun _ => rfl⟩
        · split at hst
          · rename_i b h1
            clear hst
            unfold ak_a5 at h1
            cases i
            all_goals first
              | (cases h1; done)
              | (cases hni; done)
              | skip
            case iastore | castore =>
              unfold aj_step at hs
              dsimp only at hs
              split at hs
              · exact ak_ast_i hs
              · cases hs
            case bastore =>
              unfold aj_step at hs
              dsimp only at hs
              split at hs
              · unfold aj_bst at hs
                split at hs
                · split at hs
                  · exact ak_ast_i hs
                  · exact ak_ast_i hs
                · cases hs
              · cases hs
            case lastore =>
              unfold aj_step at hs
              dsimp only at hs
              split at hs
              · exact ak_lst_i hs
              · cases hs
          · split at hst
            · rename_i b h1
              obtain ⟨st'', k1, k2⟩ := ak_a6_ok (pc := pc) rc cls nL ret isI ha h1
              rw [k1] at hs
              cases hs
              exact ⟨rfl, fun _ => rfl⟩
            · cases hst
theorem ak_obj_fld (htb : ak_tbOK T tb) {r c k : Nat} {fs : List Value} (hob : aj_obj tb h r = some (c, fs)) (r' : Nat) : aj_obj tb (h.set (r - tb.length) (.inr (c, fs.set k v))) r' = if r' = r then some (c, fs.set k v) else aj_obj tb h r' := by
  obtain ⟨q1, q2⟩ := (ak_obj_h htb).mp hob
  have hl : r - 52 < h.length := (List.getElem?_eq_some_iff.mp q2).1
  rw [htb.1]
  split
  · rename_i he
    subst he
    exact (ak_obj_h htb).mpr ⟨q1, by rw [List.getElem?_set_self hl]⟩
  · rename_i he
    unfold aj_obj
    rw [htb.1]
    split
    · rfl
    · rename_i h52
      rw [List.getElem?_set_ne (by omega)]
theorem ak_chp_ok (htb : ak_tbOK T tb) {idx : Nat} {v : Value} {r c : Nat} {rest fs : List Value} (hst : st = v :: .ref r :: rest) (hob : aj_obj tb h r = some (c, fs)) (hk : ak_fld lk idx < fs.length) (ha : ak_gAS s tb h old lv st a) (hX : ak_gX (ak_val tb h lv gh) X st) : ak_chOK (ak_chp a X (ak_fld lk idx)) (ak_val tb h lv gh) (ak_val tb (h.set (r - tb.length) (.inr (c, fs.set (ak_fld lk idx) v))) lv gh) := by
  intro t q hq
  unfold ak_chp at hq
  have ho := fun r' => ak_obj_fld (v := v) (k := ak_fld lk idx) htb hob r'
  split at hq
  · rename_i h1
    split at hq
    · rename_i hrc
      obtain ⟨z, z1, rfl⟩ := Option.map_eq_some_iff.mp hq
      -- the receiver
      have hlv : aj_lv lv t.2.1 = some (.ref r) := by
        unfold ak_recv at hrc
        split at hrc
        · rename_i e1 p2 x2 S hS
          have hS2 := ha.2.1
          rw [hS, hst] at hS2
          exact ak_loc_ok hS2.2.2.2.1 _ hrc
        · cases hrc
      unfold ak_sh at z1
      split at z1
      · rename_i e Y
        split at z1
        · rename_i he
          cases z1
          obtain ⟨y, y1, y2⟩ := hX 0 e rfl
          rw [hst] at y1
          cases y1
          have e1 : ak_val tb h lv gh t = ak_fv tb h (some (.ref r)) (ak_fld lk idx) := by
            unfold ak_val
            rw [if_neg (by rw [h1.1]; decide), if_pos h1.1, hlv, h1.2]
          have e2 : ak_val tb (h.set (r - tb.length) (.inr (c, fs.set (ak_fld lk idx) (.int y)))) lv gh t = y.toInt := by
            unfold ak_val
            rw [if_neg (by rw [h1.1]; decide), if_pos h1.1, hlv, h1.2]
            exact ak_fv_of (by rw [ho r, if_pos rfl]) (by rw [List.getElem?_set_self hk])
          have e3 : ak_evE (ak_val tb h lv gh) e = ak_val tb h lv gh t + e.2 := by
            unfold ak_evE
            rw [he]
            show (1 * ak_val tb h lv gh (1, t.2.1, ak_fld lk idx) + 0) + e.2 = _
            have : ((1, t.2.1, ak_fld lk idx) : ak_At) = t := by
              rw [← h1.2, ← h1.1]
            rw [this]
            omega
          rw [e2, y2, e3]
          dsimp only
          omega
        · cases z1
      · cases z1
    · cases hq
  · rename_i h1
    refine ak_ch_eq ?_ hq
    unfold ak_val
    split
    · rfl
    · split
      · rename_i g0 g1
        have hne : t.2.2 ≠ ak_fld lk idx := fun z => h1 ⟨g1, z⟩
        unfold ak_fv
        split
        · rename_i r' hr'
          by_cases he : r' = r
          · rw [ho r', if_pos he]
            subst he
            rw [hob]
            dsimp only
            rw [List.getElem?_set_ne (Ne.symm hne)]
          · rw [ho r', if_neg he]
        · rfl
      · rfl
theorem ak_chg_ok (htb : ak_tbOK T tb) (hT : ak_Ty T s h) (ha : ak_gAS s tb h old lv st a) (hX : ak_gX (ak_val tb h lv gh) X st) (hst : ak_st T cls M lk nL i len pc a = some succs) (hs : aj_step rc cls tb lk nL ret isI i len pc lv st h = some (.inl ((pc', lv', st'), h', dc, ds))) : ak_chOK (ak_chg lk i a X) (ak_val tb h lv gh) (ak_val tb h' lv' gh) := by
  by_cases hw : ak_wr i = false
  · obtain ⟨k1, k2⟩ := ak_def_ok htb hT hw ha hst hs
    have e : ak_chg lk i a X = ak_ch0 := by
      unfold ak_chg
      unfold ak_wr at hw
      cases i <;> first | rfl | cases hw
    rw [e]
    exact ak_ch0_ok k1 k2
  · cases i
    all_goals first
      | exact absurd rfl hw
      | skip
    case istore_n | istore =>
      unfold aj_step at hs
      dsimp only at hs
      split at hs
      · obtain ⟨v, r, rfl, rfl, rfl⟩ := ak_store_i (by decide) hs
        exact ak_ch1_ok ha _
      · cases hs
    case astore_n | astore =>
      unfold aj_step at hs
      dsimp only at hs
      split at hs
      · obtain ⟨v, r, rfl, rfl, rfl⟩ := ak_store_i (by decide) hs
        exact ak_ch1_ok ha _
      · cases hs
    case lstore_n | lstore =>
      unfold aj_step at hs
      dsimp only at hs
      split at hs
      · obtain ⟨v, r, rfl, rfl, rfl⟩ := ak_store_l hs
        exact ak_ch2_ok ha _
      · cases hs
    case iinc k n =>
      unfold aj_step at hs
      dsimp only at hs
      split at hs
      · rename_i x hx
        split at hs
        · obtain ⟨-, rfl, rfl, -⟩ := ak_go_i hs
          exact ak_chi_ok ha hx
        · cases hs
      · cases hs
    case putfield idx =>
      unfold aj_step at hs
      dsimp only at hs
      split at hs
      · obtain ⟨rfl, v, r, rest, c, fs, rfl, hob, hk, rfl⟩ := ak_putf_i hs
        exact ak_chp_ok htb rfl hob hk ha hX
      · cases hs
theorem ak_nf_ok (htb : ak_tbOK T tb) (ha : ak_gAS s tb h old lv st a) (hX : ak_gX (ak_val tb h lv gh) X st) (hch : ak_chOK (ak_chg lk i a X) (ak_val tb h lv gh) (ak_val tb h' lv' gh)) (hs : aj_step rc cls tb lk nL ret isI i len pc lv st h = some (.inl ((pc', lv', st'), h', dc, ds))) : ak_gR2 (ak_val tb h' lv' gh) (ak_nf lk i pc pc' a X) := by
  have hx0 : ∀ {f : ak_E} {ch : ak_Ch}, ak_chOK ch (ak_val tb h lv gh) (ak_val tb h' lv' gh) → (ak_x0 X).bind (ak_mvX ch) = some f → ∃ y : Int32, st[0]? = some (.int y) ∧ y.toInt = ak_evE (ak_val tb h' lv' gh) f := by
    intro f ch hc hf
    cases X with
    | nil => cases hf
    | cons o Y =>
      cases o with
      | none => cases hf
      | some e =>
        obtain ⟨y, y1, y2⟩ := hX 0 e rfl
        exact ⟨y, y1, by rw [ak_mvX_ok hc hf]; exact y2⟩
  cases i
  case istore_n k =>
    refine ak_eqs_ok fun f hf => ?_
    obtain ⟨y, y1, y2⟩ := hx0 hch hf
    unfold aj_step at hs
    dsimp only at hs
    split at hs
    · obtain ⟨v, r, rfl, rfl, rfl⟩ := ak_store_i (by decide) hs
      cases y1
      rw [← y2]
      unfold ak_val
      rw [if_pos rfl]
      unfold ak_iv
      rw [ak_set1_eq]
    · cases hs
  case istore k =>
    refine ak_eqs_ok fun f hf => ?_
    obtain ⟨y, y1, y2⟩ := hx0 hch hf
    unfold aj_step at hs
    dsimp only at hs
    split at hs
    · obtain ⟨v, r, rfl, rfl, rfl⟩ := ak_store_i (by decide) hs
      cases y1
      rw [← y2]
      unfold ak_val
      rw [if_pos rfl]
      unfold ak_iv
      rw [ak_set1_eq]
    · cases hs
  case putfield idx =>
    unfold ak_nf
    dsimp only
    split
    · rename_i j hj
      split
      · intro e he; cases he
      · refine ak_eqs_ok fun f hf => ?_
        obtain ⟨y, y1, y2⟩ := hx0 hch hf
        unfold aj_step at hs
        dsimp only at hs
        split at hs
        · obtain ⟨rfl, v, r, rest, c, fs, rfl, hob, hk, rfl⟩ := ak_putf_i hs
          cases y1
          rw [← y2]
          have hlv : aj_lv lv' j = some (.ref r) := by
            unfold ak_recv at hj
            split at hj
            · rename_i e1 p2 x2 S hS
              have hS2 := ha.2.1
              rw [hS] at hS2
              exact ak_loc_ok hS2.2.2.2.1 _ hj
            · cases hj
          unfold ak_val
          rw [if_neg (by decide : ¬ (1 : Nat) = 0), if_pos rfl, hlv]
          exact ak_fv_of (by rw [ak_obj_fld htb hob, if_pos rfl]) (by rw [List.getElem?_set_self hk])
        · cases hs
    · intro e he; cases he
  case if_icmp c off =>
    unfold ak_nf
    dsimp only
    split
    · rename_i e2 e1 Y
      unfold aj_step at hs
      dsimp only at hs
      split at hs
      · split at hs
        · obtain ⟨rfl, hb⟩ := ak_pp_br hs
          obtain ⟨y2, k1, k2⟩ := hX 0 e2 rfl
          obtain ⟨y1, k3, k4⟩ := hX 1 e1 rfl
          cases k1
          cases k3
          have hv : ak_val tb h' lv' gh = ak_val tb h lv gh := by
            unfold aj_br at hs
            split at hs
            · split at hs
              · obtain ⟨-, rfl, rfl, -⟩ := ak_go_i hs
                rfl
              · obtain ⟨-, rfl, rfl, -⟩ := ak_go_i hs
                rfl
            · cases hs
          rw [hv]
          exact ak_brf_ok k4 k2 hb
        · cases hs
      · cases hs
    · intro e he; cases he
  case ifCond c off =>
    unfold ak_nf
    dsimp only
    split
    · rename_i e1 Y
      unfold aj_step at hs
      dsimp only at hs
      split at hs
      · split at hs
        · obtain ⟨rfl, hb⟩ := ak_pp_br hs
          obtain ⟨y1, k3, k4⟩ := hX 0 e1 rfl
          cases k3
          have hv : ak_val tb h' lv' gh = ak_val tb h lv gh := by
            unfold aj_br at hs
            split at hs
            · split at hs
              · obtain ⟨-, rfl, rfl, -⟩ := ak_go_i hs
                rfl
              · obtain ⟨-, rfl, rfl, -⟩ := ak_go_i hs
                rfl
            · cases hs
          rw [hv]
          exact ak_brf_ok k4 (show (0 : Int32).toInt = ak_evE _ (([], 0) : ak_E) by rw [Int32.toInt_zero]; rfl) hb
        · cases hs
      · cases hs
    · intro e he; cases he
  all_goals (intro e he; cases he)
theorem ak_hd_ok (ha : ak_gAS s tb h old lv st a) {e : ak_E} (h0 : ak_hd a = some e) : ∃ y : Int32, st[0]? = some (.int y) ∧ y.toInt = ak_evE (ak_val tb h lv gh) e := by
  unfold ak_hd at h0
  have hS := ha.2.1
  have one : ∀ t : ak_At, ak_evE (ak_val tb h lv gh) (([(t, 1)], 0) : ak_E) = ak_val tb h lv gh t := by
    intro t
    unfold ak_evE
    simp [ak_ev]
  split at h0
  · rename_i q j S hS1
    cases h0
    rw [hS1] at hS
    obtain ⟨v, st', rfl, g1, g2, -⟩ := ak_gS_c hS
    obtain ⟨y, rfl, -⟩ := ak_gi g1
    refine ⟨y, rfl, ?_⟩
    rw [one]
    unfold ak_val
    rw [if_pos rfl]
    unfold ak_iv
    have g2 : aj_lv lv j = some (.int y) := g2
    rw [g2]
  · rename_i q jk S hS1
    cases h0
    rw [hS1] at hS
    obtain ⟨v, st', rfl, g1, g2, -⟩ := ak_gS_c hS
    obtain ⟨y, rfl, -⟩ := ak_gi g1
    refine ⟨y, rfl, ?_⟩
    rw [one]
    unfold ak_val
    rw [if_neg (by decide : ¬ (1 : Nat) = 0), if_pos rfl]
    obtain ⟨r, c, fs, m1, m2, m3⟩ := g2
    rw [m1]
    exact (ak_fv_of m2 m3).symm
  · cases h0
theorem ak_l2_ok (htb : ak_tbOK T tb) (hT : ak_Ty T s h) (ha : ak_gAS s tb h old lv st a) (hX : ak_gX (ak_val tb h lv gh) X st) (hR : ak_gR2 (ak_val tb h lv gh) R) (hst : ak_st T cls M lk nL i len pc a = some succs) (hs : aj_step rc cls tb lk nL ret isI i len pc lv st h = some (.inl ((pc', lv', st'), h', dc, ds))) (ha' : ak_gAS s tb h' old lv' st' a') : ak_gX (ak_val tb h' lv' gh) (ak_xn lk i a a' X) st' ∧ ak_gR2 (ak_val tb h' lv' gh) (ak_rn lk i pc pc' a X R) := by
  have hch := ak_chg_ok htb hT ha hX hst hs
  refine ⟨?_, fun e he => ?_⟩
  · have gen : ak_gX (ak_val tb h' lv' gh) (match ak_pp i with
      | some (p, q + 1) => (match ak_top i a X with
        | some e => some e
        | none => ak_hd a') :: (List.replicate q none ++ X.drop p)
      | some (p, 0) => (X.drop p).map (fun o => o.bind (ak_mvX (ak_chg lk i a X)))
      | none => []) st' := by
      split
      · rename_i p q hpp
        obtain ⟨new, n1, n2⟩ := ak_pp_ok hpp hs
        have hw : ak_wr i = false := by
          unfold ak_pp at hpp
          unfold ak_wr
          cases i <;> first | rfl | cases hpp
        obtain ⟨k1, k2⟩ := ak_def_ok htb hT hw ha hst hs
        have hv : ∀ t, ak_val tb h' lv' gh t = ak_val tb h lv gh t := fun t => ak_val_same (fun _ => by rw [k1]) k2
        have hve : ∀ e, ak_evE (ak_val tb h' lv' gh) e = ak_evE (ak_val tb h lv gh) e := by
          have : ak_val tb h' lv' gh = ak_val tb h lv gh := funext hv
          rw [this]
          exact fun _ => rfl
        intro j e hj
        cases j with
        | zero =>
          simp only [List.getElem?_cons_zero, Option.some.injEq] at hj
          split at hj
          · rename_i e' ht
            cases hj
            obtain ⟨y, y1, y2⟩ := ak_top_ok ha rc cls nL ret isI hX hs ht
            exact ⟨y, y1, by rw [hve]; exact y2⟩
          · exact ak_hd_ok ha' hj
        | succ j =>
          simp only [List.getElem?_cons_succ] at hj
          by_cases hjq : j < q
          · rw [List.getElem?_append_left (by simpa using hjq), List.getElem?_replicate, if_pos hjq] at hj
            cases hj
          · rw [List.getElem?_append_right (by simpa using hjq), List.length_replicate, List.getElem?_drop] at hj
            obtain ⟨y, y1, y2⟩ := hX _ _ hj
            refine ⟨y, ?_, by rw [hve]; exact y2⟩
            rw [n2, List.getElem?_append_right (by omega), List.getElem?_drop, n1]
            rw [← y1]
            congr 1
            omega
      · rename_i p hpp
        obtain ⟨new, n1, n2⟩ := ak_pp_ok hpp hs
        have hn : new = [] := List.length_eq_zero_iff.mp n1
        subst hn
        rw [n2]
        exact ak_gX_mv hch (ak_gX_drop hX p)
      · intro j e hj
        simp at hj
    unfold ak_xn
    split
    · rename_i o Y
      unfold aj_step at hs
      dsimp only at hs
      split at hs
      · split at hs
        · obtain ⟨rfl, rfl, rfl, -⟩ := ak_go_i hs
          intro j e hj
          cases j with
          | zero => exact hX 0 e hj
          | succ j => exact hX j e hj
        · cases hs
      · cases hs
    · exact gen
  · rcases List.mem_append.mp he with he | he
    · exact ak_nf_ok htb ha hX hch hs e he
    · exact ak_gR_mv hch hR e he
end AKLF
