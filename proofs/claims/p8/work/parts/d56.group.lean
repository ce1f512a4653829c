/-! THE REFERENCE: # of a query, one group reckoned -/
/-- the COLUMNS picked -/
def rx_ps (C : Nat) (ps : List Nat) (X : fx_X) : Prop := ((X.1 117 56).toInt = (ps.length : Int) ∧ ps.length < 6) ∧ (∀ (i c : Nat), ps[i]? = some c → (X.1 142 i).toInt = (c : Int)) ∧ ∀ c, c ∈ ps → c < C
section DD56
variable {P : md_P} {X X' X0 X1 X2 : fx_X} {n d k s h b R C i i' c a j fd : Nat} {v w y3 y4 y5 p1 p2 p3 p4 p5 z : Int32} {u : Unit} {F : Nat → List Int32} {ix ps : List Nat} {fo : Int} {K : List Int32}
theorem rx_ps_gq (h : rx_ps C ps X0) (hq : rx_gq X0 X) : rx_ps C ps X := by
  obtain ⟨⟨a1, a2⟩, a3, a4⟩ := h
  exact ⟨⟨by rw [hq.2 _ _ (by omega) (by omega) (by omega) (by omega) (by omega) (by omega)]; exact a1, a2⟩, fun i c hc => by rw [hq.2 _ _ (by omega) (by omega) (by omega) (by omega) (by omega) (by omega)]; exact a3 i c hc, a4⟩
theorem rx_gq_af (h : cx_af 144 X X') : rx_gq X X' := ⟨h.1, fun q k _ _ h3 _ _ _ => h.2 q k h3⟩
theorem rx_269l (hg : rx_ga h s R C b F X) (hp : rx_ps C ps X) (hi : i < R) (hi' : i' < R) (h1 : p1.toInt = (s : Int)) (h2 : p2.toInt = (i : Int)) (h3 : p3.toInt = (i' : Int)) (h4 : p4.toInt = (b : Int)) : ∀ (d c n : Nat) (y5 : Int32), c + d = ps.length → y5.toInt = (c : Int) → md_key (ps.take c) (F i) = md_key (ps.take c) (F i') → gxF_269 p1 p2 p3 p4 n 3 [y5] [] [] X v X' → X' = X ∧ v = (if md_key ps (F i) = md_key ps (F i') then Int32.ofInt 1 else Int32.ofInt 0) := by
  obtain ⟨⟨e1, e2⟩, e3, e4⟩ := hp
  intro d
  induction d with
  | zero =>
    intro c n y5 hcd hc hk g
    cases n with
    | zero => exact g.elim
    | succ n =>
      replace g := gxO_269_3 g
      unfold gxT_269_3 at g
      rw [if_neg (by omega)] at g
      rw [List.take_of_length_le (by omega)] at hk
      rw [if_pos hk]
      exact ⟨g.2, g.1⟩
  | succ d ih =>
    intro c n y5 hcd hc hk g
    cases n with
    | zero => exact g.elim
    | succ n =>
      replace g := gxO_269_3 g
      unfold gxT_269_3 at g
      have hcl : c < ps.length := by omega
      obtain ⟨q, hq⟩ : ∃ q, ps[c]? = some q := ⟨ps[c], List.getElem?_eq_getElem hcl⟩
      have hqC := e4 q (List.mem_of_getElem? hq)
      rw [if_pos (by omega), fx_in hc] at g
      obtain ⟨-, w7, X6, r1, -, w11, X10, r2, g⟩ := g
      obtain ⟨e6, q1⟩ := rx_gc hg hi hqC h1 h2 (e3 c q hq) h4 r1
      subst e6
      obtain ⟨e10, q2⟩ := rx_gc hg hi' hqC h1 h3 (e3 c q hq) h4 r2
      subst e10
      have d1 : (F i).getD q (Int32.ofInt 0) = w7 := by rw [List.getD_eq_getElem?_getD, q1]; rfl
      have d2 : (F i').getD q (Int32.ofInt 0) = w11 := by rw [List.getD_eq_getElem?_getD, q2]; rfl
      rcases fy_ifd g with ⟨e, g'⟩ | ⟨e, g'⟩ <;> replace g := g'
      · obtain ⟨x13, e13, g⟩ := g
        refine ih (c + 1) n x13 (by omega) (by rw [e13]; exact cx_in1 hc (by omega)) ?_ g
        rw [List.take_succ, hq]
        unfold md_key at hk ⊢
        rw [List.map_append, List.map_append, hk]
        show _ ++ [(F i).getD q _] = _ ++ [(F i').getD q _]
        rw [d1, d2, fx_inj e]
      · have : ¬ md_key ps (F i) = md_key ps (F i') := fun z => e (by
          have := congrArg (fun l => l[c]?) z
          unfold md_key at this
          rw [List.getElem?_map, List.getElem?_map, hq] at this
          have := Option.some.inj this
          rw [← d1, ← d2]
          exact congrArg Int32.toInt this)
        rw [if_neg this]
        exact ⟨g.2, g.1⟩
theorem rx_269 (hg : rx_ga h s R C b F X) (hp : rx_ps C ps X) (hi : i < R) (hi' : i' < R) (h1 : p1.toInt = (s : Int)) (h2 : p2.toInt = (i : Int)) (h3 : p3.toInt = (i' : Int)) (h4 : p4.toInt = (b : Int)) (g : gx_269 p1 p2 p3 p4 X v X') : X' = X ∧ v = (if md_key ps (F i) = md_key ps (F i') then Int32.ofInt 1 else Int32.ofInt 0) := by
  obtain ⟨n, g⟩ := g
  exact rx_269l hg hp hi hi' h1 h2 h3 h4 ps.length 0 n _ (by omega) rfl rfl g
/-- none alike ahead -/
theorem rx_268l (hg : rx_ga h s R C b F X) (hp : rx_ps C ps X) (hix : cx_ix X 143 ix) (hlt : ∀ i, i ∈ ix → i < R) (hl : ix.length ≤ 30) (hj : ix[j]? = some i) (h1 : p1.toInt = (s : Int)) (h2 : p2.toInt = (j : Int)) (h3 : p3.toInt = (b : Int)) : ∀ (d c n : Nat) (y4 : Int32), c + d = j → y4.toInt = (c : Int) → (∀ (l q : Nat), l < c → ix[l]? = some q → md_key ps (F q) ≠ md_key ps (F i)) → gxF_268 p1 p2 p3 n 3 [y4] [] [] X v X' → X' = X ∧ ((v.toInt ≠ 0 ∧ ∀ (l q : Nat), l < j → ix[l]? = some q → md_key ps (F q) ≠ md_key ps (F i)) ∨ (v.toInt = 0 ∧ ∃ (l q : Nat), l < j ∧ ix[l]? = some q ∧ md_key ps (F q) = md_key ps (F i))) := by
  have l1 := (List.getElem?_eq_some_iff.mp hj).1
  intro d
  induction d with
  | zero =>
    intro c n y4 hcd hc hk g
    cases n with
    | zero => exact g.elim
    | succ n =>
      replace g := gxO_268_3 g
      unfold gxT_268_3 at g
      rw [if_neg (by omega)] at g
      refine ⟨g.2, Or.inl ⟨by rw [g.1]; decide, fun l q hlj => hk l q (by omega)⟩⟩
  | succ d ih =>
    intro c n y4 hcd hc hk g
    cases n with
    | zero => exact g.elim
    | succ n =>
      replace g := gxO_268_3 g
      unfold gxT_268_3 at g
      have hcl : c < ix.length := by omega
      obtain ⟨q, hq⟩ : ∃ q, ix[c]? = some q := ⟨ix[c], List.getElem?_eq_getElem hcl⟩
      rw [if_pos (by omega), fx_in hc, fx_in h2] at g
      obtain ⟨-, -, w9, X8, r1, g⟩ := g
      obtain ⟨e8, v9⟩ := rx_269 hg hp (hlt q (List.mem_of_getElem? hq)) (hlt i (List.mem_of_getElem? hj)) h1 (hix c q hq) (hix j i hj) h3 r1
      subst e8
      by_cases z : md_key ps (F q) = md_key ps (F i)
      · rw [if_pos z] at v9
        subst v9
        rw [if_neg (by decide)] at g
        exact ⟨g.2, Or.inr ⟨by rw [g.1]; rfl, c, q, by omega, hq, z⟩⟩
      · rw [if_neg z] at v9
        subst v9
        rw [if_pos (by decide)] at g
        obtain ⟨x11, e11, g⟩ := g
        refine ih (c + 1) n x11 (by omega) (by rw [e11]; exact cx_in1 hc (by omega)) (fun l q' hl' hq' => ?_) g
        by_cases zl : l = c
        · subst zl
          rw [hq] at hq'
          cases hq'
          exact z
        · exact hk l q' (by omega) hq'
theorem rx_268 (hg : rx_ga h s R C b F X) (hp : rx_ps C ps X) (hix : cx_ix X 143 ix) (hlt : ∀ i, i ∈ ix → i < R) (hl : ix.length ≤ 30) (hj : ix[j]? = some i) (h1 : p1.toInt = (s : Int)) (h2 : p2.toInt = (j : Int)) (h3 : p3.toInt = (b : Int)) (g : gx_268 p1 p2 p3 X v X') : X' = X ∧ ((v.toInt ≠ 0 ∧ ∀ (l q : Nat), l < j → ix[l]? = some q → md_key ps (F q) ≠ md_key ps (F i)) ∨ (v.toInt = 0 ∧ ∃ (l q : Nat), l < j ∧ ix[l]? = some q ∧ md_key ps (F q) = md_key ps (F i))) := by
  obtain ⟨n, g⟩ := g
  exact rx_268l hg hp hix hlt hl hj h1 h2 h3 j 0 n _ (by omega) rfl (fun l q h => absurd h (Nat.not_lt_zero l)) g
/-- the group's value, ROW by ROW -/
theorem rx_270t (hfo : p3.toInt = fo - 10 ∧ (fo = 16 ∨ fo = 17 ∨ fo = 18 ∨ fo = 19)) (hfd : fo = 16 ∨ (p4.toInt = (fd : Int) ∧ fd < C)) (hg : rx_ga h s R C b F X) (hp : rx_ps C ps X) (hix : cx_ix X 143 ix) (h58 : (X.1 117 58).toInt = (ix.length : Int)) (hlt : ∀ i, i ∈ ix → i < R) (hl : ix.length ≤ 30) (hj : ix[j]? = some i) (h1 : p1.toInt = (s : Int)) (h2 : p2.toInt = (j : Int)) (h5 : p5.toInt = (b : Int)) : ∀ (d c n : Nat) (y6 y7 : Int32), c + d = ix.length → y7.toInt = (c : Int) → gxF_270 p1 p2 p3 p4 p5 n 81 [y6, y7] [] [] X u X' → X' = fx_wI X 144 ps.length ((md_al ps fd F (md_key ps (F i)) (ix.drop c)).foldl (md_stp fo) y6) := by
  have l1 := (List.getElem?_eq_some_iff.mp hj).1
  intro d
  induction d with
  | zero =>
    intro c n y6 y7 hcd hc g
    cases n with
    | zero => exact g.elim
    | succ n =>
      replace g := gxO_270_81 g
      unfold gxT_270_81 at g
      rw [if_neg (by omega), fx_in hp.1.1] at g
      obtain ⟨-, X30, e30, g⟩ := g
      rw [List.drop_of_length_le (by omega), g, e30]
      rfl
  | succ d ih =>
    intro c n y6 y7 hcd hc g
    cases n with
    | zero => exact g.elim
    | succ n =>
      replace g := gxO_270_81 g
      unfold gxT_270_81 at g
      have hcl : c < ix.length := by omega
      obtain ⟨q, hq⟩ : ∃ q, ix[c]? = some q := ⟨ix[c], List.getElem?_eq_getElem hcl⟩
      have hqR := hlt q (List.mem_of_getElem? hq)
      have hdr : ix.drop c = q :: ix.drop (c + 1) := by
        rw [List.drop_eq_getElem_cons hcl]
        rw [(List.getElem?_eq_some_iff.mp hq).2]
      have cont : ∀ (y6' y7' : Int32), y7' = y7 + Int32.ofInt 1 → gxF_270 p1 p2 p3 p4 p5 n 81 [y6', y7'] [] [] X u X' → (md_key ps (F q) = md_key ps (F i) → y6' = md_stp fo y6 ((F q).getD fd (Int32.ofInt 0))) → (¬ md_key ps (F q) = md_key ps (F i) → y6' = y6) → X' = fx_wI X 144 ps.length ((md_al ps fd F (md_key ps (F i)) (ix.drop c)).foldl (md_stp fo) y6) := by
        intro y6' y7' e7 g' k1 k2
        have r := ih (c + 1) n y6' y7' (by omega) (by rw [e7]; exact cx_in1 hc (by omega)) g'
        rw [r, hdr]
        unfold md_al
        rw [List.filter_cons]
        by_cases z : md_key ps (F q) = md_key ps (F i)
        · rw [if_pos (by rw [z]; exact beq_self_eq_true _), List.map_cons, List.foldl_cons, k1 z]
        · rw [if_neg (by rw [beq_iff_eq]; exact z), k2 z]
      rw [if_pos (by omega), fx_in hc, fx_in h2] at g
      obtain ⟨-, -, w36, X35, r1, g⟩ := g
      obtain ⟨e35, v36⟩ := rx_269 hg hp hqR (hlt i (List.mem_of_getElem? hj)) h1 (hix c q hq) (hix j i hj) h5 r1
      subst e35
      by_cases z : md_key ps (F q) = md_key ps (F i)
      · rw [if_pos z] at v36
        subst v36
        rw [if_neg (by decide)] at g
        by_cases f6 : fo = 16
        · rw [if_pos (by omega), if_pos (by omega)] at g
          obtain ⟨x73, e73, x75, e75, g⟩ := g
          exact cont _ _ e75 g (fun _ => by rw [e73]; unfold md_stp; rw [if_pos f6]) (fun y => absurd z y)
        · rw [if_neg (by omega)] at g
          obtain ⟨hd1, hd2⟩ := hfd.resolve_left f6
          obtain ⟨-, w44, X43, r2, g⟩ := g
          obtain ⟨e43, q44⟩ := rx_gc hg hqR hd2 h1 (hix c q hq) hd1 h5 r2
          subst e43
          have dq : (F q).getD fd (Int32.ofInt 0) = w44 := by rw [List.getD_eq_getElem?_getD, q44]; rfl
          rw [if_neg (by omega)] at g
          by_cases f9 : fo = 19
          · rw [if_pos (by omega)] at g
            obtain ⟨x67, e67, x69, e69, g⟩ := g
            exact cont _ _ e69 g (fun _ => by rw [e67, dq]; unfold md_stp; rw [if_neg f6, if_neg (by omega), if_neg (by omega)]) (fun y => absurd z y)
          · rw [if_neg (by omega)] at g
            by_cases f7 : fo = 17
            · rw [if_pos (by omega)] at g
              rcases fy_ifd g with ⟨e, g'⟩ | ⟨e, g'⟩ <;> replace g := g'
              · obtain ⟨x65, e65, g⟩ := g
                exact cont _ _ e65 g (fun _ => by rw [dq]; unfold md_stp; rw [if_neg f6, if_pos f7, if_pos e]) (fun y => absurd z y)
              · obtain ⟨x62, e62, g⟩ := g
                exact cont _ _ e62 g (fun _ => by rw [dq]; unfold md_stp; rw [if_neg f6, if_pos f7, if_neg e]) (fun y => absurd z y)
            · rw [if_neg (by omega)] at g
              have f8 : fo = 18 := by omega
              rcases fy_ifd g with ⟨e, g'⟩ | ⟨e, g'⟩ <;> replace g := g'
              · obtain ⟨x58, e58, g⟩ := g
                exact cont _ _ e58 g (fun _ => by rw [dq]; unfold md_stp; rw [if_neg f6, if_neg f7, if_pos f8, if_pos e]) (fun y => absurd z y)
              · obtain ⟨x55, e55, g⟩ := g
                exact cont _ _ e55 g (fun _ => by rw [dq]; unfold md_stp; rw [if_neg f6, if_neg f7, if_pos f8, if_neg e]) (fun y => absurd z y)
      · rw [if_neg z] at v36
        subst v36
        rw [if_pos (by decide)] at g
        obtain ⟨x38, e38, g⟩ := g
        exact cont _ _ e38 g (fun y => absurd y z) (fun _ => rfl)
theorem md_tal_st {a : Int32} {l : List Int32} : md_tal fo (a :: l) = l.foldl (md_stp fo) (if fo = 16 then Int32.ofInt 1 else a) := rfl
theorem md_al_app {l m : List Nat} : md_al ps fd F K (l ++ m) = md_al ps fd F K l ++ md_al ps fd F K m := by
  unfold md_al
  rw [List.filter_append, List.map_append]
theorem fx_0a {a : Int32} : Int32.ofInt 0 + a = a := by
  have e0 : (Int32.ofInt 0).toInt = 0 := rfl
  have l1 := Int32.toInt_lt a
  have l2 := Int32.le_toInt a
  exact fx_inj (by rw [fx_add (by omega) (by omega)]; omega)
theorem rx_270 (hfo : p3.toInt = fo - 10 ∧ (fo = 16 ∨ fo = 17 ∨ fo = 18 ∨ fo = 19)) (hfd : fo = 16 ∨ (p4.toInt = (fd : Int) ∧ fd < C)) (hg : rx_ga h s R C b F X0) (hp : rx_ps C ps X0) (hix : cx_ix X0 143 ix) (h58 : (X0.1 117 58).toInt = (ix.length : Int)) (hlt : ∀ i, i ∈ ix → i < R) (hl : ix.length ≤ 30) (hj : ix[j]? = some i) (h1 : p1.toInt = (s : Int)) (h2 : p2.toInt = (j : Int)) (h5 : p5.toInt = (b : Int)) (hf : ∀ (l q : Nat), l < j → ix[l]? = some q → md_key ps (F q) ≠ md_key ps (F i)) : ∀ (d c n : Nat) (y6 : Int32) (X : fx_X), c + d = ps.length → y6.toInt = (c : Int) → cx_af 144 X0 X → (∀ (l : Nat) (v : Int32), l < c → (md_key ps (F i))[l]? = some v → X.1 144 l = v) → gxF_270 p1 p2 p3 p4 p5 n 3 [y6] [] [] X u X' → cx_af 144 X0 X' ∧ ∀ (l : Nat) (v : Int32), (md_gv ps fo fd F ix i)[l]? = some v → X'.1 144 l = v := by
  have l1 := (List.getElem?_eq_some_iff.mp hj).1
  have hiR := hlt i (List.mem_of_getElem? hj)
  have hkl : (md_key ps (F i)).length = ps.length := by unfold md_key; rw [List.length_map]
  intro d
  induction d with
  | zero =>
    intro c n y6 X hcd hc ha hk g
    cases n with
    | zero => exact g.elim
    | succ n =>
      replace g := gxO_270_3 g
      unfold gxT_270_3 at g
      have hq := rx_gq_af ha
      have hgx := rx_ga_gq hg hq
      have hpx := rx_ps_gq hp hq
      have e143 : X.1 143 = X0.1 143 := funext fun k => ha.2 _ _ (by decide)
      have hixx : cx_ix X 143 ix := fun j i hji => by rw [e143]; exact hix j i hji
      have h58x : (X.1 117 58).toInt = (ix.length : Int) := by rw [ha.2 _ _ (by decide)]; exact h58
      have fin : ∀ (n : Nat) (y6 : Int32), md_stp fo y6 ((F i).getD fd (Int32.ofInt 0)) = (if fo = 16 then Int32.ofInt 1 else (F i).getD fd (Int32.ofInt 0)) → gxF_270 p1 p2 p3 p4 p5 n 81 [y6, p2] [] [] X u X' → cx_af 144 X0 X' ∧ ∀ (l : Nat) (v : Int32), (md_gv ps fo fd F ix i)[l]? = some v → X'.1 144 l = v := by
        intro n y6 hst g'
        have r := rx_270t hfo hfd hgx hpx hixx h58x hlt hl hj h1 h2 h5 (ix.length - j) j n y6 p2 (by omega) h2 g'
        have hdr : ix.drop j = i :: ix.drop (j + 1) := by
          rw [List.drop_eq_getElem_cons l1]
          rw [(List.getElem?_eq_some_iff.mp hj).2]
        have t0 : md_al ps fd F (md_key ps (F i)) (ix.take j) = [] := by
          unfold md_al
          rw [List.map_eq_nil_iff, List.filter_eq_nil_iff]
          intro q hq
          obtain ⟨l, hl1, hl2⟩ := List.mem_iff_getElem.mp hq
          rw [List.length_take] at hl1
          rw [beq_iff_eq]
          refine hf l q (by omega) ?_
          rw [← hl2, List.getElem_take]
          exact List.getElem?_eq_getElem _
        have t1 : md_al ps fd F (md_key ps (F i)) (ix.drop j) = (F i).getD fd (Int32.ofInt 0) :: md_al ps fd F (md_key ps (F i)) (ix.drop (j + 1)) := by
          rw [hdr]
          unfold md_al
          rw [List.filter_cons, if_pos (beq_self_eq_true _), List.map_cons]
        have t2 : md_tal fo (md_al ps fd F (md_key ps (F i)) ix) = (md_al ps fd F (md_key ps (F i)) (ix.drop j)).foldl (md_stp fo) y6 := by
          rw [show md_al ps fd F (md_key ps (F i)) ix = md_al ps fd F (md_key ps (F i)) (ix.take j ++ ix.drop j) by rw [List.take_append_drop], md_al_app, t0, List.nil_append, t1, md_tal_st, List.foldl_cons, hst]
        rw [← t2] at r
        subst r
        refine ⟨⟨ha.1, fun q k hq => by rw [fx_rIn hq]; exact ha.2 q k hq⟩, fun l v hv => ?_⟩
        unfold md_gv at hv
        rw [List.getElem?_append] at hv
        split at hv
        · rename_i hll
          rw [hkl] at hll
          rw [fx_rIk (by omega)]
          exact hk l v (by omega) hv
        · rename_i hll
          rw [hkl] at hll hv
          have hle : l = ps.length := by
            have := (List.getElem?_eq_some_iff.mp hv).1
            rw [List.length_singleton] at this
            omega
          subst hle
          rw [Nat.sub_self] at hv
          have hv : some _ = some v := hv
          rw [fx_rIe]
          exact Option.some.inj hv
      have e56 := hpx.1.1
      rw [if_neg (by omega)] at g
      by_cases f6 : fo = 16
      · rw [if_pos (by omega)] at g
        exact fin n _ (by unfold md_stp; rw [if_pos f6, if_pos f6]; rfl) g
      · rw [if_neg (by omega)] at g
        by_cases f9 : fo = 19
        · rw [if_pos (by omega)] at g
          exact fin n _ (by unfold md_stp; rw [if_neg f6, if_neg (by omega), if_neg (by omega), if_neg f6, fx_0a]) g
        · rw [if_neg (by omega), fx_in h2] at g
          obtain ⟨-, w11, X10, r1, g⟩ := g
          obtain ⟨hd1, hd2⟩ := hfd.resolve_left f6
          obtain ⟨e10, q11⟩ := rx_gc hgx hiR hd2 h1 (hixx j i hj) hd1 h5 r1
          subst e10
          have dq : (F i).getD fd (Int32.ofInt 0) = w11 := by rw [List.getD_eq_getElem?_getD, q11]; rfl
          refine fin n _ ?_ g
          rw [dq]
          unfold md_stp
          rcases hfo.2 with f | f | f | f
          · exact absurd f f6
          · rw [if_neg f6, if_pos f, ite_self, if_neg f6]
          · rw [if_neg f6, if_neg (by omega), if_pos f, ite_self, if_neg f6]
          · exact absurd f f9
  | succ d ih =>
    intro c n y6 X hcd hc ha hk g
    cases n with
    | zero => exact g.elim
    | succ n =>
      replace g := gxO_270_3 g
      unfold gxT_270_3 at g
      have hq := rx_gq_af ha
      have hgx := rx_ga_gq hg hq
      have hpx := rx_ps_gq hp hq
      have e143 : X.1 143 = X0.1 143 := funext fun k => ha.2 _ _ (by decide)
      have hixx : cx_ix X 143 ix := fun j i hji => by rw [e143]; exact hix j i hji
      have e56 := hpx.1.1
      have p6 := hpx.1.2
      have hcl : c < ps.length := by omega
      obtain ⟨q, hq⟩ : ∃ q, ps[c]? = some q := ⟨ps[c], List.getElem?_eq_getElem hcl⟩
      rw [if_pos (by omega), fx_in h2, fx_in hc] at g
      obtain ⟨-, -, w22, X21, r1, -, X24, e24, x25, e25, g⟩ := g
      obtain ⟨e21, q22⟩ := rx_gc hgx hiR (hpx.2.2 q (List.mem_of_getElem? hq)) h1 (hixx j i hj) (hpx.2.1 c q hq) h5 r1
      subst e21
      refine ih (c + 1) n x25 X24 (by omega) (by rw [e25]; exact cx_in1 hc (by omega)) ⟨by rw [e24]; exact ha.1, fun q k hq => by rw [e24, fx_rIn hq]; exact ha.2 q k hq⟩ (fun l v hl' hv => ?_) g
      by_cases z : l = c
      · subst z
        rw [e24, fx_rIe]
        unfold md_key at hv
        rw [List.getElem?_map, hq] at hv
        have hv : (F i).getD q (Int32.ofInt 0) = v := Option.some.inj hv
        rw [← hv, List.getD_eq_getElem?_getD, q22]; rfl
      · rw [e24, fx_rIk z]
        exact hk l v (by omega) hv
end DD56
