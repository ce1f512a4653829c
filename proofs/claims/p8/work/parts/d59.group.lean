/-! THE REFERENCE: # of a query, all WORLDS -/
/-- the groups of the WORLDS ahead -/
def md_Db (GW : Nat → List (List Int32)) (b b' : Nat) (x : List Int32) : Bool := decide (b' < b) && decide (x ∈ GW b')
section DD59
variable {P : md_P} {X X' X0 X1 X2 : fx_X} {n d k s h b R C M i i' c a j fd W : Nat} {v w y3 y4 y5 y6 p1 p2 p3 p4 p5 z : Int32} {u : Unit} {F : Nat → List Int32} {ix ps : List Nat} {fo : Int} {G : List (List Int32)} {D : Nat → List Int32 → Bool} {GW : Nat → List (List Int32)} {Fi Li : List (Nat × Nat)} {Ai : List Nat} {val : md_V} {A : List md_Row} {wf : Nat → Nat}
theorem rx_gi_fy (hi : rx_gi X k G D) (hf : fy Fi Li Ai X X') (hA : 131 ∉ Ai ∧ 134 ∉ Ai ∧ 135 ∉ Ai ∧ 136 ∉ Ai) (hF : ∀ q, q ∈ Fi → q.1 = 117) : rx_gi X' k G D := by
  have e : ∀ r, r ≠ 117 → r ∉ Ai → X'.1 r = X.1 r := fun r h1 h2 => fy_ra hf h2 (fun q hq z => h1 (z.symm.trans (hF q hq)))
  obtain ⟨⟨a1, a2⟩, a3, a4, a5, a6⟩ := hi
  refine ⟨⟨by rw [e 131 (by decide) hA.1]; exact a1, a2⟩, a3, a4, a5, fun i x hx => ⟨fun c v hv => ?_, fun b hb => ?_⟩⟩
  · rw [e 134 (by decide) hA.2.1, e 135 (by decide) hA.2.2.1]
    exact (a6 i x hx).1 c v hv
  · rw [e 136 (by decide) hA.2.2.2]
    exact (a6 i x hx).2 b hb
theorem rx_gi_af (hi : rx_gi X k G D) (hf : cx_af 144 X X') : rx_gi X' k G D := by
  have e : ∀ r, r ≠ 144 → X'.1 r = X.1 r := fun r h1 => funext fun j => hf.2 r j h1
  obtain ⟨⟨a1, a2⟩, a3, a4, a5, a6⟩ := hi
  refine ⟨⟨by rw [e 131 (by decide)]; exact a1, a2⟩, a3, a4, a5, fun i x hx => ⟨fun c v hv => ?_, fun b hb => ?_⟩⟩
  · rw [e 134 (by decide), e 135 (by decide)]
    exact (a6 i x hx).1 c v hv
  · rw [e 136 (by decide)]
    exact (a6 i x hx).2 b hb
theorem rx_215y (hp : p1.toInt ≠ 0) (g : gx_215 p1 p2 X v X') : v = Int32.ofInt 0 ∧ (X'.1 117 24).toInt ≠ 0 := by
  obtain ⟨X2, rfl, X3, rfl, X4, rfl, rfl, rfl⟩ := g
  exact ⟨rfl, by rw [fx_rIk (by decide), fx_rIk (by decide), fx_rIe]; exact hp⟩
theorem rx_lo_gq (h : rx_gq X X') : rx_lo 49 X X' := by
  have key : ∀ r, r ∈ [118, 120, 121, 122, 123, 124, 126, 127, 128, 129] → 118 ≤ r ∧ r < 131 := by decide
  refine ⟨fun r hr => funext fun k => h.2 r k ?_ ?_ ?_ ?_ ?_ ?_, by rw [h.1], by rw [h.1], fun r k hr hk => h.2 r k (by omega) (by omega) (by omega) (by omega) (by omega) (by omega), fun k _ => by rw [h.1], fun r k hr hk => h.2 r k (by omega) (by omega) (by omega) (by omega) (by omega) (by omega), fun k b hk hb => ?_⟩
  · have := key r hr; omega
  · have := key r hr; omega
  · have := key r hr; omega
  · have := key r hr; omega
  · have := key r hr; omega
  · have := key r hr; omega
  · unfold fx_bt
    rw [h.2 136 _ (by omega) (by omega) (by omega) (by omega) (by omega) (by omega)]
/-- one WORLD's groups -/
theorem rx_265j (hfo : p2.toInt = fo - 10 ∧ (fo = 16 ∨ fo = 17 ∨ fo = 18 ∨ fo = 19)) (hfd : fo = 16 ∨ (p3.toInt = (fd : Int) ∧ fd < C)) (hg : rx_ga h s R C b F X0) (hp : rx_ps C ps X0) (hix : cx_ix X0 143 ix) (h58 : (X0.1 117 58).toInt = (ix.length : Int)) (hlt : ∀ i, i ∈ ix → i < R) (hl : ix.length ≤ 30) (h1 : p1.toInt = (s : Int)) (h5 : y5.toInt = ((ps.length + 1 : Nat) : Int)) (h6 : y6.toInt = (b : Int)) (hGW : GW b = ix.map (md_gv ps fo fd F ix)) : ∀ (d j n : Nat) (y7 : Int32) (X : fx_X) (G : List (List Int32)), j + d = ix.length → y7.toInt = (j : Int) → rx_gq X0 X → X.1 143 = X0.1 143 → X.1 117 58 = X0.1 117 58 → rx_gi X (ps.length + 1) G (fun b' x => md_Db GW b b' x || (b' == b && decide (x ∈ (ix.take j).map (md_gv ps fo fd F ix)))) → gxF_265 p1 p2 p3 p4 n 122 [y5, y6, y7] [] [] X v X' → ((v = Int32.ofInt 0 ∧ (X'.1 117 24).toInt ≠ 0 ∧ rx_lo 49 X0 X') ∧ ∃ Z : List (List Int32), Z.Nodup ∧ Z.length = 31 ∧ ∀ x, x ∈ Z → ∃ b', b' ≤ b ∧ x ∈ GW b') ∨ ∃ (n' : Nat) (X1 : fx_X) (G' : List (List Int32)), rx_gq X0 X1 ∧ rx_gi X1 (ps.length + 1) G' (md_Db GW (b + 1)) ∧ gxF_265 p1 p2 p3 p4 n' 91 [y5, y6 + Int32.ofInt 1] [] [] X1 v X' := by
  have ab := hg.2.2.2.2.1
  have p6 := hp.1.2
  intro d
  induction d with
  | zero =>
    intro j n y7 X G hjd hj hq e143 e58 hi g
    cases n with
    | zero => exact g.elim
    | succ n =>
      replace g := gxO_265_122 g
      unfold gxT_265_122 at g
      rw [e58, if_neg (by omega)] at g
      obtain ⟨x37, e37, g⟩ := g
      subst e37
      refine Or.inr ⟨n, X, G, hq, ?_, g⟩
      have : (fun b' x => md_Db GW b b' x || (b' == b && decide (x ∈ (ix.take j).map (md_gv ps fo fd F ix)))) = md_Db GW (b + 1) := by
        rw [List.take_of_length_le (by omega), ← hGW]
        funext b' x
        unfold md_Db
        by_cases z : b' = b
        · subst z
          rw [beq_self_eq_true, decide_eq_false (Nat.lt_irrefl b'), decide_eq_true (Nat.lt_succ_self b')]
          rfl
        · rw [beq_false_of_ne z, Bool.false_and, Bool.or_false]
          by_cases y : b' < b
          · rw [decide_eq_true y, decide_eq_true (Nat.lt_succ_of_lt y)]
          · have y2 : ¬ b' < b + 1 := by omega
            rw [decide_eq_false y, decide_eq_false y2]
      rw [← this]
      exact hi
  | succ d ih =>
    intro j n y7 X G hjd hj hq e143 e58 hi g
    cases n with
    | zero => exact g.elim
    | succ n =>
      replace g := gxO_265_122 g
      unfold gxT_265_122 at g
      have hjl : j < ix.length := by omega
      obtain ⟨i, hji⟩ : ∃ i, ix[j]? = some i := ⟨ix[j], List.getElem?_eq_getElem hjl⟩
      have hgx := rx_ga_gq hg hq
      have hpx := rx_ps_gq hp hq
      have hixx : cx_ix X 143 ix := fun j i hji => by rw [e143]; exact hix j i hji
      have htk : ix.take (j + 1) = ix.take j ++ [i] := by rw [List.take_succ, hji]; rfl
      rw [e58, if_pos (by omega)] at g
      obtain ⟨w40, X39, r1, g⟩ := g
      obtain ⟨e39, s1⟩ := rx_268 hgx hpx hixx hlt hl hji h1 hj h6 r1
      subst e39
      rcases fy_ifd g with ⟨e, g'⟩ | ⟨e, g'⟩ <;> replace g := g'
      · obtain ⟨x42, e42, g⟩ := g
        rcases s1 with s1 | ⟨-, l, q, t1, t2, t3⟩
        · exact absurd e s1.1
        refine ih (j + 1) n x42 _ G (by omega) (by rw [e42]; exact cx_in1 hj (by omega)) hq e143 e58 ?_ g
        have : (fun b' x => md_Db GW b b' x || (b' == b && decide (x ∈ (ix.take (j + 1)).map (md_gv ps fo fd F ix)))) = (fun b' x => md_Db GW b b' x || (b' == b && decide (x ∈ (ix.take j).map (md_gv ps fo fd F ix)))) := by
          funext b' x
          have : x ∈ (ix.take (j + 1)).map (md_gv ps fo fd F ix) ↔ x ∈ (ix.take j).map (md_gv ps fo fd F ix) := by
            rw [htk, List.map_append, List.mem_append]
            constructor
            · rintro (z | z)
              · exact z
              · rw [List.mem_singleton.mp z]
                have := md_gv_key (fo := fo) (k := fd) (ix := ix) t3
                rw [← this]
                refine List.mem_map.mpr ⟨q, List.mem_iff_getElem?.mpr ⟨l, ?_⟩, rfl⟩
                rw [List.getElem?_take_of_lt t1]
                exact t2
            · exact Or.inl
          rw [decide_eq_decide.mpr this]
        rw [this]
        exact hi
      · rcases s1 with ⟨-, t⟩ | s1
        · obtain ⟨w45, X44, r2, w47, X46, r3, g⟩ := g
          obtain ⟨n2, r2⟩ := r2
          obtain ⟨u1, u2⟩ := rx_270 (X0 := X39) hfo hfd hgx hpx hixx (by rw [e58]; exact h58) hlt hl hji h1 hj h6 t ps.length 0 n2 _ X39 (by omega) rfl ⟨rfl, fun _ _ _ => rfl⟩ (fun l v hl => absurd hl (Nat.not_lt_zero l)) r2
          have hi4 := rx_gi_af hi u1
          rcases rx_271 (k := ps.length + 1) md_gv_len (by omega) h5 h6 ab u2 hi4 r3 with ⟨a1, a2, a3, a4⟩ | ⟨a1, a2, G', a3⟩
          · subst a1
            rw [if_pos (by decide)] at g
            obtain ⟨w52, X51, r4, e1, e2⟩ := g
            subst e1
            subst e2
            have hy := rx_215y (by decide) r4
            refine Or.inl ⟨⟨hy.1, hy.2, rx_lo_tr (rx_lo_gq (rx_gq_tr hq (by rw [a4]; exact rx_gq_af u1))) (rx_lo_fy (gf_215 r4) (by decide) (by decide))⟩, md_gv ps fo fd F ix i :: G, List.nodup_cons.mpr ⟨a3, ?_⟩, by rw [List.length_cons, a2], fun x hx => ?_⟩
            · refine hi4.2.1.imp (fun {a b} hab => md_lt_ne hab)
            · rcases List.mem_cons.mp hx with e | e
              · refine ⟨b, Nat.le_refl _, ?_⟩
                rw [e, hGW]
                exact List.mem_map.mpr ⟨i, List.mem_of_getElem? hji, rfl⟩
              · obtain ⟨b', hb1, hb2⟩ := (hi4.2.2.2.1 x).mp e
                rw [Bool.or_eq_true, Bool.and_eq_true, beq_iff_eq, decide_eq_true_eq] at hb2
                rcases hb2 with hb2 | ⟨hb2, hb3⟩
                · unfold md_Db at hb2
                  rw [Bool.and_eq_true, decide_eq_true_eq, decide_eq_true_eq] at hb2
                  exact ⟨b', by omega, hb2.2⟩
                · refine ⟨b, Nat.le_refl _, ?_⟩
                  rw [hGW]
                  obtain ⟨q, hq1, hq2⟩ := List.mem_map.mp hb3
                  exact List.mem_map.mpr ⟨q, List.mem_of_mem_take hq1, hq2⟩
          · subst a1
            rw [if_neg (by decide)] at g
            obtain ⟨x49, e49, g⟩ := g
            refine ih (j + 1) n x49 X46 G' (by omega) (by rw [e49]; exact cx_in1 hj (by omega)) (rx_gq_tr hq (rx_gq_tr (rx_gq_af u1) (rx_g9_q a2))) ?_ ?_ ?_ g
            · rw [← e143]
              funext k
              rw [a2.2 143 k (by omega) (by omega) (by omega), u1.2 143 k (by decide)]
            · rw [← e58, a2.2 117 58 (by omega) (by omega) (by omega), u1.2 117 58 (by decide)]
            · have : (fun b' x => md_Db GW b b' x || (b' == b && decide (x ∈ (ix.take (j + 1)).map (md_gv ps fo fd F ix)))) = (fun b' x => (md_Db GW b b' x || (b' == b && decide (x ∈ (ix.take j).map (md_gv ps fo fd F ix)))) || (b' == b && x == md_gv ps fo fd F ix i)) := by
                funext b' x
                have : decide (x ∈ (ix.take (j + 1)).map (md_gv ps fo fd F ix)) = (decide (x ∈ (ix.take j).map (md_gv ps fo fd F ix)) || x == md_gv ps fo fd F ix i) := by
                  rw [htk, List.map_append, Bool.eq_iff_iff, Bool.or_eq_true, decide_eq_true_eq, decide_eq_true_eq, beq_iff_eq, List.mem_append]
                  show _ ∨ x ∈ [md_gv ps fo fd F ix i] ↔ _
                  rw [List.mem_singleton]
                rw [this, Bool.or_assoc, ← Bool.and_or_distrib_left]
              rw [this]
              exact a3
        · exact absurd s1.1 e
/-- all WORLDS -/
theorem rx_265b (hst : (X0.1 117 32).toInt ≠ 0) (hh : (X0.1 117 37).toInt = (h : Int) ∧ h ≤ 1) (hM : (X0.1 122 h).toInt = (M : Int)) (hM4 : M ≤ 1024) (hfo : p2.toInt = fo - 10 ∧ (fo = 16 ∨ fo = 17 ∨ fo = 18 ∨ fo = 19)) (hfd : fo = 16 ∨ (p3.toInt = (fd : Int) ∧ fd < C)) (hA : A.length = R) (hg : ∀ b, b < M → rx_ga h s R C b (md_fv val (wf b) A) X0 ∧ ∀ i x, A[i]? = some x → fx_bt (X0.1 136) (32 * (30 * s + i)) b = x.2 (wf b)) (hp : rx_ps C ps X0) (h1 : p1.toInt = (s : Int)) (hs : s < 48) (h5 : y5.toInt = ((ps.length + 1 : Nat) : Int)) : ∀ (d b n : Nat) (y6 : Int32) (X : fx_X) (G : List (List Int32)), b + d = M → y6.toInt = (b : Int) → rx_gq X0 X → rx_gi X (ps.length + 1) G (md_Db (fun b => md_grw ps fo fd (md_line val (wf b) A)) b) → gxF_265 p1 p2 p3 p4 n 91 [y5, y6] [] [] X v X' → ((v = Int32.ofInt 0 ∧ (X'.1 117 24).toInt ≠ 0 ∧ rx_lo 49 X0 X') ∧ ∃ Z : List (List Int32), Z.Nodup ∧ Z.length = 31 ∧ ∀ x, x ∈ Z → ∃ b', b' < M ∧ x ∈ md_grw ps fo fd (md_line val (wf b') A)) ∨ (v = Int32.ofInt 1 ∧ ∃ (X1 : fx_X) (u : Unit) (G' : List (List Int32)), rx_gq X0 X1 ∧ rx_gi X1 (ps.length + 1) G' (md_Db (fun b => md_grw ps fo fd (md_line val (wf b) A)) M) ∧ gx_251 ((Int8.ofInt 49).toInt32) p1 X1 u X') := by
  intro d
  induction d with
  | zero =>
    intro b n y6 X G hbd h6 hq hi g
    cases n with
    | zero => exact g.elim
    | succ n =>
      replace g := gxO_265_91 g
      unfold gxT_265_91 at g
      have k1 : X.1 117 32 = X0.1 117 32 := hq.2 _ _ (by omega) (by omega) (by omega) (by omega) (by omega) (by omega)
      have k2 : X.1 117 37 = X0.1 117 37 := hq.2 _ _ (by omega) (by omega) (by omega) (by omega) (by omega) (by omega)
      have k3 : X.1 122 h = X0.1 122 h := hq.2 _ _ (by omega) (by omega) (by omega) (by omega) (by omega) (by omega)
      rw [if_neg (by rw [k1]; exact hst), k2, fx_in hh.1, k3, if_neg (by omega)] at g
      obtain ⟨-, w32, X31, r1, e1, e2⟩ := g
      subst e2
      have e : b = M := by omega
      subst e
      exact Or.inr ⟨e1, X, w32, G, hq, hi, r1⟩
  | succ d ih =>
    intro b n y6 X G hbd h6 hq hi g
    cases n with
    | zero => exact g.elim
    | succ n =>
      replace g := gxO_265_91 g
      unfold gxT_265_91 at g
      have k1 : X.1 117 32 = X0.1 117 32 := hq.2 _ _ (by omega) (by omega) (by omega) (by omega) (by omega) (by omega)
      have k2 : X.1 117 37 = X0.1 117 37 := hq.2 _ _ (by omega) (by omega) (by omega) (by omega) (by omega) (by omega)
      have k3 : X.1 122 h = X0.1 122 h := hq.2 _ _ (by omega) (by omega) (by omega) (by omega) (by omega) (by omega)
      have hbM : b < M := by omega
      rw [if_neg (by rw [k1]; exact hst), k2, fx_in hh.1, k3, if_pos (by omega)] at g
      obtain ⟨-, w34, X33, r1, g⟩ := g
      obtain ⟨hgb, hBb⟩ := hg b hbM
      have hR30 := hgb.2.2.1.2
      obtain ⟨ix, a1, a2, a3, a4, a5, a6, a7⟩ := rx_266 hA (rx_ga_gq hgb hq) (fun i x hx => by
        have := (List.getElem?_eq_some_iff.mp hx).1
        rw [rx_gb_gq hq (by omega) (by omega) (by omega)]
        exact hBb i x hx) h1 h6 r1
      have hi2 := rx_gi_fy hi (gf_266 r1) (by decide) (by decide)
      have hq2 := rx_gq_tr hq a3
      have h0 : (fun b' x => md_Db (fun b => md_grw ps fo fd (md_line val (wf b) A)) b b' x || (b' == b && decide (x ∈ (ix.take 0).map (md_gv ps fo fd (md_fv val (wf b) A) ix)))) = md_Db (fun b => md_grw ps fo fd (md_line val (wf b) A)) b := by
        funext b' x
        rw [List.take_zero, List.map_nil, decide_eq_false List.not_mem_nil, Bool.and_false, Bool.or_false]
      rcases rx_265j (GW := fun b => md_grw ps fo fd (md_line val (wf b) A)) hfo hfd (rx_ga_gq hgb hq2) (rx_ps_gq hp hq2) a4 a1 a5 (by omega) h1 h5 h6 (by show md_grw ps fo fd (md_line val (wf b) A) = _; rw [← a6, md_grw_ix]) ix.length 0 n _ X33 G (by omega) rfl rx_gq_rf rfl rfl (by rw [h0]; exact hi2) g with ⟨z1, Z, z2, z3, z4⟩ | ⟨n', X1, G', z1, z2, g⟩
      · exact Or.inl ⟨⟨z1.1, z1.2.1, rx_lo_tr (rx_lo_gq hq2) z1.2.2⟩, Z, z2, z3, fun x hx => by
          obtain ⟨b', b1, b2⟩ := z4 x hx
          exact ⟨b', by omega, b2⟩⟩
      · exact ih (b + 1) n' _ X1 G' (by omega) (cx_in1 h6 (by omega)) (rx_gq_tr hq2 z1) z2 g
end DD59
