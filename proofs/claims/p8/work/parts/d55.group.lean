/-! THE REFERENCE: # of a query, one WORLD's ROWS lined up -/
section DD55
variable {P : md_P} {X X' X0 X1 X2 : fx_X} {n d k s h b R C i i' c a j : Nat} {v w y3 y4 y5 p1 p2 p3 p4 p5 z : Int32} {u : Unit} {F : Nat → List Int32} {ix : List Nat}
/-- the place looked for -/
theorem rx_266t (hg : rx_ga h s R C b F X) (h1 : p1.toInt = (s : Int)) (h2 : p2.toInt = (b : Int)) (hix : cx_ix X 143 ix) (h58 : (X.1 117 58).toInt = (ix.length : Int)) (hlt : ∀ i, i ∈ ix → i < R) (hl : ix.length < 30) (hso : md_so (ix.map F)) (hk : k < R) (h3 : y3.toInt = (k : Int)) : ∀ (d c n : Nat) (y4 : Int32), c + d = ix.length → y4.toInt = (c : Int) → (∀ (j i : Nat), j < c → ix[j]? = some i → md_lt (F i) (F k) = true) → gxF_266 p1 p2 n 40 [y3, y4] [] [] X u X' → (∃ n', F k ∈ ix.map F ∧ gxF_266 p1 p2 n' 7 [y3 + Int32.ofInt 1] [] [] X u X') ∨ (∃ (c n' : Nat) (y4 : Int32), y4.toInt = (c : Int) ∧ c ≤ ix.length ∧ (∀ (j i : Nat), c ≤ j → ix[j]? = some i → md_lt (F k) (F i) = true) ∧ (∀ (j i : Nat), j < c → ix[j]? = some i → md_lt (F i) (F k) = true) ∧ gxF_266 p1 p2 n' 109 [y3, y4, X.1 117 58] [] [] X u X') := by
  intro d
  induction d with
  | zero =>
    intro c n y4 hcd h4 hp g
    cases n with
    | zero => exact g.elim
    | succ n =>
      replace g := gxO_266_40 g
      unfold gxT_266_40 at g
      rw [if_neg (by omega), if_neg (by omega)] at g
      obtain ⟨x, e, g⟩ := g
      subst e
      exact Or.inr ⟨c, n, y4, h4, by omega, fun j i hj hji => absurd (List.getElem?_eq_some_iff.mp hji).1 (by omega), hp, g⟩
  | succ d ih =>
    intro c n y4 hcd h4 hp g
    cases n with
    | zero => exact g.elim
    | succ n =>
      replace g := gxO_266_40 g
      unfold gxT_266_40 at g
      have hcl : c < ix.length := by omega
      obtain ⟨i0, hi0⟩ : ∃ i0, ix[c]? = some i0 := ⟨ix[c], List.getElem?_eq_getElem hcl⟩
      have hi0l := hlt i0 (List.mem_of_getElem? hi0)
      have q0 := hix c i0 hi0
      rw [if_pos (by omega), fx_in h4] at g
      obtain ⟨-, w32, X31, r1, g⟩ := g
      obtain ⟨e31, b1⟩ := rx_267 hg hi0l hk h1 q0 h3 h2 h2 r1
      subst e31
      rcases fy_ifd g with ⟨e, g'⟩ | ⟨e, g'⟩ <;> replace g := g'
      · obtain ⟨x46, e46, g⟩ := g
        refine ih (c + 1) n x46 (by omega) (by rw [e46]; exact cx_in1 h4 (by omega)) (fun j i hj hji => ?_) g
        by_cases z : j = c
        · subst z
          rw [hi0] at hji
          cases hji
          rcases b1 with b1 | b1 | b1
          · omega
          · exact b1.2
          · omega
        · exact hp j i (by omega) hji
      · rw [if_pos (by omega)] at g
        obtain ⟨-, w40, X39, r2, g⟩ := g
        obtain ⟨e39, b2⟩ := rx_267 hg hi0l hk h1 q0 h3 h2 h2 r2
        subst e39
        rcases fy_ifd g with ⟨e2, g'⟩ | ⟨e2, g'⟩ <;> replace g := g'
        · obtain ⟨x44, e44, g⟩ := g
          subst e44
          refine Or.inl ⟨n, ?_, g⟩
          rcases b2 with b2 | b2 | b2
          · rw [← b2.2]; exact List.mem_map.mpr ⟨i0, List.mem_of_getElem? hi0, rfl⟩
          · omega
          · omega
        · obtain ⟨x42, e42, g⟩ := g
          subst e42
          refine Or.inr ⟨c, n, y4, h4, by omega, fun j i hj hji => ?_, hp, g⟩
          have hlast : md_lt (F k) (F i0) = true := by
            rcases b1 with y | y | y
            · have y2 := y.2
              rcases b2 with y' | y' | y'
              · omega
              · rw [y2, md_lt_irr] at y'; cases y'.2
              · rw [y2, md_lt_irr] at y'; cases y'.2
            · omega
            · exact y.2
          by_cases z : j = c
          · subst z
            rw [hi0] at hji
            cases hji
            exact hlast
          · refine md_lt_tr _ _ _ hlast ?_
            have hjl := (List.getElem?_eq_some_iff.mp hji).1
            have := List.pairwise_iff_getElem.mp hso c j (by rw [List.length_map]; exact hcl) (by rw [List.length_map]; exact hjl) (by omega)
            rw [List.getElem_map, List.getElem_map, (List.getElem?_eq_some_iff.mp hji).2, (List.getElem?_eq_some_iff.mp hi0).2] at this
            exact this
/-- room made, one place taken -/
theorem rx_266s (hl : ix.length < 30) (h58 : (X0.1 117 58).toInt = (ix.length : Int)) (h3 : y3.toInt = (k : Int)) (h4 : y4.toInt = (c : Int)) : ∀ (d e n : Nat) (y5 : Int32) (X : fx_X), c + d = e → e ≤ ix.length → y5.toInt = (e : Int) → rx_gq X0 X → X.1 117 58 = X0.1 117 58 → (∀ (j i : Nat), j < e → ix[j]? = some i → (X.1 143 j).toInt = (i : Int)) → (∀ (j i : Nat), e ≤ j → ix[j]? = some i → (X.1 143 (j + 1)).toInt = (i : Int)) → gxF_266 p1 p2 n 109 [y3, y4, y5] [] [] X u X' → ∃ (X1 : fx_X) (n' : Nat), rx_gq X0 X1 ∧ cx_ix X1 143 (ix.take c ++ k :: ix.drop c) ∧ (X1.1 117 58).toInt = ((ix.length + 1 : Nat) : Int) ∧ gxF_266 p1 p2 n' 7 [y3 + Int32.ofInt 1] [] [] X1 u X' := by
  intro d
  induction d with
  | zero =>
    intro e n y5 X hcd hel h5 hq he hlo hhi g
    cases n with
    | zero => exact g.elim
    | succ n =>
      replace g := gxO_266_109 g
      unfold gxT_266_109 at g
      rw [if_neg (by omega), fx_in h4] at g
      obtain ⟨-, X51, e51, X52, e52, x53, e53, g⟩ := g
      subst e53
      have k58 : X51.1 117 58 = X.1 117 58 := by rw [e51, fx_rIn (by decide)]
      refine ⟨X52, n, rx_gq_tr hq (rx_gq_tr (X1 := X51) (by rw [e51]; exact rx_gq_w (by omega)) (by rw [e52]; exact rx_gq_w (by omega))), fun j i hji => ?_, ?_, g⟩
      · rw [e52, fx_rIn (by decide), e51]
        rw [List.getElem?_append] at hji
        have htl : (ix.take c).length = c := by rw [List.length_take]; omega
        rw [htl] at hji
        split at hji
        · rename_i hjc
          rw [List.getElem?_take_of_lt hjc] at hji
          rw [fx_rIk (by omega)]
          exact hlo j i (by omega) hji
        · rename_i hjc
          obtain ⟨b, rfl⟩ : ∃ b, j = c + b := ⟨j - c, by omega⟩
          rw [Nat.add_sub_cancel_left] at hji
          cases b with
          | zero =>
            cases hji
            rw [Nat.add_zero, fx_rIe]; exact h3
          | succ b =>
            have hji' : (ix.drop c)[b]? = some i := hji
            rw [List.getElem?_drop] at hji'
            rw [fx_rIk (by omega)]
            exact hhi (c + b) i (by omega) hji'
      · rw [e52, fx_rIe, k58, he]
        exact cx_in1 h58 (by omega)
  | succ d ih =>
    intro e n y5 X hcd hel h5 hq he hlo hhi g
    cases n with
    | zero => exact g.elim
    | succ n =>
      replace g := gxO_266_109 g
      unfold gxT_266_109 at g
      obtain ⟨e', rfl⟩ : ∃ e', e = e' + 1 := ⟨e - 1, by omega⟩
      have hd : (y5 - Int32.ofInt 1).toInt = (e' : Int) := cx_dec h5 (by omega)
      rw [if_pos (by omega), fx_in hd, fx_in h5] at g
      obtain ⟨-, -, X59, e59, x60, e60, g⟩ := g
      refine ih e' n x60 X59 (by omega) (by omega) (by rw [e60]; exact cx_dm h5 (by omega)) (rx_gq_tr hq (by rw [e59]; exact rx_gq_w (by omega))) (by rw [e59, fx_rIn (by decide)]; exact he) (fun j i hj hji => by rw [e59, fx_rIk (by omega)]; exact hlo j i (by omega) hji) (fun j i hj hji => ?_) g
      by_cases z : j = e'
      · subst z
        rw [e59, fx_rIe]
        exact hlo j i (Nat.lt_succ_self _) hji
      · rw [e59, fx_rIk (by omega)]
        exact hhi j i (by omega) hji
/-- all ROWS -/
theorem rx_266l {val : md_V} {W : Nat} {A : List md_Row} (hA : A.length = R) (hg : rx_ga h s R C b (md_fv val W A) X0) (hB : ∀ i x, A[i]? = some x → fx_bt (X0.1 136) (32 * (30 * s + i)) b = x.2 W) (h1 : p1.toInt = (s : Int)) (h2 : p2.toInt = (b : Int)) : ∀ (d k n : Nat) (y3 : Int32) (X : fx_X) (ix : List Nat), k + d = R → y3.toInt = (k : Int) → ix.length ≤ k → rx_gq X0 X → (X.1 117 58).toInt = (ix.length : Int) → cx_ix X 143 ix → (∀ i, i ∈ ix → i < k) → ix.map (md_fv val W A) = md_line val W (A.take k) → md_so (ix.map (md_fv val W A)) → gxF_266 p1 p2 n 7 [y3] [] [] X u X' → ∃ ix', (X'.1 117 58).toInt = (ix'.length : Int) ∧ ix'.length ≤ R ∧ rx_gq X0 X' ∧ cx_ix X' 143 ix' ∧ (∀ i, i ∈ ix' → i < R) ∧ ix'.map (md_fv val W A) = md_line val W A ∧ md_so (ix'.map (md_fv val W A)) := by
  have a3 := hg.2.1
  have a5 := hg.2.2.1.2
  have ab := hg.2.2.2.2.1
  intro d
  induction d with
  | zero =>
    intro k n y3 X ix hkd h3 hlk hq h58 hix hlt hml hso g
    cases n with
    | zero => exact g.elim
    | succ n =>
      replace g := gxO_266_7 g
      unfold gxT_266_7 at g
      have hgx := rx_ga_gq hg hq
      have k1 := hgx.2.2.1.1
      rw [fx_in h1] at g
      replace g := g.2
      rw [if_neg (by omega)] at g
      have g : X' = X := g
      subst g
      rw [List.take_of_length_le (by omega)] at hml
      exact ⟨ix, h58, by omega, hq, hix, fun i hi => by have := hlt i hi; omega, hml, hso⟩
  | succ d ih =>
    intro k n y3 X ix hkd h3 hlk hq h58 hix hlt hml hso g
    cases n with
    | zero => exact g.elim
    | succ n =>
      replace g := gxO_266_7 g
      unfold gxT_266_7 at g
      have hgx := rx_ga_gq hg hq
      have k1 := hgx.2.2.1.1
      have hkR : k < R := by omega
      have hk30 : k < 30 := by omega
      rw [fx_in h1] at g
      replace g := g.2
      rw [if_pos (by omega)] at g
      obtain ⟨w9, X8, r1, w11, X10, r2, g⟩ := g
      obtain ⟨e8, v9⟩ := rx_225r h1 h3 (by omega) r1
      subst e8
      obtain ⟨e10, v11⟩ := rx_227 (a := 32 * (30 * s + k)) (b := b) v9 h2 (by omega) (by omega) r2
      subst e10
      obtain ⟨x, hx⟩ : ∃ x, A[k]? = some x := ⟨A[k], List.getElem?_eq_getElem (by omega)⟩
      have hbx := hB k x hx
      rw [rx_gb_gq hq (by omega) hk30 ab, hbx] at v11
      have htk : A.take (k + 1) = A.take k ++ [x] := by rw [List.take_succ, hx]; rfl
      have hfv : md_fv val W A k = md_vl val W x := by
        unfold md_fv
        rw [List.getD_eq_getElem?_getD, hx]; rfl
      have hlt' : ∀ i, i ∈ ix → i < k + 1 := fun i hi => Nat.lt_succ_of_lt (hlt i hi)
      have hltR : ∀ i, i ∈ ix → i < R := fun i hi => Nat.lt_trans (hlt i hi) hkR
      cases hb : x.2 W with
      | false =>
        rw [hb, if_neg (by decide)] at v11
        subst v11
        rw [if_pos (by decide)] at g
        obtain ⟨x14, e14, g⟩ := g
        exact ih (k + 1) n x14 _ ix (by omega) (by rw [e14]; exact cx_in1 h3 (by omega)) (by omega) hq h58 hix hlt' (by rw [htk, md_line_app, if_neg (by rw [hb]; decide)]; exact hml) hso g
      | true =>
        rw [hb, if_pos rfl] at v11
        subst v11
        rw [if_neg (by decide)] at g
        rcases rx_266t hgx h1 h2 hix h58 hltR (by omega) hso hkR h3 ix.length 0 n _ (by omega) rfl (fun j i hj => absurd hj (Nat.not_lt_zero j)) g with ⟨n', b1, g⟩ | ⟨c, n', y4, b1, b2, b3, b4, g⟩
        · refine ih (k + 1) n' _ _ ix (by omega) (cx_in1 h3 (by omega)) (by omega) hq h58 hix hlt' ?_ hso g
          rw [htk, md_line_app, if_pos hb, ← hml, ← hfv, md_ins_in _ hso b1]
        · obtain ⟨X2, n2, e1, e2, e3, g⟩ := rx_266s (ix := ix) (k := k) (c := c) (by omega) h58 h3 b1 (ix.length - c) ix.length n' _ _ (by omega) (Nat.le_refl _) h58 rx_gq_rf rfl (fun j i _ hji => hix j i hji) (fun j i hj hji => absurd (List.getElem?_eq_some_iff.mp hji).1 (Nat.not_lt.mpr hj)) g
          have hlen : (ix.take c ++ k :: ix.drop c).length = ix.length + 1 := by
            rw [List.length_append, List.length_take, List.length_cons, List.length_drop]; omega
          have hmap : (ix.take c ++ k :: ix.drop c).map (md_fv val W A) = (ix.take c).map (md_fv val W A) ++ md_fv val W A k :: (ix.drop c).map (md_fv val W A) := by
            rw [List.map_append, List.map_cons]
          have hspl : ix.map (md_fv val W A) = (ix.take c).map (md_fv val W A) ++ (ix.drop c).map (md_fv val W A) := by
            rw [← List.map_append, List.take_append_drop]
          have i1 : ∀ y, y ∈ (ix.take c).map (md_fv val W A) → md_lt y (md_fv val W A k) = true := fun y hy => by
            obtain ⟨i, hi, rfl⟩ := List.mem_map.mp hy
            obtain ⟨j, hj, hij⟩ := List.mem_iff_getElem.mp hi
            rw [List.length_take] at hj
            have hjc : j < c := Nat.lt_of_lt_of_le hj (Nat.min_le_left _ _)
            refine b4 j i hjc ?_
            rw [← hij, List.getElem_take]
            exact List.getElem?_eq_getElem _
          have i2 : ∀ y, y ∈ (ix.drop c).map (md_fv val W A) → md_lt (md_fv val W A k) y = true := fun y hy => by
            obtain ⟨i, hi, rfl⟩ := List.mem_map.mp hy
            obtain ⟨j, hj, hij⟩ := List.mem_iff_getElem.mp hi
            refine b3 (c + j) i (Nat.le_add_right _ _) ?_
            rw [← hij, List.getElem_drop]
            exact List.getElem?_eq_getElem _
          have hins : (ix.take c ++ k :: ix.drop c).map (md_fv val W A) = md_ins (md_fv val W A k) (ix.map (md_fv val W A)) := by
            rw [hmap, hspl, md_ins_at _ i1 i2]
          refine ih (k + 1) n2 _ X2 _ (by omega) (cx_in1 h3 (by omega)) (by rw [hlen]; exact Nat.succ_le_succ hlk) (rx_gq_tr hq e1) (by rw [hlen]; exact e3) e2 (fun i hi => ?_) ?_ ?_ g
          · rcases List.mem_append.mp hi with z | z
            · exact hlt' i (List.mem_of_mem_take z)
            · rcases List.mem_cons.mp z with z | z
              · rw [z]; exact Nat.lt_succ_self _
              · exact hlt' i (List.mem_of_mem_drop z)
          · rw [htk, md_line_app, if_pos hb, ← hml, ← hfv, hins]
          · rw [hins]
            refine md_ins_so (n := C) (hg.2.2.2.2.2 k hkR).1 _ (fun y hy => ?_) hso
            obtain ⟨i, hi, rfl⟩ := List.mem_map.mp hy
            exact (hg.2.2.2.2.2 i (hltR i hi)).1
theorem rx_266 {val : md_V} {W : Nat} {A : List md_Row} (hA : A.length = R) (hg : rx_ga h s R C b (md_fv val W A) X) (hB : ∀ i x, A[i]? = some x → fx_bt (X.1 136) (32 * (30 * s + i)) b = x.2 W) (h1 : p1.toInt = (s : Int)) (h2 : p2.toInt = (b : Int)) (g : gx_266 p1 p2 X u X') : ∃ ix', (X'.1 117 58).toInt = (ix'.length : Int) ∧ ix'.length ≤ R ∧ rx_gq X X' ∧ cx_ix X' 143 ix' ∧ (∀ i, i ∈ ix' → i < R) ∧ ix'.map (md_fv val W A) = md_line val W A ∧ md_so (ix'.map (md_fv val W A)) := by
  obtain ⟨n, g⟩ := g
  unfold gxE_266 at g
  obtain ⟨X2, e2, g⟩ := g
  exact rx_266l hA hg hB h1 h2 R 0 n _ X2 [] (by omega) rfl (Nat.le_refl _) (by rw [e2]; exact rx_gq_w (by omega)) (by rw [e2, fx_rIe]; rfl) (fun j i h => by cases h) (fun i h => by cases h) rfl List.Pairwise.nil g
end DD55
