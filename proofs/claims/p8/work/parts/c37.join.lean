/-! THE CLASS'S WORKER: * , all pairs -/
section CX37
variable {X X' X0 X1 : fx_X} {v p p0 p1 p2 p3 p4 p5 p6 : Int32} {u : Unit} {sr r r' rs W n n' i j c w m wd wd' k : Nat} {ts us : List md_Tm} {val : md_V} {A B S : List md_Row}
theorem md_nw_n : ∀ (us : List md_Tm) (m : Nat), (md_nw n m us).length = md_ncn n m us.length
  | [], _ => rfl
  | b :: us, m => by
    have ih := md_nw_n us (m / 8)
    show ((if m % 8 < n then [] else [b]) ++ md_nw n (m / 8) us).length = (if m % 8 < n then 0 else 1) + md_ncn n (m / 8) us.length
    rw [List.length_append, ih]
    split <;> rfl
/-- where m / 8 ^ k stands -/
theorem cx_119 (hw : (X.1 r 3).toInt = (wd : Int)) (h6 : wd ≤ 6) (h1 : p1.toInt = (n : Int)) (h2 : p2.toInt = (m : Int)) (g : gx_119 r p1 p2 X v X') : X = X' ∧ v.toInt = (md_ncn n m wd : Int) := by
  obtain ⟨q, g⟩ := g
  have key : ∀ (d k q : Nat) (y3 y4 : Int32) (s : Nat), k + d = wd → y4.toInt = (k : Int) → y3.toInt = (s : Int) → s ≤ k → gxF_119 r p1 p2 q 5 [y3, y4] [] [] X v X' → X = X' ∧ v.toInt = ((s + md_ncn n (m / 8 ^ k) d : Nat) : Int) := by
    intro d
    induction d with
    | zero =>
      intro k q y3 y4 s hkd hk hs hsk g
      cases q with
      | zero => exact g.elim
      | succ q =>
        replace g := gxO_119_5 g
        unfold gxT_119_5 at g
        rw [if_neg (by omega)] at g
        exact ⟨g.2.symm, by rw [g.1, hs]; rfl⟩
    | succ d ih =>
      intro k q y3 y4 s hkd hk hs hsk g
      cases q with
      | zero => exact g.elim
      | succ q =>
        replace g := gxO_119_5 g
        unfold gxT_119_5 at g
        rw [if_pos (by omega)] at g
        have hd := fx_dig h2 hk (by omega)
        have e : md_ncn n (m / 8 ^ k) (d + 1) = (if m / 8 ^ k % 8 < n then 0 else 1) + md_ncn n (m / 8 ^ (k + 1)) d := by
          rw [← md_div8]; rfl
        rw [e]
        by_cases hlt : m / 8 ^ k % 8 < n
        · rw [if_pos (by omega)] at g
          obtain ⟨x6, rfl, x8, rfl, g⟩ := g
          have e0 : (Int32.ofInt 0).toInt = 0 := rfl
          obtain ⟨a1, a2⟩ := ih (k + 1) q _ _ s (by omega) (cx_inc hk (by omega)) (by rw [fx_add (by rw [hs, e0]; omega) (by rw [hs, e0]; omega), hs, e0]; omega) (by omega) g
          exact ⟨a1, by rw [a2, if_pos hlt, Nat.zero_add]⟩
        · rw [if_neg (by omega)] at g
          obtain ⟨x10, rfl, x12, rfl, g⟩ := g
          obtain ⟨a1, a2⟩ := ih (k + 1) q _ _ (s + 1) (by omega) (cx_inc hk (by omega)) (cx_inc hs (by omega)) (by omega) g
          exact ⟨a1, by rw [a2, if_neg hlt]; omega⟩
  have := key wd 0 q _ _ 0 (by omega) rfl rfl (Nat.le_refl _) g
  rw [Nat.pow_zero, Nat.div_one, Nat.zero_add] at this
  exact this
/-- a pair joined -/
def md_pr (val : md_V) (m : Nat) (x s : md_Row) : md_Row := (x.1 ++ md_nw x.1.length m s.1, fun w => x.2 w && s.2 w && md_mt val w x.1 m s.1)
/-- what scratch has so far -/
def cx_Sc (X : fx_X) (rs W : Nat) (S : List md_Row) : Prop := cx_Rr X rs W S ∧ ∀ w l, w < W → l < 32 → S.length ≤ l → fx_ib (X.1 (rs + 3) w) l = false
/-- a row of the left with all of the right -/
theorem cx_115m (hs : sr = 54 ∨ sr = 66) (hrs : rs = 102 ∨ 150 ≤ rs) (hap : rs + 4 ≤ r' ∨ r' + 4 ≤ rs) (hap1 : rs + 4 ≤ r ∨ r + 4 ≤ rs) (hA : md_okA n wd A) (hB : md_okA n wd' B) (hall : wd + md_ncn wd m wd' ≤ 6) {x : md_Row} (hx : A[i]? = some x) {y4 y5 : Int32} (h4 : y4.toInt = (m : Int)) (h5 : y5.toInt = (i : Int)) : ∀ (d k q : Nat) (y6 : Int32) (X : fx_X) (S : List md_Row), k + d = B.length → S.length + d ≤ 30 → (∀ z, z ∈ S → z.1.length ≤ 6) → y6.toInt = (k : Int) → cx_ce X sr W n val → X.2.2.1 95 7 = some sr → X.2.2.1 95 5 = some rs → (X.1 sr 13).toInt = (W : Int) → (X.1 r 3).toInt = (wd : Int) → (X.1 r' 3).toInt = (wd' : Int) → cx_Rr X r W A → cx_Rr X r' W B → cx_Sc X rs W S → gxF_115 r r' p3 q 56 [y4, y5, y6] [] [] X u X' → ∃ (X1 : fx_X) (q' : Nat), cx_rf rs X X1 ∧ X1.1 rs 3 = X.1 rs 3 ∧ cx_Sc X1 rs W (S ++ (B.drop k).map (md_pr val m x)) ∧ gxF_115 r r' p3 q' 44 [y4, y5 + Int32.ofInt 1] [] [] X1 u X' := by
  intro d
  induction d with
  | zero =>
    intro k q y6 X S hkd h30 hS6 hk hce h7 hsc h13 hw1 hw2 hRA hRB hSc g
    cases q with
    | zero => exact g.elim
    | succ q =>
      replace g := gxO_115_56 g
      unfold gxT_115_56 at g
      rw [if_neg (by have := hRB.1; omega)] at g
      obtain ⟨x24, rfl, g⟩ := g
      rw [List.drop_of_length_le (by omega)]
      exact ⟨X, q, cx_rf_rf, rfl, by rw [List.map_nil, List.append_nil]; exact hSc, g⟩
  | succ d ih =>
    intro k q y6 X S hkd h30 hS6 hk hce h7 hsc h13 hw1 hw2 hRA hRB hSc g
    cases q with
    | zero => exact g.elim
    | succ q =>
      replace g := gxO_115_56 g
      unfold gxT_115_56 at g
      rw [if_pos (by have := hRB.1; omega)] at g
      obtain ⟨s, hsx⟩ : ∃ s, B[k]? = some s := ⟨B[k]'(by omega), List.getElem?_eq_getElem (by omega)⟩
      obtain ⟨w27, X26, r1, x28, rfl, g⟩ := g
      obtain ⟨o1, o2⟩ := hA.2 x (List.mem_of_getElem? hx)
      obtain ⟨o3, o4⟩ := hB.2 s (List.mem_of_getElem? hsx)
      have hiA := (List.getElem?_eq_some_iff.mp hx).1
      have hA30 := hA.1
      have hB30 := hB.1
      obtain ⟨b1, b2, b3, b4, b5, b6, b7⟩ := cx_118 (i := S.length) (j := k) (k := i) (m := m) hs hrs hap hap1 hce h7 hsc h13 (hRA.2 i x hx).1 (hRB.2 k s hsx).1 (hRA.2 i x hx).2 (hRB.2 k s hsx).2 o1 o3 (by rw [o2]; exact hw1) (by rw [o4]; exact hw2) (by omega) (by omega) (by omega) h5 hk h4 hSc.1.1 (fun w hw => hSc.2 w S.length hw (by omega) (Nat.le_refl _)) (by rw [md_nw_n, o2, o4]; exact hall) r1
      have hpl : (md_pr val m x s).1.length ≤ 6 := by
        show (x.1 ++ md_nw x.1.length m s.1).length ≤ 6
        rw [List.length_append, md_nw_n, o2, o4]; exact hall
      have hSc1 : cx_Sc X26 rs W (S ++ [md_pr val m x s]) := by
        refine ⟨⟨by rw [b2, List.length_append]; rfl, fun l z hz => ?_⟩, fun w l hw hl hlen => ?_⟩
        · rw [List.getElem?_append] at hz
          split at hz
          · rename_i hl
            obtain ⟨e1, e2⟩ := hSc.1.2 l z hz
            exact ⟨b6 l z.1 (by omega) (hS6 z (List.mem_of_getElem? hz)) e1, fun w hw => by rw [b7 w l hw (by omega) (by omega)]; exact e2 w hw⟩
          · have e1 : l = S.length := by
              have := (List.getElem?_eq_some_iff.mp hz).1
              have : l - S.length < 1 := this
              omega
            subst e1
            rw [Nat.sub_self] at hz
            cases hz
            exact ⟨b4, b5⟩
        · rw [List.length_append] at hlen
          have hlen' : S.length + 1 ≤ l := hlen
          rw [b7 w l hw hl (by omega)]
          exact hSc.2 w l hw hl (by omega)
      obtain ⟨X1, q', c1, c2, c3, c4⟩ := ih (k + 1) q _ X26 (S ++ [md_pr val m x s]) (by omega) (by rw [List.length_append]; show S.length + 1 + d ≤ 30; omega) (fun z hz => by
        rcases List.mem_append.mp hz with y | y
        · exact hS6 z y
        · simp at y; rw [y]; exact hpl) (cx_inc hk (by omega)) (cx_ce_rf hce b1 hs hrs) (by rw [b1.1]; exact h7) (by rw [b1.1]; exact hsc) (by rw [b1.2 _ _ (by omega)]; exact h13) (by rw [b1.2 _ _ (by omega)]; exact hw1) (by rw [b1.2 _ _ (by omega)]; exact hw2) (cx_Rr_rf hRA b1 (by omega)) (cx_Rr_rf hRB b1 (by omega)) hSc1 g
      refine ⟨X1, q', cx_rf_tr b1 c1, c2.trans b3, ?_, c4⟩
      rw [md_drop hsx, List.map_cons, List.append_cons]
      exact c3
/-- all of them -/
theorem cx_115l (hs : sr = 54 ∨ sr = 66) (hrs : rs = 102 ∨ 150 ≤ rs) (hap : rs + 4 ≤ r' ∨ r' + 4 ≤ rs) (hap1 : rs + 4 ≤ r ∨ r + 4 ≤ rs) (hA : md_okA n wd A) (hB : md_okA n wd' B) (hall : wd + md_ncn wd m wd' ≤ 6) (h30 : A.length * B.length ≤ 30) {y4 : Int32} (h4 : y4.toInt = (m : Int)) : ∀ (d k q : Nat) (y5 : Int32) (X : fx_X), k + d = A.length → y5.toInt = (k : Int) → cx_ce X sr W n val → X.2.2.1 95 7 = some sr → X.2.2.1 95 5 = some rs → (X.1 sr 13).toInt = (W : Int) → (X.1 r 3).toInt = (wd : Int) → (X.1 r' 3).toInt = (wd' : Int) → cx_Rr X r W A → cx_Rr X r' W B → cx_Sc X rs W ((A.take k).flatMap (fun x => B.map (md_pr val m x))) → gxF_115 r r' p3 q 44 [y4, y5] [] [] X u X' → ∃ X1 : fx_X, cx_rf rs X X1 ∧ cx_Sc X1 rs W (md_jn val m A B) ∧ ∃ (w18 : Int32) (X17 : fx_X), gx_119 r' (X1.1 r 3) y4 X1 w18 X17 ∧ ∃ X19 : fx_X, X19 = fx_wI X17 rs 3 (X1.1 r 3 + w18) ∧ ∃ (w21 : Unit) (X20 : fx_X), gx_120 X19 w21 X20 ∧ X' = X20 := by
  have hjl : ∀ A' : List md_Row, (A'.flatMap (fun x => B.map (md_pr val m x))).length = A'.length * B.length := by
    intro A'
    induction A' with
    | nil => show 0 = 0 * B.length; omega
    | cons a A' ih => rw [List.flatMap_cons, List.length_append, List.length_map, ih, List.length_cons, Nat.succ_mul]; omega
  intro d
  induction d with
  | zero =>
    intro k q y5 X hkd hk hce h7 hsc h13 hw1 hw2 hRA hRB hSc g
    cases q with
    | zero => exact g.elim
    | succ q =>
      replace g := gxO_115_44 g
      unfold gxT_115_44 at g
      rw [if_neg (by have := hRA.1; omega)] at g
      obtain ⟨b16, eb, w18, X17, r1, X19, e19, w21, X20, r2, e20⟩ := g
      rw [hsc] at eb
      cases eb
      rw [List.take_of_length_le (by omega)] at hSc
      exact ⟨X, cx_rf_rf, hSc, w18, X17, r1, X19, e19, w21, X20, r2, e20⟩
  | succ d ih =>
    intro k q y5 X hkd hk hce h7 hsc h13 hw1 hw2 hRA hRB hSc g
    cases q with
    | zero => exact g.elim
    | succ q =>
      replace g := gxO_115_44 g
      unfold gxT_115_44 at g
      have hA30 := hA.1
      rw [if_pos (by have := hRA.1; omega)] at g
      obtain ⟨x, hx⟩ : ∃ x, A[k]? = some x := ⟨A[k]'(by omega), List.getElem?_eq_getElem (by omega)⟩
      have e4 : A.take (k + 1) = A.take k ++ [x] := by rw [List.take_add_one, hx]; rfl
      have hlen : (A.take k).length = k := by rw [List.length_take]; omega
      have hS30 : ((A.take k).flatMap (fun x => B.map (md_pr val m x))).length + B.length ≤ 30 := by
        rw [hjl, hlen]
        have : (k + 1) * B.length ≤ A.length * B.length := Nat.mul_le_mul_right _ (by omega)
        rw [Nat.succ_mul] at this
        omega
      obtain ⟨X1, q', c1, c2, c3, c4⟩ := cx_115m hs hrs hap hap1 hA hB hall hx h4 hk B.length 0 q _ X _ (by omega) hS30 (fun z hz => by
        obtain ⟨a, ha, hz⟩ := List.mem_flatMap.mp hz
        obtain ⟨b, hb, rfl⟩ := List.mem_map.mp hz
        show (a.1 ++ md_nw a.1.length m b.1).length ≤ 6
        rw [List.length_append, md_nw_n, (hA.2 a (List.mem_of_mem_take ha)).2, (hB.2 b hb).2]; exact hall) rfl hce h7 hsc h13 hw1 hw2 hRA hRB hSc g
      obtain ⟨X2, d1, d2, d3⟩ := ih (k + 1) q' _ X1 (by omega) (cx_inc hk (by omega)) (cx_ce_rf hce c1 hs hrs) (by rw [c1.1]; exact h7) (by rw [c1.1]; exact hsc) (by rw [c1.2 _ _ (by omega)]; exact h13) (by rw [c1.2 _ _ (by omega)]; exact hw1) (by rw [c1.2 _ _ (by omega)]; exact hw2) (cx_Rr_rf hRA c1 (by omega)) (cx_Rr_rf hRB c1 (by omega)) (by
        rw [e4, List.flatMap_append]
        have : [x].flatMap (fun x => B.map (md_pr val m x)) = B.map (md_pr val m x) := by
          show B.map (md_pr val m x) ++ [] = _
          rw [List.append_nil]
        rw [this]
        exact c3) c4
      exact ⟨X2, cx_rf_tr c1 d1, d2, d3⟩
theorem cx_115 (hs : sr = 54 ∨ sr = 66) (hrs : rs = 102 ∨ 150 ≤ rs) (hap : rs + 4 ≤ r' ∨ r' + 4 ≤ rs) (hap1 : rs + 4 ≤ r ∨ r + 4 ≤ rs) (hA : md_okA n wd A) (hB : md_okA n wd' B) (hwd6 : wd' ≤ 6) (hall : wd + md_ncn wd m wd' ≤ 6) (hi : i < 2500) (h3 : p3.toInt = (i : Int)) (h86 : (X.1 86 i).toInt = (m : Int)) (hce : cx_ce X sr W n val) (h7 : X.2.2.1 95 7 = some sr) (hsc : X.2.2.1 95 5 = some rs) (h13 : (X.1 sr 13).toInt = (W : Int)) (hw1 : (X.1 r 3).toInt = (wd : Int)) (hw2 : (X.1 r' 3).toInt = (wd' : Int)) (hRA : cx_Rr X r W A) (hRB : cx_Rr X r' W B) (g : gx_115 r r' p3 X u X') : (30 < A.length * B.length ∧ (X'.1 82 5).toInt ≠ 0 ∧ fy [(82, 5), (82, 6)] [] [] X X') ∨ (¬ 30 < A.length * B.length ∧ ∃ X1 : fx_X, cx_rf rs X X1 ∧ cx_Rr X1 rs W (md_jn val m A B) ∧ (X1.1 rs 3).toInt = ((wd + md_ncn wd m wd' : Nat) : Int) ∧ gx_120 X1 () X') := by
  obtain ⟨q, g⟩ := g
  have a1 := hRA.1
  have a2 := hRB.1
  have a3 := hA.1
  have a4 := hB.1
  have hm30 : A.length * B.length ≤ 900 := Nat.mul_le_mul a3 a4
  have e : (X.1 r 4 * X.1 r' 4).toInt = ((A.length * B.length : Nat) : Int) := by
    have e0 : ((A.length * B.length : Nat) : Int) = (A.length : Int) * (B.length : Int) := Int.natCast_mul _ _
    rw [fx_mul (by rw [a1, a2]; omega) (by rw [a1, a2]; omega), a1, a2, e0]
  rcases fy_ifd g with ⟨c, g⟩ | ⟨c, g⟩
  · obtain ⟨w5, X4, r1, rfl⟩ := g
    exact Or.inl ⟨by omega, cx_107n r1, gf_107 r1⟩
  · refine Or.inr ⟨by omega, ?_⟩
    obtain ⟨w5, X4, r1, b8, eb, w10, X9, r2, g⟩ := g
    obtain ⟨rfl, rfl⟩ := cx_40 h3 hi r1
    rw [hsc] at eb
    cases eb
    obtain ⟨b1, b2, b3, b4⟩ := cx_116 hw1 r2
    obtain ⟨X1, c1, c2, w18, X17, r3, X19, e19, w21, X20, r4, rfl⟩ := cx_115l hs hrs hap hap1 hA hB hall (by omega) h86 A.length 0 q _ X9 (by omega) rfl (cx_ce_rf hce b4 hs hrs) (by rw [b4.1]; exact h7) (by rw [b4.1]; exact hsc) (by rw [b4.2 _ _ (by omega)]; exact h13) (by rw [b4.2 _ _ (by omega)]; exact hw1) (by rw [b4.2 _ _ (by omega)]; exact hw2) (cx_Rr_rf hRA b4 (by omega)) (cx_Rr_rf hRB b4 (by omega)) ⟨⟨b2, fun i x hx => by cases hx⟩, fun w l hw _ _ => by rw [b3 w (by have := hce.1; omega)]; exact fx_ib_0⟩ g
    have hrf := cx_rf_tr b4 c1
    have hw1' : (X1.1 r 3).toInt = (wd : Int) := by rw [hrf.2 _ _ (by omega)]; exact hw1
    obtain ⟨rfl, e18⟩ := cx_119 (wd := wd') (by rw [hrf.2 _ _ (by omega)]; exact hw2) hwd6 hw1' h86 r3
    have hsum : (X1.1 r 3 + w18).toInt = ((wd + md_ncn wd m wd' : Nat) : Int) := by
      rw [fx_add (by rw [hw1', e18]; omega) (by rw [hw1', e18]; omega), hw1', e18]; omega
    refine ⟨X19, by rw [e19]; exact cx_rf_w hrf (by omega), ?_, by rw [e19, fx_rIe]; exact hsum, r4⟩
    rw [e19]
    exact cx_Rr_e c2.1 (by rw [fx_rIk (by decide)]) (fun k => by rw [fx_rIn (by omega)]) (fun k => by rw [fx_rIn (by omega)]) (fun k => by rw [fx_rIn (by omega)])
end CX37
