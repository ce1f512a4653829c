/-! THE CLASS'S CHECKER: notes of a Q -/
section CX21
variable {X X' X1 X2 : fx_X} {T : md_T} {v p p0 p1 p2 : Int32} {w q : Int64} {u : Unit} {sr i k d near lead : Nat} {U : md_U} {cu : Option (Int64 × List Int32)} {TB : md_TB} {rw rw' : Int × Int} {sk sk' : List (List Int64)} {pk pk' cs : List Int64} {fr fr' : Int64} {hz : Prop} {cn : Option Int} {a : Int} {F L : List (Nat × Nat)} {A : List Nat} {s s' : md_CS}
theorem cx_slot (hs : sr = 54 ∨ sr = 66) {t : Nat} (ht : t < 10) : cx_sl (sr + 8, t) := by
  rcases hs with e | e
  · exact Or.inl ⟨by show sr + 8 = 62; omega, ht⟩
  · exact Or.inr (Or.inl ⟨by show sr + 8 = 74; omega, ht⟩)
/-- + and - -/
theorem cx_58pm (hN : cx_N X i (a, near, lead)) (hA : (X.1 86 i).toInt = 0) (hC : cx_CS X sr hz (U, cu, TB, rw, sk, pk, fr)) (hm : md_ckg cn T (U, cu, TB, rw, sk, pk, fr) (a, near, lead) = md_pm U cu TB rw pk fr sk) (g : ∃ X7 : fx_X, X7 = (fx_wI X 91 5 ((X.1 91 5) - (Int32.ofInt 1))) ∧ ∃ (w9 : Int32) (X8 : fx_X), gx_68 ((X7.1 91 5) - (Int32.ofInt 1)) (X7.1 91 5) X7 w9 X8 ∧ (if (w9).toInt = 0 then (∃ (w12 : Unit) (X11 : fx_X), gx_71 (Int32.ofInt 5) p2 X8 w12 X11 ∧ X' = X11) else (X' = X8))) : cx_Po T sr hz cn (U, cu, TB, rw, sk, pk, fr) (a, near, lead) i X X' := by
  match sk, hC, hm with
  | [], _, hm => exact cx_Po_o hm
  | [_], _, hm => exact cx_Po_o hm
  | y :: x :: sk, hC, hm =>
    have hC' := hC
    obtain ⟨g0, g1, g2, g3, g4, g5, g6, g7, g8, g9⟩ := hC'
    have h20 : sk.length + 1 + 1 ≤ 20 := g0.2.2.2.2.2.1
    obtain ⟨X7, rfl, w9, X8, r1, g⟩ := g
    have e1 : (X.1 91 5 - Int32.ofInt 1).toInt = ((sk.length + 1 : Nat) : Int) := cx_dec g4.1 (by omega)
    have e2 : (X.1 91 5 - Int32.ofInt 1 - Int32.ofInt 1).toInt = (sk.length : Int) := cx_dec e1 (by omega)
    have lx : cx_l1 (fx_wI X 91 5 (X.1 91 5 - Int32.ofInt 1)) sk.length x := ⟨by rw [fx_rIn (by decide)]; exact g4.2.2.1.1, g4.2.2.1.2⟩
    have ly : cx_l1 (fx_wI X 91 5 (X.1 91 5 - Int32.ofInt 1)) (sk.length + 1) y := ⟨by rw [fx_rIn (by decide)]; exact g4.2.1.1, g4.2.1.2⟩
    rw [fx_rIe] at r1
    obtain ⟨e3, r⟩ := cx_68 lx (by omega) (g0.2.1 x (List.mem_cons_of_mem _ List.mem_cons_self)).2 e2 ly (by omega) e1 r1
    subst e3
    rcases r with ⟨e4, e5⟩ | ⟨e4, e5⟩
    · rw [if_neg (by omega)] at g
      subst g
      have hm' := hm.trans (if_pos e4)
      unfold cx_Po
      rw [hm']
      refine ⟨by rw [fx_rIn (by decide)], ?_, by rw [fx_rIn (by decide)]; exact hA, fun j hj => by rw [fx_rIn (by decide)]⟩
      have hl : ∀ sk : List (List Int64), cx_lv X sk → cx_lv (fx_wI X 91 5 (X.1 91 5 - Int32.ofInt 1)) sk := by
        intro sk
        induction sk with
        | nil => exact fun _ => True.intro
        | cons cs sk ih => exact fun h => ⟨⟨by rw [fx_rIn (by decide)]; exact h.1.1, h.1.2⟩, ih h.2⟩
      exact cx_as hC (fy_f fy_rf (by decide : (91, 5) ∈ [(91, 5)]) : fy [(91, 5)] [] [] X _) (by decide) (by decide) (by decide) (md_gd_sk g0 (fun z hz => g0.2.1 z (List.mem_cons_of_mem _ hz)) (by show sk.length + 1 ≤ 20; omega) g0.2.2.1) (by rw [fx_rIe]; exact e1) (hl _ g4.2.2) ⟨by rw [fx_rIk (by decide)]; exact g5.1, g5.2⟩ g6
    · rw [if_pos (by omega)] at g
      obtain ⟨w12, X11, r2, rfl⟩ := g
      refine cx_Po_n (by rw [hm]; exact if_neg e4) (cx_71n (by decide) r2)
theorem cx_58 (hT : cx_Tk X T) (hN : cx_N X i (a, near, lead)) (hp1 : p1.toInt = a) (hp2 : p2.toInt = (i : Int)) (hA : (X.1 86 i).toInt = 0) (ha : 210 ≤ a) (hC : cx_CS X sr hz (U, cu, TB, rw, sk, pk, fr)) (g : gx_58 p1 p2 X u X') : cx_Po T sr hz cn (U, cu, TB, rw, sk, pk, fr) (a, near, lead) i X X' := by
  have hC' := hC
  obtain ⟨g0, g1, g2, g3, g4, g5, g6, g7, g8, g9⟩ := hC'
  have hpk6 : pk.length ≤ 6 := g0.2.2.1.2
  unfold gx_58 at g
  rw [hp1] at g
  rcases fy_ifd g with ⟨c, g⟩ | ⟨c210, g⟩
  · -- load
    subst c
    obtain ⟨w5, X4, ⟨n, g⟩, rfl⟩ := g
    obtain ⟨b, eb, w7, X6, r1, w9, X8, r2, b12, eb2, w14, X13, r3, g⟩ := g
    rw [g8] at eb
    cases eb
    obtain ⟨rfl, rfl⟩ := cx_60 hT hN hp2 r1
    obtain ⟨rfl, e1⟩ := cx_62 g3 g0.2.2.2.2.1 r2
    rw [g8] at eb2
    cases eb2
    dsimp only at e1
    obtain ⟨rfl, r⟩ := cx_63 g3 g0.2.2.2.2.1 r3
    rcases g with ⟨e2, w17, X16, r4, rfl⟩ | ⟨r0, e2, w21, X20, r4, w23, X22, r5, g⟩
    · refine cx_Po_n (by
        rw [md_k210]
        rcases r with ⟨r, -⟩ | ⟨r, -⟩ | ⟨t, x, r', -, -, z, -⟩
        · exact if_pos (by omega)
        · exfalso
          have : ¬ md_ix (T.2 near) (TB.map (·.1)) 0 < 0 := by omega
          obtain ⟨i', z1, z2, -⟩ := md_ix_at this
          have := (List.getElem?_eq_some_iff.mp z2).1
          rw [List.length_map] at this
          dsimp only at r
          omega
        · rw [e2] at z; cases z) (cx_64n (by decide) r4)
    · rcases r with ⟨-, z⟩ | ⟨-, z⟩ | ⟨t, x, r', h1, h2, h3, h4, h5⟩
      · rw [e2] at z; cases z
      · rw [e2] at z; cases z
      · rw [e2] at h3
        cases h3
        dsimp only at h2
        have ht : t < TB.length := (List.getElem?_eq_some_iff.mp h2).1
        have ht10 : TB.length ≤ 10 := g0.2.2.2.2.1
        have h6 : x.2.2.length ≤ 6 := (g0.1 x (List.mem_of_getElem? h2)).2
        have e41 := cx_41 hp2 hN.1 r4
        have hr0 := (g7.2.1 (sr + 8, t) r0 (cx_slot g9 (by omega)) h4).1
        have hm : md_ckg cn T (U, cu, TB, rw, sk, pk, fr) (210, near, lead) = if 20 ≤ sk.length then none else md_k ((U, cu, TB, rw, x.2.2 :: sk, pk, fr), w9.toInt) := by
          rw [md_k210, if_neg (by omega), e1.symm, h1]
          show (match TB[t]? with
            | none => none
            | some (_, _, cs) => if 20 ≤ sk.length then none else md_k ((U, cu, TB, rw, cs :: sk, pk, fr), (t : Int))) = _
          rw [h2]
        by_cases h20 : 20 ≤ sk.length
        · exact cx_Po_o (by rw [hm, if_pos h20])
        · rw [if_neg h20] at hm
          have d0 : (X20.1 91 5).toInt = (sk.length : Int) := by rw [e41, fx_rIn (by decide)]; exact g4.1
          obtain ⟨q1, q2⟩ := cx_65 (by omega) d0 r5
          have f5 := gf_65 r5
          obtain ⟨t1, t2, t3, t4⟩ := cx_59l (sr := sr) (x := x) (t := t) (by omega) h6 g9 (by omega) h1 hr0 n 0 _ X22 rfl (Nat.zero_le _) (by rw [f5.1, e41]; exact g8) (fun c n hc => by
            rw [fy_rl f5 (by simp; omega) (by simp), e41]
            obtain ⟨_, _, _, _, _, _, z⟩ := g3.2 t x h2
            exact z c n hc) (by rw [fy_ra f5 (by simp; omega) (by simp), e41, fx_rIn (by omega)]; exact h5) (by rw [f5.2.2 91 5 (by decide) (by decide)]; exact d0) q1 g
          have hf : fy [(91, 5)] [] [86, 92, 93] X X' := by
            refine fy_tr (fy_tr ?_ (fy_sub f5 (by decide) (by decide) (by decide))) (fy_sub t4 (by decide) (by decide) (by decide))
            rw [e41]
            exact fy_a fy_rf (by decide)
          have hlo : cx_lo X X' sk.length := by
            refine cx_lo_tr (cx_lo_tr (X1 := X20) ?_ q2) t2
            rw [e41]
            exact fun j hj => ⟨by rw [fx_rIn (by decide)], fun c hc => rfl⟩
          unfold cx_Po
          rw [hm]
          have f86 : X'.1 86 = X20.1 86 := by rw [fy_ra t4 (by decide) (by decide), fy_ra f5 (by decide) (by decide)]
          refine ⟨hf.2.2 82 5 (by decide) (by decide), ?_, ?_, fun j hj => ?_⟩
          · refine cx_as hC hf (by decide) (by decide) (by decide) (md_gd_ck g0 hm) ?_ ⟨t1, cx_lv_lo hlo (fun y hy => (g0.2.1 y hy).2) (Nat.le_refl _) g4.2⟩ (cx_pk_fy g5 hf (by decide) (by decide) (by decide) (by decide)) (by rw [hf.2.1 91 8 (by decide) (by decide)]; exact g6)
            rw [t3]; rfl
          · rw [f86, e41, fx_rIe]
          · rw [f86, e41, fx_rIk hj]
  rcases fy_ifd g with ⟨c, g⟩ | ⟨c211, g⟩
  · subst c
    exact cx_58pm hN hA hC md_k211 g
  rcases fy_ifd g with ⟨c, g⟩ | ⟨c212, g⟩
  · subst c
    exact cx_58pm hN hA hC md_k212 g
  rcases fy_ifd g with ⟨c, g⟩ | ⟨c213, g⟩
  · -- join
    subst c
    match sk, hC, g0, g4 with
    | [], _, _, _ => exact cx_Po_o md_k213
    | [_], _, _, _ => exact cx_Po_o md_k213
    | y :: x :: sk, hC, g0, g4 =>
      have h20 : sk.length + 1 + 1 ≤ 20 := g0.2.2.2.2.2.1
      obtain ⟨X7, rfl, w23, X22, ⟨n, r⟩, rfl⟩ := g
      obtain ⟨x2, rfl, x4, rfl, w7, X6, r1, g⟩ := r
      have hx6 := (g0.2.1 x (List.mem_cons_of_mem _ List.mem_cons_self)).2
      have hy6 := (g0.2.1 y List.mem_cons_self).2
      have e1 : (X.1 91 5 - Int32.ofInt 1).toInt = ((sk.length + 1 : Nat) : Int) := cx_dec g4.1 (by omega)
      have e2 : (X.1 91 5 - Int32.ofInt 1 - Int32.ofInt 1).toInt = (sk.length : Int) := cx_dec e1 (by omega)
      obtain ⟨Y, hY⟩ : ∃ Y, Y = fx_wI X 91 5 (X.1 91 5 - Int32.ofInt 1) := ⟨_, rfl⟩
      have y5 : Y.1 91 5 = X.1 91 5 - Int32.ofInt 1 := by rw [hY, fx_rIe]
      rw [← hY] at r1 g
      rw [y5] at r1 g
      have lx : cx_l1 Y sk.length x := by rw [hY]; exact ⟨by rw [fx_rIn (by decide)]; exact g4.2.2.1.1, g4.2.2.1.2⟩
      have ly : cx_l1 Y (sk.length + 1) y := by rw [hY]; exact ⟨by rw [fx_rIn (by decide)]; exact g4.2.1.1, g4.2.1.2⟩
      obtain ⟨rfl, e3⟩ := cx_69 lx (by omega) e2 r1
      have hfr : fy [(82, 5), (82, 6)] [] [86, 92, 93] Y X' := fy_sub (gfl_73 _ _ _ _ _ _ _ _ _ g) (by decide) (by decide) (by decide)
      have hf : fy [(82, 5), (82, 6), (91, 5)] [] [86, 92, 93] X X' := by
        refine fy_tr ?_ (fy_sub hfr (by decide) (by decide) (by decide))
        rw [hY]
        exact fy_f fy_rf (by decide)
      have hres := cx_73a (i := i) hx6 hy6 (by omega) hN.1 hp2 e2 e1 lx ly n 0 w7 (Int32.ofInt 0) (Int32.ofInt 0) rfl (Nat.zero_le _) (by rw [e3]; rfl) rfl g
      rcases hres with ⟨h1, h2⟩ | ⟨h1, h2, h3, h4, h5, h6, h7⟩
      · exact cx_Po_n (by rw [md_k213]; exact if_pos h1) h2
      · have hm : md_ckg cn T (U, cu, TB, rw, y :: x :: sk, pk, fr) (213, near, lead) = md_k ((U, cu, TB, rw, (x ++ md_new x y) :: sk, pk, fr), (md_map x y 0 : Int)) := by
          rw [md_k213]; exact if_neg h1
        unfold cx_Po
        rw [hm]
        have hlo : cx_lo X X' sk.length := by
          refine cx_lo_tr (X1 := Y) ?_ h3
          rw [hY]
          exact fun j hj => ⟨by rw [fx_rIn (by decide)], fun c hc => rfl⟩
        refine ⟨by rw [h6, hY, fx_rIn (by decide)], ?_, h4, fun j hj => by rw [h5 j hj, hY, fx_rIn (by decide)]⟩
        exact cx_as hC hf (by decide) (by decide) (by decide) (md_gd_ck g0 hm) (by rw [h7, y5]; exact e1) ⟨h2, cx_lv_lo hlo (fun z hz => (g0.2.1 z (List.mem_cons_of_mem _ (List.mem_cons_of_mem _ hz))).2) (Nat.le_refl _) g4.2.2.2⟩ (cx_pk_fy g5 hf (by decide) (by decide) (by decide) (by decide)) (by rw [hf.2.1 91 8 (by decide) (by decide)]; exact g6)
  rcases fy_ifd g with ⟨c, g⟩ | ⟨c215, g⟩
  · subst c
    obtain ⟨X25, rfl, rfl⟩ := g
    unfold cx_Po
    rw [md_k215]
    have hf : fy [(91, 7)] [] [] X (fx_wI X 91 7 (Int32.ofInt 0)) := fy_f fy_rf (by decide)
    have hl : ∀ sk : List (List Int64), cx_lv X sk → cx_lv (fx_wI X 91 7 (Int32.ofInt 0)) sk := by
      intro sk
      induction sk with
      | nil => exact fun _ => True.intro
      | cons cs sk ih => exact fun h => ⟨⟨by rw [fx_rIn (by decide)]; exact h.1.1, h.1.2⟩, ih h.2⟩
    exact ⟨by rw [fx_rIn (by decide)], cx_as hC hf (by decide) (by decide) (by decide) (md_gd_sk g0 g0.2.1 g0.2.2.2.2.2.1 md_cl_nil) (by rw [fx_rIk (by decide)]; exact g4.1) (hl _ g4.2) ⟨by rw [fx_rIe]; rfl, fun i n hn => by cases hn⟩ g6, by rw [fx_rIn (by decide)]; exact hA, fun j hj => by rw [fx_rIn (by decide)]⟩
  rcases fy_ifd g with ⟨c, g⟩ | ⟨c216, g⟩
  · -- pick
    subst c
    obtain ⟨w28, X27, ⟨w3, X2, r1, w6, X5, r2, g⟩, rfl⟩ := g
    obtain ⟨rfl, rfl⟩ := cx_60 hT hN hp2 r1
    cases sk with
    | nil => exact cx_Po_o md_k216
    | cons cs sk =>
      obtain ⟨b1, b2, b3, b4⟩ := cx_lvl hC
      obtain ⟨rfl, e⟩ := cx_74 b1 b3 b2 b4 r2
      rcases fy_ifd g with ⟨c, g⟩ | ⟨c, g⟩
      · obtain ⟨_, X29, r3, _, X32, r4, rfl⟩ := g
        refine cx_Po_n (by rw [md_k216]; exact if_pos (by omega)) (by rw [cx_41f r4]; exact cx_64n (by decide) r3)
      · obtain ⟨w10, X9, r3, g⟩ := g
        obtain ⟨rfl, r⟩ := cx_76 g5 hpk6 r3
        rcases r with ⟨m1, m2⟩ | ⟨m1, m2⟩
        · rw [if_neg (by omega)] at g
          obtain ⟨_, X24, r4, _, X27, r5, rfl⟩ := g
          refine cx_Po_n (by rw [md_k216]; exact (if_neg (by omega)).trans (if_pos m1)) (by rw [cx_41f r5]; exact cx_64n (by decide) r4)
        · rw [if_pos m2] at g
          have hpl := g5.1
          dsimp only at hpl
          by_cases h6 : 6 ≤ pk.length
          · exact cx_Po_o (by rw [md_k216]; exact (if_neg (by omega)).trans ((if_neg m1).trans (if_pos h6)))
          · rw [if_pos (by omega), fx_in hpl] at g
            obtain ⟨-, X19, rfl, X20, rfl, w23, X22, r4, rfl⟩ := g
            have hm : md_ckg cn T (U, cu, TB, rw, cs :: sk, pk, fr) (216, near, lead) = md_k ((U, cu, TB, rw, cs :: sk, pk ++ [T.2 near], fr), w6.toInt) := by
              rw [md_k216, e]; exact (if_neg (by omega)).trans ((if_neg m1).trans (if_neg h6))
            rw [cx_41 hp2 hN.1 r4]
            obtain ⟨Y, hY⟩ : ∃ Y, Y = fx_wI (fx_wI (fx_wL X 94 pk.length (T.2 near)) 91 7 ((fx_wL X 94 pk.length (T.2 near)).1 91 7 + Int32.ofInt 1)) 86 i w6 := ⟨_, rfl⟩
            rw [← hY]
            have hf : fy [(91, 7)] [] [94, 86] X Y := by
              rw [hY]
              exact fy_a (fy_f (fy_b fy_rf (by decide)) (by decide)) (by decide)
            have hl : ∀ sk : List (List Int64), cx_lv X sk → cx_lv Y sk := by
              intro sk
              induction sk with
              | nil => exact fun _ => True.intro
              | cons cs sk ih => exact fun h => ⟨⟨by rw [fy_ra hf (by decide) (by decide)]; exact h.1.1, fun c n hn => by rw [fy_rl hf (by decide) (by decide)]; exact h.1.2 c n hn⟩, ih h.2⟩
            unfold cx_Po
            rw [hm]
            refine ⟨hf.2.2 82 5 (by decide) (by decide), cx_as hC hf (by decide) (by decide) (by decide) (md_gd_ck g0 hm) (by rw [hf.2.2 91 5 (by decide) (by decide)]; exact g4.1) (hl _ g4.2) ⟨?_, fun j n hn => ?_⟩ (by rw [hf.2.1 91 8 (by decide) (by decide)]; exact g6), by rw [hY, fx_rIe], fun j hj => by rw [hY, fx_rIk hj, fx_rIn (by decide), fx_rL1]⟩
            · rw [hY, fx_rIn (by decide), fx_rIe, fx_rL1, cx_inc hpl (by omega), List.length_append]; rfl
            · have e94 : Y.2.1 94 j = (fx_wL X 94 pk.length (T.2 near)).2.1 94 j := by rw [hY]; rfl
              rw [e94]
              rw [List.getElem?_append] at hn
              split at hn
              · rw [fx_rLk (by omega)]
                exact g5.2 j n hn
              · have e1 : j = pk.length := by
                  have := (List.getElem?_eq_some_iff.mp hn).1
                  have : j - pk.length < 1 := this
                  omega
                subst e1
                rw [Nat.sub_self] at hn
                cases hn
                rw [fx_rLe]
  rcases fy_ifd g with ⟨c, g⟩ | ⟨c217, g⟩
  · -- project
    subst c
    obtain ⟨w31, X30, r1, rfl⟩ := g
    cases sk with
    | nil => exact cx_Po_o md_k217
    | cons cs sk =>
      obtain ⟨b1, b2, b3, b4⟩ := cx_lvl hC
      obtain ⟨q1, q2⟩ := cx_77 hpk6 b3 b4 g5 r1
      have hf := gf_77 r1
      have hm : md_ckg cn T (U, cu, TB, rw, cs :: sk, pk, fr) (217, near, lead) = md_k ((U, cu, TB, rw, pk :: sk, pk, fr), 0) := md_k217
      unfold cx_Po
      rw [hm]
      exact ⟨hf.2.2 82 5 (by decide) (by decide), cx_as hC hf (by decide) (by decide) (by decide) (md_gd_ck g0 hm) (by rw [hf.2.2 91 5 (by decide) (by decide)]; exact g4.1) ⟨q1, cx_lv_lo q2 (fun z hz => (g0.2.1 z (List.mem_cons_of_mem _ hz)).2) (Nat.le_refl _) g4.2.2⟩ (cx_pk_fy g5 hf (by decide) (by decide) (by decide) (by decide)) (by rw [hf.2.1 91 8 (by decide) (by decide)]; exact g6), by rw [fy_ra hf (by decide) (by decide)]; exact hA, fun j hj => by rw [fy_ra hf (by decide) (by decide)]⟩
  rcases fy_ifd g with ⟨c, g⟩ | ⟨c218, g⟩
  · -- the new name
    subst c
    obtain ⟨w34, X33, r1, X35, rfl, w37, X36, r2, g⟩ := g
    obtain ⟨rfl, rfl⟩ := cx_60 hT hN hp2 r1
    cases sk with
    | nil => exact cx_Po_o md_k218
    | cons cs sk =>
      obtain ⟨b1, b2, b3, b4⟩ := cx_lvl hC
      obtain ⟨Y, hY⟩ : ∃ Y, Y = fx_wL X 91 8 (T.2 near) := ⟨_, rfl⟩
      have y8 : Y.2.1 91 8 = T.2 near := by rw [hY, fx_rLe]
      have y5 : Y.1 91 5 = X.1 91 5 := by rw [hY]; rfl
      have hf : fy [] [(91, 8)] [] X Y := by rw [hY]; exact fy_g fy_rf (by decide)
      rw [← hY] at r2
      rw [y8, y5] at r2
      have b1' : cx_l1 Y sk.length cs := ⟨by rw [fy_ra hf (by decide) (by decide)]; exact b1.1, fun c n hn => by rw [fy_rl hf (by decide) (by decide)]; exact b1.2 c n hn⟩
      obtain ⟨e3, e⟩ := cx_74 b1' b3 b2 b4 r2
      subst e3
      rcases fy_ifd g with ⟨c, g⟩ | ⟨c, g⟩
      · rw [g]
        have hm : md_ckg cn T (U, cu, TB, rw, cs :: sk, pk, fr) (218, near, lead) = md_k ((U, cu, TB, rw, cs :: sk, pk, T.2 near), 0) := by
          rw [md_k218]; exact if_neg (by omega)
        have hl : ∀ sk : List (List Int64), cx_lv X sk → cx_lv Y sk := by
          intro sk
          induction sk with
          | nil => exact fun _ => True.intro
          | cons cs sk ih => exact fun h => ⟨⟨by rw [fy_ra hf (by decide) (by decide)]; exact h.1.1, fun c n hn => by rw [fy_rl hf (by decide) (by decide)]; exact h.1.2 c n hn⟩, ih h.2⟩
        unfold cx_Po
        rw [hm]
        exact ⟨hf.2.2 82 5 (by decide) (by decide), cx_as hC hf (by decide) (by decide) (by decide) (md_gd_ck g0 hm) (by rw [hf.2.2 91 5 (by decide) (by decide)]; exact g4.1) (hl _ g4.2) (cx_pk_fy g5 hf (by decide) (by decide) (by decide) (by decide)) y8, by rw [fy_ra hf (by decide) (by decide)]; exact hA, fun j hj => by rw [fy_ra hf (by decide) (by decide)]⟩
      · obtain ⟨_, X39, r3, rfl⟩ := g
        exact cx_Po_n (by rw [md_k218]; exact if_pos (by omega)) (cx_64n (by decide) r3)
  rcases fy_ifd g with ⟨c, g⟩ | ⟨c219, g⟩
  · -- the name that goes
    subst c
    obtain ⟨w43, X42, r1, w45, X44, r2, w47, X46, r3, w50, X49, r4, w52, X51, r5, rfl⟩ := g
    obtain ⟨rfl, rfl⟩ := cx_60 hT hN hp2 r1
    cases sk with
    | nil => exact cx_Po_o md_k219
    | cons cs sk =>
      obtain ⟨b1, b2, b3, b4⟩ := cx_lvl hC
      obtain ⟨rfl, e⟩ := cx_74 b1 b3 b2 b4 r2
      rcases cx_78 hN.1 hp2 r3 with ⟨h1, h2⟩ | ⟨h1, h2⟩
      · refine cx_Po_n (by rw [md_k219]; exact if_pos (by omega)) ?_
        have e49 : X49 = X46 := fy_e (gf_40 r4)
        rw [(gf_79 r5).2.2 82 5 (by decide) (by decide), e49]
        exact h2
      · by_cases hfr : fr ∈ cs
        · exact cx_Po_o (by rw [md_k219]; exact (if_neg (by omega)).trans (if_pos hfr))
        · obtain ⟨c0, hc0⟩ : ∃ c0 : Nat, w45.toInt = (c0 : Int) := ⟨w45.toInt.toNat, by omega⟩
          have hm : md_ckg cn T (U, cu, TB, rw, cs :: sk, pk, fr) (219, near, lead) = md_k ((U, cu, TB, rw, cs.set c0 fr :: sk, pk, fr), w45.toInt) := by
            rw [md_k219]
            refine (if_neg (by omega)).trans ((if_neg hfr).trans ?_)
            rw [← e, hc0]; rfl
          have hlt : c0 < cs.length := by
            obtain ⟨i', z1, z2, -⟩ := md_ix_at (by omega : ¬ md_ix (T.2 near) cs 0 < 0)
            have := (List.getElem?_eq_some_iff.mp z2).1
            omega
          subst h2
          obtain ⟨rfl, e50⟩ := cx_40 hp2 hN.1 r4
          rw [fx_rIe] at e50
          subst e50
          have y5 : (fx_wI X 86 i w50).1 91 5 = X.1 91 5 := by rw [fx_rIn (by decide)]
          have y8 : (fx_wI X 86 i w50).2.1 91 8 = fr := g6
          rw [y5, y8] at r5
          have b1' : cx_l1 (fx_wI X 86 i w50) sk.length cs := ⟨by rw [fx_rIn (by decide)]; exact b1.1, b1.2⟩
          obtain ⟨q1, q2⟩ := cx_79 b1' b3 b2 b4 hlt hc0 r5
          have f5 := gf_79 r5
          have hf : fy [] [] [86, 92] X X' := fy_tr (fy_a fy_rf (by decide)) (fy_sub f5 (by decide) (by decide) (by decide))
          have hlo : cx_lo X X' sk.length := cx_lo_tr (X1 := fx_wI X 86 i w50) (fun j hj => ⟨by rw [fx_rIn (by decide)], fun c hc => rfl⟩) q2
          unfold cx_Po
          rw [hm]
          exact ⟨hf.2.2 82 5 (by decide) (by decide), cx_as hC hf (by decide) (by decide) (by decide) (md_gd_ck g0 hm) (by rw [hf.2.2 91 5 (by decide) (by decide)]; exact g4.1) ⟨q1, cx_lv_lo hlo (fun z hz => (g0.2.1 z (List.mem_cons_of_mem _ hz)).2) (Nat.le_refl _) g4.2.2⟩ (cx_pk_fy g5 hf (by decide) (by decide) (by decide) (by decide)) (by rw [hf.2.1 91 8 (by decide) (by decide)]; exact g6), by rw [fy_ra f5 (by decide) (by decide), fx_rIe], fun j hj => by rw [fy_ra f5 (by decide) (by decide), fx_rIk hj]⟩
  rcases fy_ifd g with ⟨c, gg⟩ | ⟨c220, g⟩
  · subst c
    have hpl := g5.1
    dsimp only at hpl
    rcases fy_ifd gg with ⟨c, gh⟩ | ⟨c, gh⟩
    · rw [gh]
      exact cx_Po_s hC hA (by rw [md_k220, if_neg (by omega)])
    · obtain ⟨_, X55, r1, rfl⟩ := gh
      exact cx_Po_n (by rw [md_k220, if_pos (by omega)]) (cx_71n (by decide) r1)
  rcases fy_ifd g with ⟨c, g⟩ | ⟨c221, g⟩
  · subst c
    obtain ⟨w32, X31, r1, w34, X33, r2, w36, X35, r3, rfl⟩ := g
    obtain ⟨rfl, rfl⟩ := cx_61 hp2 hN.1 r1
    obtain ⟨rfl, e⟩ := cx_46T hT hN.2.2.1 r2
    rw [cx_41 hp2 hN.1 r3]
    exact cx_Po_w hC (by rw [md_k221, e])
  rcases fy_ifd g with ⟨c, g⟩ | ⟨c222, g⟩
  · subst c
    obtain ⟨w22, X21, r1, w24, X23, r2, w26, X25, r3, rfl⟩ := g
    obtain ⟨rfl, rfl⟩ := cx_60 hT hN hp2 r1
    cases sk with
    | nil => exact cx_Po_o md_k222
    | cons cs sk =>
      obtain ⟨b1, b2, b3, b4⟩ := cx_lvl hC
      obtain ⟨rfl, e⟩ := cx_74 b1 b3 b2 b4 r2
      rcases cx_78 hN.1 hp2 r3 with ⟨h1, h2⟩ | ⟨h1, h2⟩
      · exact cx_Po_n (by rw [md_k222]; exact if_pos (by omega)) h2
      · rw [h2]
        exact cx_Po_w hC (by rw [md_k222, e]; exact if_neg (by omega))
  rcases fy_ifd g with ⟨c, g⟩ | ⟨c223, g⟩
  · -- group
    subst c
    obtain ⟨w76, X75, ⟨w3, X2, r1, w5, X4, r2, g⟩, rfl⟩ := g
    obtain ⟨rfl, rfl⟩ := cx_60 hT hN hp2 r1
    obtain ⟨rfl, r⟩ := cx_76 g5 hpk6 r2
    cases sk with
    | nil => exact cx_Po_o md_k223
    | cons cs sk =>
      obtain ⟨b1, b2, b3, b4⟩ := cx_lvl hC
      rcases r with ⟨m1, m2⟩ | ⟨m1, m2⟩
      · rw [if_neg (by omega)] at g
        obtain ⟨_, X13, r3, rfl⟩ := g
        exact cx_Po_n (by rw [md_k223]; exact if_pos m1) (cx_64n (by decide) r3)
      · rw [if_pos m2] at g
        obtain ⟨w8, X7, r3, w10, X9, r4, w12, X11, r5, rfl⟩ := g
        obtain ⟨q1, q2⟩ := cx_77 hpk6 b3 b4 g5 r3
        have f3 := gf_77 r3
        by_cases h6 : 6 ≤ pk.length
        · exact cx_Po_o (by rw [md_k223]; exact (if_neg m1).trans (if_pos h6))
        · have hm : md_ckg cn T (U, cu, TB, rw, cs :: sk, pk, fr) (223, near, lead) = md_k ((U, cu, TB, rw, (pk ++ [T.2 near]) :: sk, pk, fr), 0) := by
            rw [md_k223]; exact (if_neg m1).trans (if_neg h6)
          obtain ⟨rfl, rfl⟩ := cx_60 (cx_Tk_fr hT f3 (by decide) (by decide) (by decide) (by decide)) (i := i) (a := 223) (lead := lead) (near := near) ⟨hN.1, by rw [fy_ra f3 (by decide) (by decide)]; exact hN.2.1, by rw [fy_ra f3 (by decide) (by decide)]; exact hN.2.2.1, by rw [fy_ra f3 (by decide) (by decide)]; exact hN.2.2.2⟩ hp2 r4
          obtain ⟨s1, s2⟩ := cx_67 q1 b3 (by omega) (by rw [f3.2.2 91 5 (by decide) (by decide)]; exact b4) r5
          have hf : fy [] [] [92, 93] X X' := fy_tr f3 (gf_67 r5)
          unfold cx_Po
          rw [hm]
          exact ⟨hf.2.2 82 5 (by decide) (by decide), cx_as hC hf (by decide) (by decide) (by decide) (md_gd_ck g0 hm) (by rw [hf.2.2 91 5 (by decide) (by decide)]; exact g4.1) ⟨s1, cx_lv_lo (cx_lo_tr q2 s2) (fun z hz => (g0.2.1 z (List.mem_cons_of_mem _ hz)).2) (Nat.le_refl _) g4.2.2⟩ (cx_pk_fy g5 hf (by decide) (by decide) (by decide) (by decide)) (by rw [hf.2.1 91 8 (by decide) (by decide)]; exact g6), by rw [fy_ra hf (by decide) (by decide)]; exact hA, fun j hj => by rw [fy_ra hf (by decide) (by decide)]⟩
  · rw [g]
    exact cx_Po_s hC hA (md_kx (by omega))
end CX21
