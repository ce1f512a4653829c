/-! THE CLASS'S CHECKER: a ROW, an answer -/
section CX25
variable {X X' X1 X2 : fx_X} {T : md_T} {v p p0 p1 p2 : Int32} {w q : Int64} {u : Unit} {sr i k d n near lead : Nat} {U : md_U} {cu cu' : Option (Int64 × List Int32)} {TB TB' : md_TB} {rw rw' : Int × Int} {sk sk' : List (List Int64)} {pk pk' cs : List Int64} {fr fr' : Int64} {hz : Prop} {cn : Option Int} {a c0 : Int} {s s' : md_CS} {vs : List Int32} {nm : Int64} {b : Bool}
theorem cx_41c (hN : i < 2500) (hp : p1.toInt = (i : Int)) (g : gx_41 p1 p2 X u X') : X' = fx_wI X 86 i p2 ∧ cx_fc sr X X' := by
  have e := cx_41 hp hN g
  refine ⟨e, cx_fc_of (fun r k c => ?_) (fun r k _ => by rw [e]; rfl) (by rw [e]; rfl)⟩
  rw [e, fx_rIn (fun z => c (Or.inl (Or.inl z)))]
theorem cx_94 (hT : cx_Tk X T) (hN : cx_N X i (186, near, lead)) (hp : p.toInt = (i : Int)) (hA : (X.1 86 i).toInt = c0) (hC : cx_CS X sr hz (U, cu, TB, rw, sk, pk, fr)) (g : gx_94 p X u X') : cx_Pq T sr hz (some c0) (U, cu, TB, rw, sk, pk, fr) (186, near, lead) i X X' := by
  have hC' := hC
  obtain ⟨g0, g1, g2, g3, g4, g5, g6, g7, g8, g9⟩ := hC'
  replace g3 : cx_TB X sr hz TB := g3
  have h10 : TB.length ≤ 10 := g0.2.2.2.2.1
  obtain ⟨b3, eb, w7, X6, r1, w9, X8, r2, b12, eb2, w14, X13, r3, g⟩ := g
  rw [g8] at eb
  cases eb
  obtain ⟨rfl, rfl⟩ := cx_60 hT hN hp r1
  obtain ⟨rfl, e1⟩ := cx_62 g3 h10 r2
  rw [g8] at eb2
  cases eb2
  obtain ⟨rfl, r⟩ := cx_63 g3 h10 r3
  rcases g with ⟨e2, w17, X16, r4, rfl⟩ | ⟨r0, e2, b20, eb3, w22, X21, r4, g⟩
  · refine cx_Pq_n (by
      rw [md_k186]
      rcases r with ⟨r, -⟩ | ⟨r, -⟩ | ⟨t, x, r', -, -, z, -⟩
      · exact if_pos (by omega)
      · exfalso
        have : ¬ md_ix (T.2 near) (TB.map (·.1)) 0 < 0 := by omega
        obtain ⟨i', z1, z2, -⟩ := md_ix_at this
        have := (List.getElem?_eq_some_iff.mp z2).1
        rw [List.length_map] at this
        omega
      · rw [e2] at z; cases z) (by decide) r4
  · rw [g8] at eb3
    cases eb3
    rcases r with ⟨-, z⟩ | ⟨-, z⟩ | ⟨t, x, r', h1, h2, h3, h4, h5⟩
    · rw [e2] at z; cases z
    · rw [e2] at z; cases z
    · rw [e2] at h3
      cases h3
      obtain ⟨rfl, e5⟩ := cx_95 g3 h10 h2 h1 r4
      obtain ⟨nm, b, cs⟩ := x
      have hm : md_ckg (some c0) T (U, cu, TB, rw, sk, pk, fr) (186, near, lead) = if b = true ∨ (some c0 ≠ none ∧ some c0 ≠ some (cs.length : Int)) then some none else md_k ((U, cu, TB, ((cs.length : Int), 0), sk, pk, fr), w9.toInt) := by
        rw [md_k186, if_neg (by omega), e1.symm, h1, Int.toNat_natCast, h2]
      -- the fault
      have bad : (b = true ∨ (some c0 ≠ none ∧ some c0 ≠ some (cs.length : Int))) → (∃ (w25 : Unit) (X24 : fx_X), gx_64 (Int32.ofInt 5) p X w25 X24 ∧ ∃ (w28 : Unit) (X27 : fx_X), gx_41 p w9 X24 w28 X27 ∧ X' = X27) → cx_Pq T sr hz (some c0) (U, cu, TB, rw, sk, pk, fr) (186, near, lead) i X X' := by
        rintro hb ⟨_, X24, r5, _, X27, r6, rfl⟩
        exact ⟨cx_Po_n (by rw [hm, if_pos hb]) (by rw [cx_41f r6]; exact cx_64n (by decide) r5), fun _ => cx_fc_tr (cx_64c r5) (cx_41c hN.1 hp r6).2⟩
      cases b with
      | true =>
        have e5' : w22.toInt = 1 := e5
        rw [if_neg (by omega)] at g
        exact bad (Or.inl rfl) g
      | false =>
        have e5' : w22.toInt = 0 := e5
        rw [if_pos e5'] at g
        obtain ⟨w31, X30, r5, g⟩ := g
        obtain ⟨rfl, rfl⟩ := cx_40 hp hN.1 r5
        rw [hA] at g
        have h5' : (X.1 r0 3).toInt = (cs.length : Int) := h5
        rcases fy_ifd g with ⟨c, gh⟩ | ⟨c, gh⟩
        · obtain ⟨w35, X34, r6, rfl⟩ := gh
          obtain ⟨e6, e7⟩ := cx_41c (sr := sr) hN.1 hp r6
          refine ⟨?_, fun _ => e7⟩
          rw [e6]
          refine cx_Po_w (v := w9) (rw' := ((cs.length : Int), 0)) hC ?_
          rw [hm, if_neg]
          rintro (z | ⟨-, z⟩)
          · cases z
          · exact z (by rw [← c, h5'])
        · exact bad (Or.inr ⟨(fun z => by cases z), fun z => c (by rw [h5']; exact (Option.some.inj z).symm)⟩) gh
/-- the COLUMNS of an answer -/
theorem cx_96l (hs : sr = 54 ∨ sr = 66) (hd : d < 20) (hcl : md_cl cs) (hl : TB.length < 10) (ha6 : ∀ x, x ∈ TB → x.2.2.length ≤ 6) : ∀ (m k : Nat) (y2 : Int32) (X : fx_X), y2.toInt = (k : Int) → k ≤ cs.length → X.2.2.1 91 2 = some sr → cx_O X → cx_l1 X d cs → (X.1 91 5).toInt = (d : Int) → cx_TB X sr hz (TB ++ [(nm, b, cs.take k)]) → gxF_96 p1 m 45 [y2] [] [] X u X' → cx_TB X' sr hz (TB ++ [(nm, b, cs)]) ∧ cx_O X' ∧ cx_fs sr X X' ∧ (∀ k, X'.1 (sr + 2) k = X.1 (sr + 2) k ∧ X'.1 (sr + 3) k = X.1 (sr + 3) k ∧ X'.2.1 (sr + 1) k = X.2.1 (sr + 1) k) ∧ X'.1 sr = X.1 sr := by
  intro m
  induction m with
  | zero => intro k y2 X _ _ _ _ _ _ _ g; exact g.elim
  | succ m ih =>
    intro k y2 X hk hkl hb hO hL h5 hT g
    replace g := gxO_96_45 g
    obtain ⟨w24, X23, r1, g⟩ := g
    obtain ⟨rfl, e1⟩ := cx_69 hL hd h5 r1
    by_cases z : k < cs.length
    · rw [if_pos (by omega)] at g
      obtain ⟨b27, eb, w31, X30, r2, w33, X32, r3, x34, rfl, g⟩ := g
      rw [hb] at eb
      cases eb
      obtain ⟨x, hx⟩ : ∃ x, cs[k]? = some x := ⟨cs[k], List.getElem?_eq_getElem z⟩
      obtain ⟨rfl, rfl⟩ := cx_70 hL hd hcl.2 h5 hk hx r2
      have hc6 := hcl.2
      have e4 : cs.take (k + 1) = cs.take k ++ [w31] := by rw [List.take_add_one, hx]; rfl
      have hnot : w31 ∉ cs.take k := by
        intro y
        have h1 : (cs.take (k + 1)).Nodup := hcl.1.sublist (List.take_sublist _ _)
        rw [e4, List.nodup_append] at h1
        exact h1.2.2 w31 y w31 (List.mem_singleton.mpr rfl) rfl
      rcases cx_93 hs hO hT hl (by rw [List.length_take]; omega) ha6 r3 with ⟨a1, -⟩ | ⟨-, -, b2, b3, b4, b5, b6⟩
      · rcases a1 with a1 | a1
        · rw [List.length_take] at a1; omega
        · exact absurd a1 hnot
      · obtain ⟨f1, f2, f3, f4, f5, f6, f7, f8⟩ := cx_fs_co hO hs b4
        rw [← e4] at b2
        obtain ⟨c1, c2, c3, c4, c5⟩ := ih (k + 1) _ X32 (cx_inc hk (by omega)) (by omega) (by rw [f8]; exact hb) b3 ⟨by rw [f2]; exact hL.1, fun c n hn => by rw [f6]; exact hL.2 c n hn⟩ (by rw [f1]; exact h5) b2 g
        exact ⟨c1, c2, cx_fs_tr b4 c3, fun k => ⟨(c4 k).1.trans (b5 k).1, (c4 k).2.1.trans (b5 k).2.1, (c4 k).2.2.trans (b5 k).2.2⟩, c5.trans b6⟩
    · rw [if_neg (by omega)] at g
      have e : k = cs.length := by omega
      rw [e, List.take_length] at hT
      rw [g]
      exact ⟨hT, hO, cx_fs_rf, fun _ => ⟨rfl, rfl, rfl⟩, rfl⟩
theorem cx_96 (hT : cx_Tk X T) (hN : cx_N X i (192, near, lead)) (hl0 : lead ≤ 100000) (hp : p.toInt = (i : Int)) (hC : cx_CS X sr hz (U, cu, TB, rw, sk, pk, fr)) (g : gx_96 p X u X') : cx_Pq T sr hz cn (U, cu, TB, rw, sk, pk, fr) (192, near, lead) i X X' := by
  cases sk with
  | nil => exact cx_Pq_o md_k192
  | cons cs sk =>
    by_cases h10 : 10 ≤ TB.length
    · exact cx_Pq_o (by rw [md_k192]; exact if_pos h10)
    have hm : md_ckg cn T (U, cu, TB, rw, cs :: sk, pk, fr) (192, near, lead) = md_k ((U, cu, TB ++ [(T.2 (lead + 1), true, cs)], rw, sk, pk, fr), (TB.length : Int)) := by rw [md_k192]; exact if_neg h10
    have hC' := hC
    obtain ⟨g0, g1, g2, g3, g4, g5, g6, g7, g8, g9⟩ := hC'
    replace g3 : cx_TB X sr hz TB := g3
    have hO1 := g7.1
    obtain ⟨b1, b2, b3, b4⟩ := cx_lvl hC
    obtain ⟨m, bb, eb, w14, X13, r1, w16, X15, r2, w18, X17, r3, w20, X19, r4, X21, e21, g⟩ := g
    rw [g8] at eb
    cases eb
    obtain ⟨rfl, rfl⟩ := cx_72 hp hN.1 r1
    have hl3 : (X.1 85 i).toInt = (lead : Int) := hN.2.2.2
    obtain ⟨rfl, rfl⟩ := cx_37T hT (cx_inc hl3 (by omega)) r2
    obtain ⟨v1, q2, q3, q4, q5, q6, q7⟩ := cx_92T (b := true) g9 g7 g3 (by omega) (Or.inr ⟨rfl, rfl⟩) r3
    obtain ⟨e19, f19⟩ := cx_41c (sr := sr) hN.1 hp r4
    obtain ⟨f1, f2, f3, f4, f5, f6, f7, f8⟩ := cx_fs_co g7 g9 q4
    -- the state ahead of the loop
    have i21 : ∀ r k, r ≠ 86 → r ≠ 91 → X21.1 r k = X17.1 r k := fun r k h1 h2 => by rw [e21, fx_rIn h2, e19, fx_rIn h1]
    have r21 : X21.2 = X17.2 := by rw [e21, e19]; rfl
    have d21 : X21.1 91 5 = X.1 91 5 - Int32.ofInt 1 := by rw [e21, fx_rIe, e19, fx_rIn (by decide), f1]
    have o21 : cx_O X21 := by unfold cx_O; rw [r21]; exact q3
    have hrow : ∀ t r, t < 10 → X17.2.2.1 (sr + 8) t = some r → r ≠ 86 ∧ r ≠ 91 := fun t r ht h => by
      have := (q3.2.1 (sr + 8, t) r (cx_slot g9 ht) h).1
      exact ⟨by omega, by omega⟩
    have t21 : cx_TB X21 sr hz (TB ++ [(T.2 (lead + 1), true, cs.take 0)]) := by
      refine ⟨by rw [i21 _ _ (by omega) (by omega)]; exact q2.1, fun t x hx => ?_⟩
      obtain ⟨a1, a2, r, a3, a4, a5, a6⟩ := q2.2 t x hx
      have ht := (List.getElem?_eq_some_iff.mp hx).1
      rw [List.length_append] at ht
      have ht' : t < TB.length + 1 := ht
      obtain ⟨n1, n2⟩ := hrow t r (by omega) a3
      exact ⟨by rw [r21]; exact a1, by rw [i21 _ _ (by omega) (by omega)]; exact a2, r, by rw [r21]; exact a3, by rw [i21 _ _ n1 n2]; exact a4, fun z => by rw [i21 _ _ n1 n2]; exact a5 z, fun c n hc => by rw [r21]; exact a6 c n hc⟩
    have l21 : cx_l1 X21 sk.length cs := ⟨by rw [i21 _ _ (by decide) (by decide), f2]; exact b1.1, fun c n hn => by rw [r21, f6]; exact b1.2 c n hn⟩
    obtain ⟨c1, c2, c3, c4, c5⟩ := cx_96l (d := sk.length) (cs := cs) (TB := TB) g9 b3 (g0.2.1 cs List.mem_cons_self) (by omega) (fun x hx => (g0.1 x hx).2) m 0 _ X21 rfl (Nat.zero_le _) (by rw [r21, f8]; exact g8) o21 l21 (by rw [d21]; exact b4) t21 g
    obtain ⟨h1, h2, h3, h4, h5, h6, h7, h8⟩ := cx_fs_co o21 g9 c3
    have fc21 : cx_fc sr X X21 := by
      refine cx_fc_tr (cx_fs_fc q4) (cx_fc_tr f19 (cx_fc_of (fun r k c => ?_) (fun r k _ => by rw [e21]; rfl) (by rw [e21]; rfl)))
      rw [e21, fx_rIn (fun z => c (Or.inl (Or.inr (Or.inl z))))]
    refine ⟨?_, fun _ => cx_fc_tr fc21 (cx_fs_fc c3)⟩
    unfold cx_Po
    rw [hm]
    have lv : ∀ sk : List (List Int64), cx_lv X sk → cx_lv X' sk := by
      intro sk
      induction sk with
      | nil => exact fun _ => True.intro
      | cons cs sk ih => exact fun h => ⟨⟨by rw [h2, i21 _ _ (by decide) (by decide), f2]; exact h.1.1, fun c n hn => by rw [h6, r21, f6]; exact h.1.2 c n hn⟩, ih h.2⟩
    have sv : ∀ u vs, cx_vs X sr u vs → cx_vs X' sr u vs := fun u vs hv => ⟨by rw [(c4 u).1, i21 _ _ (by omega) (by omega), (q5 u).1]; exact hv.1, fun i v hx => by rw [(c4 _).2.1, i21 _ _ (by omega) (by omega), (q5 _).2.1]; exact hv.2 i v hx⟩
    refine ⟨by rw [h4, i21 _ _ (by decide) (by decide), f4], ⟨md_gd_ck g0 hm, ⟨?_, ?_, fun u x hx => ⟨by rw [(c4 u).2.2, r21, (q5 u).2.2]; exact (g1.2.2 u x hx).1, sv _ _ (g1.2.2 u x hx).2⟩⟩, fun x hx => ⟨by rw [(c4 _).2.2, r21, (q5 _).2.2]; exact (g2 x hx).1, sv _ _ (g2 x hx).2⟩, c1, ⟨by rw [h1, d21]; exact b4, lv _ g4.2.2⟩, ⟨by rw [h1, e21, fx_rIk (by decide), e19, fx_rIn (by decide), f1]; exact g5.1, fun i n hn => by rw [h7, r21, f7]; exact g5.2 i n hn⟩, by rw [h5, r21, f5]; exact g6, c2, by rw [h8, r21, f8]; exact g8, g9⟩, ?_, fun j hj => ?_⟩
    · rw [c5, i21 _ _ (by omega) (by omega), q6]; exact g1.1
    · rw [c5, i21 _ _ (by omega) (by omega), q7]; exact g1.2.1
    · rw [h3, e21, fx_rIn (by decide), e19, fx_rIe]; exact v1
    · rw [h3, e21, fx_rIn (by decide), e19, fx_rIk hj, f3]
end CX25
