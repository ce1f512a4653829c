/-! THE REFERENCE: a side of a test -/
/-- what a side is -/
def rx_sd (X : fx_X) (n wd : Nat) (x : md_Sd) : Prop := (X.1 117 52).toInt = x.1 ∧ X.1 117 53 = x.2 ∧ (X.1 117 54).toInt = 0 ∧ (x.1 = 0 ∨ (x.1 = 1 ∧ 0 ≤ x.2.toInt ∧ x.2.toInt < (n : Int)) ∨ (x.1 = 2 ∧ 0 ≤ x.2.toInt ∧ x.2.toInt < (wd : Int)))
section DD31
variable {P : md_P} {X X' X0 X1 X2 X4 : fx_X} {K : List md_Sy} {c c' : md_C} {nm : md_Nm} {cs cs' : md_CS} {ws ws' : md_WS} {j j' near l l2 n n1 m t d k s s1 s2 : Nat} {v w p1 p2 z y4 : Int32} {u : Unit} {nn y2 : Int64} {F L : List (Nat × Nat)} {A : List Nat} {sk : List (List Int64)} {l8 : List Int64} {q : md_Q} {B : List md_Row} {Q : Prop} {b14 : Int} {x : md_Sd}
theorem rx_255t (h : rx_B P X4 ∨ (rx_td X4 n x ∧ (X4.1 117 54).toInt = 0)) (g : ∃ X7 : fx_X, X7 = (fx_wI X4 117 52 (X4.1 117 38)) ∧ ∃ X8 : fx_X, X8 = (fx_wI X7 117 53 (X7.1 117 39)) ∧ (if ((X8.1 117 54)).toInt = 0 then ((if ((X8.1 117 38)).toInt = 1 then ((if ((X8.1 117 39)).toInt < 0 then (∃ X15 : fx_X, X15 = (fx_wI X8 117 54 (Int32.ofInt 1)) ∧ v = (Int32.ofInt 1) ∧ X' = X15) else (∃ X14 : fx_X, X14 = (fx_wI X8 117 54 (Int32.ofInt 0)) ∧ v = (Int32.ofInt 1) ∧ X' = X14))) else (∃ X12 : fx_X, X12 = (fx_wI X8 117 54 (Int32.ofInt 0)) ∧ v = (Int32.ofInt 1) ∧ X' = X12))) else (∃ X10 : fx_X, X10 = (fx_wI X8 117 54 (Int32.ofInt 1)) ∧ v = (Int32.ofInt 1) ∧ X' = X10))) : v = Int32.ofInt 1 ∧ fy [(117, 52), (117, 53), (117, 54)] [] [] X4 X' ∧ (rx_B P X' ∨ rx_sd X' n m x) := by
  obtain ⟨X7, e7, X8, e8, g⟩ := g
  have f8 : fy [(117, 52), (117, 53), (117, 54)] [] [] X4 X8 := by rw [e8, e7]; exact fy_f (fy_f fy_rf (by decide)) (by decide)
  have fin : ∀ {X9 : fx_X} {z : Int32}, X9 = fx_wI X8 117 54 z → (rx_B P X8 ∨ z = Int32.ofInt 0) → fy [(117, 52), (117, 53), (117, 54)] [] [] X4 X9 ∧ (rx_B P X9 ∨ rx_sd X9 n m x) := by
    intro X9 z e hz
    refine ⟨by rw [e]; exact fy_f f8 (by decide), ?_⟩
    rcases h with hB | ⟨⟨h1, h2, h3⟩, h4⟩
    · left
      refine rx_B_fr (rx_B_fr hB f8 (by decide) (by decide)) (X' := X9) (F := [(117, 54)]) (L := []) (A := []) ?_ (by decide) (by decide)
      rw [e]; exact fy_f fy_rf (by decide)
    · rcases hz with hB | hz
      · left
        rw [e]
        exact rx_B_fr hB (fy_f (F := [(117, 54)]) (L := []) (A := []) fy_rf (by decide)) (by decide) (by decide)
      · right
        refine ⟨?_, ?_, by rw [e, fx_rIe, hz]; rfl, ?_⟩
        · rw [e, fx_rIk (by decide), e8, fx_rIk (by decide), e7, fx_rIe]; exact h1
        · rw [e, fx_rIk (by decide), e8, fx_rIe, e7, fx_rIk (by decide)]; exact h2
        · rcases h3 with y | y
          · exact Or.inl y
          · exact Or.inr (Or.inl y)
  have hB8 : rx_B P X4 → rx_B P X8 := fun hB => rx_B_fr hB f8 (by decide) (by decide)
  rcases fy_ifd g with ⟨c1, g⟩ | ⟨c1, g⟩
  · rcases fy_ifd g with ⟨c2, g⟩ | ⟨c2, g⟩
    · rcases fy_ifd g with ⟨c3, g⟩ | ⟨c3, g⟩
      · obtain ⟨X15, e, hv, e'⟩ := g
        subst e'
        refine ⟨hv, fin e (Or.inl ?_)⟩
        rcases h with hB | ⟨⟨h1, h2, h3⟩, h4⟩
        · exact hB8 hB
        · exfalso
          rw [e8, fx_rIk (by decide), e7, fx_rIk (by decide)] at c2 c3
          rw [h2] at c3
          omega
      · obtain ⟨X14, e, hv, e'⟩ := g
        subst e'
        exact ⟨hv, fin e (Or.inr rfl)⟩
    · obtain ⟨X12, e, hv, e'⟩ := g
      subst e'
      exact ⟨hv, fin e (Or.inr rfl)⟩
  · obtain ⟨X10, e, hv, e'⟩ := g
    subst e'
    refine ⟨hv, fin e (Or.inl ?_)⟩
    rcases h with hB | ⟨-, h4⟩
    · exact hB8 hB
    · exfalso
      rw [e8, fx_rIk (by decide), e7, fx_rIk (by decide)] at c1
      exact c1 h4
theorem md_ck202 {T : md_T} (hsk : cs.2.2.2.2.1 = l8 :: sk) : md_ck T cs (202, near, l) = if md_ix (T.2 near) l8 0 < 0 then some none else md_k (cs, md_ix (T.2 near) l8 0) := by
  obtain ⟨U, cu, TB, rw, sk0, pk, fr⟩ := cs
  have hsk : sk0 = l8 :: sk := hsk
  subst hsk
  exact md_k202
theorem md_wk202 {W n wd : Nat} {val : md_V} {arg : Int} : md_wk W n val wd ws (202, near, l) arg = md_k (md_sft ws (2, Int32.ofInt arg)) := by
  obtain ⟨tb, sk, tr, sd, rel, pt, rt, pk, fo, fd⟩ := ws
  rfl
theorem rx_255 (h : rx_B P X ∨ (rx_QD P nn X0 X t j c cs ws nm ∧ md_R P ((153, l) :: K) j near c nm (cs, ws) ∧ cs.2.2.2.2.1 = l8 :: sk ∧ (X.1 117 54).toInt = 0 ∧ p1.toInt = ((20 + sk.length : Nat) : Int))) (g : gx_255 p1 X v X') : rx_X P v X' ∨ (v = Int32.ofInt 1 ∧ (rx_B P X' ∨ ∃ j' n2 w2 x, rx_QD P nn X0 X' t j' c cs w2 nm ∧ md_R P K j' n2 c nm (cs, w2) ∧ rx_sd X' cs.1.length l8.length x ∧ (rp_b P = true → w2 = md_sft ws x))) := by
  rcases h with hB | ⟨hD, hR, hsk, h54, hp⟩
  · exact rx_BE (gb_255 hB g) (gv_255 g)
  have hG := hD.1
  have hk := rx_k hG
  -- a TERM
  have term : ∀ {w5 : Int32} {X4 : fx_X}, (rp_T P).1 j ≠ 3 → gx_235 X w5 X4 → (if (w5).toInt = 0 then (v = (Int32.ofInt 0) ∧ X' = X4) else (∃ X7 : fx_X, X7 = (fx_wI X4 117 52 (X4.1 117 38)) ∧ ∃ X8 : fx_X, X8 = (fx_wI X7 117 53 (X7.1 117 39)) ∧ (if ((X8.1 117 54)).toInt = 0 then ((if ((X8.1 117 38)).toInt = 1 then ((if ((X8.1 117 39)).toInt < 0 then (∃ X15 : fx_X, X15 = (fx_wI X8 117 54 (Int32.ofInt 1)) ∧ v = (Int32.ofInt 1) ∧ X' = X15) else (∃ X14 : fx_X, X14 = (fx_wI X8 117 54 (Int32.ofInt 0)) ∧ v = (Int32.ofInt 1) ∧ X' = X14))) else (∃ X12 : fx_X, X12 = (fx_wI X8 117 54 (Int32.ofInt 0)) ∧ v = (Int32.ofInt 1) ∧ X' = X12))) else (∃ X10 : fx_X, X10 = (fx_wI X8 117 54 (Int32.ofInt 1)) ∧ v = (Int32.ofInt 1) ∧ X' = X10)))) → rx_X P v X' ∨ (v = Int32.ofInt 1 ∧ (rx_B P X' ∨ ∃ j' n2 w2 x, rx_QD P nn X0 X' t j' c cs w2 nm ∧ md_R P K j' n2 c nm (cs, w2) ∧ rx_sd X' cs.1.length l8.length x ∧ (rp_b P = true → w2 = md_sft ws x))) := by
    intro w5 X4 hT r g2
    have hR2 : md_R P ((144, j) :: K) j near c nm (cs, ws) := md_R_r (r := [144]) hR (by decide) (by decide) (by decide) (by
      show (md_52 153 _).map _ = _
      unfold md_52
      rw [if_neg (by decide), if_neg (by decide), if_neg (by decide), if_neg (by decide), if_neg (by decide), if_neg (by decide), if_neg (by decide), if_neg (by decide), if_pos rfl, if_neg hT]
      rfl)
    have h1 := rx_235 (Q := True) (Or.inr ⟨hG, hR2, hD.2.1.1.1, True.intro⟩) r
    rcases rx_go h1 g2 with e | ⟨⟨j', n2, w2, x, h1⟩, g3⟩
    · exact Or.inl e
    right
    have f4 := gf_235 r
    obtain ⟨hv, f5, h5⟩ := rx_255t (P := P) (n := cs.1.length) (m := l8.length) (x := x) (h1.imp id (fun z => ⟨z.2.2.1, by
      rw [f4.2.2 117 54 (by decide) (by decide)]; exact h54⟩)) g3
    refine ⟨hv, ?_⟩
    rcases h1 with hB | ⟨hG4, hR4, htd, hw, -⟩
    · exact Or.inl (rx_B_fr hB f5 (by decide) (by decide))
    · rcases h5 with hB | h5
      · exact Or.inl hB
      · right
        have hD4 : rx_QD P nn X0 X4 t j' c cs ws nm := rx_QD_fy hD hG4 f4 (by decide) (by decide)
        have hG5 := rx_G_fr hG4 f5 (by decide) (by decide)
        have hD5 : rx_QD P nn X0 X' t j' c cs ws nm := rx_QD_fy hD4 hG5 f5 (by decide) (by decide)
        refine ⟨j', n2, w2, x, rx_QD_fr hD5 hG5 rx_lo_rf ⟨rfl, rfl, rfl⟩ hD5.2.2.2.1 ⟨rfl, rfl⟩ (fun hb => ?_), hR4, h5, hw⟩
        rw [hw hb]
        exact ⟨rfl, rfl, (hD5.2.2.2.2.2.2 hb).1, rfl⟩
  unfold gx_255 at g
  rcases fy_ifd g with ⟨c1, g1⟩ | ⟨c1, g1⟩
  · have hT := hk.2.1.mp c1
    have hR2 : md_R P ((3, j) :: (202, j) :: K) j near c nm (cs, ws) := md_R_r (r := [3, 202]) hR (by decide) (by decide) (by decide) (by rw [hT]; rfl)
    obtain ⟨w49, X48, r1, g2⟩ := g1
    rcases rx_go (rx_216g hG hR2 r1) g2 with e | ⟨⟨hG1, hR1, h33, -⟩, g3⟩
    · exact Or.inl e
    right
    have f1 := gf_216 r1
    have hD1 : rx_QD P nn X0 X48 t (j + 1) c cs ws nm := rx_QD_fy hD hG1 f1 (by decide) (by decide)
    obtain ⟨X51, e51, w53, X52, r2, X54, e54, g4⟩ := g3
    have f51 : fy [(117, 52)] [] [] X48 X51 := by rw [e51]; exact fy_f fy_rf (by decide)
    have hG51 := rx_G_fr hG1 f51 (by decide) (by decide)
    have hD51 : rx_QD P nn X0 X51 t (j + 1) c cs ws nm := rx_QD_fy hD1 hG51 f51 (by decide) (by decide)
    obtain ⟨⟨hcl, h20⟩, -⟩ := rx_QD_top hD51 hsk
    have hRe := md_R_e0 hR1 (by decide)
    have h33' : X51.2.1 117 33 = (rp_T P).2 j := by rw [e51]; exact h33
    have h3 := rx_256 (l8 := l8) (Or.inr ⟨hG51, hcl, ⟨hp, by omega⟩, fun z => md_Re_f hRe ((md_ck202 hsk).trans (if_pos (by rw [h33'] at z; exact z)))⟩) r2
    have h54b : (X54.1 117 54).toInt = (X52.1 117 54).toInt := by rw [e54, fx_rIk (by decide)]
    have fin : ∀ {X9 : fx_X} {z : Int32}, X9 = fx_wI X54 117 54 z → fy [(117, 53), (117, 54)] [] [] X52 X9 := fun e => by rw [e, e54]; exact fy_f (fy_f fy_rf (by decide)) (by decide)
    rcases h3 with hB | ⟨e52, hv, hv0⟩
    · have badf : ∀ {X9 : fx_X} {z : Int32}, X9 = fx_wI X54 117 54 z → rx_B P X9 := fun e => rx_B_fr hB (fin e) (by decide) (by decide)
      rcases fy_ifd g4 with ⟨c2, g5⟩ | ⟨c2, g5⟩
      · rcases fy_ifd g5 with ⟨c3, g6⟩ | ⟨c3, g6⟩
        · obtain ⟨X59, e, hv, e'⟩ := g6
          exact ⟨hv, Or.inl (by rw [e']; exact badf e)⟩
        · obtain ⟨X58, e, hv, e'⟩ := g6
          exact ⟨hv, Or.inl (by rw [e']; exact badf e)⟩
      · obtain ⟨X56, e, hv, e'⟩ := g5
        exact ⟨hv, Or.inl (by rw [e']; exact badf e)⟩
    · have h54c : (X54.1 117 54).toInt = 0 := by
        rw [h54b, e52, e51, fx_rIk (by decide), f1.2.2 117 54 (by decide) (by decide)]
        exact h54
      rw [if_pos h54c, if_neg (by rw [e54, fx_rIe]; omega)] at g4
      obtain ⟨X58, e, hv', e'⟩ := g4
      rw [h33'] at hv
      subst e'
      refine ⟨hv', Or.inr ?_⟩
      have hck := (md_ck202 (T := rp_T P) (near := j) (l := j) hsk).trans (if_neg (by omega))
      obtain ⟨w2, q1, q2, -⟩ := md_Re_n hRe hck (fun _ => md_wk202)
      have f5 := fin e
      rw [e52] at f5
      have hG5 := rx_G_fr hG51 f5 (by decide) (by decide)
      have hD5 : rx_QD P nn X0 X' t (j + 1) c cs ws nm := rx_QD_fy hD51 hG5 f5 (by decide) (by decide)
      have e13 : w53 = Int32.ofInt (md_ix ((rp_T P).2 j) l8 0) := by rw [← hv, Int32.ofInt_toInt]
      have hlt := md_ix_lt (n := (rp_T P).2 j) (l := l8) (by omega)
      refine ⟨j + 1, j, w2, (2, w53), rx_QD_fr hD5 hG5 rx_lo_rf ⟨rfl, rfl, rfl⟩ hD5.2.2.2.1 ⟨rfl, rfl⟩ (fun hb => ?_), q1, ⟨?_, ?_, by rw [e, fx_rIe]; rfl, Or.inr (Or.inr ⟨rfl, by show 0 ≤ w53.toInt; omega, by show w53.toInt < _; omega⟩)⟩, fun hb => by rw [q2 hb, e13]⟩
      · rw [q2 hb]
        exact ⟨rfl, rfl, (hD5.2.2.2.2.2.2 hb).1, rfl⟩
      · rw [e, fx_rIk (by decide), e54, fx_rIk (by decide), e52, e51, fx_rIe]; rfl
      · rw [e, fx_rIk (by decide), e54, fx_rIe]
  · have hT : (rp_T P).1 j ≠ 3 := fun z => c1 (hk.2.1.mpr z)
    rcases fy_ifd g1 with ⟨c2, g2⟩ | ⟨c2, g2⟩
    · obtain ⟨w5, X4, r, g3⟩ := g2
      exact term hT r g3
    · obtain ⟨w17, X16, r1, g3⟩ := g2
      obtain ⟨e16, hw17⟩ := rx_220 r1
      subst e16
      rcases fy_ifd g3 with ⟨c3, g4⟩ | ⟨c3, g4⟩
      · obtain ⟨w32, X31, r2, g5⟩ := g4
        obtain ⟨e31, hw32⟩ := rx_220 r2
        subst e31
        rcases fy_ifd g5 with ⟨c4, g6⟩ | ⟨c4, g6⟩
        · obtain ⟨w47, X46, r3, e1, e2⟩ := g6
          left
          rw [e1, e2]
          refine rx_215 ?_ (by decide) r3
          have hR2 : md_R P ((144, j) :: K) j near c nm (cs, ws) := md_R_r (r := [144]) hR (by decide) (by decide) (by decide) (by
            show (md_52 153 _).map _ = _
            unfold md_52
            rw [if_neg (by decide), if_neg (by decide), if_neg (by decide), if_neg (by decide), if_neg (by decide), if_neg (by decide), if_neg (by decide), if_neg (by decide), if_pos rfl, if_neg hT]
            rfl)
          have n63 : (rp_T P).1 j ≠ 63 := fun z => by
            rcases hw32 with y | y
            · omega
            · exact y.2 ((rx_sg_i hG (by decide)).mpr z)
          have n45 : (rp_T P).1 j ≠ 45 := fun z => by
            rcases hw17 with y | y
            · omega
            · exact y.2 ((rx_sg_i hG (by decide)).mpr z)
          have n4 : (rp_T P).1 j ≠ 4 := fun z => c2 (hk.2.2.1.mpr z)
          rcases md_R_144 hR2 n63 with y | y
          · rcases y.1 with z | z
            · exact absurd z n45
            · exact absurd z n4
          · exact y.2.2
        · obtain ⟨w35, X34, r3, g7⟩ := g6
          exact term hT r3 g7
      · obtain ⟨w20, X19, r2, g5⟩ := g4
        exact term hT r2 g5
end DD31
