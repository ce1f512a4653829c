/-! THE REFERENCE: a question, operands and brackets -/
section DD66
variable {P : md_P} {X X' X0 X1 X2 : fx_X} {K K0 : List md_Sy} {n d k j near l : Nat} {v w y1 : Int32} {s a b14 : Int} {c c' : md_C} {nm : md_Nm} {cs cs' : md_CS} {ws ws' : md_WS} {nn : Int64} {S : List Int} {B G : Prop} {is : List Int32} {ls : List Int64} {rs : List Nat}
theorem rx_go2 (h : (rx_X P w X1 ∨ rx_Yq P X0 nm w X1) ∨ (w = Int32.ofInt 1 ∧ B)) (g : if w.toInt = 0 then (v = Int32.ofInt 0 ∧ X' = X1) else G) : (rx_X P v X' ∨ rx_Yq P X0 nm v X') ∨ (B ∧ G) := by
  rcases h with h | ⟨h1, h2⟩
  · have hw : w = Int32.ofInt 0 := by rcases h with h | h <;> exact h.1
    rw [if_pos (by rw [hw]; rfl)] at g
    left
    rw [g.1, g.2, ← hw]
    exact h
  · rw [if_neg (by rw [h1]; decide)] at g
    exact Or.inr ⟨h2, g⟩
theorem rx_qB (hB : rx_B P X) (g : gxF_249 n l is ls rs X v X') : rx_qR P nn X0 nm K0 v X' := (rx_BE (gbl_249 _ _ _ _ _ _ v X' hB g) (gvl_249 _ _ _ _ _ _ v X' g)).imp Or.inl id
theorem rx_qB0 (hB : rx_B P X1) (g : if w.toInt = 0 then (v = Int32.ofInt 0 ∧ X' = X1) else gxF_249 n l is ls rs X1 v X') : rx_qR P nn X0 nm K0 v X' := by
  rcases fy_ifd g with ⟨c1, g1⟩ | ⟨c1, g1⟩
  · rw [g1.1, g1.2]
    exact Or.inl (Or.inl ⟨rfl, hB.1, hB.2.1⟩)
  · exact rx_qB hB g1
theorem md_r149 (h : (rp_T P).1 j ≠ 40) (h2 : (rp_T P).1 j ≠ 3) : md_rule 149 ((rp_T P).1 j) = none := by
  show (md_52 149 _).map _ = _
  unfold md_52
  rw [if_neg (by decide), if_neg (by decide), if_neg (by decide), if_neg (by decide), if_pos rfl, if_neg h, if_neg h2]
  rfl
theorem rx_ac_push (h : rx_ac X S) (e : ∀ i, i < S.length → X'.1 140 i = X.1 140 i) (ha : (X'.1 140 S.length).toInt = a) : rx_ac X' (a :: S) := by
  refine ⟨ha, ?_⟩
  clear ha
  induction S with
  | nil => exact True.intro
  | cons b S ih => exact ⟨by rw [e _ (Nat.lt_succ_self _)]; exact h.1, ih h.2 (fun i hi => e i (Nat.lt_succ_of_lt hi))⟩
/-- an operand -/
theorem rx_249a (ih22 : ∀ (S : List Int) (X : fx_X), rx_qw P nn X0 nm K0 S X → gxF_249 n 22 [] [] [] X v X' → rx_qR P nn X0 nm K0 v X') (ih128 : ∀ (S : List Int) (X : fx_X), rx_qh P nn X0 nm K0 S X → gxF_249 n 128 [] [] [] X v X' → rx_qR P nn X0 nm K0 v X') (h : rx_qw P nn X0 nm K0 S X) (g : gxF_249 (n + 1) 22 [] [] [] X v X') : rx_qR P nn X0 nm K0 v X' := by
  replace g := gxO_249_22 g
  unfold gxT_249_22 at g
  obtain ⟨j, near, c, cs, ws, l, K, ⟨hD, hlen, ⟨b1, b2, b3⟩, h50, hac, hwf⟩, hK, hR⟩ := h
  have hG := hD.1
  have ho := md_os_18 hwf b3
  have hob := md_len_ob S
  obtain ⟨w15, X14, r1, g1⟩ := g
  obtain ⟨e14, hw15⟩ := rx_220 r1
  subst e14
  have e40 : ((Int8.ofInt 40).toInt32).toInt = 40 := rfl
  rw [e40] at hw15
  have s40 := rx_sg_i (a := 40) hG (by decide)
  rcases fy_ifd g1 with ⟨c1, g2⟩ | ⟨c1, g2⟩
  · have T40 : (rp_T P).1 j ≠ 40 := fun z => by
      rcases hw15 with y | y
      · omega
      · exact y.2 (s40.mpr z)
    obtain ⟨w18, X17, r2, g3⟩ := g2
    by_cases hT : (rp_T P).1 j = 3
    · have hR3 : md_R P ((3, j) :: (210, j) :: (150, j) :: K) j near c nm (cs, ws) := md_R_r (r := [3, 210, 150]) hR (by decide) (by decide) (by decide) (by rw [hT]; rfl)
      have hl : cs.2.2.2.2.1.length = md_os S := hlen
      have hD0 : rx_QD P nn X0 X14 cs.2.2.2.2.1.length j c cs ws nm := by rw [hl]; exact hD
      rcases rx_go (rx_250 (Q := True) (Or.inr ⟨hD0, hR3, by omega, rfl, True.intro⟩) r2) g3 with e | ⟨hh, g4⟩
      · exact Or.inl (Or.inl e)
      obtain ⟨X20, e20, w22, X21, r3, g5⟩ := g4
      have f20 : fy [(117, 51)] [] [] X17 X20 := by rw [e20]; exact fy_f fy_rf (by decide)
      rcases hh with hB | ⟨l8, cs', ws', hsk, hD2, hR2, -, -⟩
      · exact rx_qB0 (gb_253 (rx_B_fr hB f20 (by decide) (by decide)) r3) g5
      have i51 := hD2.2.2.2.1
      have i20 : (X20.1 117 51).toInt = ((20 + cs.2.2.2.2.1.length + 1 : Nat) : Int) := by rw [e20, fx_rIe]; exact cx_in1 i51 (by omega)
      have hD3 : rx_QD P nn X0 X20 (cs.2.2.2.2.1.length + 1) (j + 1) c cs' ws' nm := rx_QD_fr hD2 (rx_G_fr hD2.1 f20 (by decide) (by decide)) (rx_lo_fy f20 (by decide) (by decide)) ⟨rfl, rfl, rfl⟩ i20 ⟨rfl, rfl⟩ (fun hb => ⟨rfl, rfl, (hD2.2.2.2.2.2.2 hb).1, rfl⟩)
      have ip : (X20.1 117 51 - Int32.ofInt 1).toInt = ((20 + cs.2.2.2.2.1.length : Nat) : Int) := cx_dec i20 (by omega)
      rcases rx_go2 (rx_253 (sk := cs.2.2.2.2.1) (b14 := (md_bks S : Int)) ip (Or.inr ⟨j + 1, j, j, c, cs', ws', l8, hsk, hD3, hR2, b1⟩) r3) g5 with e | ⟨hh, g6⟩
      · exact Or.inl e
      rcases hh with hB | ⟨j3, near3, c3, cs3, ws3, l9, hsk3, hD4, hR4, h143⟩
      · exact rx_qB hB g6
      have e46 : X21.1 117 46 = X14.1 117 46 := by rw [(gf_253 r3).2.2 117 46 (by decide) (by decide), e20, fx_rIk (by decide), (gf_250 r2).2.2 117 46 (by decide) (by decide)]
      have e50 : X21.1 117 50 = X14.1 117 50 := by rw [(gf_253 r3).2.2 117 50 (by decide) (by decide), e20, fx_rIk (by decide), (gf_250 r2).2.2 117 50 (by decide) (by decide)]
      have e140 : X21.1 140 = X14.1 140 := by rw [fy_ra (gf_253 r3) (by decide) (by decide), e20, fx_rIn (by decide), fy_ra (gf_250 r2) (by decide) (by decide)]
      rw [hl] at hD4
      exact ih128 S X21 ⟨j3, near3, c3, cs3, ws3, K, ⟨hD4, by rw [hsk3, List.length_cons, hl], ⟨h143, by rw [e46]; exact b2, b3⟩, by rw [e50]; exact h50, rx_ac_eq hac e140, hwf⟩, hK, Or.inl hR4⟩ g6
    · have hF : md_F P := md_R_rx hR (by decide) (by decide) (md_r149 T40 hT)
      left; left
      have c3 : ¬ (X14.1 117 26).toInt = 1 := fun z => hT ((rx_k hG).2.1.mp z)
      obtain ⟨w3, X2, r3, g4⟩ := r2
      unfold gx_216 at r3
      rw [if_neg c3] at r3
      obtain ⟨w7, X6, r4, e1, e2⟩ := r3
      have h5 := rx_215 hF (by decide) r4
      rw [if_pos (by rw [e1, h5.1]; rfl)] at g4
      rw [if_pos (by rw [g4.1]; rfl)] at g3
      rw [g3.1, g3.2, g4.2, e2]
      exact ⟨rfl, h5.2⟩
  · have hT : (rp_T P).1 j = 40 := by
      rcases hw15 with y | y
      · exact s40.mp y.2
      · omega
    have hR0 : md_R P ((40, j) :: (170, j) :: (145, j) :: (41, j) :: (171, j) :: (150, j) :: K) j near c nm (cs, ws) := md_R_r (r := [40, 170, 145, 41, 171, 150]) hR (by decide) (by decide) (by decide) (by rw [hT]; rfl)
    have e1' : (Int32.ofInt 1).toInt = 1 := rfl
    have c14 : (c 14 + Int32.ofInt 1).toInt = ((md_bks S + 1 : Nat) : Int) := cx_in1 b1 (by omega)
    rcases fy_ifd g2 with ⟨c2, g3⟩ | ⟨c2, g3⟩
    · have hF : md_F P := by
        by_cases hj : j < 1000
        · rcases md_R_q (md_R_t hR0 (by decide) hT (Or.inl hj)) (Or.inl rfl) with ⟨-, y⟩ | ⟨c', nm', y1, -⟩
          · exact y
          · exfalso
            have y1 : md_lim 8 c 14 nm = some (c', nm') := y1
            unfold md_lim at y1
            rw [if_pos (by rw [c14]; omega)] at y1
            cases y1
        · exact md_R_tx hR0 (by decide) (Or.inr ⟨by omega, by decide⟩)
      obtain ⟨w34, X33, r2, e1, e2⟩ := g3
      rw [e1, e2]
      exact Or.inl (Or.inl (rx_215 hF (by decide) r2))
    · obtain ⟨X25, e25, -, X28, e28, X29, e29, w31, X30, r2, g4⟩ := g3
      have i50 : (X25.1 117 50).toInt = (S.length : Int) := by rw [e25, fx_rIk (by decide)]; exact h50
      rw [fx_in i50] at e28
      have f29 : fy [(117, 46), (117, 50)] [] [140] X14 X29 := by rw [e29, e28, e25]; exact fy_f (fy_a (fy_f fy_rf (by decide)) (by decide)) (by decide)
      have hG29 := rx_G_fr hG f29 (by decide) (by decide)
      have hD29 := rx_QD_fy hD hG29 f29 (by decide) (by decide)
      rcases rx_go (rx_214g hG29 hR0 ⟨hT, by decide, by decide⟩ r2) g4 with e | ⟨⟨hG30, hR1⟩, g5⟩
      · exact Or.inl (Or.inl e)
      have hD30 : rx_QD P nn X0 X30 (md_os S + 0) (j + 1) c cs ws nm := rx_QD_fy hD29 hG30 (gf_214 r2) (by decide) (by decide)
      rcases md_R_q hR1 (Or.inl rfl) with ⟨y, -⟩ | ⟨c', nm', y1, hR2⟩
      · exfalso
        have y : md_lim 8 c 14 nm = none := y
        unfold md_lim at y
        rw [if_neg (by rw [c14]; omega)] at y
        cases y
      have y1 : md_lim 8 c 14 nm = some (c', nm') := y1
      unfold md_lim at y1
      rw [if_neg (by rw [c14]; omega)] at y1
      cases y1
      have hR3 : md_R P ((147, j + 1) :: (146, j + 1) :: (41, j) :: (171, j) :: (150, j) :: K) (j + 1) j (md_u c 14 (c 14 + Int32.ofInt 1)) nm (cs, ws) := md_R_r (r := [147, 146]) hR2 (by decide) (by decide) (by decide) rfl
      have hR4 : md_R P ((149, j + 1) :: (148, j + 1) :: (146, j + 1) :: (41, j) :: (171, j) :: (150, j) :: K) (j + 1) j (md_u c 14 (c 14 + Int32.ofInt 1)) nm (cs, ws) := md_R_r (r := [149, 148]) hR3 (by decide) (by decide) (by decide) rfl
      have hGu : rx_G P X30 (j + 1) (md_u c 14 (c 14 + Int32.ofInt 1)) := hG30
      have hDu : rx_QD P nn X0 X30 (md_os S + 0) (j + 1) (md_u c 14 (c 14 + Int32.ofInt 1)) cs ws nm := rx_QD_fr hD30 hGu rx_lo_rf ⟨rfl, rfl, rfl⟩ hD30.2.2.2.1 ⟨rfl, rfl⟩ (fun hb => ⟨rfl, rfl, (hD30.2.2.2.2.2.2 hb).1, rfl⟩)
      have eb : md_bks (40 :: S) = md_bks S + 1 := rfl
      have k46 : (X30.1 117 46).toInt = ((md_bks S + 1 : Nat) : Int) := by
        rw [(gf_214 r2).2.2 117 46 (by decide) (by decide), e29, fx_rIk (by decide), e28, fx_rIn (by decide), e25, fx_rIe]
        exact cx_in1 b2 (by omega)
      have k50 : (X30.1 117 50).toInt = ((S.length + 1 : Nat) : Int) := by
        rw [(gf_214 r2).2.2 117 50 (by decide) (by decide), e29, fx_rIe, e28, fx_rIn (by decide)]
        exact cx_in1 i50 (by omega)
      have k140 : X30.1 140 = X28.1 140 := by rw [fy_ra (gf_214 r2) (by decide) (by decide), e29, fx_rIn (by decide)]
      refine ih22 (40 :: S) X30 ⟨j + 1, j, _, cs, ws, j + 1, _, ⟨hDu, hlen, ⟨?_, by rw [eb]; exact k46, by rw [eb]; omega⟩, k50, rx_ac_push hac (fun i hi => ?_) ?_, hwf, Or.inl rfl⟩, Or.inl ⟨rfl, j + 1, j + 1, j, j, j, K, rfl, hK⟩, hR4⟩ g5
      · rw [eb]
        exact c14
      · rw [k140, e28, fx_rIk (by omega), e25, fx_rIn (by decide)]
      · rw [k140, e28, fx_rIe]; rfl
end DD66
