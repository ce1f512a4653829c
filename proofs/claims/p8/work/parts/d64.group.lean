/-! THE REFERENCE: # of a query, all; the steps of a query, all -/
section DD64
variable {P : md_P} {X X' X0 X1 X2 : fx_X} {K : List md_Sy} {n d k s h b R C i c0 a fd j near l l2 : Nat} {v w y2 y3 y4 y5 y6 p1 p2 p3 p4 p5 z : Int32} {u : Unit} {ps : List Nat} {fo b14 : Int} {c c' : md_C} {nm : md_Nm} {cs cs' : md_CS} {ws ws' : md_WS} {nn n8 : Int64} {sk : List (List Int64)} {l8 : List Int64} {q : md_Q} {sq : List md_Q}
theorem rx_263 (hp : p1.toInt = ((20 + sk.length : Nat) : Int)) (hsk : cs.2.2.2.2.1 = l8 :: sk) (hD : rx_QD P nn X0 X (sk.length + 1) j c cs ws nm) (hR : md_R P ((150, l) :: K) j near c nm (cs, ws)) (h14 : (c 14).toInt = b14) (hT : (rp_T P).1 j = 35) (g : gx_263 p1 X v X') : (rx_X P v X' ∨ rx_Yq P X0 nm v X') ∨ (v = Int32.ofInt 1 ∧ (rx_B P X' ∨ rx_S P nn X0 nm b14 sk K X')) := by
  obtain ⟨n, g⟩ := g
  unfold gxE_263 at g
  obtain ⟨x2, ex2, w5, X4, r1, g⟩ := g
  have hR0 : md_R P ((35, j) :: (172, j) :: (40, j) :: (215, j) :: (155, j) :: (41, j) :: (220, j) :: (156, j) :: (3, j) :: (223, j) :: (150, j) :: K) j near c nm (cs, ws) := md_R_r (r := [35, 172, 40, 215, 155, 41, 220, 156, 3, 223, 150]) hR (by decide) (by decide) (by decide) (by rw [hT]; rfl)
  rcases rx_go (rx_264 hD.1 hR0 ⟨hT, by decide, by decide⟩ r1) g with e | ⟨⟨hG1, hR1⟩, g1⟩
  · exact Or.inl (Or.inl e)
  have f4 := gf_264 r1
  have hD1 : rx_QD P nn X0 X4 (sk.length + 1) (j + 1) (md_u c 12 (c 12 + Int32.ofInt 1)) cs ws nm := rx_QD_fr hD hG1 (rx_lo_fy f4 (by decide) (by decide)) ⟨rfl, rfl, rfl⟩ (by rw [f4.2.2 117 51 (by decide) (by decide)]; exact hD.2.2.2.1) ⟨rfl, rfl⟩ (fun hb => ⟨rfl, rfl, (hD.2.2.2.2.2.2 hb).1, rfl⟩)
  obtain ⟨w8, X7, r2, g2⟩ := g1
  rcases rx_go (rx_261 (K := (220, j) :: (156, j) :: (3, j) :: (223, j) :: (150, j) :: K) (l3 := j) (b14 := b14) (Or.inr ⟨j + 1, j, _, cs, ws, l8, j, j, hsk, hD1, Or.inr ⟨by decide, _, hR1⟩, h14, hp⟩) r2) g2 with e | ⟨h2, g3⟩
  · exact Or.inl (Or.inl e)
  rcases h2 with hB | ⟨l9, j2, near2, c2, cs2, w2, hsk2, hD2, hR2, h142, htk⟩
  · have p123 : ∀ {X1 : fx_X} {l : Nat} {is : List Int32}, rx_B P X1 → gxF_263 p1 n l is [] [] X1 v X' → (rx_X P v X' ∨ rx_Yq P X0 nm v X') ∨ (v = Int32.ofInt 1 ∧ (rx_B P X' ∨ rx_S P nn X0 nm b14 sk K X')) := by
      intro X1 l is hB1 g4
      exact (rx_BE (gbl_263 _ _ _ _ _ _ _ v X' hB1 g4) (gvl_263 _ _ _ _ _ _ _ v X' g4)).imp Or.inl id
    rcases fy_ifd g3 with ⟨c1, g4⟩ | ⟨c1, g4⟩
    · rcases fy_ifd g4 with ⟨c2, g5⟩ | ⟨c2, g5⟩
      · exact p123 hB g5
      · obtain ⟨x12, e12, g6⟩ := g5
        rcases fy_ifd g6 with ⟨c3, g7⟩ | ⟨c3, g7⟩
        · obtain ⟨w36, X35, r, e1, e2⟩ := g7
          rw [e1, e2]
          exact Or.inl (Or.inl (rx_215 hB.1 (by decide) r))
        · obtain ⟨w16, X15, r, g8⟩ := g7
          have hB1 := gb_214 hB r
          rcases fy_ifd g8 with ⟨c4, g9⟩ | ⟨c4, g9⟩
          · rw [g9.1, g9.2]
            exact Or.inl (Or.inl ⟨rfl, hB1.1, hB1.2.1⟩)
          · replace g9 := g9.2
            rcases fy_ifd g9 with ⟨c5, ga⟩ | ⟨c5, ga⟩
            · exact p123 hB1 ga
            · rcases fy_ifd ga with ⟨c6, gb⟩ | ⟨c6, gb⟩
              · obtain ⟨w30, X29, r5, gc⟩ := gb
                exact p123 (rx_B_218 hB1 (by decide) r5) gc
              · exact p123 hB1 gb
    · exact p123 hB g4
  have hG2 := hD2.1
  obtain ⟨⟨hcl, h20⟩, htop⟩ := rx_QD_top hD2 hsk2
  have hRe := md_R_e0 hR2 (by decide)
  have hck := md_ck220 (T := rp_T P) (cs := cs2) (near := near2) (l := j)
  have hRx : ¬ 6 ≤ cs2.2.2.2.2.2.1.length → md_R P ((156, j) :: (3, j) :: (223, j) :: (150, j) :: K) j2 near2 c2 nm (cs2, w2) := fun z => md_Re_c hRe (hck.trans (if_neg z)) (fun wd => md_wk220)
  have hno : ((rp_T P).1 j2 ≠ 16 ∧ (rp_T P).1 j2 ≠ 17 ∧ (rp_T P).1 j2 ≠ 18 ∧ (rp_T P).1 j2 ≠ 19) → md_F P := fun z => by
    by_cases h6 : 6 ≤ cs2.2.2.2.2.2.1.length
    · exact md_Re_f hRe (hck.trans (if_pos h6))
    · exact md_R_rx (hRx h6) (by decide) (by decide) (md_r156 z)
  have f47 : md_F P → gxF_263 p1 n 47 [x2] [] [] X7 v X' → rx_X P v X' := fun hF g => by
    cases n with
    | zero => exact g.elim
    | succ n =>
      replace g := gxO_263_47 g
      unfold gxT_263_47 at g
      obtain ⟨w40, X39, r, e1, e2⟩ := g
      rw [e1, e2]
      exact rx_215 hF (by decide) r
  have kk := rx_k hG2
  rcases fy_ifd g3 with ⟨c1, g4⟩ | ⟨c1, g4⟩
  · have k4 := rx_k4 hG2 c1
    rcases fy_ifd g4 with ⟨c3, g5⟩ | ⟨c3, g5⟩
    · exact Or.inl (Or.inl (f47 (hno (by omega)) g5))
    · obtain ⟨x12, e12, g6⟩ := g5
      rw [if_neg (by rw [e12]; omega)] at g6
      obtain ⟨w16, X15, r3, g7⟩ := g6
      obtain ⟨fo, hfo⟩ : ∃ fo, fo = (rp_T P).1 j2 := ⟨_, rfl⟩
      have h132 : (X15.1 132 (20 + sk.length)).toInt = (l9.length : Int) := by
        rw [fy_ra (gf_214 r3) (by decide) (by decide)]
        exact hcl.1
      have h56 : X15.1 117 56 = X7.1 117 56 := (gf_214 r3).2.2 117 56 (by decide) (by decide)
      have h3 : x12.toInt = fo - 10 := by rw [e12]; omega
      by_cases h6 : 6 ≤ cs2.2.2.2.2.2.1.length
      · have hF : md_F P := md_Re_f hRe (hck.trans (if_pos h6))
        have hl6 : cs2.2.2.2.2.2.1.length ≤ l9.length := md_nd8 _ _ htk.2.1.1 htk.2.1.2
        have := hcl.2.1
        rcases rx_214t (Q := True) (Or.inr ⟨hG2, by omega, True.intro⟩) r3 with ⟨hv, hB | ⟨h24, -, -⟩⟩ | ⟨hv, hB | ⟨hG5, -, -⟩⟩
        · rw [if_pos (by rw [hv]; rfl)] at g7
          rw [g7.1, g7.2]
          exact Or.inl (Or.inl ⟨rfl, hB.1, hB.2.1⟩)
        · rw [if_pos (by rw [hv]; rfl)] at g7
          rw [g7.1, g7.2]
          exact Or.inl (Or.inl ⟨rfl, hF, h24⟩)
        · exact absurd (by rw [rx_214_24 r3 hv]; exact hG2.2.2.2.2.2.1) hB.2.1
        · rw [if_neg (by rw [hv]; decide), fx_in hp, if_neg (by omega), h56, if_pos (by rw [htk.1]; omega)] at g7
          obtain ⟨-, w30, X29, r5, g8⟩ := g7
          have hB : rx_B P X29 := rx_tell (Or.inr ⟨hG5, hF⟩) (by decide) r5
          exact (rx_BE (gbl_263 _ _ _ _ _ _ _ v X' hB g8) (gvl_263 _ _ _ _ _ _ _ v X' g8)).imp Or.inl id
      · have hR3 := hRx h6
        have hF6 : cs2.2.2.2.2.2.1.length < 6 := by omega
        have go : ∀ {K' : List md_Sy}, md_R P ((fo, j2) :: (221, j2) :: K') j2 near2 c2 nm (cs2, w2) → (16 ≤ fo ∧ fo ≤ 19) → ((fo = 16 ∧ ∃ l1 l2 l3, K' = (3, l1) :: (223, l2) :: (150, l3) :: K) ∨ ((fo = 17 ∨ fo = 18 ∨ fo = 19) ∧ ∃ l4 l5 l1 l2 l3, K' = (3, l4) :: (222, l5) :: (3, l1) :: (223, l2) :: (150, l3) :: K)) → (rx_X P v X' ∨ rx_Yq P X0 nm v X') ∨ (v = Int32.ofInt 1 ∧ (rx_B P X' ∨ rx_S P nn X0 nm b14 sk K X')) := by
          intro K' hR4 hfr hK
          rcases rx_go (rx_214g hG2 hR4 ⟨hfo.symm, by omega, by omega⟩ r3) g7 with e | ⟨⟨hG5, hR5⟩, g8⟩
          · exact Or.inl (Or.inl e)
          rw [fx_in hp, if_neg (by omega), h56, if_neg (by rw [htk.1]; omega)] at g8
          obtain ⟨w3, x1, x2, -⟩ := md_Re_n (md_R_e0 hR5 (by decide)) (md_ck221 (T := rp_T P) (cs := cs2) (near := j2) (l := j2)) (fun _ => md_wk221)
          have hD5 : rx_QD P nn X0 X15 (sk.length + 1) (j2 + 1) c2 cs2 w2 nm := rx_QD_fy hD2 hG5 (gf_214 r3) (by decide) (by decide)
          have hD6 : rx_QD P nn X0 X15 (sk.length + 1) (j2 + 1) c2 cs2 w3 nm := rx_QD_ws hD5 (fun hb => by rw [x2 hb]; exact ⟨rfl, rfl, rfl, rfl⟩)
          have htk3 : rx_tk P X15 cs2 w3 l9 := rx_tk_e htk h56 (fy_ra (gf_214 r3) (by decide) (by decide)) (fun hb => by rw [x2 hb]; rfl)
          refine rx_263f (near := j2) (fo := fo) hp hsk2 hD6 ?_ h142 htk3 hF6 h3 (fun hb => by rw [x2 hb, hfo]; rfl) rfl rfl rfl g8.2
          rcases hK with ⟨f, l1, l2, l3, hK⟩ | ⟨f, l4, l5, l1, l2, l3, hK⟩
          · subst hK
            exact Or.inl ⟨f, l1, l2, l3, x1⟩
          · subst hK
            exact Or.inr ⟨f, l4, l5, l1, l2, l3, x1⟩
        by_cases f6 : fo = 16
        · have hR4 : md_R P ((fo, j2) :: (221, j2) :: (3, j) :: (223, j) :: (150, j) :: K) j2 near2 c2 nm (cs2, w2) := by
            rw [f6]
            exact md_R_r (r := [16, 221]) hR3 (by decide) (by decide) (by decide) (by rw [← hfo, f6]; rfl)
          exact go hR4 (by omega) (Or.inl ⟨f6, _, _, _, rfl⟩)
        · by_cases f7 : fo = 17
          · have hR4 : md_R P ((fo, j2) :: (221, j2) :: (3, j2) :: (222, j2) :: (3, j) :: (223, j) :: (150, j) :: K) j2 near2 c2 nm (cs2, w2) := by
              rw [f7]
              exact md_R_r (r := [17, 221, 3, 222]) hR3 (by decide) (by decide) (by decide) (by rw [← hfo, f7]; rfl)
            exact go hR4 (by omega) (Or.inr ⟨Or.inl f7, _, _, _, _, _, rfl⟩)
          · by_cases f8 : fo = 18
            · have hR4 : md_R P ((fo, j2) :: (221, j2) :: (3, j2) :: (222, j2) :: (3, j) :: (223, j) :: (150, j) :: K) j2 near2 c2 nm (cs2, w2) := by
                rw [f8]
                exact md_R_r (r := [18, 221, 3, 222]) hR3 (by decide) (by decide) (by decide) (by rw [← hfo, f8]; rfl)
              exact go hR4 (by omega) (Or.inr ⟨Or.inr (Or.inl f8), _, _, _, _, _, rfl⟩)
            · have f9 : fo = 19 := by omega
              have hR4 : md_R P ((fo, j2) :: (221, j2) :: (3, j2) :: (222, j2) :: (3, j) :: (223, j) :: (150, j) :: K) j2 near2 c2 nm (cs2, w2) := by
                rw [f9]
                exact md_R_r (r := [19, 221, 3, 222]) hR3 (by decide) (by decide) (by decide) (by rw [← hfo, f9]; rfl)
              exact go hR4 (by omega) (Or.inr ⟨Or.inr (Or.inr f9), _, _, _, _, _, rfl⟩)
  · have kno : ∀ w : Int, 0 ≤ w → w ≤ 9 → (rp_T P).1 j2 ≠ 10 + w := fun w h0 h9 z => c1 ((kk.2.2.2.2.2.2 w h0 h9).mpr z).1
    exact Or.inl (Or.inl (f47 (hno ⟨kno 6 (by decide) (by decide), kno 7 (by decide) (by decide), kno 8 (by decide) (by decide), kno 9 (by decide) (by decide)⟩) g4))
/-- all steps -/
theorem rx_253 (hp : p1.toInt = ((20 + sk.length : Nat) : Int)) (hS : rx_B P X ∨ rx_S P nn X0 nm b14 sk K X) (g : gx_253 p1 X v X') : (rx_X P v X' ∨ rx_Yq P X0 nm v X') ∨ (v = Int32.ofInt 1 ∧ (rx_B P X' ∨ ∃ j near c cs ws l8, cs.2.2.2.2.1 = l8 :: sk ∧ rx_QD P nn X0 X' (sk.length + 1) j c cs ws nm ∧ md_R P K j near c nm (cs, ws) ∧ (c 14).toInt = b14)) := by
  obtain ⟨n, g⟩ := g
  exact rx_253l hp (fun h1 h2 h3 h4 h5 h6 => rx_263 hp h1 h2 h3 h4 h5 h6) n n _ X (Nat.le_refl _) (Or.inr ⟨rfl, hS⟩) g
end DD64
