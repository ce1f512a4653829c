/-! THE REFERENCE: # of a query, from its sign on -/
section DD63
variable {P : md_P} {X X' X0 X1 X2 : fx_X} {K : List md_Sy} {n d k s h b R C i c0 a fd j near l l2 : Nat} {v w y2 y3 y4 y5 y6 p1 p2 p3 p4 p5 z : Int32} {u : Unit} {ps : List Nat} {fo b14 : Int} {c c' : md_C} {nm : md_Nm} {cs cs' : md_CS} {ws ws' : md_WS} {nn n8 : Int64} {sk : List (List Int64)} {l8 : List Int64} {q : md_Q} {sq : List md_Q}
theorem rx_QD_ws (h : rx_QD P nn X0 X s j c cs ws nm) (e : rp_b P = true → ws'.1 = ws.1 ∧ md_ptw ws' = md_ptw ws ∧ md_tr ws' = md_tr ws ∧ ws'.2.1 = ws.2.1) : rx_QD P nn X0 X s j c cs ws' nm := rx_QD_fr h h.1 rx_lo_rf ⟨rfl, rfl, rfl⟩ h.2.2.2.1 ⟨rfl, rfl⟩ (fun hb => by
  obtain ⟨e1, e2, e3, e4⟩ := e hb
  exact ⟨e1, e2, by rw [e3]; exact (h.2.2.2.2.2.2 hb).1, e4⟩)
theorem rx_tk_e (h : rx_tk P X cs ws l8) (e1 : X'.1 117 56 = X.1 117 56) (e2 : X'.1 142 = X.1 142) (e3 : rp_b P = true → md_pkw ws' = md_pkw ws) : rx_tk P X' cs ws' l8 := by
  obtain ⟨t1, t2, t4, t5⟩ := h
  exact ⟨by rw [e1]; exact t1, t2, fun i n hi => by rw [e2]; exact t4 i n hi, fun hb => by rw [e3 hb]; exact t5 hb⟩
theorem rx_k4 (hG : rx_G P X j c) (h4 : (X.1 117 26).toInt = 4) : (X.1 117 29).toInt = (rp_T P).1 j - 10 ∧ 10 ≤ (rp_T P).1 j ∧ (rp_T P).1 j ≤ 19 := by
  rcases rx_at_RT hG.2.2.2.2.2.2.2.1 with y | y | y | y | y | y | y | y | y <;> omega
theorem md_r156 (h : (rp_T P).1 j ≠ 16 ∧ (rp_T P).1 j ≠ 17 ∧ (rp_T P).1 j ≠ 18 ∧ (rp_T P).1 j ≠ 19) : md_rule 156 ((rp_T P).1 j) = none := by
  show (md_52 156 _).map _ = _
  unfold md_52
  rw [if_neg (by decide), if_neg (by decide), if_neg (by decide), if_neg (by decide), if_neg (by decide), if_neg (by decide), if_neg (by decide), if_neg (by decide), if_neg (by decide), if_neg (by decide), if_neg (by decide), if_pos rfl]
  unfold md_54
  rw [if_neg h.1, if_neg h.2.1, if_neg h.2.2.1, if_neg h.2.2.2]
  rfl
/-- behind the word: the COLUMN folded, the NAME of what comes -/
theorem rx_263f (hp : p1.toInt = ((20 + sk.length : Nat) : Int)) (hsk : cs.2.2.2.2.1 = l8 :: sk) (hD : rx_QD P nn X0 X (sk.length + 1) j c cs ws nm) (hR : (fo = 16 ∧ ∃ l1 l2 l3, md_R P ((3, l1) :: (223, l2) :: (150, l3) :: K) j near c nm (cs, ws)) ∨ ((fo = 17 ∨ fo = 18 ∨ fo = 19) ∧ ∃ l4 l5 l1 l2 l3, md_R P ((3, l4) :: (222, l5) :: (3, l1) :: (223, l2) :: (150, l3) :: K) j near c nm (cs, ws))) (h14 : (c 14).toInt = b14) (htk : rx_tk P X cs ws l8) (h6 : cs.2.2.2.2.2.1.length < 6) (h3 : y3.toInt = fo - 10) (hw : rp_b P = true → md_fow ws = fo) (h4 : y4 = Int32.ofInt 0) (h5 : y5 = Int32.ofInt 0) (h6y : y6 = Int32.ofInt 0) (g : gxF_263 p1 n 123 [y2, y3, y4, y5, y6] [] [] X v X') : (rx_X P v X' ∨ rx_Yq P X0 nm v X') ∨ (v = Int32.ofInt 1 ∧ (rx_B P X' ∨ rx_S P nn X0 nm b14 sk K X')) := by
  have hG := hD.1
  cases n with
  | zero => exact g.elim
  | succ n =>
    replace g := gxO_263_123 g
    unfold gxT_263_123 at g
    rcases hR with ⟨f, l1, l2, l3, hR⟩ | ⟨f, l4, l5, l1, l2, l3, hR⟩
    · rw [if_neg (by omega)] at g
      obtain ⟨w43, X42, r1, g1⟩ := g
      rcases rx_go (rx_216g hG hR r1) g1 with e | ⟨⟨hG2, hR2, h33, -⟩, g2⟩
      · exact Or.inl (Or.inl e)
      have hD2 := rx_QD_fy hD hG2 (gf_216 r1) (by decide) (by decide)
      have htk2 : rx_tk P X42 cs ws l8 := rx_tk_e htk ((gf_216 r1).2.2 117 56 (by decide) (by decide)) (fy_ra (gf_216 r1) (by decide) (by decide)) (fun _ => rfl)
      exact rx_263z (fd := 0) hp hsk hD2 hR2 h14 htk2 h6 h33 ⟨h3, Or.inl f⟩ (Or.inl f) (fun hb => ⟨hw hb, Or.inl f⟩) h5 h6y _ 0 n _ (Nat.zero_add _) rfl (fun i n hi => absurd hi (Nat.not_lt_zero i)) g2
    · rw [if_pos (by omega)] at g
      obtain ⟨w47, X46, r1, g1⟩ := g
      rcases rx_go (rx_216g hG hR r1) g1 with e | ⟨⟨hG2, hR2, h33, -⟩, g2⟩
      · exact Or.inl (Or.inl e)
      have hD2 := rx_QD_fy hD hG2 (gf_216 r1) (by decide) (by decide)
      have htk2 : rx_tk P X46 cs ws l8 := rx_tk_e htk ((gf_216 r1).2.2 117 56 (by decide) (by decide)) (fy_ra (gf_216 r1) (by decide) (by decide)) (fun _ => rfl)
      rw [if_pos (by rw [h5]; rfl)] at g2
      obtain ⟨w51, X50, r2, g3⟩ := g2
      rw [if_pos (by rw [h5]; rfl)] at g3
      obtain ⟨⟨hcl2, h20⟩, -⟩ := rx_QD_top hD2 hsk
      have hRe := md_R_e0 hR2 (by decide)
      have hck := md_ck222 (T := rp_T P) (near := j) (l := l5) hsk
      rw [← h33] at hck
      rcases rx_256 (Or.inr ⟨hG2, hcl2, ⟨hp, by omega⟩, fun hx => md_Re_f hRe (hck.trans (if_pos hx))⟩) r2 with hB | ⟨e50, ev, hv0⟩
      · have tail : ∀ {w : Int32} {X1 : fx_X} {is : List Int32}, gx_216 X50 w X1 → (if w.toInt = 0 then (v = Int32.ofInt 0 ∧ X' = X1) else gxF_263 p1 n 183 is [] [] X1 v X') → (rx_X P v X' ∨ rx_Yq P X0 nm v X') ∨ (v = Int32.ofInt 1 ∧ (rx_B P X' ∨ rx_S P nn X0 nm b14 sk K X')) := by
          intro w X1 is r gg
          have hB1 := gb_216 hB r
          rcases fy_ifd gg with ⟨c1, g4⟩ | ⟨c1, g4⟩
          · rw [g4.1, g4.2]
            exact Or.inl (Or.inl ⟨rfl, hB1.1, hB1.2.1⟩)
          · exact (rx_BE (gbl_263 _ _ _ _ _ _ _ v X' hB1 g4) (gvl_263 _ _ _ _ _ _ _ v X' g4)).imp Or.inl id
        rcases fy_ifd g3 with ⟨c1, g4⟩ | ⟨c1, g4⟩
        · obtain ⟨w67, X66, r3, g5⟩ := g4
          exact tail r3 g5
        · obtain ⟨w62, X61, r3, g5⟩ := g4
          exact tail r3 g5
      · subst e50
        rw [if_neg (by omega)] at g3
        obtain ⟨w62, X61, r3, g5⟩ := g3
        have hv0' : ¬ md_ix (X50.2.1 117 33) l8 0 < 0 := by omega
        obtain ⟨fd, hfd⟩ : ∃ fd : Nat, md_ix (X50.2.1 117 33) l8 0 = (fd : Int) := ⟨(md_ix (X50.2.1 117 33) l8 0).toNat, by omega⟩
        have hfl : fd < l8.length := by
          obtain ⟨i, i1, i2, -⟩ := md_ix_at hv0'
          have := (List.getElem?_eq_some_iff.mp i2).1
          omega
        obtain ⟨w3, x1, x2, x3⟩ := md_Re_n hRe (hck.trans (if_neg hv0')) (fun _ => md_wk222)
        have hD3 : rx_QD P nn X0 X50 (sk.length + 1) (j + 1) c cs w3 nm := rx_QD_ws hD2 (fun hb => by rw [x2 hb]; exact ⟨rfl, rfl, rfl, rfl⟩)
        have htk3 : rx_tk P X50 cs w3 l8 := rx_tk_e htk2 rfl rfl (fun hb => by rw [x2 hb]; rfl)
        rcases rx_go (rx_216g hG2 x1 r3) g5 with e | ⟨⟨hG4, hR4, h334, -⟩, g6⟩
        · exact Or.inl (Or.inl e)
        have hD4 := rx_QD_fy hD3 hG4 (gf_216 r3) (by decide) (by decide)
        have htk4 : rx_tk P X61 cs w3 l8 := rx_tk_e htk3 ((gf_216 r3).2.2 117 56 (by decide) (by decide)) (fy_ra (gf_216 r3) (by decide) (by decide)) (fun _ => rfl)
        exact rx_263z (fd := fd) (fo := fo) hp hsk hD4 hR4 h14 htk4 h6 h334 ⟨h3, Or.inr f⟩ (Or.inr ⟨by omega, hfl⟩) (fun hb => by
          rw [x2 hb]
          exact ⟨hw hb, Or.inr hfd⟩) rfl h6y _ 0 n _ (Nat.zero_add _) rfl (fun i n hi => absurd hi (Nat.not_lt_zero i)) g6
end DD63
