/-! THE REFERENCE: the steps of a query -/
section DD52
variable {P : md_P} {X X' X0 X1 X2 : fx_X} {K : List md_Sy} {c c' : md_C} {nm : md_Nm} {cs cs' : md_CS} {ws ws' : md_WS} {j near l n d : Nat} {v w p1 y2 : Int32} {nn : Int64} {sk : List (List Int64)} {l8 : List Int64} {b14 : Int}
theorem rx_253d (g : (∃ (w80 : Int32) (X79 : fx_X), gx_220 ((Int8.ofInt 91).toInt32) X w80 X79 ∧ (if (w80).toInt = 0 then (∃ (w83 : Int32) (X82 : fx_X), gx_220 ((Int8.ofInt 58).toInt32) X79 w83 X82 ∧ (if (w83).toInt = 0 then (∃ (w86 : Int32) (X85 : fx_X), gx_220 ((Int8.ofInt 123).toInt32) X82 w86 X85 ∧ (if (w86).toInt = 0 then (∃ (w89 : Int32) (X88 : fx_X), gx_263 p1 X85 w89 X88 ∧ gxF_253 p1 n 2 [w89] [] [] X88 v X') else (∃ (w92 : Int32) (X91 : fx_X), gx_262 p1 X85 w92 X91 ∧ gxF_253 p1 n 2 [w92] [] [] X91 v X'))) else (∃ (w95 : Int32) (X94 : fx_X), gx_260 p1 X82 w95 X94 ∧ gxF_253 p1 n 2 [w95] [] [] X94 v X'))) else (∃ (w98 : Int32) (X97 : fx_X), gx_254 p1 X79 w98 X97 ∧ gxF_253 p1 n 2 [w98] [] [] X97 v X')))) : (rx_sg X 91 ∧ ∃ w X2, gx_254 p1 X w X2 ∧ gxF_253 p1 n 2 [w] [] [] X2 v X') ∨ (rx_sg X 58 ∧ ∃ w X2, gx_260 p1 X w X2 ∧ gxF_253 p1 n 2 [w] [] [] X2 v X') ∨ (rx_sg X 123 ∧ ∃ w X2, gx_262 p1 X w X2 ∧ gxF_253 p1 n 2 [w] [] [] X2 v X') ∨ ((¬ rx_sg X 91 ∧ ¬ rx_sg X 58 ∧ ¬ rx_sg X 123) ∧ ∃ w X2, gx_263 p1 X w X2 ∧ gxF_253 p1 n 2 [w] [] [] X2 v X') := by
  obtain ⟨wa, Xa, ra, ga⟩ := g
  obtain ⟨ea, ha⟩ := rx_220 ra
  subst ea
  rcases fy_ifd ga with ⟨c1, ga1⟩ | ⟨c1, ga1⟩
  · have na : ¬ rx_sg Xa 91 := by
      rcases ha with y | y
      · omega
      · exact y.2
    obtain ⟨wb, Xb, rb, gb⟩ := ga1
    obtain ⟨eb, hb⟩ := rx_220 rb
    subst eb
    rcases fy_ifd gb with ⟨c2, gb1⟩ | ⟨c2, gb1⟩
    · have nb : ¬ rx_sg Xb 58 := by
        rcases hb with y | y
        · omega
        · exact y.2
      obtain ⟨wc, Xc, rc, gc⟩ := gb1
      obtain ⟨ec, hc⟩ := rx_220 rc
      subst ec
      rcases fy_ifd gc with ⟨c3, gc1⟩ | ⟨c3, gc1⟩
      · have nc : ¬ rx_sg Xc 123 := by
          rcases hc with y | y
          · omega
          · exact y.2
        exact Or.inr (Or.inr (Or.inr ⟨⟨na, nb, nc⟩, gc1⟩))
      · refine Or.inr (Or.inr (Or.inl ⟨?_, gc1⟩))
        rcases hc with y | y
        · exact y.2
        · omega
    · refine Or.inr (Or.inl ⟨?_, gb1⟩)
      rcases hb with y | y
      · exact y.2
      · omega
  · refine Or.inl ⟨?_, ga1⟩
    rcases ha with y | y
    · exact y.2
    · omega
theorem rx_253v : ∀ (d n : Nat) (y2 : Int32) (X : fx_X), n ≤ d → (y2 = Int32.ofInt 0 ∨ y2 = Int32.ofInt 1) → gxF_253 p1 n 2 [y2] [] [] X v X' → v = Int32.ofInt 0 ∨ v = Int32.ofInt 1 := by
  intro d
  induction d with
  | zero =>
    intro n y2 X hn _ g
    cases n with
    | zero => exact g.elim
    | succ n => omega
  | succ d ih =>
    intro n y2 X hn hy g
    cases n with
    | zero => exact g.elim
    | succ n =>
      replace g := gxO_253_2 g
      unfold gxT_253_2 at g
      have dis : ∀ {Y : fx_X}, (∃ (w80 : Int32) (X79 : fx_X), gx_220 ((Int8.ofInt 91).toInt32) Y w80 X79 ∧ (if (w80).toInt = 0 then (∃ (w83 : Int32) (X82 : fx_X), gx_220 ((Int8.ofInt 58).toInt32) X79 w83 X82 ∧ (if (w83).toInt = 0 then (∃ (w86 : Int32) (X85 : fx_X), gx_220 ((Int8.ofInt 123).toInt32) X82 w86 X85 ∧ (if (w86).toInt = 0 then (∃ (w89 : Int32) (X88 : fx_X), gx_263 p1 X85 w89 X88 ∧ gxF_253 p1 n 2 [w89] [] [] X88 v X') else (∃ (w92 : Int32) (X91 : fx_X), gx_262 p1 X85 w92 X91 ∧ gxF_253 p1 n 2 [w92] [] [] X91 v X'))) else (∃ (w95 : Int32) (X94 : fx_X), gx_260 p1 X82 w95 X94 ∧ gxF_253 p1 n 2 [w95] [] [] X94 v X'))) else (∃ (w98 : Int32) (X97 : fx_X), gx_254 p1 X79 w98 X97 ∧ gxF_253 p1 n 2 [w98] [] [] X97 v X'))) → v = Int32.ofInt 0 ∨ v = Int32.ofInt 1 := by
        intro Y gY
        rcases rx_253d gY with ⟨-, w, X2, r, g2⟩ | ⟨-, w, X2, r, g2⟩ | ⟨-, w, X2, r, g2⟩ | ⟨-, w, X2, r, g2⟩
        · exact ih n w X2 (by omega) (gv_254 r) g2
        · exact ih n w X2 (by omega) (gv_260 r) g2
        · exact ih n w X2 (by omega) (gv_262 r) g2
        · exact ih n w X2 (by omega) (gv_263 r) g2
      rcases fy_ifd g with ⟨c0, g0⟩ | ⟨c0, g0⟩
      · rw [g0.1]; exact hy
      obtain ⟨wa, Xa, ra, ga⟩ := g0
      rcases fy_ifd ga with ⟨c1, ga1⟩ | ⟨c1, ga1⟩
      · obtain ⟨wb, Xb, rb, gb⟩ := ga1
        rcases fy_ifd gb with ⟨c2, gb1⟩ | ⟨c2, gb1⟩
        · obtain ⟨wc, Xc, rc, gc⟩ := gb1
          rcases fy_ifd gc with ⟨c3, gc1⟩ | ⟨c3, gc1⟩
          · obtain ⟨wd, Xd, rd, gd⟩ := gc1
            rcases fy_ifd gd with ⟨c4, gd1⟩ | ⟨c4, gd1⟩
            · rw [gd1.1]; exact hy
            · exact dis gd1
          · exact dis gc1
        · exact dis gb1
      · exact dis ga1
/-- the steps; what # leaves is given -/
theorem rx_253l (hp : p1.toInt = ((20 + sk.length : Nat) : Int)) (H : ∀ {X v X'} {j near l : Nat} {c : md_C} {cs : md_CS} {ws : md_WS} {l8 : List Int64}, cs.2.2.2.2.1 = l8 :: sk → rx_QD P nn X0 X (sk.length + 1) j c cs ws nm → md_R P ((150, l) :: K) j near c nm (cs, ws) → (c 14).toInt = b14 → (rp_T P).1 j = 35 → gx_263 p1 X v X' → (rx_X P v X' ∨ rx_Yq P X0 nm v X') ∨ (v = Int32.ofInt 1 ∧ (rx_B P X' ∨ rx_S P nn X0 nm b14 sk K X'))) : ∀ (d n : Nat) (y2 : Int32) (X : fx_X), n ≤ d → ((rx_X P y2 X ∨ rx_Yq P X0 nm y2 X) ∨ (y2 = Int32.ofInt 1 ∧ (rx_B P X ∨ rx_S P nn X0 nm b14 sk K X))) → gxF_253 p1 n 2 [y2] [] [] X v X' → (rx_X P v X' ∨ rx_Yq P X0 nm v X') ∨ (v = Int32.ofInt 1 ∧ (rx_B P X' ∨ ∃ j near c cs ws l8, cs.2.2.2.2.1 = l8 :: sk ∧ rx_QD P nn X0 X' (sk.length + 1) j c cs ws nm ∧ md_R P K j near c nm (cs, ws) ∧ (c 14).toInt = b14)) := by
  intro d
  induction d with
  | zero =>
    intro n y2 X hn _ g
    cases n with
    | zero => exact g.elim
    | succ n => omega
  | succ d ih =>
    intro n y2 X hn h g
    cases n with
    | zero => exact g.elim
    | succ n =>
      rcases h with h | ⟨hy, hB | ⟨j, near, l, c, cs, ws, l8, hsk, hD, hR, h14⟩⟩
      · replace g := gxO_253_2 g
        unfold gxT_253_2 at g
        have hy : y2 = Int32.ofInt 0 := by rcases h with h | h <;> exact h.1
        rw [if_pos (by rw [hy]; rfl)] at g
        left
        rw [g.1, g.2]
        exact h
      · have h1 := gbl_253 _ _ _ _ _ _ _ v X' hB g
        subst hy
        rcases rx_253v (n + 1) (n + 1) _ X (Nat.le_refl _) (Or.inr rfl) g with hv | hv
        · exact Or.inl (Or.inl ⟨hv, h1.1, h1.2.1⟩)
        · exact Or.inr ⟨hv, Or.inl h1⟩
      · replace g := gxO_253_2 g
        unfold gxT_253_2 at g
        rw [if_neg (by rw [hy]; decide)] at g
        have hG := hD.1
        have s91 := rx_sg_i (a := 91) hG (by decide)
        have s58 := rx_sg_i (a := 58) hG (by decide)
        have s123 := rx_sg_i (a := 123) hG (by decide)
        have s35 := rx_sg_i (a := 35) hG (by decide)
        have up : ∀ {w : Int32} {X2 : fx_X}, (rx_X P w X2 ∨ (w = Int32.ofInt 1 ∧ (rx_B P X2 ∨ rx_S P nn X0 nm b14 sk K X2))) → ((rx_X P w X2 ∨ rx_Yq P X0 nm w X2) ∨ (w = Int32.ofInt 1 ∧ (rx_B P X2 ∨ rx_S P nn X0 nm b14 sk K X2))) := fun z => z.imp Or.inl id
        have dis : ∀ {Y : fx_X}, Y = X → (rx_sg X 91 ∨ rx_sg X 58 ∨ rx_sg X 123 ∨ rx_sg X 35) → (∃ (w80 : Int32) (X79 : fx_X), gx_220 ((Int8.ofInt 91).toInt32) Y w80 X79 ∧ (if (w80).toInt = 0 then (∃ (w83 : Int32) (X82 : fx_X), gx_220 ((Int8.ofInt 58).toInt32) X79 w83 X82 ∧ (if (w83).toInt = 0 then (∃ (w86 : Int32) (X85 : fx_X), gx_220 ((Int8.ofInt 123).toInt32) X82 w86 X85 ∧ (if (w86).toInt = 0 then (∃ (w89 : Int32) (X88 : fx_X), gx_263 p1 X85 w89 X88 ∧ gxF_253 p1 n 2 [w89] [] [] X88 v X') else (∃ (w92 : Int32) (X91 : fx_X), gx_262 p1 X85 w92 X91 ∧ gxF_253 p1 n 2 [w92] [] [] X91 v X'))) else (∃ (w95 : Int32) (X94 : fx_X), gx_260 p1 X82 w95 X94 ∧ gxF_253 p1 n 2 [w95] [] [] X94 v X'))) else (∃ (w98 : Int32) (X97 : fx_X), gx_254 p1 X79 w98 X97 ∧ gxF_253 p1 n 2 [w98] [] [] X97 v X'))) → (rx_X P v X' ∨ rx_Yq P X0 nm v X') ∨ (v = Int32.ofInt 1 ∧ (rx_B P X' ∨ ∃ j near c cs ws l8, cs.2.2.2.2.1 = l8 :: sk ∧ rx_QD P nn X0 X' (sk.length + 1) j c cs ws nm ∧ md_R P K j near c nm (cs, ws) ∧ (c 14).toInt = b14)) := by
          intro Y eY hs gY
          subst eY
          rcases rx_253d gY with ⟨z, w, X2, r, g2⟩ | ⟨z, w, X2, r, g2⟩ | ⟨z, w, X2, r, g2⟩ | ⟨⟨z1, z2, z3⟩, w, X2, r, g2⟩
          · exact ih n w X2 (by omega) (up (rx_254 (Or.inr ⟨j, near, l, c, cs, ws, l8, hsk, hD, hR, h14, s91.mp z, hp⟩) r)) g2
          · exact ih n w X2 (by omega) (up (rx_260 (Or.inr ⟨j, near, l, c, cs, ws, l8, hsk, hD, hR, h14, s58.mp z, hp⟩) r)) g2
          · exact ih n w X2 (by omega) (up (rx_262 (Or.inr ⟨j, near, l, c, cs, ws, l8, hsk, hD, hR, h14, s123.mp z, hp⟩) r)) g2
          · have z : rx_sg Y 35 := by
              rcases hs with y | y | y | y
              · exact absurd y z1
              · exact absurd y z2
              · exact absurd y z3
              · exact y
            exact ih n w X2 (by omega) (H hsk hD hR h14 (s35.mp z) r) g2
        obtain ⟨wa, Xa, ra, ga⟩ := g
        obtain ⟨ea, ha⟩ := rx_220 ra
        subst ea
        rcases fy_ifd ga with ⟨c1, ga1⟩ | ⟨c1, ga1⟩
        · obtain ⟨wb, Xb, rb, gb⟩ := ga1
          obtain ⟨eb, hb⟩ := rx_220 rb
          subst eb
          rcases fy_ifd gb with ⟨c2, gb1⟩ | ⟨c2, gb1⟩
          · obtain ⟨wc, Xc, rc, gc⟩ := gb1
            obtain ⟨ec, hc⟩ := rx_220 rc
            subst ec
            rcases fy_ifd gc with ⟨c3, gc1⟩ | ⟨c3, gc1⟩
            · obtain ⟨wd, Xd, rd, gd⟩ := gc1
              obtain ⟨ed, hd⟩ := rx_220 rd
              subst ed
              rcases fy_ifd gd with ⟨c4, gd1⟩ | ⟨c4, gd1⟩
              · have n91 : (rp_T P).1 j ≠ 91 := fun z => by
                  rcases ha with y | y
                  · omega
                  · exact y.2 (s91.mpr z)
                have n58 : (rp_T P).1 j ≠ 58 := fun z => by
                  rcases hb with y | y
                  · omega
                  · exact y.2 (s58.mpr z)
                have n123 : (rp_T P).1 j ≠ 123 := fun z => by
                  rcases hc with y | y
                  · omega
                  · exact y.2 (s123.mpr z)
                have n35 : (rp_T P).1 j ≠ 35 := fun z => by
                  rcases hd with y | y
                  · omega
                  · exact y.2 (s35.mpr z)
                have hR2 : md_R P K j near c nm (cs, ws) := md_R_r (r := []) hR (by decide) (by decide) (by decide) (by
                  show (md_52 150 _).map _ = _
                  unfold md_52
                  rw [if_neg (by decide), if_neg (by decide), if_neg (by decide), if_neg (by decide), if_neg (by decide), if_pos rfl]
                  unfold md_53
                  rw [if_neg n35, if_neg n58, if_neg n91, if_neg n123]
                  rfl)
                rw [gd1.1, gd1.2]
                exact Or.inr ⟨hy, Or.inr ⟨j, near, c, cs, ws, l8, hsk, hD, hR2, h14⟩⟩
              · exact dis rfl (Or.inr (Or.inr (Or.inr (by
                  rcases hd with y | y
                  · exact y.2
                  · omega)))) gd1
            · exact dis rfl (Or.inr (Or.inr (Or.inl (by
                rcases hc with y | y
                · exact y.2
                · omega)))) gc1
          · exact dis rfl (Or.inr (Or.inl (by
              rcases hb with y | y
              · exact y.2
              · omega))) gb1
        · exact dis rfl (Or.inl (by
            rcases ha with y | y
            · exact y.2
            · omega)) ga1
end DD52
