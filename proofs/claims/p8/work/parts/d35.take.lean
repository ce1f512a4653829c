/-! THE REFERENCE: COLUMNS taken -/
section DD35
variable {P : md_P} {X X' X0 X1 X2 Y Xa : fx_X} {K : List md_Sy} {c c' : md_C} {nm : md_Nm} {cs cs' : md_CS} {ws ws' w2 : md_WS} {j j' near l l2 l3 n n1 m t d k s s1 s2 r h M a b N R : Nat} {v w p1 p2 p3 p4 p5 z y2 y3 y4 y5 y6 : Int32} {nn n8 : Int64} {sk : List (List Int64)} {l8 pk : List Int64} {b14 : Int} {q : md_Q} {sq : List md_Q}
theorem rx_261 (h : rx_B P X ∨ ∃ j near c cs ws l8 l1 l2, cs.2.2.2.2.1 = l8 :: sk ∧ rx_QD P nn X0 X (sk.length + 1) j c cs ws nm ∧ ((p2.toInt = 0 ∧ ∃ l4 l5 l6, md_R P ((40, l1) :: (215, l2) :: (3, l4) :: (216, l5) :: (154, l6) :: (41, l3) :: K) j near c nm (cs, ws)) ∨ (p2.toInt ≠ 0 ∧ ∃ l4, md_R P ((40, l1) :: (215, l2) :: (155, l4) :: (41, l3) :: K) j near c nm (cs, ws))) ∧ (c 14).toInt = b14 ∧ p1.toInt = ((20 + sk.length : Nat) : Int)) (g : gx_261 p1 p2 X v X') : rx_X P v X' ∨ (v = Int32.ofInt 1 ∧ (rx_B P X' ∨ ∃ l8, rx_co P nn X0 nm b14 sk l8 K X')) := by
  rcases h with hB | ⟨j, near, c, cs, ws, l8, l1, l2, hsk, hD, hR, h14, hp⟩
  · exact rx_BE (gb_261 hB g) (gv_261 g)
  obtain ⟨n, X2, e2, -, g⟩ := g
  have f2 : fy [(117, 56)] [] [] X X2 := by rw [e2]; exact fy_f fy_rf (by decide)
  have hG2 := rx_G_fr hD.1 f2 (by decide) (by decide)
  have hD2 : rx_QD P nn X0 X2 (sk.length + 1) j c cs ws nm := rx_QD_fy hD hG2 f2 (by decide) (by decide)
  obtain ⟨⟨hcl, h20⟩, -⟩ := rx_QD_top hD2 hsk
  have h132 := hcl.1
  rw [fx_in hp, if_neg (by omega)] at g
  obtain ⟨w8, X7, r, g⟩ := g
  have out : (rx_X P v X' ∨ (v = Int32.ofInt 1 ∧ (rx_B P X' ∨ rx_co P nn X0 nm b14 sk l8 K X'))) → rx_X P v X' ∨ (v = Int32.ofInt 1 ∧ (rx_B P X' ∨ ∃ l8, rx_co P nn X0 nm b14 sk l8 K X')) := fun h => h.imp id (fun z => ⟨z.1, z.2.imp id (fun y => ⟨l8, y⟩)⟩)
  have e40 : ((Int8.ofInt 40).toInt32).toInt = 40 := rfl
  have f7 := gf_219 r
  have h56 : (X7.1 117 56).toInt = 0 := by rw [f7.2.2 117 56 (by decide) (by decide), e2, fx_rIe]; rfl
  -- behind the bracket
  have beh : ∀ {Ks : List md_Sy}, md_R P ((215, l2) :: Ks) (j + 1) j c nm (cs, ws) → rx_G P X7 (j + 1) c → ∃ cs' w3, (cs'.2.2.2.2.1 = l8 :: sk ∧ rx_QD P nn X0 X7 (sk.length + 1) (j + 1) c cs' w3 nm ∧ rx_tk P X7 cs' w3 l8) ∧ md_R P Ks (j + 1) j c nm (cs', w3) := by
    intro Ks hR1 hG7
    have hD7 : rx_QD P nn X0 X7 (sk.length + 1) (j + 1) c cs ws nm := rx_QD_fy hD2 hG7 f7 (by decide) (by decide)
    obtain ⟨w3, q1, q2, -⟩ := md_Re_n (md_R_e0 hR1 (by decide)) md_ck215 (fun _ => md_wk215)
    refine ⟨(cs.1, cs.2.1, cs.2.2.1, cs.2.2.2.1, cs.2.2.2.2.1, [], cs.2.2.2.2.2.2), w3, ⟨hsk, rx_QD_fr hD7 hG7 rx_lo_rf ⟨rfl, rfl, rfl⟩ hD7.2.2.2.1 ⟨rfl, rfl⟩ (fun hb => ?_), h56, ⟨List.nodup_nil, fun _ hx => absurd hx List.not_mem_nil⟩, fun i n hi => (by have hi : ([] : List Int64)[i]? = some n := hi; rw [List.getElem?_nil] at hi; cases hi), fun hb => by rw [q2 hb]; rfl⟩, q1⟩
    rw [q2 hb]
    exact ⟨rfl, rfl, (hD7.2.2.2.2.2.2 hb).1, rfl⟩
  rcases hR with ⟨hp2, l4, l5, l6, hR⟩ | ⟨hp2, l4, hR⟩
  · rcases rx_go (rx_219g hG2 hR (by decide) e40 r) g with e | ⟨⟨hG7, hR7⟩, g2⟩
    · exact Or.inl e
    rw [if_pos hp2] at g2
    obtain ⟨cs', w3, ⟨z1, z2, z3⟩, z4⟩ := beh hR7 hG7
    exact out (rx_261l hp n n _ X7 (Nat.le_refl _) ⟨j + 1, j, c, cs', w3, z1, z2, Or.inr ⟨by decide, _, _, _, z4⟩, h14, z3⟩ g2)
  · rcases rx_go (rx_219g hG2 hR (by decide) e40 r) g with e | ⟨⟨hG7, hR7⟩, g2⟩
    · exact Or.inl e
    rw [if_neg hp2] at g2
    obtain ⟨cs', w3, ⟨z1, z2, z3⟩, z4⟩ := beh hR7 hG7
    obtain ⟨w13, X12, r2, g3⟩ := g2
    obtain ⟨e12, hw13⟩ := rx_220 r2
    subst e12
    have e41 : ((Int8.ofInt 41).toInt32).toInt = 41 := rfl
    rw [e41] at hw13
    have hsg := rx_sg_i (a := 41) hG7 (by decide)
    rcases fy_ifd g3 with ⟨c1, g4⟩ | ⟨c1, g4⟩
    · by_cases hT : (rp_T P).1 (j + 1) = 3
      · have hR8 : md_R P ((3, j + 1) :: (216, j + 1) :: (154, j + 1) :: (41, l3) :: K) (j + 1) j c nm (cs', w3) := md_R_r (r := [3, 216, 154]) z4 (by decide) (by decide) (by decide) (by rw [hT]; rfl)
        exact out (rx_261l hp n n _ X12 (Nat.le_refl _) ⟨j + 1, j, c, cs', w3, z1, z2, Or.inr ⟨by decide, _, _, _, hR8⟩, h14, z3⟩ g4)
      · -- neither a NAME nor the bracket
        have hR8 : md_R P ((41, l3) :: K) (j + 1) j c nm (cs', w3) := md_R_r (r := []) z4 (by decide) (by decide) (by decide) (by
          show (md_52 155 _).map _ = _
          unfold md_52
          rw [if_neg (by decide), if_neg (by decide), if_neg (by decide), if_neg (by decide), if_neg (by decide), if_neg (by decide), if_neg (by decide), if_neg (by decide), if_neg (by decide), if_neg (by decide), if_pos rfl, if_neg hT]
          rfl)
        have hF : md_F P := md_R_tx hR8 (by decide) (Or.inl (fun z => by
          rcases hw13 with y | y
          · omega
          · exact y.2 (hsg.mpr z)))
        cases n with
        | zero => exact g4.elim
        | succ n =>
          replace g4 := gxO_261_51 g4
          unfold gxT_261_51 at g4
          rw [if_neg (by decide)] at g4
          obtain ⟨w38, X37, r3, g5⟩ := g4
          left
          have c3 : ¬ (X12.1 117 26).toInt = 1 := fun z => hT ((rx_k hG7).2.1.mp z)
          unfold gx_216 at r3
          rw [if_neg c3] at r3
          obtain ⟨w7, X6, r4, e1, e2⟩ := r3
          have h5 := rx_215 hF (by decide) r4
          rw [if_pos (by rw [e1, h5.1]; rfl)] at g5
          rw [g5.1, g5.2, e2]
          exact ⟨rfl, h5.2⟩
    · have hT : (rp_T P).1 (j + 1) = 41 := by
        rcases hw13 with y | y
        · exact hsg.mp y.2
        · omega
      have hR8 : md_R P ((41, l3) :: K) (j + 1) j c nm (cs', w3) := md_R_r (r := []) z4 (by decide) (by decide) (by decide) (by rw [hT]; rfl)
      exact out (rx_261l hp n n _ X12 (Nat.le_refl _) ⟨j + 1, j, c, cs', w3, z1, z2, Or.inl ⟨by decide, hR8⟩, h14, z3⟩ g4)
/-- one COLUMN of all ROWS -/
theorem rx_260i (hp : p1.toInt = (s : Int)) (hs : 20 ≤ s ∧ s < 49) (hst : (Xa.1 117 32).toInt ≠ 0) (hR : (Xa.1 131 s).toInt = (R : Int)) (hR30 : R ≤ 30) (h2 : y2.toInt = (k : Int)) (hk : k < 8) (h142 : (Xa.1 142 k).toInt = (a : Int)) (ha : a < 8) : ∀ (n r : Nat) (y3 : Int32) (X : fx_X), n ≤ N → y3.toInt = (r : Int) → r ≤ R → X.2 = Xa.2 → (∀ q, q ≠ 134 → q ≠ 135 → X.1 q = Xa.1 q) → (∀ q k', (q = 134 ∨ q = 135) → ¬ (k' / 240 = s ∧ k' % 8 = k) → X.1 q k' = Xa.1 q k') → (∀ r', r' < r → X.1 134 (8 * (30 * s + r') + k) = aj_nar 4 (Xa.1 134 (8 * (30 * 49 + r') + a)) ∧ X.1 135 (8 * (30 * s + r') + k) = Xa.1 135 (8 * (30 * 49 + r') + a)) → gxF_260 p1 n 72 [y2, y3] [] [] X v X' → ∃ n2 X2 x32, n2 + 1 ≤ N ∧ x32 = y2 + Int32.ofInt 1 ∧ gxF_260 p1 n2 36 [x32] [] [] X2 v X' ∧ X2.2 = Xa.2 ∧ (∀ q, q ≠ 134 → q ≠ 135 → X2.1 q = Xa.1 q) ∧ (∀ q k', (q = 134 ∨ q = 135) → ¬ (k' / 240 = s ∧ k' % 8 = k) → X2.1 q k' = Xa.1 q k') ∧ ∀ r', r' < R → X2.1 134 (8 * (30 * s + r') + k) = aj_nar 4 (Xa.1 134 (8 * (30 * 49 + r') + a)) ∧ X2.1 135 (8 * (30 * s + r') + k) = Xa.1 135 (8 * (30 * 49 + r') + a) := by
  intro n
  induction n with
  | zero => intro r y3 X _ _ _ _ _ _ _ g; exact g.elim
  | succ n ih =>
    intro r y3 X hN hr hrR e2 e1 e3 hB g
    replace g := gxO_260_72 g
    unfold gxT_260_72 at g
    rw [e1 117 (by decide) (by decide), if_neg hst, fx_in hp, e1 131 (by decide) (by decide)] at g
    replace g := g.2
    have e49 : ((Int8.ofInt 49).toInt32).toInt = ((49 : Nat) : Int) := rfl
    rcases fy_ifd g with ⟨c1, g1⟩ | ⟨c1, g1⟩
    · obtain ⟨w36, X35, q1, -, w41, X40, q2, -, -, X44, e44, w47, X46, q3, -, w52, X51, q4, -, -, X55, e55, x56, e56, g2⟩ := g1
      obtain ⟨e35, v36⟩ := rx_236 hp hr h2 (by omega) q1
      subst e35
      rw [fx_in h2, e1 142 (by decide) (by decide)] at q2
      obtain ⟨e40, v41⟩ := rx_236 e49 hr h142 (by omega) q2
      subst e40
      rw [fx_in v36, fx_in v41] at e44
      obtain ⟨e46, v47⟩ := rx_236 hp hr h2 (by omega) q3
      subst e46
      have e142 : X46.1 142 k = Xa.1 142 k := by rw [e44, fx_rIn (by decide), e1 142 (by decide) (by decide)]
      rw [fx_in h2, e142] at q4
      obtain ⟨e51, v52⟩ := rx_236 e49 hr h142 (by omega) q4
      subst e51
      rw [fx_in v47, fx_in v52] at e55
      have k55 : ∀ q k', (q = 134 ∨ q = 135) → k' ≠ 8 * (30 * s + r) + k → X55.1 q k' = X40.1 q k' := fun q k' hq hn => by rw [e55, fx_rIk hn, e44, fx_rIk hn]
      refine ih (r + 1) x56 X55 (by omega) (by rw [e56]; exact cx_in1 hr (by omega)) (by omega) (by rw [e55, e44]; exact e2) (fun q z1 z2 => by rw [e55, fx_rIn z2, e44, fx_rIn z1]; exact e1 q z1 z2) (fun q k' hq hk' => by rw [k55 q k' hq (by omega)]; exact e3 q k' hq hk') (fun r' hr' => ?_) g2
      by_cases z : r' = r
      · subst z
        refine ⟨?_, ?_⟩
        · rw [e55, fx_rIn (by decide), e44, fx_rIe, e3 134 _ (Or.inl rfl) (by omega)]
        · rw [e55, fx_rIe, e44, fx_rIn (by decide), e3 135 _ (Or.inr rfl) (by omega)]
      · rw [k55 134 _ (Or.inl rfl) (by omega), k55 135 _ (Or.inr rfl) (by omega)]
        exact hB r' (by omega)
    · obtain ⟨x32, e32, g2⟩ := g1
      have : r = R := by omega
      subst this
      exact ⟨n, X, x32, by omega, e32, g2, e2, e1, e3, hB⟩
end DD35
