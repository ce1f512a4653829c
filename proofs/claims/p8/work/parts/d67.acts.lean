/-! THE REFERENCE: a question, its signs -/
section DD67
variable {P : md_P} {X X' X0 X1 X2 : fx_X} {K K0 : List md_Sy} {n d k j near l : Nat} {v w y1 : Int32} {s a b14 : Int} {c c' : md_C} {nm : md_Nm} {cs cs' : md_CS} {ws ws' : md_WS} {nn : Int64} {S : List Int} {B G : Prop} {is : List Int32} {ls : List Int64} {rs : List Nat} {Q1 Q2 : fx_X → Prop}
theorem rx_249t (g : ∃ (w37 : Int32) (X36 : fx_X), gx_220 ((Int8.ofInt 43).toInt32) X w37 X36 ∧ (if (w37).toInt = 0 then (∃ (w42 : Int32) (X41 : fx_X), gx_220 ((Int8.ofInt 45).toInt32) X36 w42 X41 ∧ (if (w42).toInt = 0 then (∃ (w47 : Int32) (X46 : fx_X), gx_220 ((Int8.ofInt 42).toInt32) X41 w47 X46 ∧ (if (w47).toInt = 0 then Q2 X46 else Q1 X46)) else Q1 X41)) else Q1 X36)) : ((rx_sg X 42 ∨ rx_sg X 43 ∨ rx_sg X 45) ∧ Q1 X) ∨ ((¬ rx_sg X 42 ∧ ¬ rx_sg X 43 ∧ ¬ rx_sg X 45) ∧ Q2 X) := by
  obtain ⟨wa, Xa, ra, ga⟩ := g
  obtain ⟨ea, ha⟩ := rx_220 ra
  subst ea
  have e43 : ((Int8.ofInt 43).toInt32).toInt = 43 := rfl
  have e45 : ((Int8.ofInt 45).toInt32).toInt = 45 := rfl
  have e42 : ((Int8.ofInt 42).toInt32).toInt = 42 := rfl
  rw [e43] at ha
  rcases fy_ifd ga with ⟨c1, gb⟩ | ⟨c1, gb⟩
  · have na : ¬ rx_sg Xa 43 := by
      rcases ha with y | y
      · omega
      · exact y.2
    obtain ⟨wb, Xb, rb, gb2⟩ := gb
    obtain ⟨eb, hb⟩ := rx_220 rb
    subst eb
    rw [e45] at hb
    rcases fy_ifd gb2 with ⟨c2, gc⟩ | ⟨c2, gc⟩
    · have nb : ¬ rx_sg Xb 45 := by
        rcases hb with y | y
        · omega
        · exact y.2
      obtain ⟨wc, Xc, rc, gc2⟩ := gc
      obtain ⟨ec, hc⟩ := rx_220 rc
      subst ec
      rw [e42] at hc
      rcases fy_ifd gc2 with ⟨c3, gd⟩ | ⟨c3, gd⟩
      · right
        refine ⟨⟨?_, na, nb⟩, gd⟩
        rcases hc with y | y
        · omega
        · exact y.2
      · left
        refine ⟨Or.inl ?_, gd⟩
        rcases hc with y | y
        · exact y.2
        · omega
    · left
      refine ⟨Or.inr (Or.inr ?_), gc⟩
      rcases hb with y | y
      · exact y.2
      · omega
  · left
    refine ⟨Or.inr (Or.inl ?_), gb⟩
    rcases ha with y | y
    · exact y.2
    · omega
/-- behind an operand -/
theorem rx_249b (ih144 : ∀ (S : List Int) (X : fx_X), rx_qh P nn X0 nm K0 S X → rx_sg X 41 → 0 < md_bks S → gxF_249 n 144 [] [] [] X v X' → rx_qR P nn X0 nm K0 v X') (ih241 : ∀ (S : List Int) (y1 : Int32) (X : fx_X), rx_qh P nn X0 nm K0 S X → (rx_sg X 42 ∨ rx_sg X 43 ∨ rx_sg X 45) → y1.toInt ≠ 0 → gxF_249 n 241 [y1] [] [] X v X' → rx_qR P nn X0 nm K0 v X') (ih18 : ∀ (S : List Int) (y1 : Int32) (X : fx_X), rx_qh P nn X0 nm K0 S X → y1.toInt = 0 → (¬ rx_sg X 42 ∧ ¬ rx_sg X 43 ∧ ¬ rx_sg X 45) → (0 < md_bks S → ¬ rx_sg X 41) → gxF_249 n 18 [y1] [] [] X v X' → rx_qR P nn X0 nm K0 v X') (h : rx_qh P nn X0 nm K0 S X) (g : gxF_249 (n + 1) 128 [] [] [] X v X') : rx_qR P nn X0 nm K0 v X' := by
  replace g := gxO_249_128 g
  unfold gxT_249_128 at g
  have h46 : (X.1 117 46).toInt = (md_bks S : Int) := by
    obtain ⟨j, near, c, cs, ws, K, ⟨-, -, ⟨-, b2, -⟩, -⟩, -⟩ := h
    exact b2
  rcases fy_ifd g with ⟨c1, g1⟩ | ⟨c1, g1⟩
  · obtain ⟨w54, X53, r1, g2⟩ := g1
    obtain ⟨e53, hw⟩ := rx_220 r1
    subst e53
    have e41 : ((Int8.ofInt 41).toInt32).toInt = 41 := rfl
    rw [e41] at hw
    rcases fy_ifd g2 with ⟨c2, g3⟩ | ⟨c2, g3⟩
    · have n41 : ¬ rx_sg X53 41 := by
        rcases hw with y | y
        · omega
        · exact y.2
      rcases rx_249t (Q1 := fun Y => gxF_249 n 241 [Int32.ofInt 1] [] [] Y v X') (Q2 := fun Y => gxF_249 n 18 [Int32.ofInt 0] [] [] Y v X') g3 with ⟨z, g4⟩ | ⟨z, g4⟩
      · exact ih241 S _ X53 h z (by decide) g4
      · exact ih18 S _ X53 h rfl z (fun _ => n41) g4
    · refine ih144 S X53 h ?_ (by omega) g3
      rcases hw with y | y
      · exact y.2
      · omega
  · rcases rx_249t (Q1 := fun Y => gxF_249 n 241 [Int32.ofInt 1] [] [] Y v X') (Q2 := fun Y => gxF_249 n 18 [Int32.ofInt 0] [] [] Y v X') g1 with ⟨z, g4⟩ | ⟨z, g4⟩
    · exact ih241 S _ X h z (by decide) g4
    · exact ih18 S _ X h rfl z (fun y => by omega) g4
/-- a bracket ends -/
theorem rx_249c (ih144 : ∀ (S : List Int) (X : fx_X), rx_qh P nn X0 nm K0 S X → rx_sg X 41 → 0 < md_bks S → gxF_249 n 144 [] [] [] X v X' → rx_qR P nn X0 nm K0 v X') (ih128 : ∀ (S : List Int) (X : fx_X), rx_qh P nn X0 nm K0 S X → gxF_249 n 128 [] [] [] X v X' → rx_qR P nn X0 nm K0 v X') (h : rx_qh P nn X0 nm K0 S X) (h41 : rx_sg X 41) (hb : 0 < md_bks S) (g : gxF_249 (n + 1) 144 [] [] [] X v X') : rx_qR P nn X0 nm K0 v X' := by
  replace g := gxO_249_144 g
  unfold gxT_249_144 at g
  have h0 := h
  obtain ⟨j, near, c, cs, ws, K, ⟨hD, hlen, ⟨b1, b2, b3⟩, h50, hac, hwf⟩, hK, hR⟩ := h
  have hG := hD.1
  have ho := md_os_18 hwf b3
  have hob := md_len_ob S
  have T41 : (rp_T P).1 j = 41 := (rx_sg_i (a := 41) hG (by decide)).mp h41
  have n42 : ¬ rx_sg X 42 := fun z => by
    have z1 := z.2
    have z2 := h41.2
    omega
  obtain ⟨w115, X114, r1, g1⟩ := g
  obtain ⟨e114, hw⟩ := rx_273 (a := 40) hac h50 (by omega) rfl r1
  subst e114
  rcases hw with ⟨hw, hd⟩ | ⟨hw, hd⟩
  · rw [if_neg (by rw [hw]; decide)] at g1
    obtain ⟨X117, e117, X118, e118, w120, X119, r2, g2⟩ := g1
    cases S with
    | nil => cases hd
    | cons a S =>
      have ha : a = 40 := Option.some.inj hd
      subst ha
      have eb : md_bks (40 :: S) = md_bks S + 1 := rfl
      have eo : md_os (40 :: S) = md_os S := rfl
      rw [eb] at b1 b2 b3
      rw [eo] at hD hlen
      rcases hK with ⟨-, l1, l2, l3, l4, l5, K', hK, hGK⟩ | ⟨z, -⟩ | ⟨z, -⟩
      · subst hK
        have T42 : (rp_T P).1 j ≠ 42 := by omega
        have hR1 : md_R P ((146, l2) :: (41, l3) :: (171, l4) :: (150, l5) :: K') j near c nm (cs, ws) := by
          rcases hR with y | ⟨-, l, K3, y, y2⟩
          · exact md_R_r (r := []) y (by decide) (by decide) (by decide) (md_r148 T42)
          · cases y
            exact y2
        have hR2 : md_R P ((41, l3) :: (171, l4) :: (150, l5) :: K') j near c nm (cs, ws) := md_R_r (r := []) hR1 (by decide) (by decide) (by decide) (md_r146 (by omega) (by omega))
        have f118 : fy [(117, 46), (117, 50)] [] [] X114 X118 := by rw [e118, e117]; exact fy_f (fy_f fy_rf (by decide)) (by decide)
        have hG118 := rx_G_fr hG f118 (by decide) (by decide)
        have hD118 := rx_QD_fy hD hG118 f118 (by decide) (by decide)
        rcases rx_go (rx_214g hG118 hR2 ⟨T41, by decide, by decide⟩ r2) g2 with e | ⟨⟨hG119, hR3⟩, g3⟩
        · exact Or.inl (Or.inl e)
        have hD119 : rx_QD P nn X0 X119 (md_os S + 1) (j + 1) c cs ws nm := rx_QD_fy hD118 hG119 (gf_214 r2) (by decide) (by decide)
        have c14 : (c 14 - Int32.ofInt 1).toInt = (md_bks S : Int) := cx_dec b1 (by omega)
        rcases md_R_q hR3 (Or.inr (Or.inl rfl)) with ⟨y, -⟩ | ⟨c', nm', y1, hR4⟩
        · cases y
        · have y1 : some (md_u c 14 (c 14 - Int32.ofInt 1), nm) = some (c', nm') := y1
          cases y1
          have hGu : rx_G P X119 (j + 1) (md_u c 14 (c 14 - Int32.ofInt 1)) := hG119
          obtain ⟨l8, sk, hsk, hskl⟩ : ∃ l8 sk, cs.2.2.2.2.1 = l8 :: sk ∧ sk.length = md_os S := by
            cases e : cs.2.2.2.2.1 with
            | nil => rw [e] at hlen; exact absurd hlen (by show ¬ 0 = md_os S + 1; omega)
            | cons ly s1 =>
              rw [e] at hlen
              have hlen : s1.length + 1 = md_os S + 1 := hlen
              exact ⟨ly, s1, rfl, by omega⟩
          have hDu : rx_QD P nn X0 X119 (sk.length + 1) (j + 1) (md_u c 14 (c 14 - Int32.ofInt 1)) cs ws nm := by
            rw [hskl]
            exact rx_QD_fr hD119 hGu rx_lo_rf ⟨rfl, rfl, rfl⟩ hD119.2.2.2.1 ⟨rfl, rfl⟩ (fun hb => ⟨rfl, rfl, (hD119.2.2.2.2.2.2 hb).1, rfl⟩)
          have ip : (X119.1 117 51 - Int32.ofInt 1).toInt = ((20 + sk.length : Nat) : Int) := cx_dec hDu.2.2.2.1 (by omega)
          obtain ⟨w123, X122, r3, g4⟩ := g3
          rcases rx_go2 (rx_253 (sk := sk) (b14 := (md_bks S : Int)) ip (Or.inr ⟨j + 1, j, l5, _, cs, ws, l8, hsk, hDu, hR4, c14⟩) r3) g4 with e | ⟨hh, g6⟩
          · exact Or.inl e
          rcases hh with hB | ⟨j3, near3, c3, cs3, ws3, l9, hsk3, hD4, hR5, h143⟩
          · exact rx_qB hB g6
          rw [hskl] at hD4
          have k46 : (X122.1 117 46).toInt = (md_bks S : Int) := by
            rw [(gf_253 r3).2.2 117 46 (by decide) (by decide), (gf_214 r2).2.2 117 46 (by decide) (by decide), e118, fx_rIe, e117, fx_rIk (by decide)]
            exact cx_dec b2 (by omega)
          have k50 : (X122.1 117 50).toInt = (S.length : Int) := by
            rw [(gf_253 r3).2.2 117 50 (by decide) (by decide), (gf_214 r2).2.2 117 50 (by decide) (by decide), e118, fx_rIk (by decide), e117, fx_rIe]
            have hob2 := md_len_ob S
            exact cx_dec (k := S.length) h50 (by omega)
          have k140 : X122.1 140 = X114.1 140 := by rw [fy_ra (gf_253 r3) (by decide) (by decide), fy_ra (gf_214 r2) (by decide) (by decide), e118, fx_rIn (by decide), e117, fx_rIn (by decide)]
          exact ih128 S X122 ⟨j3, near3, c3, cs3, ws3, K', ⟨hD4, by rw [hsk3, List.length_cons, hskl], ⟨h143, k46, by omega⟩, k50, rx_ac_eq hac.2 k140, hwf.1⟩, hGK, Or.inl hR5⟩ g6
      · omega
      · omega
  · rw [if_pos (by rw [hw]; rfl)] at g1
    obtain ⟨w126, X125, r2, g2⟩ := g1
    cases S with
    | nil => exact absurd hb (Nat.lt_irrefl _)
    | cons a S =>
      have ha : a ≠ 40 := fun z => hd (by rw [z]; rfl)
      have eb : md_bks (a :: S) = md_bks S := by show md_bks S + (if a = 40 then 1 else 0) = _; rw [if_neg ha, Nat.add_zero]
      rcases rx_go2 (rx_249d h0 ha (Or.inr n42) r2) g2 with e | ⟨hh, g6⟩
      · exact Or.inl e
      rcases hh with hB | hq
      · exact rx_qB hB g6
      · exact ih144 S X125 hq ((rx_sg_274 r2).mpr h41) (by omega) g6
/-- the last signs done -/
theorem rx_249e (ih348 : ∀ (S : List Int) (X : fx_X), rx_qh P nn X0 nm K0 S X → md_bks S = 0 → (¬ rx_sg X 42 ∧ ¬ rx_sg X 43 ∧ ¬ rx_sg X 45) → gxF_249 n 348 [] [] [] X v X' → rx_qR P nn X0 nm K0 v X') (h : rx_qh P nn X0 nm K0 S X) (hb : md_bks S = 0) (hs : ¬ rx_sg X 42 ∧ ¬ rx_sg X 43 ∧ ¬ rx_sg X 45) (g : gxF_249 (n + 1) 348 [] [] [] X v X') : rx_qR P nn X0 nm K0 v X' := by
  replace g := gxO_249_348 g
  unfold gxT_249_348 at g
  have h0 := h
  obtain ⟨j, near, c, cs, ws, K, ⟨hD, hlen, ⟨b1, b2, b3⟩, h50, hac, hwf⟩, hK, hR⟩ := h
  have hG := hD.1
  cases S with
  | nil =>
    have h50 : (X.1 117 50).toInt = 0 := h50
    rw [if_neg (by omega)] at g
    obtain ⟨l1, l2, hK⟩ := hK
    subst hK
    have kk : ∀ a, a ∈ md_sg → ¬ rx_sg X a → (rp_T P).1 j ≠ a := fun a ha hn z => hn ((rx_sg_i (a := a) hG ha).mpr z)
    have hR1 : md_R P ((146, l2) :: K0) j near c nm (cs, ws) := by
      rcases hR with y | ⟨-, l, K3, y, y2⟩
      · exact md_R_r (r := []) y (by decide) (by decide) (by decide) (md_r148 (kk 42 (by decide) hs.1))
      · cases y
        exact y2
    have hR2 : md_R P K0 j near c nm (cs, ws) := md_R_r (r := []) hR1 (by decide) (by decide) (by decide) (md_r146 (kk 43 (by decide) hs.2.1) (kk 45 (by decide) hs.2.2))
    obtain ⟨l8, hsk⟩ : ∃ l8, cs.2.2.2.2.1 = [l8] := by
      cases e : cs.2.2.2.2.1 with
      | nil => rw [e] at hlen; cases hlen
      | cons ly s1 =>
        rw [e] at hlen
        have hlen : s1.length + 1 = 0 + 1 := hlen
        have h0 : s1 = [] := List.length_eq_zero_iff.mp (by omega)
        exact ⟨ly, by rw [h0]⟩
    rw [g.2]
    exact Or.inr ⟨g.1, Or.inr ⟨j, near, c, cs, ws, l8, hsk, hD, hR2, b1⟩⟩
  | cons a S =>
    have h50 : (X.1 117 50).toInt = ((S.length + 1 : Nat) : Int) := h50
    rw [if_pos (by omega)] at g
    have ha : a ≠ 40 := fun z => by
      have e : md_bks (a :: S) = md_bks S + (if a = 40 then 1 else 0) := rfl
      rw [e, if_pos z] at hb
      omega
    have eb : md_bks (a :: S) = md_bks S := by show md_bks S + (if a = 40 then 1 else 0) = _; rw [if_neg ha, Nat.add_zero]
    obtain ⟨w12, X11, r2, g2⟩ := g
    rcases rx_go2 (rx_249d h0 ha (Or.inr hs.1) r2) g2 with e | ⟨hh, g6⟩
    · exact Or.inl e
    rcases hh with hB | hq
    · exact rx_qB hB g6
    · exact ih348 S X11 hq (by omega) ⟨fun z => hs.1 ((rx_sg_274 r2).mp z), fun z => hs.2.1 ((rx_sg_274 r2).mp z), fun z => hs.2.2 ((rx_sg_274 r2).mp z)⟩ g6
end DD67
