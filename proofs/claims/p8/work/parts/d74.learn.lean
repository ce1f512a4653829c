/-! THE REFERENCE: learn, whole; a text read -/
section DD74
variable {P : md_P} {X X' X0 X1 X2 : fx_X} {n d k j near l h N m nl : Nat} {v w y1 y2 : Int32} {c c' : md_C} {nm : md_Nm} {cs cs' : md_CS} {ws ws' : md_WS} {L : List (Int × Nat × Int64)} {T : md_T} {U : md_U} {r : Option (List md_Ev)} {f : Nat → Int32} {pt : List (Nat → Bool)} {x : Nat → Bool} {F Lf : List (Nat × Nat)} {A : List Nat} {q0 q' : md_S} {fr : Int64}
theorem rx_281 (hM : rx_MH h U pt nl X) (hf : X.1 138 = f) (hN : (X.1 117 23).toInt = (N : Int) ∧ N ≤ 4000) (hL : md_lst f N 0 0 L) (hT : ∀ i x, L[i]? = some x → T.1 i = x.1 ∧ T.2 i = x.2.2) (ham : md_am T m [(138, 0), (1, 0)] 0 0 md_c0 [] = some r) (hcs : cs.1 = U) (hws : md_tr ws = []) (g : gx_281 X v X') : (v.toInt = -1 ∧ rp_r (md_Q1 T U r f N h (cs, ws)) = some none ∧ rx_MH h U pt nl X') ∨ ∃ w1 w2 x, rp_r (md_Q1 T U r f N h (cs, ws)) = md_k (cs, w1) ∧ rp_r (md_Q2 T U r f N h (cs, ws)) = md_k (cs, w2) ∧ md_tr w2 = [x] ∧ ((md_hl (md_all U) (pt ++ [x]) = [] ∧ v.toInt = -2 ∧ rx_MH h U pt nl X') ∨ (md_hl (md_all U) (pt ++ [x]) ≠ [] ∧ ((nl = 8 ∧ v.toInt = -3 ∧ rx_MH h U pt nl X') ∨ (nl < 8 ∧ v.toInt = ((md_hl (md_all U) (pt ++ [x])).length : Int) ∧ rx_MH h U (pt ++ [x]) (nl + 1) X')))) := by
  obtain ⟨n, w3, X2, r1, g⟩ := g
  have f2 := gf_282 r1
  have hM2 : rx_MH h U pt nl X2 := rx_MH_fy hM f2 (by decide) (by decide)
  rcases rx_282 hM.1 hf hN hL hT ham hM.2.1 hM.2.2.1 hcs hws r1 with ⟨e1, e2⟩ | ⟨e1, w1, w2, x, e2, e3, e4, e5⟩
  · rw [if_pos (by rw [e1]; rfl)] at g
    rw [g.2]
    exact Or.inl ⟨by rw [g.1]; rfl, e2, hM2⟩
  · rw [if_neg (by rw [e1]; decide)] at g
    right
    refine ⟨w1, w2, x, e2, e3, e4, ?_⟩
    obtain ⟨y1, n2, q1, g2⟩ := rx_281l hM2 e5 (md_all U) 0 n _ _ (by omega) rfl rfl g
    have hM0 := hM2
    obtain ⟨⟨a1, a2⟩, a3, a4, ⟨p1, p2, p3⟩, a6, a7, a8, a9⟩ := hM0
    have p1 : (X2.1 127 h).toInt = (pt.length : Int) := p1
    rcases fy_ifd g2 with ⟨z, g3⟩ | ⟨z, g3⟩
    · left
      rw [g3.2]
      exact ⟨List.length_eq_zero_iff.mp (by omega), by rw [g3.1]; rfl, hM2⟩
    · right
      refine ⟨fun y => z (by rw [q1, y]; rfl), ?_⟩
      replace g3 := g3.2
      rcases fy_ifd g3 with ⟨z2, g4⟩ | ⟨z2, g4⟩
      · left
        rw [g4.2]
        exact ⟨by omega, by rw [g4.1]; rfl, hM2⟩
      · right
        obtain ⟨-, x16, e16, g5⟩ := g4
        have hnl : nl < 8 := by omega
        have i16 : x16.toInt = ((32 * (20 * h + pt.length) : Nat) : Int) := by
          rw [e16, show 20 * h + pt.length = h * 20 + pt.length by omega]
          exact rx_i32 (rx_lin a1 rfl p1 (by omega)) (by omega)
        obtain ⟨e6, e7⟩ := rx_281p hM2 e5 hnl i16 n2 0 _ X2 rfl (Nat.zero_le _) rfl (fun _ _ _ => rfl) (fun i hi => absurd hi (Nat.not_lt_zero i)) g5
        exact ⟨hnl, by rw [e6]; exact q1, e7⟩
/-- statements leave what was learned -/
theorem rx_204_128 : ∀ (n : Nat) (X : fx_X), gxF_204 n 54 [] [] [] X v X' → X'.1 128 = X.1 128 := by
  intro n
  induction n with
  | zero => intro X g; exact g.elim
  | succ n ih =>
    intro X g
    replace g := gxO_204_54 g
    unfold gxT_204_54 at g
    have fin : ∀ {Y : fx_X} {w : Int32}, Y.1 128 = X.1 128 → (if w.toInt = 0 then (v = Int32.ofInt 0 ∧ X' = Y) else gxF_204 n 54 [] [] [] Y v X') → X'.1 128 = X.1 128 := by
      intro Y w e g2
      rcases fy_ifd g2 with ⟨-, g3⟩ | ⟨-, g3⟩
      · rw [g3.2]; exact e
      · exact (ih Y g3).trans e
    have t : ∀ {p w : Int32} {Y Z : fx_X}, Y = X → gx_212 p Y w Z → Z = X := by
      intro p w Y Z e r
      rw [(rx_212 r).1]
      exact e
    have last : (if ((X.1 117 31)).toInt = 0 then (v = (Int32.ofInt 1) ∧ X' = X) else (v = (Int32.ofInt 0) ∧ X' = X)) → X'.1 128 = X.1 128 := fun g2 => by
      rcases fy_ifd g2 with ⟨-, g3⟩ | ⟨-, g3⟩ <;> rw [g3.2]
    rcases fy_ifd g with ⟨-, g1⟩ | ⟨-, g1⟩
    · rcases fy_ifd g1 with ⟨-, g2⟩ | ⟨-, g2⟩
      · exact last g2
      · obtain ⟨w24, X23, r1, g3⟩ := g2
        have e1 := t rfl r1
        rcases fy_ifd g3 with ⟨-, g4⟩ | ⟨-, g4⟩
        · obtain ⟨w27, X26, r2, g5⟩ := g4
          have e2 := t e1 r2
          rcases fy_ifd g5 with ⟨-, g6⟩ | ⟨-, g6⟩
          · obtain ⟨w30, X29, r3, g7⟩ := g6
            have e3 := t e2 r3
            rcases fy_ifd g7 with ⟨-, g8⟩ | ⟨-, g8⟩
            · obtain ⟨w33, X32, r4, g9⟩ := g8
              have e4 := t e3 r4
              rcases fy_ifd g9 with ⟨-, ga⟩ | ⟨-, ga⟩
              · obtain ⟨w36, X35, r5, gb⟩ := ga
                have e5 := t e4 r5
                rcases fy_ifd gb with ⟨-, gc⟩ | ⟨-, gc⟩
                · obtain ⟨w39, X38, r6, gd⟩ := gc
                  exact fin ((fy_ra (gf_215 r6) (by decide) (by decide)).trans (by rw [e5])) gd
                · obtain ⟨w39, X38, r6, gd⟩ := gc
                  exact fin ((fy_ra (gf_248 r6) (by decide) (by decide)).trans (by rw [e5])) gd
              · obtain ⟨w39, X38, r6, gd⟩ := ga
                exact fin ((fy_ra (gf_246 r6) (by decide) (by decide)).trans (by rw [e4])) gd
            · obtain ⟨w39, X38, r6, gd⟩ := g8
              exact fin ((fy_ra (gf_234 r6) (by decide) (by decide)).trans (by rw [e3])) gd
          · obtain ⟨w39, X38, r6, gd⟩ := g6
            exact fin ((fy_ra (gf_229 r6) (by decide) (by decide)).trans (by rw [e2])) gd
        · obtain ⟨w39, X38, r6, gd⟩ := g4
          exact fin ((fy_ra (gf_213 r6) (by decide) (by decide)).trans (by rw [e1])) gd
    · exact last g1
/-- what the other half holds, stays -/
theorem rx_MH_O (hM : rx_MH h U pt nl X) (hO : rx_O7 (1 - h) X X') (h0 : X'.1 117 0 = X.1 117 0) : rx_MH h U pt nl X' := by
  obtain ⟨⟨a1, a2⟩, a3, a4, a5, a6, a7⟩ := hM
  have hh : 1 - (1 - h) = h := by omega
  unfold rx_O7 at hO
  rw [hh] at hO
  obtain ⟨⟨o1, o2, o4, o5⟩, o6, o8⟩ := hO
  obtain ⟨u1, u2, u3, u4, u5⟩ := a3
  have a3w := u4.2
  refine ⟨⟨by rw [h0]; exact a1, a2⟩, ⟨?_, ?_, u3, u4, fun u x hx => ?_⟩, fun hb => ?_, ⟨?_, a5.2.1, fun p f hp w hw => ?_⟩, by rw [o5]; exact a6, a7⟩
  · show (X'.1 118 h).toInt = _
    rw [o1]; exact u1
  · show (X'.1 122 h).toInt = _
    rw [o2]; exact u2
  · have hu := (List.getElem?_eq_some_iff.mp hx).1
    obtain ⟨v1, v2, v3, v4⟩ := u5 u x hx
    obtain ⟨q1, q2, q3, q4⟩ := o6 u (by omega)
    refine ⟨?_, ?_, v3, fun i y hy => ?_⟩
    · show X'.2.1 119 (8 * h + u) = _
      rw [q1]; exact v1
    · show (X'.1 120 (8 * h + u)).toInt = _
      rw [q2]; exact v2
    · show X'.1 121 (64 * (8 * h + u) + i) = _
      have := (List.getElem?_eq_some_iff.mp hy).1
      rw [q3 i (by omega)]
      exact v4 i y hy
  · obtain ⟨c1, c2, c3, c4⟩ := a4 hb
    refine ⟨c1, c2, c3, fun w u hw hu => ?_⟩
    obtain ⟨q1, q2, q3, q4⟩ := o6 u (by omega)
    have hm : md_m (true, (fun _ => 0, fun _ => 0), U, none, fun _ => Int32.ofInt 0, 0, h) U = 1 := by
      unfold md_m
      show md_all U / md_all U = 1
      exact Nat.div_self (by have := u4.1; omega)
    have hw' : w < md_all U := hw
    have := c4 w u hw hu
    rw [hm, Nat.div_one] at this ⊢
    show X'.1 123 ((8 * h + u) * 1024 + w) = _
    rw [q4 w (by have := u4.2; omega)]
    exact this
  · show (X'.1 127 h).toInt = _
    rw [o4]; exact a5.1
  · have hpl := (List.getElem?_eq_some_iff.mp hp).1
    have := a5.2.1
    have hw' : w < md_all U := hw
    have key := a5.2.2 p f hp w hw
    rw [Nat.div_one] at key ⊢
    rw [← key]
    show fx_bt (X'.1 129) (32 * (20 * h + p)) w = fx_bt (X.1 129) (32 * (20 * h + p)) w
    exact o8 p (by omega) w (by have := a3w; omega)
end DD74
