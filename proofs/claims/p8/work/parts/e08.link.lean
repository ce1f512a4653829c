/-! CLASS AND REFERENCE: learn answers alike -/
section XE08
variable {P : md_P} {X X' X0 X1 Y Y' : fx_X} {v w : Int32} {sr k m h nl N : Nat} {T : md_T} {hz : Prop} {pt : List (Nat → Bool)} {U : md_U} {TB : md_TB} {r : Option (List md_Ev)} {q0 : md_S} {f : Nat → Int32}
theorem md_bd_n {α β : Type} {x : md_O α} {g : α → md_O β} (h : md_bd x g = some none) : x = some none ∨ ∃ a, x = md_k a ∧ g a = some none := by
  cases x with
  | none => cases h
  | some y =>
    cases y with
    | none => exact Or.inl rfl
    | some a => exact Or.inr ⟨a, rfl, h⟩
/-- what fails in the check fails there -/
theorem md_fd_bad {es : List md_Ev} : ∀ (q : md_S), md_fd false P q es = some none → md_fa (rp_T P) q.1 es = some none := by
  induction es with
  | nil => intro q h; cases h
  | cons e es ih =>
    intro q h
    rw [md_fd_c, md_step_f] at h
    rcases md_bd_n h with h1 | ⟨q1, h1, h2⟩
    · rcases md_bd_n h1 with h3 | ⟨p, -, h4⟩
      · rw [md_fa_c, h3]
        rfl
      · cases h4
    · obtain ⟨p, p1, p2⟩ := md_bd_k h1
      have e1 : (p.1, q.2) = q1 := Option.some.inj (Option.some.inj p2)
      subst e1
      have h3 := ih _ h2
      rw [md_fa_c, p1]
      have h3 : md_fa (rp_T P) p.1 es = some none := h3
      show md_bd (md_fa (rp_T P) p.1 es) _ = _
      rw [h3]
      rfl
/-- the same fault -/
theorem md_Q1_bad (h0 : rp_r (md_Q1 T U r f N h q0) = some none) : r = none ∨ ∃ es, r = some es ∧ md_fa T q0.1 es = some none := by
  cases r with
  | none => exact Or.inl rfl
  | some es => exact Or.inr ⟨es, rfl, md_fd_bad (P := (true, T, U, none, f, N, h)) q0 h0⟩
theorem md_Q1_ok {q1 : md_S} (h0 : rp_r (md_Q1 T U r f N h q0) = md_k q1) : ∃ es as, r = some es ∧ md_fa T q0.1 es = md_k (q1.1, as) := by
  cases r with
  | none => cases h0
  | some es =>
    obtain ⟨as, ha⟩ := md_fd_fa (P := (true, T, U, none, f, N, h)) q0 q1 h0
    exact ⟨es, as, rfl, ha⟩
/-- learn -/
theorem xx_learn (hX : cx_rX X) (hS : cx_S X) (hN : (X.1 52 1).toInt = (N : Int)) (hN4 : N ≤ 4000) (hM : cx_MH sr hz U TB pt nl X) (g : gx_154 X v X') (hR : rx_MH h U pt nl Y) (hf : Y.1 138 = X.1 53) (hNr : (Y.1 117 23).toInt = (N : Int)) (g2 : gx_281 Y w Y') : ∃ pt' nl', v.toInt = w.toInt ∧ cx_MH sr hz U TB pt' nl' X' ∧ rx_MH h U pt' nl' Y' := by
  obtain ⟨L, T, m, r, fr, q1, q2, q3, ws0, hws, q4⟩ := cx_154 hX hS hN hN4 hM g
  rcases rx_281 (cs := (U, none, TB, (0, 0), [], [], fr)) (ws := ws0) hR hf ⟨hNr, hN4⟩ q1 q2 q3 rfl hws g2 with ⟨e1, e2, e3⟩ | ⟨w1, w2, x, e1, e2, e3, e4⟩
  · rcases md_Q1_bad e2 with z | ⟨es, z, z2⟩
    · subst z
      rcases q4 with ⟨es, y, -⟩ | ⟨-, y1, y2⟩ | ⟨es, s1, as, y, -⟩
      · cases y
      · exact ⟨pt, nl, by rw [y1, e1], y2, e3⟩
      · cases y
    · subst z
      rcases q4 with ⟨es, y, y2⟩ | ⟨-, y1, y2⟩ | ⟨es, s1, as, y, y2, -⟩
      · cases y
        rw [z2] at y2; cases y2
      · exact ⟨pt, nl, by rw [y1, e1], y2, e3⟩
      · cases y
        rw [z2] at y2; cases y2
  · obtain ⟨es, as, z, z2⟩ := md_Q1_ok e1
    subst z
    rcases q4 with ⟨es, y, y2⟩ | ⟨y | ⟨es, y, y2⟩, -⟩ | ⟨es, s1, as, y, y2, y3⟩
    · cases y
      rw [z2] at y2; cases y2
    · cases y
    · cases y
      rw [z2] at y2; cases y2
    · cases y
      rcases y3 (true, T, U, none, X.1 53, N, h) _ w2 x rfl rfl e2 e3 with ⟨a1, a2, a3⟩ | ⟨a1, a2⟩
      · rcases e4 with ⟨b1, b2, b3⟩ | ⟨b1, -⟩
        · exact ⟨pt, nl, by rw [a2, b2], a3, b3⟩
        · exact absurd a1 b1
      · rcases e4 with ⟨b1, -⟩ | ⟨-, b2⟩
        · exact absurd b1 a1
        · rcases a2 with ⟨c1, c2, c3⟩ | ⟨c1, c2, c3⟩
          · rcases b2 with ⟨d1, d2, d3⟩ | ⟨d1, -⟩
            · exact ⟨pt, nl, by rw [c2, d2], c3, d3⟩
            · omega
          · rcases b2 with ⟨d1, -⟩ | ⟨-, d2, d3⟩
            · omega
            · exact ⟨pt ++ [x], nl + 1, by rw [c2, d2], c3, d3⟩
/-- undo -/
theorem xx_undo (hM : cx_MH sr hz U TB pt nl X) (g : gx_159 X v X') (hR : rx_MH h U pt nl Y) (g2 : gx_283 Y w Y') : ∃ pt' nl', v = w ∧ cx_MH sr hz U TB pt' nl' X' ∧ rx_MH h U pt' nl' Y' := by
  rcases cx_159 hM g with ⟨a1, a2, a3⟩ | ⟨a1, a2, a3⟩
  · rcases rx_283 hR g2 with ⟨b1, b2, b3⟩ | ⟨b1, -⟩
    · rw [a3, b3]
      exact ⟨pt, nl, by rw [a2, b2], hM, hR⟩
    · omega
  · rcases rx_283 hR g2 with ⟨b1, -⟩ | ⟨b1, b2, b3⟩
    · omega
    · exact ⟨pt.dropLast, nl - 1, by rw [a2, b2], a3, b3⟩
end XE08
