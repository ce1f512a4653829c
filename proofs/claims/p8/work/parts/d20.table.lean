/-! THE REFERENCE: a TABLE is told -/
section DD20
variable {P : md_P} {X X' X0 X1 X2 X6 : fx_X} {K : List md_Sy} {c c1 c0 : md_C} {nm : md_Nm} {cs : md_CS} {ws : md_WS} {j near l l2 n n1 t k slot : Nat} {v y1 y5 p1 w z : Int32} {w8 z8 nn : Int64} {F L : List (Nat × Nat)} {A : List Nat} {TB : md_TB} {l8 : List Int64} {Q : Prop} {s : Int}
/-- the NAME of a new TABLE stands -/
def rx_tn (P : md_P) (nn : Int64) (so : Int) (cs : md_CS) (ws : md_WS) (nm : md_Nm) (X0 X : fx_X) : Prop := rx_TT P X cs ws nm ∧ cs.2.2.1.length < 10 ∧ X.2.1 125 (10 * rp_h P + cs.2.2.1.length) = nn ∧ (X.1 126 (10 * rp_h P + cs.2.2.1.length)).toInt = so ∧ nn ∉ cs.2.2.1.map (·.1) ∧ rx_sl P cs.2.2.1.length X0 X
theorem rx_tn_sl (h : rx_tn P nn s cs ws nm X0 X) (hs : rx_sl P cs.2.2.1.length X X') (h1 : X'.2.1 125 = X.2.1 125) (h2 : X'.1 126 = X.1 126) (hh : rp_h P ≤ 1) : rx_tn P nn s cs ws nm X0 X' := by
  obtain ⟨a1, a2, a3, a4, a5, a6⟩ := h
  exact ⟨rx_TT_sl a1 hs (Nat.le_refl _) hh, a2, by rw [h1]; exact a3, by rw [h2]; exact a4, a5, rx_sl_tr a6 hs⟩
theorem md_ck184 {T : md_T} : md_ck T cs (184, near, l) = if 0 ≤ md_ix (T.2 near) (cs.2.2.1.map (·.1)) 0 then some none else if 10 ≤ cs.2.2.1.length then none else md_k ((cs.1, cs.2.1, cs.2.2.1 ++ [(T.2 near, false, [])], cs.2.2.2), 0) := by
  obtain ⟨U, cu, TB, rw, sk, pk, fr⟩ := cs
  exact md_k184
theorem md_ck191 {T : md_T} : md_ck T cs (191, near, l) = if 0 ≤ md_ix (T.2 near) (cs.2.2.1.map (·.1)) 0 then some none else md_k (cs, 0) := by
  obtain ⟨U, cu, TB, rw, sk, pk, fr⟩ := cs
  exact md_k191
theorem md_ck185 {T : md_T} {TB : md_TB} {q : (Int × Int) × List (List Int64) × List Int64 × Int64} {U : md_U} {cu : Option (Int64 × List Int32)} {b : Bool} : md_ck T (U, cu, TB ++ [(nn, b, l8)], q) (185, near, l) = if 6 ≤ l8.length ∨ T.2 near ∈ l8 then some none else md_k ((U, cu, TB ++ [(nn, b, l8 ++ [T.2 near])], q), 0) := by
  obtain ⟨rw, sk, pk, fr⟩ := q
  refine md_k185.trans ?_
  rw [List.getLast?_append]
  show (if 6 ≤ l8.length ∨ T.2 near ∈ l8 then some none else md_k ((U, cu, (TB ++ [(nn, b, l8)]).dropLast ++ [(nn, b, l8 ++ [T.2 near])], rw, sk, pk, fr), 0)) = _
  rw [List.dropLast_concat]
theorem md_wk184 {W n wd : Nat} {val : md_V} {arg : Int} : md_wk W n val wd ws (184, near, l) arg = md_k (ws.1 ++ [[]], ws.2) := by
  obtain ⟨tb, sk, tr, sd, rel, pt, rt, pk, fo, fd⟩ := ws
  rfl
theorem md_room_tb {w : Int64} (h : s = 184 ∨ s = 191) : md_room s w c nm = md_tb w c nm := by
  rcases h with h | h <;> (subst h; rfl)
/-- room for a TABLE more -/
theorem rx_230f (h : rx_G P X (j + 1) c ∧ md_R P ((3, l) :: (s, l2) :: K) (j + 1) near c nm (cs, ws)) (hs : s = 184 ∨ s = 191) (hnm : nm.length = 10) : md_F P := by
  by_cases hz : (rp_T P).1 (j + 1) = 3 ∧ j + 1 < 1000
  · have hR3 := md_R_t h.2 (by decide) hz.1 (Or.inl hz.2)
    rcases md_R_e hR3 (by omega) with ⟨-, y⟩ | ⟨c', nm', y1, -⟩
    · exact y
    · rw [md_room_tb hs] at y1
      unfold md_tb at y1
      rw [if_pos (by omega)] at y1
      cases y1
  · refine md_R_tx h.2 (by decide) ?_
    by_cases z : (rp_T P).1 (j + 1) = 3
    · exact Or.inr ⟨by omega, by decide⟩
    · exact Or.inl z
theorem rx_230n (hs : s = 184 ∨ s = 191) (hp : p1.toInt = if s = 184 then 0 else 1) (h : rx_B P X2 ∨ (rx_G P X2 (j + 1) c ∧ md_R P ((3, l) :: (s, l2) :: K) (j + 1) near c nm (cs, ws) ∧ rx_TT P X2 cs ws nm ∧ (cs.2.2.1.length < 10 ∨ (rp_T P).1 (j + 1) ≠ 3) ∧ Q)) (g : (∃ (w7 : Int32) (X6 : fx_X), gx_216 X2 w7 X6 ∧ (if (w7).toInt = 0 then (v = (Int32.ofInt 0) ∧ X' = X6) else (∃ (w10 : Int32) (X9 : fx_X), gx_231 (X6.1 117 37) (X6.2.1 117 33) X6 w10 X9 ∧ (if (w10).toInt < 0 then ((0 ≤ ((X9.1 117 37)).toInt ∧ ((X9.1 117 37)).toInt < ((2 : Nat) : Int)) ∧ (0 ≤ ((((X9.1 117 37) * ((Int8.ofInt 10).toInt32)) + (X9.1 124 ((X9.1 117 37)).toInt.toNat))).toInt ∧ ((((X9.1 117 37) * ((Int8.ofInt 10).toInt32)) + (X9.1 124 ((X9.1 117 37)).toInt.toNat))).toInt < ((20 : Nat) : Int)) ∧ ∃ X16 : fx_X, X16 = (fx_wL X9 125 ((((X9.1 117 37) * ((Int8.ofInt 10).toInt32)) + (X9.1 124 ((X9.1 117 37)).toInt.toNat))).toInt.toNat (X9.2.1 117 33)) ∧ (0 ≤ ((X16.1 117 37)).toInt ∧ ((X16.1 117 37)).toInt < ((2 : Nat) : Int)) ∧ (if (p1).toInt = 1 then ((0 ≤ ((((X16.1 117 37) * ((Int8.ofInt 10).toInt32)) + (X16.1 124 ((X16.1 117 37)).toInt.toNat))).toInt ∧ ((((X16.1 117 37) * ((Int8.ofInt 10).toInt32)) + (X16.1 124 ((X16.1 117 37)).toInt.toNat))).toInt < ((20 : Nat) : Int)) ∧ ∃ X24 : fx_X, X24 = (fx_wI X16 126 ((((X16.1 117 37) * ((Int8.ofInt 10).toInt32)) + (X16.1 124 ((X16.1 117 37)).toInt.toNat))).toInt.toNat (aj_nar 2 (Int32.ofInt 1))) ∧ v = (Int32.ofInt 1) ∧ X' = X24) else ((0 ≤ ((((X16.1 117 37) * ((Int8.ofInt 10).toInt32)) + (X16.1 124 ((X16.1 117 37)).toInt.toNat))).toInt ∧ ((((X16.1 117 37) * ((Int8.ofInt 10).toInt32)) + (X16.1 124 ((X16.1 117 37)).toInt.toNat))).toInt < ((20 : Nat) : Int)) ∧ ∃ X22 : fx_X, X22 = (fx_wI X16 126 ((((X16.1 117 37) * ((Int8.ofInt 10).toInt32)) + (X16.1 124 ((X16.1 117 37)).toInt.toNat))).toInt.toNat (aj_nar 2 (Int32.ofInt 0))) ∧ v = (Int32.ofInt 1) ∧ X' = X22))) else (∃ (w26 : Unit) (X25 : fx_X), gx_218 (Int32.ofInt 3) (X9.1 117 34) X9 w26 X25 ∧ (0 ≤ ((X25.1 117 37)).toInt ∧ ((X25.1 117 37)).toInt < ((2 : Nat) : Int)) ∧ (0 ≤ ((((X25.1 117 37) * ((Int8.ofInt 10).toInt32)) + (X25.1 124 ((X25.1 117 37)).toInt.toNat))).toInt ∧ ((((X25.1 117 37) * ((Int8.ofInt 10).toInt32)) + (X25.1 124 ((X25.1 117 37)).toInt.toNat))).toInt < ((20 : Nat) : Int)) ∧ ∃ X31 : fx_X, X31 = (fx_wL X25 125 ((((X25.1 117 37) * ((Int8.ofInt 10).toInt32)) + (X25.1 124 ((X25.1 117 37)).toInt.toNat))).toInt.toNat (X25.2.1 117 33)) ∧ (0 ≤ ((X31.1 117 37)).toInt ∧ ((X31.1 117 37)).toInt < ((2 : Nat) : Int)) ∧ (if (p1).toInt = 1 then ((0 ≤ ((((X31.1 117 37) * ((Int8.ofInt 10).toInt32)) + (X31.1 124 ((X31.1 117 37)).toInt.toNat))).toInt ∧ ((((X31.1 117 37) * ((Int8.ofInt 10).toInt32)) + (X31.1 124 ((X31.1 117 37)).toInt.toNat))).toInt < ((20 : Nat) : Int)) ∧ ∃ X39 : fx_X, X39 = (fx_wI X31 126 ((((X31.1 117 37) * ((Int8.ofInt 10).toInt32)) + (X31.1 124 ((X31.1 117 37)).toInt.toNat))).toInt.toNat (aj_nar 2 (Int32.ofInt 1))) ∧ v = (Int32.ofInt 1) ∧ X' = X39) else ((0 ≤ ((((X31.1 117 37) * ((Int8.ofInt 10).toInt32)) + (X31.1 124 ((X31.1 117 37)).toInt.toNat))).toInt ∧ ((((X31.1 117 37) * ((Int8.ofInt 10).toInt32)) + (X31.1 124 ((X31.1 117 37)).toInt.toNat))).toInt < ((20 : Nat) : Int)) ∧ ∃ X37 : fx_X, X37 = (fx_wI X31 126 ((((X31.1 117 37) * ((Int8.ofInt 10).toInt32)) + (X31.1 124 ((X31.1 117 37)).toInt.toNat))).toInt.toNat (aj_nar 2 (Int32.ofInt 0))) ∧ v = (Int32.ofInt 1) ∧ X' = X37)))))))) : rx_X P v X' ∨ (v = Int32.ofInt 1 ∧ (rx_B P X' ∨ ∃ c1, rx_G P X' (j + 1 + 1) c1 ∧ md_Re P K (j + 1 + 1) (j + 1) c1 (nm ++ [((rp_T P).2 (j + 1), Int32.ofInt 0)]) (cs, ws) (s, j + 1, l2) ∧ c1 = md_u c 10 (Int32.ofInt 0) ∧ rx_tn P ((rp_T P).2 (j + 1)) (if s = 184 then 0 else 1) cs ws nm X2 X' ∧ Q)) := by
  obtain ⟨w7, X6, r2, g⟩ := g
  have h3 := rx_216 (K := (s, l2) :: K) (Q := rx_TT P X2 cs ws nm ∧ (cs.2.2.1.length < 10 ∨ (rp_T P).1 (j + 1) ≠ 3) ∧ Q) h r2
  rcases rx_go h3 g with e | ⟨h3, g3⟩
  · exact Or.inl e
  obtain ⟨w10, X9, r3, g4⟩ := g3
  have e9 : X9 = X6 := fy_e (gf_231 r3)
  subst e9
  have n0 : (aj_nar 2 (Int32.ofInt 0)).toInt = 0 := by decide
  have n1 : (aj_nar 2 (Int32.ofInt 1)).toInt = 1 := by decide
  rcases h3 with hB | ⟨hG3, hR3, ⟨h33, hT3⟩, hTT, hlt, hQ⟩
  · -- a fault is kept
    have fin : ∀ {X9 X16 X24 : fx_X} {k : Nat} {z : Int32}, rx_B P X9 → X16.1 = X9.1 → X24 = fx_wI X16 126 k z → rx_B P X24 := by
      intro X9 X16 X24 k z hB e1 e2
      have : rx_B P X16 := by unfold rx_B; rw [e1]; exact hB
      rw [e2]; exact rx_B_w this (Or.inl (by decide))
    right
    rcases fy_ifd g4 with ⟨c2, g5⟩ | ⟨c2, g5⟩
    · obtain ⟨-, -, X16, e16, -, g6⟩ := g5
      have e16' : X16.1 = X9.1 := by rw [e16]; rfl
      rcases fy_ifd g6 with ⟨c3, g7⟩ | ⟨c3, g7⟩
      · obtain ⟨-, X24, e24, e1, e2⟩ := g7
        rw [e2]
        exact ⟨e1, Or.inl (fin hB e16' e24)⟩
      · obtain ⟨-, X24, e24, e1, e2⟩ := g7
        rw [e2]
        exact ⟨e1, Or.inl (fin hB e16' e24)⟩
    · obtain ⟨w26, X25, r4, -, -, X16, e16, -, g6⟩ := g5
      have hB2 := rx_B_218 hB (by decide) r4
      have e16' : X16.1 = X25.1 := by rw [e16]; rfl
      rcases fy_ifd g6 with ⟨c3, g7⟩ | ⟨c3, g7⟩
      · obtain ⟨-, X24, e24, e1, e2⟩ := g7
        rw [e2]
        exact ⟨e1, Or.inl (fin hB2 e16' e24)⟩
      · obtain ⟨-, X24, e24, e1, e2⟩ := g7
        rw [e2]
        exact ⟨e1, Or.inl (fin hB2 e16' e24)⟩
  · have hlt : cs.2.2.1.length < 10 := by
      rcases hlt with y | y
      · exact y
      · exact absurd hT3 y
    have f2 := gf_216 r2
    have hTT3 := rx_TT_fr hTT f2 (by decide) (by decide)
    have hin := hG3.2.2.2.1.1
    have hh := hG3.2.2.2.1.2
    obtain ⟨-, hv⟩ := rx_231 hTT3.2.2.1 hin hh r3
    rw [h33] at hv
    have hTn := hTT3.2.2.1.1
    have hnm : nm.length = cs.2.2.1.length := by
      have := congrArg List.length hTT3.2.2.1.2.2.2.2.1
      rw [List.length_map, List.length_map] at this
      exact this
    rcases md_R_e hR3 (by omega) with ⟨y, -⟩ | ⟨c', nm', y1, hRe⟩
    · rw [md_room_tb hs] at y
      unfold md_tb at y
      rw [if_neg (by omega)] at y
      cases y
    rw [md_room_tb hs] at y1
    unfold md_tb at y1
    rw [if_neg (by omega)] at y1
    cases y1
    have hi : (X9.1 117 37 * ((Int8.ofInt 10).toInt32) + X9.1 124 (rp_h P)).toInt = ((10 * rp_h P + cs.2.2.1.length : Nat) : Int) := by
      have := rx_lin (m := 10) (z := (Int8.ofInt 10).toInt32) hin rfl hTn (by omega)
      rw [show 10 * rp_h P + cs.2.2.1.length = rp_h P * 10 + cs.2.2.1.length by omega]
      exact this
    rcases fy_ifd g4 with ⟨c2, g5⟩ | ⟨c2, g5⟩
    · obtain ⟨-, -, X16, e16, -, g6⟩ := g5
      rw [fx_in hin, fx_in hi, h33] at e16
      have i37 : X16.1 117 37 = X9.1 117 37 := by rw [e16]; rfl
      have i124 : X16.1 124 = X9.1 124 := by rw [e16]; rfl
      have fin : ∀ {X24 : fx_X} {z : Int32}, z.toInt = (if s = 184 then 0 else 1) → X24 = fx_wI X16 126 (10 * rp_h P + cs.2.2.1.length) z → v = Int32.ofInt 1 → X' = X24 → rx_X P v X' ∨ (v = Int32.ofInt 1 ∧ (rx_B P X' ∨ ∃ c1, rx_G P X' (j + 1 + 1) c1 ∧ md_Re P K (j + 1 + 1) (j + 1) c1 (nm ++ [((rp_T P).2 (j + 1), Int32.ofInt 0)]) (cs, ws) (s, j + 1, l2) ∧ c1 = md_u c 10 (Int32.ofInt 0) ∧ rx_tn P ((rp_T P).2 (j + 1)) (if s = 184 then 0 else 1) cs ws nm X2 X' ∧ Q)) := by
        intro X24 z hz e24 e1 e2
        subst e2
        have fsl : rx_sl P cs.2.2.1.length X9 X' := by
          rw [e24, e16]
          exact rx_sl_tr (rx_sl_wL (Or.inl ⟨rfl, rfl⟩)) (rx_sl_w (by omega))
        have ff : fy [(126, 10 * rp_h P + cs.2.2.1.length)] [(125, 10 * rp_h P + cs.2.2.1.length)] [] X9 X' := by
          rw [e24, e16]
          exact fy_f (fy_g fy_rf (List.mem_singleton.mpr rfl)) (List.mem_singleton.mpr rfl)
        have hG9 := rx_G_fr (c := md_u c 10 (Int32.ofInt 0)) hG3 ff (by decide) (by simp)
        refine Or.inr ⟨e1, Or.inr ⟨_, hG9, hRe, rfl, ⟨rx_TT_sl hTT3 fsl (Nat.le_refl _) hh, hlt, ?_, ?_, (md_ix_neg (k := 0)).mp (by omega), rx_sl_tr (rx_sl_fy f2 (by decide) (by decide)) fsl⟩, hQ⟩⟩
        · rw [e24, e16]
          exact fx_rLe
        · rw [e24, fx_rIe]
          exact hz
      rw [i37, i124, fx_in hin, fx_in hi] at g6
      rcases fy_ifd g6 with ⟨c3, g7⟩ | ⟨c3, g7⟩
      · obtain ⟨-, X24, e24, e1, e2⟩ := g7
        exact fin (by rw [n1, if_neg (fun y => by rw [if_pos y] at hp; omega)]) e24 e1 e2
      · obtain ⟨-, X24, e24, e1, e2⟩ := g7
        exact fin (by
          rw [n0]
          by_cases y : s = 184
          · rw [if_pos y]
          · rw [if_neg y] at hp; omega) e24 e1 e2
    · obtain ⟨w26, X25, r4, -, -, X16, e16, -, g6⟩ := g5
      have hF : md_F P := by
        rcases hs with hs | hs
        · subst hs
          exact md_Re_f hRe ((md_ck184 (cs := cs)).trans (if_pos (by omega)))
        · subst hs
          exact md_Re_f hRe ((md_ck191 (cs := cs)).trans (if_pos (by omega)))
      have hB2 := rx_tell (Or.inr ⟨hG3, hF⟩) (by decide) r4
      have e16' : X16.1 = X25.1 := by rw [e16]; rfl
      have hB3 : rx_B P X16 := by unfold rx_B; rw [e16']; exact hB2
      right
      rcases fy_ifd g6 with ⟨c3, g7⟩ | ⟨c3, g7⟩
      · obtain ⟨-, X24, e24, e1, e2⟩ := g7
        rw [e2, e24]
        exact ⟨e1, Or.inl (rx_B_w hB3 (Or.inl (by decide)))⟩
      · obtain ⟨-, X24, e24, e1, e2⟩ := g7
        rw [e2, e24]
        exact ⟨e1, Or.inl (rx_B_w hB3 (Or.inl (by decide)))⟩
theorem rx_230 {s0 : Int} (hs : s = 184 ∨ s = 191) (hp : p1.toInt = if s = 184 then 0 else 1) (hs0 : 3 ≤ s0 ∧ s0 < 130) (h : rx_B P X ∨ (rx_G P X j c ∧ md_R P ((s0, l) :: (3, l) :: (s, l2) :: K) j near c nm (cs, ws) ∧ (rp_T P).1 j = s0 ∧ rx_TT P X cs ws nm ∧ Q)) (g : gx_230 p1 X v X') : rx_X P v X' ∨ (v = Int32.ofInt 1 ∧ (rx_B P X' ∨ ∃ c1, rx_G P X' (j + 1 + 1) c1 ∧ md_Re P K (j + 1 + 1) (j + 1) c1 (nm ++ [((rp_T P).2 (j + 1), Int32.ofInt 0)]) (cs, ws) (s, j + 1, l2) ∧ c1 = md_u c 10 (Int32.ofInt 0) ∧ rx_tn P ((rp_T P).2 (j + 1)) (if s = 184 then 0 else 1) cs ws nm X X' ∧ Q)) := by
  obtain ⟨w3, X2, r1, g⟩ := g
  have h1 := rx_214 (K := (3, l) :: (s, l2) :: K) (Q := rx_TT P X cs ws nm ∧ Q) (h.imp id (fun z => ⟨z.1, z.2.1, ⟨z.2.2.1, hs0⟩, z.2.2.2⟩)) r1
  rcases rx_go h1 g with e | ⟨h1, g1⟩
  · exact Or.inl e
  have f1 := gf_214 r1
  have post : (rx_X P v X' ∨ (v = Int32.ofInt 1 ∧ (rx_B P X' ∨ ∃ c1, rx_G P X' (j + 1 + 1) c1 ∧ md_Re P K (j + 1 + 1) (j + 1) c1 (nm ++ [((rp_T P).2 (j + 1), Int32.ofInt 0)]) (cs, ws) (s, j + 1, l2) ∧ c1 = md_u c 10 (Int32.ofInt 0) ∧ rx_tn P ((rp_T P).2 (j + 1)) (if s = 184 then 0 else 1) cs ws nm X2 X' ∧ Q))) → (rx_X P v X' ∨ (v = Int32.ofInt 1 ∧ (rx_B P X' ∨ ∃ c1, rx_G P X' (j + 1 + 1) c1 ∧ md_Re P K (j + 1 + 1) (j + 1) c1 (nm ++ [((rp_T P).2 (j + 1), Int32.ofInt 0)]) (cs, ws) (s, j + 1, l2) ∧ c1 = md_u c 10 (Int32.ofInt 0) ∧ rx_tn P ((rp_T P).2 (j + 1)) (if s = 184 then 0 else 1) cs ws nm X X' ∧ Q))) := by
    rintro (y | ⟨y1, y | ⟨c1, a1, a2, a3, ⟨b1, b2, b3, b4, b5, b6⟩, a5⟩⟩)
    · exact Or.inl y
    · exact Or.inr ⟨y1, Or.inl y⟩
    · exact Or.inr ⟨y1, Or.inr ⟨c1, a1, a2, a3, ⟨b1, b2, b3, b4, b5, rx_sl_tr (rx_sl_fy f1 (by decide) (by decide)) b6⟩, a5⟩⟩
  rcases fy_ifd g1 with ⟨c1, g2⟩ | ⟨c1, g2⟩
  · replace g2 := g2.2
    rcases fy_ifd g2 with ⟨c2, g3⟩ | ⟨c2, g3⟩
    · obtain ⟨w38, X37, r2, e1, e2⟩ := g3
      subst e1
      subst e2
      left
      rcases h1 with hB | ⟨hG1, hR2, hTT, -⟩
      · exact rx_215 hB.1 (by decide) r2
      · have hTT2 := rx_TT_fr hTT f1 (by decide) (by decide)
        have hin := hG1.2.2.2.1.1
        rw [fx_in hin, hTT2.2.2.1.1] at c2
        refine rx_215 (rx_230f ⟨hG1, hR2⟩ hs ?_) (by decide) r2
        have := congrArg List.length hTT2.2.2.1.2.2.2.2.1
        rw [List.length_map, List.length_map] at this
        omega
    · refine post (rx_230n (Q := Q) hs hp (h1.imp id (fun z => ⟨z.1, z.2.1, rx_TT_fr z.2.2.1 f1 (by decide) (by decide), Or.inl ?_, z.2.2.2⟩)) g3)
      have hTT2 := rx_TT_fr z.2.2.1 f1 (by decide) (by decide)
      have hin := z.1.2.2.2.1.1
      rw [fx_in hin] at c2
      have := hTT2.2.2.1.1
      have := hTT2.2.2.1.2.1
      omega
  · exact post (rx_230n (Q := Q) hs hp (h1.imp id (fun z => ⟨z.1, z.2.1, rx_TT_fr z.2.2.1 f1 (by decide) (by decide), Or.inr (fun y => c1 ((rx_k z.1).2.1.mpr y)), z.2.2.2⟩)) g2)
/-- a COLUMN more of the TABLE at its place -/
theorem rx_232n {TB : md_TB} {q : (Int × Int) × List (List Int64) × List Int64 × Int64} {U : md_U} {cu : Option (Int64 × List Int32)} {b : Bool} (hsl : rx_B P X ∨ (p1.toInt = (slot : Int) ∧ slot < 20)) (h : rx_B P X ∨ (rx_G P X j c ∧ md_R P ((3, l) :: (185, l2) :: K) j near c nm ((U, cu, TB ++ [(nn, b, l8)], q), ws) ∧ rx_cl X slot l8 ∧ ((c 10).toInt = (l8.length : Int) ∧ (l8.length < 4 ∨ (rp_T P).1 j ≠ 3)) ∧ Q)) (g : (∃ (w4 : Int32) (X3 : fx_X), gx_216 X w4 X3 ∧ (if (w4).toInt = 0 then (v = (Int32.ofInt 0) ∧ X' = X3) else (∃ (w7 : Int32) (X6 : fx_X), gx_233 p1 (X3.2.1 117 33) X3 w7 X6 ∧ (if (w7).toInt < 0 then ((0 ≤ (p1).toInt ∧ (p1).toInt < ((50 : Nat) : Int)) ∧ (0 ≤ (((p1 * ((Int8.ofInt 8).toInt32)) + (X6.1 132 (p1).toInt.toNat))).toInt ∧ (((p1 * ((Int8.ofInt 8).toInt32)) + (X6.1 132 (p1).toInt.toNat))).toInt < ((400 : Nat) : Int)) ∧ ∃ X13 : fx_X, X13 = (fx_wL X6 133 (((p1 * ((Int8.ofInt 8).toInt32)) + (X6.1 132 (p1).toInt.toNat))).toInt.toNat (X6.2.1 117 33)) ∧ (0 ≤ (p1).toInt ∧ (p1).toInt < ((50 : Nat) : Int)) ∧ (0 ≤ (p1).toInt ∧ (p1).toInt < ((50 : Nat) : Int)) ∧ ∃ X17 : fx_X, X17 = (fx_wI X13 132 (p1).toInt.toNat ((X13.1 132 (p1).toInt.toNat) + (Int32.ofInt 1))) ∧ v = (Int32.ofInt 1) ∧ X' = X17) else (∃ (w19 : Unit) (X18 : fx_X), gx_218 (Int32.ofInt 3) (X6.1 117 34) X6 w19 X18 ∧ (0 ≤ (p1).toInt ∧ (p1).toInt < ((50 : Nat) : Int)) ∧ (0 ≤ (((p1 * ((Int8.ofInt 8).toInt32)) + (X18.1 132 (p1).toInt.toNat))).toInt ∧ (((p1 * ((Int8.ofInt 8).toInt32)) + (X18.1 132 (p1).toInt.toNat))).toInt < ((400 : Nat) : Int)) ∧ ∃ X24 : fx_X, X24 = (fx_wL X18 133 (((p1 * ((Int8.ofInt 8).toInt32)) + (X18.1 132 (p1).toInt.toNat))).toInt.toNat (X18.2.1 117 33)) ∧ (0 ≤ (p1).toInt ∧ (p1).toInt < ((50 : Nat) : Int)) ∧ (0 ≤ (p1).toInt ∧ (p1).toInt < ((50 : Nat) : Int)) ∧ ∃ X28 : fx_X, X28 = (fx_wI X24 132 (p1).toInt.toNat ((X24.1 132 (p1).toInt.toNat) + (Int32.ofInt 1))) ∧ v = (Int32.ofInt 1) ∧ X' = X28)))))) : rx_X P v X' ∨ (v = Int32.ofInt 1 ∧ (rx_B P X' ∨ ∃ c1, rx_G P X' (j + 1) c1 ∧ md_R P K (j + 1) j c1 nm ((U, cu, TB ++ [(nn, b, l8 ++ [(rp_T P).2 j])], q), ws) ∧ rx_cl X' slot (l8 ++ [(rp_T P).2 j]) ∧ (c1 10).toInt = ((l8.length + 1 : Nat) : Int) ∧ (∀ k, k ≠ 10 → c1 k = c k) ∧ (∃ X3, fy fF_216 fL_216 [] X X3 ∧ X' = fx_wI (fx_wL X3 133 (8 * slot + l8.length) ((rp_T P).2 j)) 132 slot (X3.1 132 slot + Int32.ofInt 1)) ∧ l8.length < 4 ∧ Q)) := by
  obtain ⟨w4, X3, r2, g⟩ := g
  have h3 := rx_216 (K := (185, l2) :: K) (Q := rx_cl X slot l8 ∧ ((c 10).toInt = (l8.length : Int) ∧ (l8.length < 4 ∨ (rp_T P).1 j ≠ 3)) ∧ Q) h r2
  rcases rx_go h3 g with e | ⟨h3, g3⟩
  · exact Or.inl e
  obtain ⟨w7, X6, r3, g4⟩ := g3
  have e6 : X6 = X3 := fy_e (gf_233 r3)
  subst e6
  rcases h3 with hB | ⟨hG3, hR3, ⟨h33, hT3⟩, hcl, ⟨hc10, hlt⟩, hQ⟩
  · right
    rcases fy_ifd g4 with ⟨c2, g5⟩ | ⟨c2, g5⟩
    · obtain ⟨-, -, X13, e13, -, -, X17, e17, e1, e2⟩ := g5
      have hB13 : rx_B P X13 := by unfold rx_B; rw [e13]; exact hB
      rw [e2, e17]
      exact ⟨e1, Or.inl (rx_B_w hB13 (Or.inl (by decide)))⟩
    · obtain ⟨w19, X18, r4, -, -, X13, e13, -, -, X17, e17, e1, e2⟩ := g5
      have hB2 := rx_B_218 hB (by decide) r4
      have hB13 : rx_B P X13 := by unfold rx_B; rw [e13]; exact hB2
      rw [e2, e17]
      exact ⟨e1, Or.inl (rx_B_w hB13 (Or.inl (by decide)))⟩
  · have hnB : ¬ rx_B P X := fun y => by
      rcases h with z | z
      · have := gb_216 z r2
        exact absurd hG3.2.2.2.2.2.1 this.2.1
      · exact absurd z.1.2.2.2.2.2.1 y.2.1
    obtain ⟨hp, hs20⟩ : p1.toInt = (slot : Int) ∧ slot < 20 := by
      rcases hsl with y | y
      · exact absurd y hnB
      · exact y
    have hl4 : l8.length < 4 := by
      rcases hlt with y | y
      · exact y
      · exact absurd hT3 y
    have f2 := gf_216 r2
    have hcl3 := rx_cl_fr hcl (fy_ra f2 (by decide) (by decide)) (fy_rl f2 (by decide) (by decide))
    obtain ⟨-, hv⟩ := rx_233 hcl3 hp (by omega) r3
    rw [h33] at hv
    have e1' : (Int32.ofInt 1).toInt = 1 := rfl
    have hroom : md_room 185 ((rp_T P).2 j) c nm = some (md_u c 10 (c 10 + Int32.ofInt 1), nm) := by
      have e : md_room 185 ((rp_T P).2 j) c nm = md_lim 4 c 10 nm := rfl
      rw [e]
      unfold md_lim
      rw [if_neg (by rw [fx_add (by omega) (by omega)]; omega)]
    rcases md_R_e hR3 (by decide) with ⟨y, -⟩ | ⟨c', nm', y1, hRe⟩
    · rw [hroom] at y; cases y
    rw [hroom] at y1
    cases y1
    rcases fy_ifd g4 with ⟨c2, g5⟩ | ⟨c2, g5⟩
    · have hni : (rp_T P).2 j ∉ l8 := (md_ix_neg (k := 0)).mp (by omega)
      have hR4 := md_Re_c hRe (md_ck185.trans (if_neg (by
        intro z
        rcases z with z | z
        · omega
        · exact hni z))) (fun _ => md_wk_id (by decide))
      have hi : (p1 * ((Int8.ofInt 8).toInt32) + X6.1 132 slot).toInt = ((8 * slot + l8.length : Nat) : Int) := by
        have := rx_lin (m := 8) (z := (Int8.ofInt 8).toInt32) hp rfl hcl3.1 (by omega)
        rw [show 8 * slot + l8.length = slot * 8 + l8.length by omega]
        exact this
      rw [fx_in hp, fx_in hi, h33] at g5
      obtain ⟨-, -, X13, e13, -, -, X17, e17, e1, e2⟩ := g5
      have e132 : X13.1 132 slot = X6.1 132 slot := by rw [e13]; rfl
      rw [e132] at e17
      have ff : fy [(132, slot)] [(133, 8 * slot + l8.length)] [] X6 X' := by
        rw [e2, e17, e13]
        exact fy_f (fy_g fy_rf (List.mem_singleton.mpr rfl)) (List.mem_singleton.mpr rfl)
      refine Or.inr ⟨e1, Or.inr ⟨_, rx_G_fr (c := md_u c 10 (c 10 + Int32.ofInt 1)) hG3 ff (by decide) (by simp), hR4, ⟨?_, ?_, fun k n hk => ?_⟩, ?_, fun k hk => if_neg hk, ⟨X6, f2, ?_⟩, hl4, hQ⟩⟩
      · rw [e2, e17, fx_rIe, cx_in1 hcl3.1 (by omega), List.length_append]; rfl
      · rw [List.length_append]; show l8.length + 1 ≤ 6; omega
      · rw [e2, e17]
        show X13.2.1 133 (8 * slot + k) = n
        rw [e13]
        by_cases hk2 : k < l8.length
        · rw [List.getElem?_append_left hk2] at hk
          rw [fx_rLk (by omega)]
          exact hcl3.2.2 k n hk
        · have := (List.getElem?_eq_some_iff.mp hk).1
          rw [List.length_append] at this
          have : k < l8.length + 1 := this
          have : k = l8.length := by omega
          subst this
          rw [List.getElem?_append_right (Nat.le_refl _), Nat.sub_self] at hk
          rw [fx_rLe]
          exact Option.some.inj hk
      · show (c 10 + Int32.ofInt 1).toInt = _
        rw [fx_add (by omega) (by omega), hc10, e1']; omega
      · rw [e2, e17, e13]
    · obtain ⟨w19, X18, r4, -, -, X13, e13, -, -, X17, e17, e1, e2⟩ := g5
      have hF := md_Re_f hRe (md_ck185.trans (if_pos (Or.inr (by
        by_cases z : (rp_T P).2 j ∈ l8
        · exact z
        · exact absurd ((md_ix_neg (k := 0)).mpr z) (by omega)))))
      have hB2 := rx_tell (Or.inr ⟨hG3, hF⟩) (by decide) r4
      have hB13 : rx_B P X13 := by unfold rx_B; rw [e13]; exact hB2
      rw [e2, e17]
      exact Or.inr ⟨e1, Or.inl (rx_B_w hB13 (Or.inl (by decide)))⟩
theorem rx_232 {TB : md_TB} {q : (Int × Int) × List (List Int64) × List Int64 × Int64} {U : md_U} {cu : Option (Int64 × List Int32)} {b : Bool} (hsl : rx_B P X ∨ (p1.toInt = (slot : Int) ∧ slot < 20)) (h : rx_B P X ∨ (rx_G P X j c ∧ md_R P ((3, l) :: (185, l2) :: K) j near c nm ((U, cu, TB ++ [(nn, b, l8)], q), ws) ∧ rx_cl X slot l8 ∧ ((c 10).toInt = (l8.length : Int) ∧ l8.length ≤ 4) ∧ Q)) (g : gx_232 p1 X v X') : rx_X P v X' ∨ (v = Int32.ofInt 1 ∧ (rx_B P X' ∨ ∃ c1, rx_G P X' (j + 1) c1 ∧ md_R P K (j + 1) j c1 nm ((U, cu, TB ++ [(nn, b, l8 ++ [(rp_T P).2 j])], q), ws) ∧ rx_cl X' slot (l8 ++ [(rp_T P).2 j]) ∧ (c1 10).toInt = ((l8.length + 1 : Nat) : Int) ∧ (∀ k, k ≠ 10 → c1 k = c k) ∧ (∃ X3, fy fF_216 fL_216 [] X X3 ∧ X' = fx_wI (fx_wL X3 133 (8 * slot + l8.length) ((rp_T P).2 j)) 132 slot (X3.1 132 slot + Int32.ofInt 1)) ∧ l8.length < 4 ∧ Q)) := by
  unfold gx_232 at g
  rcases fy_ifd g with ⟨c1, g2⟩ | ⟨c1, g2⟩
  · replace g2 := g2.2
    rcases fy_ifd g2 with ⟨c2, g3⟩ | ⟨c2, g3⟩
    · obtain ⟨w38, X37, r2, e1, e2⟩ := g3
      subst e1
      subst e2
      left
      rcases h with hB | ⟨hG1, hR2, hcl, ⟨hc10, hl4⟩, -⟩
      · exact rx_215 hB.1 (by decide) r2
      · have hnB : ¬ rx_B P X := fun y => absurd hG1.2.2.2.2.2.1 y.2.1
        obtain ⟨hp, hs20⟩ : p1.toInt = (slot : Int) ∧ slot < 20 := by
          rcases hsl with y | y
          · exact absurd y hnB
          · exact y
        rw [fx_in hp, hcl.1] at c2
        refine rx_215 ?_ (by decide) r2
        by_cases hj : j < 1000
        · have hR3 := md_R_t hR2 (by decide) ((rx_k hG1).2.1.mp c1) (Or.inl hj)
          rcases md_R_e hR3 (by decide) with ⟨-, y⟩ | ⟨c', nm', y1, -⟩
          · exact y
          · exfalso
            have e : md_room 185 ((rp_T P).2 j) c nm = md_lim 4 c 10 nm := rfl
            have e1' : (Int32.ofInt 1).toInt = 1 := rfl
            rw [e] at y1
            unfold md_lim at y1
            rw [if_pos (by rw [fx_add (by omega) (by omega)]; omega)] at y1
            cases y1
        · exact md_R_tx hR2 (by decide) (Or.inr ⟨by omega, by decide⟩)
    · refine rx_232n (Q := Q) (l := l) (l2 := l2) (near := near) hsl ?_ g3
      rcases h with hB | ⟨a1, a2, a3, ⟨a4, a5⟩, a6⟩
      · exact Or.inl hB
      · have hnB : ¬ rx_B P X := fun y => absurd a1.2.2.2.2.2.1 y.2.1
        obtain ⟨hp, hs20⟩ : p1.toInt = (slot : Int) ∧ slot < 20 := by
          rcases hsl with y | y
          · exact absurd y hnB
          · exact y
        rw [fx_in hp] at c2
        have := a3.1
        exact Or.inr ⟨a1, a2, a3, ⟨a4, Or.inl (by omega)⟩, a6⟩
  · exact rx_232n (Q := Q) hsl (h.imp id (fun z => ⟨z.1, z.2.1, z.2.2.1, ⟨z.2.2.2.1.1, Or.inr (fun y => c1 ((rx_k z.1).2.1.mpr y))⟩, z.2.2.2.2⟩)) g2
end DD20
