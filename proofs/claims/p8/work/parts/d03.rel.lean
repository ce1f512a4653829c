/-! THE REFERENCE: a TERM, a relation -/
section DD3
variable {P : md_P} {X X' X1 : fx_X} {K : List md_Sy} {s a : Int} {l j near : Nat} {c : md_C} {nm : md_Nm} {cs : md_CS} {ws : md_WS} {v w p p1 p2 : Int32} {u : Unit} {w8 : Int64} {Q : Prop}
theorem md_ck200 {T : md_T} : md_ck T cs (200, near, l) = md_k (cs, (md_it T near).toInt) := by
  obtain ⟨U, cu, TB, rw, sk, pk, fr⟩ := cs
  exact md_k200
theorem md_ck201 {T : md_T} : md_ck T cs (201, near, l) = if md_ix (T.2 near) (cs.1.map (·.1)) 0 < 0 then some none else md_k (cs, md_ix (T.2 near) (cs.1.map (·.1)) 0) := by
  obtain ⟨U, cu, TB, rw, sk, pk, fr⟩ := cs
  exact md_k201
theorem md_ck203 {T : md_T} : md_ck T cs (203, near, l) = md_k (cs, T.1 near) := by
  obtain ⟨U, cu, TB, rw, sk, pk, fr⟩ := cs
  exact md_k203
theorem md_wk200 {W n wd : Nat} {val : md_V} {arg : Int} : md_wk W n val wd ws (200, near, l) arg = md_k (md_sft ws (0, Int32.ofInt arg)) := by
  obtain ⟨tb, sk, tr, sd, rel, pt, rt, pk, fo, fd⟩ := ws
  rfl
theorem md_wk201 {W n wd : Nat} {val : md_V} {arg : Int} : md_wk W n val wd ws (201, near, l) arg = md_k (md_sft ws (1, Int32.ofInt arg)) := by
  obtain ⟨tb, sk, tr, sd, rel, pt, rt, pk, fo, fd⟩ := ws
  rfl
theorem md_wk203 {W n wd : Nat} {val : md_V} {arg : Int} : md_wk W n val wd ws (203, near, l) arg = md_k (md_rlw ws arg) := by
  obtain ⟨tb, sk, tr, sd, rel, pt, rt, pk, fo, fd⟩ := ws
  rfl
theorem md_room_id {w : Int64} (h : s = 137 ∨ s = 182 ∨ s = 183 ∨ s = 187 ∨ s = 188 ∨ s = 190 ∨ 192 ≤ s) : md_room s w c nm = some (c, nm) := by
  unfold md_room
  rw [if_neg (by omega), if_neg (by omega), if_neg (by omega), if_neg (by omega), if_neg (by omega), if_neg (by omega), if_neg (by omega), if_neg (by omega), if_neg (by omega), if_neg (by omega)]
/-- an event that asks for no room -/
theorem md_R_e0 (h : md_R P ((s, l) :: K) j near c nm (cs, ws)) (hs : s = 182 ∨ s = 183 ∨ s = 187 ∨ s = 188 ∨ s = 190 ∨ 192 ≤ s) : md_Re P K j near c nm (cs, ws) (s, near, l) := by
  rcases md_R_e h (by omega) with ⟨y, -⟩ | ⟨c', nm', y1, y2⟩
  · rw [md_room_id (by omega)] at y; cases y
  · rw [md_room_id (by omega)] at y1
    cases y1
    exact y2
/-- what a TERM is -/
def rx_td (X : fx_X) (n : Nat) (x : md_Sd) : Prop := (X.1 117 38).toInt = x.1 ∧ X.1 117 39 = x.2 ∧ (x.1 = 0 ∨ (x.1 = 1 ∧ 0 ≤ x.2.toInt ∧ x.2.toInt < (n : Int)))
theorem md_ix_lt {n : Int64} {l : List Int64} (h : ¬ md_ix n l 0 < 0) : md_ix n l 0 < (l.length : Int) := by
  obtain ⟨i, h1, h2, -⟩ := md_ix_at h
  have := (List.getElem?_eq_some_iff.mp h2).1
  rw [h1]; omega
theorem md_R_144 (hR : md_R P ((144, l) :: K) j near c nm (cs, ws)) (hT63 : (rp_T P).1 j ≠ 63) : (((rp_T P).1 j = 45 ∨ (rp_T P).1 j = 4) ∧ md_R P ((if (rp_T P).1 j = 45 then [45, 200, 4] else [4, 200] : List Int).map (fun a => (a, j)) ++ K) j near c nm (cs, ws)) ∨ ((rp_T P).1 j ≠ 45 ∧ (rp_T P).1 j ≠ 4 ∧ md_F P) := by
  by_cases h45 : (rp_T P).1 j = 45
  · left
    rw [if_pos h45]
    exact ⟨Or.inl h45, md_R_r hR (by decide) (by decide) (by decide) (by rw [h45]; rfl)⟩
  · by_cases h4 : (rp_T P).1 j = 4
    · left
      rw [if_neg h45]
      exact ⟨Or.inr h4, md_R_r hR (by decide) (by decide) (by decide) (by rw [h4]; rfl)⟩
    · right
      refine ⟨h45, h4, md_R_rx hR (by decide) (by decide) ?_⟩
      show (md_50 144 _).map _ = none
      unfold md_50
      rw [if_neg (by decide), if_neg (by decide), if_neg (by decide), if_neg (by decide), if_neg (by decide), if_neg (by decide), if_pos rfl, if_neg hT63, if_neg h45, if_neg h4]
      rfl
theorem rx_235 (h : rx_B P X ∨ (rx_G P X j c ∧ md_R P ((144, l) :: K) j near c nm (cs, ws) ∧ rx_U P X cs.1 ∧ Q)) (g : gx_235 X v X') : rx_X P v X' ∨ (v = Int32.ofInt 1 ∧ ∃ j' n2 w2 x, rx_B P X' ∨ (rx_G P X' j' c ∧ md_R P K j' n2 c nm (cs, w2) ∧ rx_td X' cs.1.length x ∧ (rp_b P = true → w2 = md_sft ws x) ∧ Q)) := by
  obtain ⟨w3, X2, r, g⟩ := g
  obtain ⟨rfl, hw⟩ := rx_220 r
  have e63 : ((Int8.ofInt 63).toInt32).toInt = 63 := rfl
  rw [e63] at hw
  rcases fy_ifd g with ⟨c1, g⟩ | ⟨c1, g⟩
  · have hn : ¬ rx_sg X2 63 := by
      rcases hw with hw | hw
      · omega
      · exact hw.2
    obtain ⟨X18, rfl, w20, X19, r1, g⟩ := g
    have f1 : fy [(117, 38)] [] [] X2 (fx_wI X2 117 38 (Int32.ofInt 0)) := fy_f fy_rf (by decide)
    have h1 := rx_221 (Q := rx_G P X2 j c ∧ md_R P ((144, l) :: K) j near c nm (cs, ws) ∧ Q) (h.imp (fun z => rx_B_fr z f1 (by decide) (by decide)) (fun z => ⟨rx_G_fr z.1 f1 (by decide) (by decide), z.1, z.2.1, z.2.2.2⟩)) r1
    rcases h1 with ⟨hv, h1⟩ | ⟨hv, j', h1⟩
    · rw [if_pos (by rw [hv]; rfl)] at g
      obtain ⟨rfl, rfl⟩ := g
      left
      rcases h1 with h1 | ⟨h2, h3, hG, hR, hQ⟩
      · exact ⟨rfl, h1.1, h1.2.1⟩
      · refine ⟨rfl, ?_, h2⟩
        rcases md_R_144 hR (fun z => hn ((rx_sg_i hG (by decide)).mpr z)) with ⟨-, y⟩ | ⟨-, -, y⟩
        · exact (md_R_w0 y (by decide) h3 (Or.inr ⟨_, _, _, md_ck200, fun _ => md_wk200⟩))
        · exact y
    · rw [if_neg (by rw [hv]; decide)] at g
      obtain ⟨X22, rfl, rfl, rfl⟩ := g
      have f2 : fy [(117, 39)] [] [] X19 (fx_wI X19 117 39 (X19.1 117 35)) := fy_f fy_rf (by decide)
      right
      refine ⟨rfl, j', ?_⟩
      rcases h1 with h1 | ⟨hG', ⟨hwh, h35⟩, hG, hR, hQ⟩
      · exact ⟨0, ws, (0, 0), Or.inl (rx_B_fr h1 f2 (by decide) (by decide))⟩
      · have hx : rx_td (fx_wI X19 117 39 (X19.1 117 35)) cs.1.length (0, md_it (rp_T P) j) := by
          refine ⟨?_, ?_, Or.inl rfl⟩
          · rw [fx_rIk (by decide), (gf_221 r1).2.2 117 38 (by decide) (by decide), fx_rIe]; rfl
          · rw [fx_rIe]; exact h35
        rcases md_R_144 hR (fun z => hn ((rx_sg_i hG (by decide)).mpr z)) with ⟨-, y⟩ | ⟨y1, y2, -⟩
        · rcases md_R_wh y (by decide) hwh with q | ⟨c', nm', q1, q2, q3⟩
          · rw [md_room_id (by decide)] at q; cases q.1
          · rw [md_room_id (by decide)] at q1
            cases q1
            obtain ⟨w2, n2, z1, z2, z3⟩ := q3 _ _ _ md_ck200 (fun _ => md_wk200)
            refine ⟨n2, w2, (0, md_it (rp_T P) j), Or.inr ⟨rx_G_fr hG' f2 (by decide) (by decide), z1, hx, fun hb => ?_, hQ⟩⟩
            rw [z2 hb, Int32.ofInt_toInt]
        · unfold rx_wh at hwh
          omega
  · have hn : rx_sg X2 63 := by
      rcases hw with hw | hw
      · exact hw.2
      · omega
    obtain ⟨w6, X5, r1, g⟩ := g
    have h1 := rx_214 (s := 63) (K := (3, j) :: (201, j) :: K) (Q := (rx_U P X2 cs.1) ∧ Q) (h.imp id (fun z => by
      have hT := (rx_sg_i z.1 (by decide)).mp hn
      exact ⟨z.1, md_R_r (r := [63, 3, 201]) z.2.1 (by decide) (by decide) (by decide) (by rw [hT]; rfl), ⟨hT, by decide, by decide⟩, z.2.2⟩)) r1
    rcases rx_go h1 g with e | ⟨h1, g⟩
    · exact Or.inl e
    obtain ⟨w9, X8, r2, g⟩ := g
    have h2 := rx_216 h1 r2
    rcases rx_go h2 g with e | ⟨h2, g⟩
    · exact Or.inl e
    obtain ⟨X11, rfl, w13, X12, r3, X14, rfl, g⟩ := g
    have f1 : fy [(117, 38)] [] [] X8 (fx_wI X8 117 38 (Int32.ofInt 1)) := fy_f fy_rf (by decide)
    have f3 : X12 = fx_wI X8 117 38 (Int32.ofInt 1) := fy_e (gf_217 r3)
    have f4 : fy [(117, 38), (117, 39)] [] [] X8 (fx_wI X12 117 39 w13) := by rw [f3]; exact fy_f (fy_f fy_rf (by decide)) (by decide)
    have h39 : (fx_wI X12 117 39 w13).1 117 39 = w13 := fx_rIe
    rw [h39] at g
    rcases h2 with h2 | ⟨hG, hR, ⟨h33, hT3⟩, hU, hQ⟩
    · have hB := rx_B_fr h2 f4 (by decide) (by decide)
      rcases fy_ifd g with ⟨c2, g⟩ | ⟨c2, g⟩
      · obtain ⟨w17, X16, r4, rfl, rfl⟩ := g
        exact Or.inr ⟨rfl, 0, 0, ws, (0, 0), Or.inl (rx_tell (j := j) (c := c) (Or.inl hB) (by decide) r4)⟩
      · obtain ⟨rfl, rfl⟩ := g
        exact Or.inr ⟨rfl, 0, 0, ws, (0, 0), Or.inl hB⟩
    · have hU8 : rx_U P (fx_wI X8 117 38 (Int32.ofInt 1)) cs.1 := rx_U_fr (rx_U_fr (rx_U_fr hU (gf_214 r1) (by decide) (by decide)) (gf_216 r2) (by decide) (by decide)) f1 (by decide) (by decide)
      have hh := hG.2.2.2.1
      obtain ⟨-, hv⟩ := rx_217 hU8 (by rw [fx_rIk (by decide)]; exact hh.1) hh.2 r3
      have h33' : (fx_wI X8 117 38 (Int32.ofInt 1)).2.1 117 33 = (rp_T P).2 (j + 1) := h33
      rw [h33'] at hv
      have hGf := rx_G_fr hG f4 (by decide) (by decide)
      have hRe := md_R_e0 hR (by decide)
      rcases fy_ifd g with ⟨c2, g⟩ | ⟨c2, g⟩
      · obtain ⟨w17, X16, r4, rfl, rfl⟩ := g
        have hF := md_Re_f hRe ((md_ck201 (cs := cs)).trans (if_pos (by omega)))
        exact Or.inr ⟨rfl, 0, 0, ws, (0, 0), Or.inl (rx_tell (Or.inr ⟨hGf, hF⟩) (by decide) r4)⟩
      · obtain ⟨rfl, rfl⟩ := g
        obtain ⟨w2, q1, q2, q3⟩ := md_Re_n hRe ((md_ck201 (cs := cs)).trans (if_neg (by omega))) (fun _ => md_wk201)
        have hlt := md_ix_lt (n := (rp_T P).2 (j + 1)) (l := cs.1.map (·.1)) (by omega)
        rw [List.length_map] at hlt
        have e13 : w13 = Int32.ofInt (md_ix ((rp_T P).2 (j + 1)) (cs.1.map (·.1)) 0) := by rw [← hv, Int32.ofInt_toInt]
        refine Or.inr ⟨rfl, j + 1 + 1, j + 1, w2, (1, w13), Or.inr ⟨hGf, q1, ⟨?_, h39, Or.inr ⟨rfl, by show 0 ≤ w13.toInt; omega, by show w13.toInt < _; omega⟩⟩, fun hb => ?_, hQ⟩⟩
        · rw [fx_rIk (by decide), f3, fx_rIe]; rfl
        · rw [q2 hb, e13]
/-- a relation -/
theorem rx_239 (h : rx_B P X ∨ (rx_G P X j c ∧ md_R P ((143, l) :: K) j near c nm (cs, ws) ∧ Q)) (g : gx_239 X v X') : rx_X P v X' ∨ (v = Int32.ofInt 1 ∧ ∃ w2 r, rx_B P X' ∨ (rx_G P X' (j + 1) c ∧ md_R P K (j + 1) j c nm (cs, w2) ∧ rx_rl (X'.1 117 40).toInt r ∧ (rp_b P = true → w2 = md_rlw ws r) ∧ Q)) := by
  have one : ∀ {w8 : Int32} {X6 X7 : fx_X} (m r : Int), (X.1 117 26).toInt = 3 → (X.1 117 29).toInt = m → rx_rl m r → 3 ≤ r ∧ r < 130 → (rx_G P X j c → (rp_T P).1 j = r) → md_51 r ≠ none → (∀ i, md_51 r = some i → md_rl.getD i [] = [r, 203]) → X6 = (fx_wI X 117 40 (X.1 117 29)) → gx_214 X6 w8 X7 → v = w8 → X' = X7 → rx_X P v X' ∨ (v = Int32.ofInt 1 ∧ ∃ w2 r, rx_B P X' ∨ (rx_G P X' (j + 1) c ∧ md_R P K (j + 1) j c nm (cs, w2) ∧ rx_rl (X'.1 117 40).toInt r ∧ (rp_b P = true → w2 = md_rlw ws r) ∧ Q)) := by
    intro w8 X6 X7 m r hk hm hrl hr3 hT h51 h51b e6 r1 e7 e8
    subst e7
    subst e8
    have f1 : fy [(117, 40)] [] [] X X6 := by rw [e6]; exact fy_f fy_rf (by decide)
    have h40 : X'.1 117 40 = X.1 117 29 := by rw [(gf_214 r1).2.2 117 40 (by decide) (by decide), e6, fx_rIe]
    have h1 := rx_214 (s := r) (K := (203, j) :: K) (Q := Q) (h.imp (fun z => rx_B_fr z f1 (by decide) (by decide)) (fun z => by
      have hT := hT z.1
      refine ⟨rx_G_fr z.1 f1 (by decide) (by decide), ?_, ⟨hT, hr3⟩, z.2.2⟩
      cases h51c : md_51 r with
      | none => exact absurd h51c h51
      | some i =>
        refine md_R_r (r := [r, 203]) z.2.1 (by decide) (by decide) (by decide) ?_
        rw [hT]
        show (md_51 r).map _ = _
        rw [h51c]
        show some (md_rl.getD i []) = _
        rw [h51b i h51c])) r1
    rcases h1 with e | ⟨hv, h1⟩
    · exact Or.inl e
    · refine Or.inr ⟨hv, ?_⟩
      rcases h1 with h1 | ⟨hG, hR, hQ⟩
      · exact ⟨ws, 0, Or.inl h1⟩
      · obtain ⟨w2, q1, q2, q3⟩ := md_Re_n (md_R_e0 hR (by decide)) md_ck203 (fun _ => md_wk203)
        refine ⟨w2, r, Or.inr ⟨hG, q1, by rw [h40, hm]; exact hrl, fun hb => ?_, hQ⟩⟩
        rw [q2 hb]
        rcases h with h | h
        · exact absurd hb (by rw [h.1.1]; decide)
        · rw [hT h.1]
  have bad : ∀ {w8 : Int32} {X7 : fx_X}, (rx_G P X j c → (rp_T P).1 j ≠ 61 ∧ (rp_T P).1 j ≠ 6 ∧ (rp_T P).1 j ≠ 60 ∧ (rp_T P).1 j ≠ 7) → gx_215 (Int32.ofInt 1) (X.1 117 27) X w8 X7 → v = w8 → X' = X7 → rx_X P v X' := by
    intro w8 X7 hT r e1 e2
    subst e1
    subst e2
    rcases h with h | ⟨hG, hR, hQ⟩
    · exact rx_215 h.1 (by decide) r
    · obtain ⟨t1, t2, t3, t4⟩ := hT hG
      refine rx_215 (md_R_rx hR (by decide) (by decide) ?_) (by decide) r
      show (md_51 _).map _ = none
      unfold md_51
      rw [if_neg t2, if_neg t4, if_neg t3, if_neg t1]
      rfl
  unfold gx_239 at g
  rcases fy_ifd g with ⟨c0, g⟩ | ⟨c0, g⟩
  · rcases fy_ifd g with ⟨c1, g⟩ | ⟨c1, g⟩
    · obtain ⟨X6, e6, w8, X7, r1, e7, e8⟩ := g
      exact one 61 61 c0 c1 (Or.inl ⟨rfl, rfl⟩) (by decide) (fun hG => (rx_sg_i hG (by decide)).mp ⟨c0, c1⟩) (by decide) (fun i hi => by cases hi; rfl) e6 r1 e7 e8
    · rcases fy_ifd g with ⟨c2, g⟩ | ⟨c2, g⟩
      · obtain ⟨X6, e6, w8, X7, r1, e7, e8⟩ := g
        exact one 257 6 c0 c2 (Or.inr (Or.inl ⟨rfl, rfl⟩)) (by decide) (fun hG => (rx_k hG).2.2.2.2.1.mp ⟨c0, c2⟩) (by decide) (fun i hi => by cases hi; rfl) e6 r1 e7 e8
      · rcases fy_ifd g with ⟨c3, g⟩ | ⟨c3, g⟩
        · obtain ⟨X6, e6, w8, X7, r1, e7, e8⟩ := g
          exact one 60 60 c0 c3 (Or.inr (Or.inr (Or.inl ⟨rfl, rfl⟩))) (by decide) (fun hG => (rx_sg_i hG (by decide)).mp ⟨c0, c3⟩) (by decide) (fun i hi => by cases hi; rfl) e6 r1 e7 e8
        · rcases fy_ifd g with ⟨c4, g⟩ | ⟨c4, g⟩
          · obtain ⟨X6, e6, w8, X7, r1, e7, e8⟩ := g
            exact one 258 7 c0 c4 (Or.inr (Or.inr (Or.inr ⟨rfl, rfl⟩))) (by decide) (fun hG => (rx_k hG).2.2.2.2.2.1.mp ⟨c0, c4⟩) (by decide) (fun i hi => by cases hi; rfl) e6 r1 e7 e8
          · obtain ⟨w8, X7, r1, e7, e8⟩ := g
            exact Or.inl (bad (fun hG => ⟨fun z => c1 ((rx_sg_i hG (by decide)).mpr z).2, fun z => c2 ((rx_k hG).2.2.2.2.1.mpr z).2, fun z => c3 ((rx_sg_i hG (by decide)).mpr z).2, fun z => c4 ((rx_k hG).2.2.2.2.2.1.mpr z).2⟩) r1 e7 e8)
  · obtain ⟨w8, X7, r1, e7, e8⟩ := g
    exact Or.inl (bad (fun hG => ⟨fun z => c0 ((rx_sg_i hG (by decide)).mpr z).1, fun z => c0 ((rx_k hG).2.2.2.2.1.mpr z).1, fun z => c0 ((rx_sg_i hG (by decide)).mpr z).1, fun z => c0 ((rx_k hG).2.2.2.2.2.1.mpr z).1⟩) r1 e7 e8)
end DD3
