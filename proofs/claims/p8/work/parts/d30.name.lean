/-! THE REFERENCE: COLUMNS asked for, COLUMNS named anew -/
/-- between two steps of a query -/
def rx_S (P : md_P) (nn : Int64) (X0 : fx_X) (nm : md_Nm) (b14 : Int) (sk : List (List Int64)) (K : List md_Sy) (X : fx_X) : Prop := ∃ j near l c cs ws l8, cs.2.2.2.2.1 = l8 :: sk ∧ rx_QD P nn X0 X (sk.length + 1) j c cs ws nm ∧ md_R P ((150, l) :: K) j near c nm (cs, ws) ∧ (c 14).toInt = b14
section DD30
variable {P : md_P} {X X' X0 X1 X2 : fx_X} {K : List md_Sy} {c c' : md_C} {nm : md_Nm} {cs cs' : md_CS} {ws ws' : md_WS} {j j' near l l2 n n1 m t t' d k s s1 s2 : Nat} {v w p1 p2 z y4 : Int32} {u : Unit} {nn y2 : Int64} {F L : List (Nat × Nat)} {A : List Nat} {sk : List (List Int64)} {sq : List md_Q} {l8 : List Int64} {q : md_Q} {B : List md_Row} {Q : Prop} {b14 : Int}
theorem rx_QD_top (h : rx_QD P nn X0 X t j c cs ws nm) (hsk : cs.2.2.2.2.1 = l8 :: sk) : (rx_cl X (20 + sk.length) l8 ∧ sk.length < 20) ∧ (rp_b P = true → ∃ q s, ws.2.1 = q :: s ∧ rx_qe P X (md_m P cs.1) cs.1.length (20 + sk.length) q l8) := by
  obtain ⟨-, -, -, -, g5, g6, g7⟩ := h
  rw [hsk] at g5 g6
  refine ⟨⟨g6.1, g5⟩, fun hb => ?_⟩
  obtain ⟨-, -, k3⟩ := g7 hb
  rw [hsk] at k3
  cases hq : ws.2.1 with
  | nil => rw [hq] at k3; exact k3.elim
  | cons q s => rw [hq] at k3; exact ⟨q, s, rfl, k3.1⟩
theorem rx_256 (h : rx_B P X ∨ (rx_G P X j c ∧ rx_cl X s l8 ∧ (p1.toInt = (s : Int) ∧ s < 50) ∧ (md_ix (X.2.1 117 33) l8 0 < 0 → md_F P))) (g : gx_256 p1 X v X') : rx_B P X' ∨ (X' = X ∧ v.toInt = md_ix (X.2.1 117 33) l8 0 ∧ 0 ≤ v.toInt) := by
  obtain ⟨-, g⟩ := g
  rcases h with hB | ⟨hG, hcl, ⟨hp, hs⟩, hF⟩
  · left
    rcases fy_ifd g with ⟨c1, g1⟩ | ⟨c1, g1⟩
    · rw [g1.2]; exact hB
    · obtain ⟨w6, X5, r, g2⟩ := g1
      have e5 : X5 = X := fy_e (gf_233 r)
      subst e5
      rcases fy_ifd g2 with ⟨c2, g3⟩ | ⟨c2, g3⟩
      · obtain ⟨w10, X9, r2, g4⟩ := g3
        rw [g4.2]
        exact rx_B_218 hB (by decide) r2
      · rw [g3.2]; exact hB
  · rw [fx_in hp] at g
    have := hcl.1
    rcases fy_ifd g with ⟨c1, g1⟩ | ⟨c1, g1⟩
    · omega
    · obtain ⟨w6, X5, r, g2⟩ := g1
      obtain ⟨e5, ev⟩ := rx_233 hcl hp hs r
      subst e5
      rcases fy_ifd g2 with ⟨c2, g3⟩ | ⟨c2, g3⟩
      · obtain ⟨w10, X9, r2, g4⟩ := g3
        left
        rw [g4.2]
        exact rx_tell (Or.inr ⟨hG, hF (by omega)⟩) (by decide) r2
      · right
        rw [g3.1, g3.2]
        exact ⟨rfl, ev, by omega⟩
theorem md_ck218 {T : md_T} (hsk : cs.2.2.2.2.1 = l8 :: sk) : md_ck T cs (218, near, l) = if 0 ≤ md_ix (T.2 near) l8 0 then some none else md_k ((cs.1, cs.2.1, cs.2.2.1, cs.2.2.2.1, l8 :: sk, cs.2.2.2.2.2.1, T.2 near), 0) := by
  obtain ⟨U, cu, TB, rw, sk0, pk, fr⟩ := cs
  have hsk : sk0 = l8 :: sk := hsk
  subst hsk
  exact md_k218
theorem md_ck219 {T : md_T} (hsk : cs.2.2.2.2.1 = l8 :: sk) : md_ck T cs (219, near, l) = if md_ix (T.2 near) l8 0 < 0 then some none else if cs.2.2.2.2.2.2 ∈ l8 then none else md_k ((cs.1, cs.2.1, cs.2.2.1, cs.2.2.2.1, l8.set (md_ix (T.2 near) l8 0).toNat cs.2.2.2.2.2.2 :: sk, cs.2.2.2.2.2), md_ix (T.2 near) l8 0) := by
  obtain ⟨U, cu, TB, rw, sk0, pk, fr⟩ := cs
  have hsk : sk0 = l8 :: sk := hsk
  subst hsk
  exact md_k219
theorem rx_cl_set {i : Nat} {f : Int64} (h : rx_cl X s l8) (e : X' = fx_wL X 133 (8 * s + i) f) (hi : i < l8.length) : rx_cl X' s (l8.set i f) := by
  obtain ⟨a1, a2, a3⟩ := h
  refine ⟨by rw [e, List.length_set]; exact a1, by rw [List.length_set]; exact a2, fun k n hk => ?_⟩
  by_cases z : i = k
  · subst z
    rw [List.getElem?_set_self hi] at hk
    cases hk
    rw [e, fx_rLe]
  · rw [List.getElem?_set_ne z] at hk
    rw [e, fx_rLk (by omega)]
    exact a3 k n hk
theorem rx_262l (h : ∃ j near l2 l3 l4 l5 c cs ws l8, cs.2.2.2.2.1 = l8 :: sk ∧ rx_QD P nn X0 X (sk.length + 1) j c cs ws nm ∧ md_R P ((61, l2) :: (3, l3) :: (219, l4) :: (125, l5) :: (150, l) :: K) j near c nm (cs, ws) ∧ (c 14).toInt = b14 ∧ (y4.toInt = 0 ∧ y2 = cs.2.2.2.2.2.2 ∧ y2 ∉ l8) ∧ p1.toInt = ((20 + sk.length : Nat) : Int)) (g : gxF_262 p1 n1 63 [y4] [y2] [] X v X') : rx_X P v X' ∨ (v = Int32.ofInt 1 ∧ (rx_B P X' ∨ rx_S P nn X0 nm b14 sk K X')) := by
  cases n1 with
  | zero => exact g.elim
  | succ n1 =>
    replace g := gxO_262_63 g
    obtain ⟨w24, X23, r1, g⟩ := g
    have e61 : ((Int8.ofInt 61).toInt32).toInt = 61 := rfl
    have e125 : ((Int8.ofInt 125).toInt32).toInt = 125 := rfl
    obtain ⟨j, near, l2, l3, l4, l5, c, cs, ws, l8, hsk, hD, hR, h14, ⟨hy4, hy2, hno⟩, hp⟩ := h
    have h1 := rx_219g hD.1 hR (by decide) e61 r1
    rcases rx_go h1 g with e | ⟨⟨hG1, hR1⟩, g1⟩
    · exact Or.inl e
    have hD1 := rx_QD_fy hD hG1 (gf_219 r1) (by decide) (by decide)
    obtain ⟨w27, X26, r2, g2⟩ := g1
    have h2 := rx_216g hG1 hR1 r2
    rcases rx_go h2 g2 with e | ⟨⟨hG2, hR2, h33, -⟩, g3⟩
    · exact Or.inl e
    rw [if_pos hy4] at g3
    obtain ⟨w31, X30, r3, g4⟩ := g3
    have hD2 := rx_QD_fy hD1 hG2 (gf_216 r2) (by decide) (by decide)
    obtain ⟨⟨hcl, h20⟩, htop⟩ := rx_QD_top hD2 hsk
    have hRe := md_R_e0 hR2 (by decide)
    have h3 := rx_256 (l8 := l8) (Or.inr ⟨hG2, hcl, ⟨hp, by omega⟩, fun z => md_Re_f hRe ((md_ck219 hsk).trans (if_pos (by rw [h33] at z; exact z)))⟩) r3
    rcases h3 with hB3 | ⟨e30, hv, hv0⟩
    · rcases fy_ifd g4 with ⟨c3, g6⟩ | ⟨c3, g6⟩
      · obtain ⟨-, X41, e, w43, X42, r3, e1, e2⟩ := g6
        rw [e1, e2]
        exact rx_BE (gb_219 (X := X41) (by rw [e]; exact rx_B_w hB3 (Or.inl (by decide))) r3) (gv_219 r3)
      · obtain ⟨-, X36, e, w38, X37, r3, e1, e2⟩ := g6
        rw [e1, e2]
        exact rx_BE (gb_219 (X := X36) (by unfold rx_B; rw [e]; exact hB3) r3) (gv_219 r3)
    subst e30
    rw [if_neg (by omega)] at g4
    obtain ⟨-, X36, e36, w38, X37, r4, e1, e2⟩ := g4
    rw [h33] at hv
    obtain ⟨i, i1, i2, -⟩ := md_ix_at (n := (rp_T P).2 (j + 1)) (l := l8) (k := 0) (by rw [← hv]; omega)
    rw [Nat.zero_add] at i1
    have hi := (List.getElem?_eq_some_iff.mp i2).1
    have hcl6 := hcl.2.1
    have k1 : (p1 * ((Int8.ofInt 8).toInt32) + w31).toInt = ((8 * (20 + sk.length) + i : Nat) : Int) := by
      rw [show 8 * (20 + sk.length) + i = (20 + sk.length) * 8 + i by omega]
      exact rx_lin hp rfl (by omega) (by omega)
    rw [fx_in k1] at e36
    have hck := (md_ck219 (T := rp_T P) (near := j + 1) (l := l4) hsk).trans ((if_neg (by omega)).trans (if_neg (by rw [← hy2]; exact hno)))
    have hR3 := md_Re_c hRe hck (fun _ => md_wk_id (by decide))
    rw [i1] at hR3
    have hG36 : rx_G P X36 (j + 1 + 1) c := by rw [e36]; exact hG2
    have hcs3 : (cs.1, cs.2.1, cs.2.2.1, cs.2.2.2.1, l8.set i cs.2.2.2.2.2.2 :: sk, cs.2.2.2.2.2).2.2.2.2.1 = l8.set i cs.2.2.2.2.2.2 :: sk := rfl
    have hD3 : rx_QD P nn X0 X36 (sk.length + 1) (j + 1 + 1) c (cs.1, cs.2.1, cs.2.2.1, cs.2.2.2.1, l8.set i cs.2.2.2.2.2.2 :: sk, cs.2.2.2.2.2) ws nm := by
      have h51 : (X36.1 117 51).toInt = ((20 + (sk.length + 1) : Nat) : Int) := by rw [e36]; exact hD2.2.2.2.1
      have hcl3 : rx_cl X36 (20 + sk.length) (l8.set i cs.2.2.2.2.2.2) := rx_cl_set hcl (by rw [← hy2]; exact e36) hi
      cases hb : rp_b P with
      | false => exact rx_QD_st (d := 1) (q := (0, [])) hD2 hG36 (by rw [e36]; exact rx_lo_wL (by omega)) ⟨rfl, rfl, rfl⟩ (by rw [hsk]; rfl) h20 h51 ⟨rfl, rfl⟩ hcl3 (fun z => by rw [hb] at z; cases z)
      | true =>
        obtain ⟨q, s, q1, q2⟩ := htop hb
        obtain ⟨k1, k2, k3⟩ := hD2.2.2.2.2.2.2 hb
        exact rx_QD_st (d := 1) (q := q) hD2 hG36 (by rw [e36]; exact rx_lo_wL (by omega)) ⟨rfl, rfl, rfl⟩ (by rw [hsk]; rfl) h20 h51 ⟨rfl, rfl⟩ hcl3 (fun _ => ⟨rfl, rfl, k1, by rw [q1]; rfl, by rw [List.length_set]; exact q2.1, by rw [e36]; exact q2.2.1, q2.2.2⟩)
    have h4 := rx_219g hG36 hR3 (by decide) e125 r4
    rw [← e1, ← e2] at h4
    rcases h4 with e | ⟨hv4, hG4, hR4⟩
    · exact Or.inl e
    · exact Or.inr ⟨hv4, Or.inr ⟨_, _, _, c, _, _, _, hcs3, rx_QD_fy hD3 hG4 (by rw [e2]; exact gf_219 r4) (by decide) (by decide), hR4, h14⟩⟩
/-- COLUMNS named anew -/
theorem rx_262 (h : rx_B P X ∨ ∃ j near l c cs ws l8, cs.2.2.2.2.1 = l8 :: sk ∧ rx_QD P nn X0 X (sk.length + 1) j c cs ws nm ∧ md_R P ((150, l) :: K) j near c nm (cs, ws) ∧ (c 14).toInt = b14 ∧ (rp_T P).1 j = 123 ∧ p1.toInt = ((20 + sk.length : Nat) : Int)) (g : gx_262 p1 X v X') : rx_X P v X' ∨ (v = Int32.ofInt 1 ∧ (rx_B P X' ∨ rx_S P nn X0 nm b14 sk K X')) := by
  rcases h with hB | ⟨j, near, l, c, cs, ws, l8, hsk, hD, hR, h14, hT, hp⟩
  · exact rx_BE (gb_262 hB g) (gv_262 g)
  obtain ⟨n1, w3, X2, r1, g⟩ := g
  have hR0 : md_R P ((123, j) :: (3, j) :: (218, j) :: (61, j) :: (3, j) :: (219, j) :: (125, j) :: (150, j) :: K) j near c nm (cs, ws) := md_R_r (r := [123, 3, 218, 61, 3, 219, 125, 150]) hR (by decide) (by decide) (by decide) (by rw [hT]; rfl)
  have h1 := rx_214g hD.1 hR0 ⟨hT, by decide, by decide⟩ r1
  rcases rx_go h1 g with e | ⟨⟨hG1, hR1⟩, g1⟩
  · exact Or.inl e
  have hD1 := rx_QD_fy hD hG1 (gf_214 r1) (by decide) (by decide)
  obtain ⟨w6, X5, r2, g2⟩ := g1
  have h2 := rx_216g hG1 hR1 r2
  rcases rx_go h2 g2 with e | ⟨⟨hG2, hR2, h33, -⟩, g3⟩
  · exact Or.inl e
  have hD2 := rx_QD_fy hD1 hG2 (gf_216 r2) (by decide) (by decide)
  obtain ⟨⟨hcl, h20⟩, htop⟩ := rx_QD_top hD2 hsk
  obtain ⟨x8, e8, -, g3⟩ := g3
  rw [fx_in hp] at g3
  have := hcl.1
  rw [if_neg (by omega)] at g3
  obtain ⟨w16, X15, r3, g4⟩ := g3
  obtain ⟨e15, hv⟩ := rx_233 hcl hp (by omega) r3
  subst e15
  have hRe := md_R_e0 hR2 (by decide)
  rw [e8, h33] at hv
  rcases fy_ifd g4 with ⟨c1, g5⟩ | ⟨c1, g5⟩
  · have hck := (md_ck218 (T := rp_T P) (near := j + 1) (l := j) hsk).trans (if_neg (by omega))
    have hR3 := md_Re_c hRe hck (fun _ => md_wk_id (by decide))
    have hD3 : rx_QD P nn X0 X15 (sk.length + 1) (j + 1 + 1) c (cs.1, cs.2.1, cs.2.2.1, cs.2.2.2.1, l8 :: sk, cs.2.2.2.2.2.1, (rp_T P).2 (j + 1)) ws nm := rx_QD_fr hD2 hG2 rx_lo_rf ⟨rfl, rfl, hsk.symm⟩ hD2.2.2.2.1 ⟨rfl, rfl⟩ (fun hb => ⟨rfl, rfl, (hD2.2.2.2.2.2.2 hb).1, rfl⟩)
    exact rx_262l ⟨_, _, _, _, _, _, _, _, _, l8, rfl, hD3, hR3, h14, ⟨rfl, by rw [e8, h33], md_ix_neg.mp (by rw [e8, h33, ← hv]; exact c1)⟩, hp⟩ g5
  · obtain ⟨w19, X18, r4, g6⟩ := g5
    have hF := md_Re_f hRe ((md_ck218 hsk).trans (if_pos (by omega)))
    have hB := rx_tell (Or.inr ⟨hG2, hF⟩) (by decide) r4
    exact rx_BE (gbl_262 _ _ _ _ _ _ X18 v X' hB g6) (gvl_262 _ _ _ _ _ _ X18 v X' g6)
end DD30
