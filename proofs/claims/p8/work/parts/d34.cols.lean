/-! THE REFERENCE: COLUMNS listed -/
def md_pkw (w : md_WS) : Option (List Nat) := w.2.2.2.2.2.2.2.1
/-- COLUMNS listed so far -/
def rx_tk (P : md_P) (X : fx_X) (cs : md_CS) (ws : md_WS) (l8 : List Int64) : Prop := (X.1 117 56).toInt = (cs.2.2.2.2.2.1.length : Int) ∧ (cs.2.2.2.2.2.1.Nodup ∧ ∀ n, n ∈ cs.2.2.2.2.2.1 → n ∈ l8) ∧ (∀ i n, cs.2.2.2.2.2.1[i]? = some n → (X.1 142 i).toInt = md_ix n l8 0) ∧ (rp_b P = true → md_pkw ws = some (cs.2.2.2.2.2.1.map (fun n => (md_ix n l8 0).toNat)))
def rx_co (P : md_P) (nn : Int64) (X0 : fx_X) (nm : md_Nm) (b14 : Int) (sk : List (List Int64)) (l8 : List Int64) (K : List md_Sy) (X : fx_X) : Prop := ∃ j near c cs ws, cs.2.2.2.2.1 = l8 :: sk ∧ rx_QD P nn X0 X (sk.length + 1) j c cs ws nm ∧ md_R P K j near c nm (cs, ws) ∧ (c 14).toInt = b14 ∧ rx_tk P X cs ws l8
section DD34
variable {P : md_P} {X X' X0 X1 X2 X28 : fx_X} {K : List md_Sy} {c c' : md_C} {nm : md_Nm} {cs cs' : md_CS} {ws ws' w2 : md_WS} {j j' near l l2 l3 n n1 m t d k s s1 s2 r h M a b N : Nat} {v w p1 p2 p3 p4 p5 z y2 y3 y4 y5 y6 : Int32} {nn n8 : Int64} {sk : List (List Int64)} {l8 : List Int64} {b14 : Int} {q : md_Q} {sq : List md_Q}
theorem md_nd8 : ∀ (C L : List Int64), C.Nodup → (∀ x, x ∈ C → x ∈ L) → C.length ≤ L.length
  | [], _, _, _ => Nat.zero_le _
  | c :: C, L, hn, hm => by
    obtain ⟨h1, h2⟩ := List.nodup_cons.mp hn
    have hc := hm c List.mem_cons_self
    have := md_nd8 C (L.erase c) h2 (fun x hx => (List.mem_erase_of_ne (fun e => h1 (by rw [← e]; exact hx))).mpr (hm x (List.mem_cons_of_mem _ hx)))
    rw [List.length_erase_of_mem hc] at this
    have hp : 0 < L.length := List.length_pos_of_mem hc
    rw [List.length_cons]; omega
theorem md_nd_snoc {C : List Int64} (h : C.Nodup) (hn : n8 ∉ C) : (C ++ [n8]).Nodup := by
  rw [List.nodup_append]
  refine ⟨h, List.nodup_cons.mpr ⟨List.not_mem_nil, List.nodup_nil⟩, fun a ha b hb e => ?_⟩
  rw [List.mem_singleton] at hb
  exact hn (by rw [← hb, ← e]; exact ha)
theorem md_ck215 {T : md_T} : md_ck T cs (215, near, l) = md_k ((cs.1, cs.2.1, cs.2.2.1, cs.2.2.2.1, cs.2.2.2.2.1, [], cs.2.2.2.2.2.2), 0) := by
  obtain ⟨U, cu, TB, rw, sk0, pk, fr⟩ := cs
  exact md_k215
theorem md_wk215 {W n wd : Nat} {val : md_V} {arg : Int} : md_wk W n val wd ws (215, near, l) arg = md_k (ws.1, ws.2.1, ws.2.2.1, ws.2.2.2.1, ws.2.2.2.2.1, ws.2.2.2.2.2.1, ws.2.2.2.2.2.2.1, some [], ws.2.2.2.2.2.2.2.2) := by
  obtain ⟨tb, sk, tr, sd, rel, pt, rt, pk, fo, fd⟩ := ws
  rfl
theorem md_ck216 {T : md_T} (hsk : cs.2.2.2.2.1 = l8 :: sk) : md_ck T cs (216, near, l) = if md_ix (T.2 near) l8 0 < 0 then some none else if T.2 near ∈ cs.2.2.2.2.2.1 then some none else if 6 ≤ cs.2.2.2.2.2.1.length then none else md_k ((cs.1, cs.2.1, cs.2.2.1, cs.2.2.2.1, cs.2.2.2.2.1, cs.2.2.2.2.2.1 ++ [T.2 near], cs.2.2.2.2.2.2), md_ix (T.2 near) l8 0) := by
  obtain ⟨U, cu, TB, rw, sk0, pk, fr⟩ := cs
  have hsk : sk0 = l8 :: sk := hsk
  subst hsk
  exact md_k216
theorem md_wk216 {W n wd : Nat} {val : md_V} {arg : Int} {ps : List Nat} (h : md_pkw ws = some ps) (h6 : ps.length < 6) (h0 : 0 ≤ arg) : md_wk W n val wd ws (216, near, l) arg = md_k (ws.1, ws.2.1, ws.2.2.1, ws.2.2.2.1, ws.2.2.2.2.1, ws.2.2.2.2.2.1, ws.2.2.2.2.2.2.1, some (ps ++ [arg.toNat]), ws.2.2.2.2.2.2.2.2) := by
  obtain ⟨tb, sk, tr, sd, rel, pt, rt, pk, fo, fd⟩ := ws
  have h : pk = some ps := h
  subst h
  show (if 6 ≤ ps.length ∨ arg < 0 then none else md_k (tb, sk, tr, sd, rel, pt, rt, some (ps ++ [arg.toNat]), fo, fd)) = _
  rw [if_neg (by omega)]
/-- before a COLUMN or behind the last -/
def rx_c51 (P : md_P) (nn : Int64) (X0 : fx_X) (nm : md_Nm) (b14 : Int) (sk : List (List Int64)) (l8 : List Int64) (K : List md_Sy) (l3 : Nat) (y4 : Int32) (X : fx_X) : Prop := ∃ j near c cs ws, cs.2.2.2.2.1 = l8 :: sk ∧ rx_QD P nn X0 X (sk.length + 1) j c cs ws nm ∧ ((y4.toInt = 0 ∧ md_R P ((41, l3) :: K) j near c nm (cs, ws)) ∨ (y4.toInt ≠ 0 ∧ ∃ l4 l5 l6, md_R P ((3, l4) :: (216, l5) :: (154, l6) :: (41, l3) :: K) j near c nm (cs, ws))) ∧ (c 14).toInt = b14 ∧ rx_tk P X cs ws l8
theorem rx_261s (H : ∀ n' y4 Y, n' ≤ N → rx_c51 P nn X0 nm b14 sk l8 K l3 y4 Y → gxF_261 p1 p2 n' 51 [Int32.ofInt 0, y4] [] [] Y v X' → rx_X P v X' ∨ (v = Int32.ofInt 1 ∧ (rx_B P X' ∨ rx_co P nn X0 nm b14 sk l8 K X'))) {l5 l6 : Nat} (hsk : cs.2.2.2.2.1 = l8 :: sk) (hD : rx_QD P nn X0 X (sk.length + 1) (j + 1) c cs ws nm) (hR : md_R P ((216, l5) :: (154, l6) :: (41, l3) :: K) (j + 1) j c nm (cs, ws)) (h14 : (c 14).toInt = b14) (htk : rx_tk P X cs ws l8) (h5 : y5.toInt = md_ix ((rp_T P).2 j) l8 0) (h50 : 0 ≤ y5.toInt) : ∀ (n k : Nat) (y6 : Int32), n ≤ N → y6.toInt = (k : Int) → k ≤ cs.2.2.2.2.2.1.length → (∀ i n8, i < k → cs.2.2.2.2.2.1[i]? = some n8 → n8 ≠ (rp_T P).2 j) → gxF_261 p1 p2 n 75 [Int32.ofInt 0, y5, y6] [] [] X v X' → rx_X P v X' ∨ (v = Int32.ofInt 1 ∧ (rx_B P X' ∨ rx_co P nn X0 nm b14 sk l8 K X')) := by
  intro n
  obtain ⟨t1, ⟨t2, t3⟩, t4, t5⟩ := htk
  have hl6 := (rx_QD_top hD hsk).1.1.2.1
  have hlen := md_nd8 _ _ t2 t3
  have hRe := md_R_e0 hR (by decide)
  have hnl : (rp_T P).2 j ∈ l8 := by
    by_cases z : (rp_T P).2 j ∈ l8
    · exact z
    · have := md_ix_neg (k := 0) |>.mpr z
      omega
  induction n with
  | zero => intro k y6 _ _ _ _ g; exact g.elim
  | succ n ih =>
    intro k y6 hN hk hkl hno g
    replace g := gxO_261_75 g
    unfold gxT_261_75 at g
    rcases fy_ifd g with ⟨c1, g1⟩ | ⟨c1, g1⟩
    · rw [if_neg (by omega), fx_in hk] at g1
      replace g1 := g1.2
      obtain ⟨n8, hn8⟩ : ∃ n8, cs.2.2.2.2.2.1[k]? = some n8 := ⟨_, List.getElem?_eq_getElem (by omega)⟩
      have h142 := t4 k n8 hn8
      have hn8l := t3 n8 (List.mem_of_getElem? hn8)
      rcases fy_ifd g1 with ⟨c2, g2⟩ | ⟨c2, g2⟩
      · obtain ⟨w87, X86, r, x89, e89, g3⟩ := g2
        have : n8 = (rp_T P).2 j := by
          obtain ⟨i1, a1, a2, -⟩ := md_ix_at (n := n8) (l := l8) (k := 0) (by omega)
          obtain ⟨i2, b1, b2, -⟩ := md_ix_at (n := (rp_T P).2 j) (l := l8) (k := 0) (by omega)
          have : i1 = i2 := by omega
          subst this
          rw [a2] at b2
          exact Option.some.inj b2
        have hF := md_Re_f hRe ((md_ck216 hsk).trans ((if_neg (by omega)).trans (if_pos (by rw [← this]; exact List.mem_of_getElem? hn8))))
        have hB := rx_tell (Or.inr ⟨hD.1, hF⟩) (by decide) r
        exact rx_BE (gbl_261 _ _ _ _ _ _ _ _ v X' hB g3) (gvl_261 _ _ _ _ _ _ _ _ v X' g3)
      · obtain ⟨x84, e84, g3⟩ := g2
        refine ih (k + 1) x84 (by omega) (by rw [e84]; exact cx_in1 hk (by omega)) (by omega) (fun i n9 hi h9 => ?_) g3
        by_cases z : i = k
        · subst z
          rw [hn8] at h9
          cases h9
          intro e
          rw [e] at h142
          omega
        · exact hno i n9 (by omega) h9
    · have hk2 : k = cs.2.2.2.2.2.1.length := by omega
      rw [if_pos (by decide), if_neg (by omega), fx_in t1] at g1
      obtain ⟨-, X60, e60, X61, e61, w63, X62, r, g2⟩ := g1
      have hnew : (rp_T P).2 j ∉ cs.2.2.2.2.2.1 := fun z => by
        obtain ⟨i, hi⟩ := List.getElem?_of_mem z
        exact hno i _ (by have := (List.getElem?_eq_some_iff.mp hi).1; omega) hi rfl
      have hlt : cs.2.2.2.2.2.1.length < 6 := by
        have h1 := md_nd8 _ _ (md_nd_snoc t2 hnew) (fun x hx => by
          rcases List.mem_append.mp hx with z | z
          · exact t3 x z
          · rw [List.mem_singleton.mp z]; exact hnl)
        rw [List.length_append] at h1
        have h1 : cs.2.2.2.2.2.1.length + 1 ≤ l8.length := h1
        omega
      have hck := (md_ck216 (T := rp_T P) (near := j) (l := l5) hsk).trans ((if_neg (by omega)).trans ((if_neg hnew).trans (if_neg (by omega))))
      obtain ⟨w3, q1, q2, -⟩ := md_Re_n hRe hck (fun hb => md_wk216 (t5 hb) (by rw [List.length_map]; exact hlt) (by omega))
      have f61 : fy [(117, 56)] [] [142] X X61 := by rw [e61, e60]; exact fy_f (fy_a fy_rf (by decide)) (by decide)
      have hG61 := rx_G_fr hD.1 f61 (by decide) (by decide)
      have hD61 : rx_QD P nn X0 X61 (sk.length + 1) (j + 1) c cs ws nm := rx_QD_fy hD hG61 f61 (by decide) (by decide)
      have hD61' : rx_QD P nn X0 X61 (sk.length + 1) (j + 1) c (cs.1, cs.2.1, cs.2.2.1, cs.2.2.2.1, cs.2.2.2.2.1, cs.2.2.2.2.2.1 ++ [(rp_T P).2 j], cs.2.2.2.2.2.2) w3 nm := rx_QD_fr hD61 hG61 rx_lo_rf ⟨rfl, rfl, rfl⟩ hD61.2.2.2.1 ⟨rfl, rfl⟩ (fun hb => by
        rw [q2 hb]
        exact ⟨rfl, rfl, (hD61.2.2.2.2.2.2 hb).1, rfl⟩)
      have e1' : (Int32.ofInt 1).toInt = 1 := rfl
      have htk2 : rx_tk P X61 (cs.1, cs.2.1, cs.2.2.1, cs.2.2.2.1, cs.2.2.2.2.1, cs.2.2.2.2.2.1 ++ [(rp_T P).2 j], cs.2.2.2.2.2.2) w3 l8 := by
        refine ⟨?_, ⟨md_nd_snoc t2 hnew, fun x hx => ?_⟩, fun i n9 h9 => ?_, fun hb => ?_⟩
        · rw [e61, fx_rIe, e60, fx_rIn (by decide), fx_add (by omega) (by omega), t1, e1']
          show _ = ((cs.2.2.2.2.2.1 ++ [(rp_T P).2 j]).length : Int)
          rw [List.length_append]
          show _ = ((cs.2.2.2.2.2.1.length + 1 : Nat) : Int)
          omega
        · rcases List.mem_append.mp hx with z | z
          · exact t3 x z
          · rw [List.mem_singleton.mp z]; exact hnl
        · have h9 : (cs.2.2.2.2.2.1 ++ [(rp_T P).2 j])[i]? = some n9 := h9
          rw [e61, fx_rIn (by decide), e60]
          by_cases z : i < cs.2.2.2.2.2.1.length
          · rw [List.getElem?_append_left z] at h9
            rw [fx_rIk (by omega)]
            exact t4 i n9 h9
          · have hi := (List.getElem?_eq_some_iff.mp h9).1
            rw [List.length_append] at hi
            have hi : i < cs.2.2.2.2.2.1.length + 1 := hi
            have : i = cs.2.2.2.2.2.1.length := by omega
            subst this
            rw [List.getElem?_append_right (Nat.le_refl _), Nat.sub_self] at h9
            cases h9
            rw [fx_rIe]
            exact h5
        · rw [q2 hb]
          show some (cs.2.2.2.2.2.1.map (fun n => (md_ix n l8 0).toNat) ++ [(md_ix ((rp_T P).2 j) l8 0).toNat]) = some ((cs.2.2.2.2.2.1 ++ [(rp_T P).2 j]).map (fun n => (md_ix n l8 0).toNat))
          rw [List.map_append]
          rfl
      obtain ⟨e62, hw63⟩ := rx_220 r
      subst e62
      have e44 : ((Int8.ofInt 44).toInt32).toInt = 44 := rfl
      rw [e44] at hw63
      have hsg := rx_sg_i (a := 44) hG61 (by decide)
      rcases fy_ifd g2 with ⟨c2, g3⟩ | ⟨c2, g3⟩
      · have hT2 : (rp_T P).1 (j + 1) ≠ 44 := fun z => by
          rcases hw63 with y | y
          · omega
          · exact y.2 (hsg.mpr z)
        have hR2 : md_R P ((41, l3) :: K) (j + 1) j c nm ((cs.1, cs.2.1, cs.2.2.1, cs.2.2.2.1, cs.2.2.2.2.1, cs.2.2.2.2.2.1 ++ [(rp_T P).2 j], cs.2.2.2.2.2.2), w3) := md_R_r (r := []) q1 (by decide) (by decide) (by decide) (by
          show (md_52 154 _).map _ = _
          unfold md_52
          rw [if_neg (by decide), if_neg (by decide), if_neg (by decide), if_neg (by decide), if_neg (by decide), if_neg (by decide), if_neg (by decide), if_neg (by decide), if_neg (by decide), if_pos rfl, if_neg hT2]
          rfl)
        exact H n w63 _ (by omega) ⟨j + 1, j, c, (cs.1, cs.2.1, cs.2.2.1, cs.2.2.2.1, cs.2.2.2.2.1, cs.2.2.2.2.2.1 ++ [(rp_T P).2 j], cs.2.2.2.2.2.2), w3, hsk, hD61', Or.inl ⟨c2, hR2⟩, h14, htk2⟩ g3
      · have hT2 : (rp_T P).1 (j + 1) = 44 := by
          rcases hw63 with y | y
          · exact hsg.mp y.2
          · omega
        have hR2 : md_R P ((44, j + 1) :: (3, j + 1) :: (216, j + 1) :: (154, j + 1) :: (41, l3) :: K) (j + 1) j c nm ((cs.1, cs.2.1, cs.2.2.1, cs.2.2.2.1, cs.2.2.2.2.1, cs.2.2.2.2.2.1 ++ [(rp_T P).2 j], cs.2.2.2.2.2.2), w3) := md_R_r (r := [44, 3, 216, 154]) q1 (by decide) (by decide) (by decide) (by rw [hT2]; rfl)
        obtain ⟨w67, X66, r2, g4⟩ := g3
        rcases rx_go (rx_214g hG61 hR2 ⟨hT2, by decide, by decide⟩ r2) g4 with e | ⟨⟨hG3, hR3⟩, g5⟩
        · exact Or.inl e
        have f3 := gf_214 r2
        exact H n w63 _ (by omega) ⟨j + 1 + 1, j + 1, c, (cs.1, cs.2.1, cs.2.2.1, cs.2.2.2.1, cs.2.2.2.2.1, cs.2.2.2.2.2.1 ++ [(rp_T P).2 j], cs.2.2.2.2.2.2), w3, hsk, rx_QD_fy hD61' hG3 f3 (by decide) (by decide), Or.inr ⟨c2, _, _, _, hR3⟩, h14, by
          unfold rx_tk at htk2 ⊢
          rw [f3.2.2 117 56 (by decide) (by decide), fy_ra f3 (by decide) (by decide)]
          exact htk2⟩ g5
theorem rx_261l (hp : p1.toInt = ((20 + sk.length : Nat) : Int)) : ∀ (d n : Nat) (y4 : Int32) (X : fx_X), n ≤ d → rx_c51 P nn X0 nm b14 sk l8 K l3 y4 X → gxF_261 p1 p2 n 51 [Int32.ofInt 0, y4] [] [] X v X' → rx_X P v X' ∨ (v = Int32.ofInt 1 ∧ (rx_B P X' ∨ rx_co P nn X0 nm b14 sk l8 K X')) := by
  intro d
  induction d with
  | zero =>
    intro n y4 X hn h g
    cases n with
    | zero => exact g.elim
    | succ n => omega
  | succ d ih =>
    intro n y4 X hn h g
    cases n with
    | zero => exact g.elim
    | succ n =>
      replace g := gxO_261_51 g
      unfold gxT_261_51 at g
      obtain ⟨j, near, c, cs, ws, hsk, hD, hy, h14, htk⟩ := h
      rcases hy with ⟨hy4, hR⟩ | ⟨hy4, l4, l5, l6, hR⟩
      · rw [if_pos hy4, if_pos (by decide)] at g
        obtain ⟨w31, X30, r, e1, e2⟩ := g
        have h1 := rx_219g hD.1 hR (by decide) (show ((Int8.ofInt 41).toInt32).toInt = 41 from rfl) r
        have f1 := gf_219 r
        rw [← e1, ← e2] at h1
        rw [← e2] at f1
        rcases h1 with e | ⟨hv, hG1, hR1⟩
        · exact Or.inl e
        · exact Or.inr ⟨hv, Or.inr ⟨_, _, c, cs, ws, hsk, rx_QD_fy hD hG1 f1 (by decide) (by decide), hR1, h14, by
            unfold rx_tk at htk ⊢
            rw [f1.2.2 117 56 (by decide) (by decide), fy_ra f1 (by decide) (by decide)]
            exact htk⟩⟩
      · rw [if_neg hy4] at g
        obtain ⟨w38, X37, r1, g1⟩ := g
        rcases rx_go (rx_216g hD.1 hR r1) g1 with e | ⟨⟨hG1, hR1, h33, -⟩, g2⟩
        · exact Or.inl e
        have f1 := gf_216 r1
        have hD1 : rx_QD P nn X0 X37 (sk.length + 1) (j + 1) c cs ws nm := rx_QD_fy hD hG1 f1 (by decide) (by decide)
        have htk1 : rx_tk P X37 cs ws l8 := by
          unfold rx_tk at htk ⊢
          rw [f1.2.2 117 56 (by decide) (by decide), fy_ra f1 (by decide) (by decide)]
          exact htk
        obtain ⟨w41, X40, r2, g3⟩ := g2
        obtain ⟨⟨hcl, h20⟩, -⟩ := rx_QD_top hD1 hsk
        have hRe := md_R_e0 hR1 (by decide)
        have h3 := rx_256 (l8 := l8) (Or.inr ⟨hG1, hcl, ⟨hp, by omega⟩, fun z => md_Re_f hRe ((md_ck216 hsk).trans (if_pos (by rw [h33] at z; exact z)))⟩) r2
        rcases h3 with hB | ⟨e40, hv, hv0⟩
        · exact rx_BE (gbl_261 _ _ _ _ _ _ _ _ v X' hB g3) (gvl_261 _ _ _ _ _ _ _ _ v X' g3)
        subst e40
        rw [h33] at hv
        exact rx_261s (N := n) (fun n' y4 Y hn' h51 g51 => ih n' y4 Y (by omega) h51 g51) hsk hD1 hR1 h14 htk1 hv hv0 n 0 _ (Nat.le_refl _) rfl (Nat.zero_le _) (fun i _ hi _ => absurd hi (Nat.not_lt_zero _)) g3
end DD34
