/-! THE REFERENCE: COLUMNS taken, whole -/
section DD36
variable {P : md_P} {X X' X0 X1 X2 Y Xa : fx_X} {K : List md_Sy} {c c' : md_C} {nm : md_Nm} {cs cs' : md_CS} {ws ws' w2 : md_WS} {j j' near l l2 l3 n n1 m t d k s s1 s2 r h M a b N R p : Nat} {v w p1 p2 p3 p4 p5 z y2 y3 y4 y5 y6 : Int32} {nn n8 : Int64} {sk : List (List Int64)} {l8 pk : List Int64} {b14 : Int} {q : md_Q} {sq : List md_Q}
def rx_kx (Y : fx_X) (i : Nat) : Nat := (Y.1 142 i).toInt.toNat
theorem rx_260o (hp : p1.toInt = (s : Int)) (hs : 20 ≤ s ∧ s < 49) (hR : (Y.1 117 32).toInt ≠ 0 → (Y.1 131 s).toInt = (R : Int) ∧ R ≤ 30) (h56 : (Y.1 117 56).toInt = (p : Int)) (hp6 : p ≤ 6) (h142 : ∀ i, i < p → 0 ≤ (Y.1 142 i).toInt ∧ (Y.1 142 i).toInt < 8) : ∀ (d n k : Nat) (y2 : Int32) (X : fx_X), n ≤ d → y2.toInt = (k : Int) → k ≤ p → (X.2.2 = Y.2.2 ∧ (∀ q, q ≠ 133 → X.2.1 q = Y.2.1 q) ∧ ∀ k', X.2.1 133 k' = if 8 * s ≤ k' ∧ k' < 8 * s + k then Y.2.1 133 (392 + rx_kx Y (k' - 8 * s)) else Y.2.1 133 k') → (∀ q, q ≠ 134 → q ≠ 135 → X.1 q = Y.1 q) → (∀ q k', (q = 134 ∨ q = 135) → ¬ k' / 240 = s → X.1 q k' = Y.1 q k') → ((Y.1 117 32).toInt ≠ 0 → ∀ r c, r < R → c < k → X.1 134 (8 * (30 * s + r) + c) = aj_nar 4 (Y.1 134 (8 * (30 * 49 + r) + rx_kx Y c)) ∧ X.1 135 (8 * (30 * s + r) + c) = Y.1 135 (8 * (30 * 49 + r) + rx_kx Y c)) → gxF_260 p1 n 36 [y2] [] [] X v X' → v = Int32.ofInt 1 ∧ ∃ X2, X' = fx_wI X2 132 s (Y.1 117 56) ∧ (X2.2.2 = Y.2.2 ∧ (∀ q, q ≠ 133 → X2.2.1 q = Y.2.1 q) ∧ ∀ k', X2.2.1 133 k' = if 8 * s ≤ k' ∧ k' < 8 * s + p then Y.2.1 133 (392 + rx_kx Y (k' - 8 * s)) else Y.2.1 133 k') ∧ (∀ q, q ≠ 134 → q ≠ 135 → X2.1 q = Y.1 q) ∧ (∀ q k', (q = 134 ∨ q = 135) → ¬ k' / 240 = s → X2.1 q k' = Y.1 q k') ∧ ((Y.1 117 32).toInt ≠ 0 → ∀ r c, r < R → c < p → X2.1 134 (8 * (30 * s + r) + c) = aj_nar 4 (Y.1 134 (8 * (30 * 49 + r) + rx_kx Y c)) ∧ X2.1 135 (8 * (30 * s + r) + c) = Y.1 135 (8 * (30 * 49 + r) + rx_kx Y c)) := by
  intro d
  induction d with
  | zero =>
    intro n k y2 X hn _ _ _ _ _ _ g
    cases n with
    | zero => exact g.elim
    | succ n => omega
  | succ d ih =>
    intro n k y2 X hn hk hkp e2 e1 e3 hB g
    cases n with
    | zero => exact g.elim
    | succ n =>
      replace g := gxO_260_36 g
      unfold gxT_260_36 at g
      rw [e1 117 (by decide) (by decide)] at g
      rcases fy_ifd g with ⟨c1, g1⟩ | ⟨c1, g1⟩
      · have hkp2 : k < p := by omega
        have hx := h142 k hkp2
        have e392 : ((Int16.ofInt 392).toInt32).toInt = 392 := rfl
        have ikx : (Y.1 142 k).toInt = (rx_kx Y k : Int) := by unfold rx_kx; omega
        have hkx8 : rx_kx Y k < 8 := by unfold rx_kx; omega
        rw [fx_in hk, e1 142 (by decide) (by decide)] at g1
        have i1 : (((Int16.ofInt 392).toInt32) + Y.1 142 k).toInt = ((392 + rx_kx Y k : Nat) : Int) := by rw [fx_add (by omega) (by omega), e392, ikx]; omega
        have i2 : (p1 * ((Int8.ofInt 8).toInt32) + y2).toInt = ((s * 8 + k : Nat) : Int) := rx_lin hp rfl hk (by omega)
        rw [fx_in i1, fx_in i2, show s * 8 + k = 8 * s + k by omega] at g1
        obtain ⟨-, -, -, X24, e24, g2⟩ := g1
        have x24 : X24.1 = X.1 := by rw [e24]; rfl
        have l24 : X24.2.2 = Y.2.2 ∧ (∀ q, q ≠ 133 → X24.2.1 q = Y.2.1 q) ∧ ∀ k', X24.2.1 133 k' = if 8 * s ≤ k' ∧ k' < 8 * s + (k + 1) then Y.2.1 133 (392 + rx_kx Y (k' - 8 * s)) else Y.2.1 133 k' := by
          refine ⟨by rw [e24]; exact e2.1, fun q hq => by rw [e24, fx_rLn hq]; exact e2.2.1 q hq, fun k' => ?_⟩
          by_cases z : k' = 8 * s + k
          · subst z
            rw [e24, fx_rLe, e2.2.2, if_neg (by omega), if_pos ⟨by omega, by omega⟩, show 8 * s + k - 8 * s = k by omega]
          · rw [e24, fx_rLk z, e2.2.2]
            by_cases z2 : 8 * s ≤ k' ∧ k' < 8 * s + k
            · rw [if_pos z2, if_pos ⟨z2.1, by omega⟩]
            · rw [if_neg z2, if_neg (fun y => z2 ⟨y.1, by omega⟩)]
        by_cases hst : (Y.1 117 32).toInt = 0
        · cases n with
          | zero => exact g2.elim
          | succ n =>
            replace g2 := gxO_260_72 g2
            unfold gxT_260_72 at g2
            rw [x24, e1 117 (by decide) (by decide), if_pos hst] at g2
            obtain ⟨x27, e27, g3⟩ := g2
            exact ih n (k + 1) x27 X24 (by omega) (by rw [e27]; exact cx_in1 hk (by omega)) (by omega) l24 (by rw [x24]; exact e1) (by rw [x24]; exact e3) (fun z => absurd hst z) g3
        · obtain ⟨hR1, hR30⟩ := hR hst
          obtain ⟨n2, X2, x32, hn2, e32, g3, b1, b2, b3, b4⟩ := rx_260i (Xa := X24) (N := n) (s := s) (R := R) (k := k) (a := rx_kx Y k) hp hs (by rw [x24, e1 117 (by decide) (by decide)]; exact hst) (by rw [x24, e1 131 (by decide) (by decide)]; exact hR1) hR30 hk (by omega) (by rw [x24, e1 142 (by decide) (by decide)]; exact ikx) hkx8 n 0 _ X24 (Nat.le_refl _) rfl (Nat.zero_le _) rfl (fun _ _ _ => rfl) (fun _ _ _ _ => rfl) (fun r' hr' => absurd hr' (Nat.not_lt_zero _)) g2
          refine ih n2 (k + 1) x32 X2 (by omega) (by rw [e32]; exact cx_in1 hk (by omega)) (by omega) ⟨by rw [b1]; exact l24.1, fun q hq => by rw [b1]; exact l24.2.1 q hq, fun k' => by rw [b1]; exact l24.2.2 k'⟩ (fun q z1 z2 => by rw [b2 q z1 z2, x24]; exact e1 q z1 z2) (fun q k' hq hk' => by rw [b3 q k' hq (fun y => hk' y.1), x24]; exact e3 q k' hq hk') (fun _ r c hr hc => ?_) g3
          by_cases z : c = k
          · subst z
            obtain ⟨d1, d2⟩ := b4 r hr
            rw [d1, d2, x24, e3 134 _ (Or.inl rfl) (by omega), e3 135 _ (Or.inr rfl) (by omega)]
            exact ⟨rfl, rfl⟩
          · rw [b3 134 _ (Or.inl rfl) (by omega), b3 135 _ (Or.inr rfl) (by omega), x24]
            exact hB hst r c hr (by omega)
      · have : k = p := by omega
        subst this
        obtain ⟨-, X17, e17, e4, e5⟩ := g1
        rw [fx_in hp] at e17
        exact ⟨e4, X, e5.trans e17, e2, e1, e3, hB⟩
theorem md_ck217 {T : md_T} (hsk : cs.2.2.2.2.1 = l8 :: sk) : md_ck T cs (217, near, l) = md_k ((cs.1, cs.2.1, cs.2.2.1, cs.2.2.2.1, cs.2.2.2.2.2.1 :: sk, cs.2.2.2.2.2), 0) := by
  obtain ⟨U, cu, TB, rw, sk0, pk, fr⟩ := cs
  have hsk : sk0 = l8 :: sk := hsk
  subst hsk
  exact md_k217
theorem md_wk217 {W n wd : Nat} {val : md_V} {arg : Int} {ps : List Nat} (h : md_pkw ws = some ps) (hq : ws.2.1 = q :: sq) (h6 : ps.length ≤ 6) (hlt : ∀ c, c ∈ ps → c < q.1) : md_wk W n val wd ws (217, near, l) arg = md_k (ws.1, (ps.length, md_pj ps q.2) :: sq, ws.2.2) := by
  obtain ⟨tb, sk, tr, sd, rel, pt, rt, pk, fo, fd⟩ := ws
  have h : pk = some ps := h
  subst h
  have hq : sk = q :: sq := hq
  subst hq
  have ha : ps.all (fun c => decide (c < q.1)) = true := List.all_eq_true.mpr (fun c hc => decide_eq_true (hlt c hc))
  show (if ps.all (fun c => decide (c < q.1)) = false ∨ 6 < ps.length then none else md_k (tb, (ps.length, md_pj ps q.2) :: sq, tr, sd, rel, pt, rt, some ps, fo, fd)) = _
  rw [ha, if_neg (by rintro (z | z) <;> first | cases z | omega)]
/-- COLUMNS taken -/
theorem rx_260 (h : rx_B P X ∨ ∃ j near l c cs ws l8, cs.2.2.2.2.1 = l8 :: sk ∧ rx_QD P nn X0 X (sk.length + 1) j c cs ws nm ∧ md_R P ((150, l) :: K) j near c nm (cs, ws) ∧ (c 14).toInt = b14 ∧ (rp_T P).1 j = 58 ∧ p1.toInt = ((20 + sk.length : Nat) : Int)) (g : gx_260 p1 X v X') : rx_X P v X' ∨ (v = Int32.ofInt 1 ∧ (rx_B P X' ∨ rx_S P nn X0 nm b14 sk K X')) := by
  rcases h with hB | ⟨j, near, l, c, cs, ws, l8, hsk, hD, hR, h14, hT, hp⟩
  · exact rx_BE (gb_260 hB g) (gv_260 g)
  obtain ⟨n1, w3, X2, r1, g⟩ := g
  have hR0 : md_R P ((58, j) :: (40, j) :: (215, j) :: (3, j) :: (216, j) :: (154, j) :: (41, j) :: (217, j) :: (150, j) :: K) j near c nm (cs, ws) := md_R_r (r := [58, 40, 215, 3, 216, 154, 41, 217, 150]) hR (by decide) (by decide) (by decide) (by rw [hT]; rfl)
  rcases rx_go (rx_214g hD.1 hR0 ⟨hT, by decide, by decide⟩ r1) g with e | ⟨⟨hG1, hR1⟩, g1⟩
  · exact Or.inl e
  have hD1 : rx_QD P nn X0 X2 (sk.length + 1) (j + 1) c cs ws nm := rx_QD_fy hD hG1 (gf_214 r1) (by decide) (by decide)
  obtain ⟨w6, X5, r2, g2⟩ := g1
  rcases rx_go (rx_261 (K := (217, j) :: (150, j) :: K) (l3 := j) (b14 := b14) (Or.inr ⟨j + 1, j, c, cs, ws, l8, j, j, hsk, hD1, Or.inl ⟨rfl, _, _, _, hR1⟩, h14, hp⟩) r2) g2 with e | ⟨h2, g3⟩
  · exact Or.inl e
  replace g3 := g3.2
  rcases h2 with hB | ⟨l9, j2, near2, c2, cs2, w2, hsk2, hD2, hR2, h142, htk⟩
  · rcases fy_ifd g3 with ⟨c1, g4⟩ | ⟨c1, g4⟩
    · rw [g4.2]; exact Or.inr ⟨g4.1, Or.inl hB⟩
    · obtain ⟨w12, X11, r3, g5⟩ := g4
      have hB2 : rx_B P X11 := rx_B_fr hB (gf_251 r3) (by decide) (by decide)
      exact rx_BE (gbl_260 _ _ _ _ _ _ _ v X' hB2 g5) (gvl_260 _ _ _ _ _ _ _ v X' g5)
  have hG2 := hD2.1
  obtain ⟨⟨hcl, h20⟩, htop⟩ := rx_QD_top hD2 hsk2
  have h132 := hcl.1
  have hst := hG2.2.2.2.2.1
  rw [fx_in hp, if_neg (by omega)] at g3
  obtain ⟨w12, X11, r3, g5⟩ := g3
  have e49 : ((Int8.ofInt 49).toInt32).toInt = ((49 : Nat) : Int) := rfl
  have hbt : (X5.1 117 32).toInt ≠ 0 → rp_b P = true := fun z => by
    cases hb : rp_b P with
    | true => rfl
    | false => rw [hb, if_neg (by decide)] at hst; exact absurd hst z
  obtain ⟨b1, b2⟩ := rx_251 (s1 := 20 + sk.length) (s2 := 49) hp e49 (by omega) (fun z => by
    obtain ⟨q, s, -, -, q2, q3⟩ := htop (hbt z)
    have := q2.1
    have := q3.1
    omega) r3
  obtain ⟨t1, ⟨t2, t3⟩, t4, t5⟩ := htk
  have hl6 := hcl.2.1
  have hlen := md_nd8 _ _ t2 t3
  have e117 : X11.1 117 = X5.1 117 := b1.2.1 117 (by decide) (by decide) (by decide) (by decide) (by decide)
  have e142 : X11.1 142 = X5.1 142 := b1.2.1 142 (by decide) (by decide) (by decide) (by decide) (by decide)
  have hG11 := rx_G_on hG2 b1
  -- where a COLUMN lies
  have hix : ∀ (i : Nat) (n8 : Int64), cs2.2.2.2.2.2.1[i]? = some n8 → ∃ a : Nat, (X11.1 142 i).toInt = (a : Int) ∧ rx_kx X11 i = a ∧ md_ix n8 l9 0 = (a : Int) ∧ l9[a]? = some n8 ∧ a < l9.length := by
    intro i n8 hi
    have h1 := t4 i n8 hi
    have h2 := t3 n8 (List.mem_of_getElem? hi)
    obtain ⟨a, a1, a2, -⟩ := md_ix_at (n := n8) (l := l9) (k := 0) (fun z => md_ix_neg.mp z h2)
    rw [Nat.zero_add] at a1
    have := (List.getElem?_eq_some_iff.mp a2).1
    refine ⟨a, by rw [e142, h1, a1], ?_, a1, a2, this⟩
    unfold rx_kx
    rw [e142, h1, a1]
    rfl
  obtain ⟨R, hRR⟩ : ∃ R : Nat, (X11.1 117 32).toInt ≠ 0 → (X11.1 131 (20 + sk.length)).toInt = (R : Int) ∧ R ≤ 30 ∧ ∀ q s, w2.2.1 = q :: s → q.2.length = R := by
    cases hb : rp_b P with
    | false =>
      refine ⟨0, fun z => ?_⟩
      rw [e117] at z
      rw [hbt z] at hb
      cases hb
    | true =>
      obtain ⟨q, s, q0, q1, q2, q3⟩ := htop hb
      refine ⟨q.2.length, fun _ => ⟨?_, q3.1, fun q' s' h' => by rw [q0] at h'; cases h'; rfl⟩⟩
      rw [b1.2.2.2.1 131 _ (Or.inl rfl) (by omega)]
      exact q2.1
  obtain ⟨hv, X17, e17, ⟨d1, d2, d3⟩, d4, d5, d6⟩ := rx_260o (Y := X11) (s := 20 + sk.length) (R := R) (p := cs2.2.2.2.2.2.1.length) hp (by omega) (fun z => ⟨(hRR z).1, (hRR z).2.1⟩) (by rw [e117]; exact t1) (by omega) (fun i hi => by
    obtain ⟨a, a1, -, -, -, a2⟩ := hix i _ (List.getElem?_eq_getElem hi)
    omega) n1 n1 0 _ X11 (Nat.le_refl _) rfl (Nat.zero_le _) ⟨rfl, fun _ _ => rfl, fun k' => by rw [if_neg (by omega)]⟩ (fun _ _ _ => rfl) (fun _ _ _ _ => rfl) (fun _ r c _ hc => absurd hc (Nat.not_lt_zero _)) g5
  have on2 : rx_on (20 + sk.length) X11 X' := by
    rw [e17]
    refine ⟨d1, fun q z1 z2 z3 z4 z5 => by rw [fx_rIn z2]; exact d4 q z3 z4, d2, fun q k hq hk => by rw [fx_rIk hk]; rw [d4 q (by omega) (by omega)], fun k hk => ?_, fun q k hq hk => by rw [fx_rIn (by omega)]; exact d5 q k hq hk, fun k _ => by rw [fx_rIn (by decide), d4 136 (by decide) (by decide)]⟩
    have : (fx_wI X17 132 (20 + sk.length) (X11.1 117 56)).2.1 133 k = X17.2.1 133 k := rfl
    rw [this, d3 k, if_neg (by omega)]
  have hG' := rx_G_on hG11 on2
  have hlo : rx_lo (20 + sk.length) X5 X' := rx_lo_tr (rx_lo_le (rx_on_lo b1 (Nat.le_refl _)) (by omega)) (rx_on_lo on2 (Nat.le_refl _))
  have h51 : (X'.1 117 51).toInt = ((20 + (sk.length + 1) : Nat) : Int) := by
    rw [on2.2.1 117 (by decide) (by decide) (by decide) (by decide) (by decide), e117]
    exact hD2.2.2.2.1
  have hcl' : rx_cl X' (20 + sk.length) cs2.2.2.2.2.2.1 := by
    rw [e17]
    refine ⟨by rw [fx_rIe, e117]; exact t1, by omega, fun i n8 hi => ?_⟩
    obtain ⟨a, a1, a2, a3, a4, a5⟩ := hix i n8 hi
    have hil := (List.getElem?_eq_some_iff.mp hi).1
    have : (fx_wI X17 132 (20 + sk.length) (X11.1 117 56)).2.1 133 (8 * (20 + sk.length) + i) = X17.2.1 133 (8 * (20 + sk.length) + i) := rfl
    rw [this, d3, if_pos ⟨by omega, by omega⟩, show 8 * (20 + sk.length) + i - 8 * (20 + sk.length) = i by omega, a2, show 392 + a = 8 * 49 + a by omega, b2.2.2.1 a (by omega)]
    exact hcl.2.2 a n8 a4
  have hRe := md_R_e0 hR2 (by decide)
  have hck := md_ck217 (T := rp_T P) (near := near2) (l := j) hsk2
  have hcs' : (cs2.1, cs2.2.1, cs2.2.2.1, cs2.2.2.2.1, cs2.2.2.2.2.2.1 :: sk, cs2.2.2.2.2.2).2.2.2.2.1 = cs2.2.2.2.2.2.1 :: sk := rfl
  cases hb : rp_b P with
  | false =>
    obtain ⟨w3, q1, -, -⟩ := md_Re_n (w' := w2) hRe hck (fun z => by rw [hb] at z; cases z)
    exact Or.inr ⟨hv, Or.inr ⟨_, _, _, c2, _, w3, _, hcs', rx_QD_st (d := 1) (q := (0, [])) hD2 hG' hlo ⟨rfl, rfl, rfl⟩ (by rw [hsk2]; rfl) h20 h51 ⟨rfl, rfl⟩ hcl' (fun z => by rw [hb] at z; cases z), q1, h142⟩⟩
  | true =>
    obtain ⟨q, s, q0, q1, q2, q3⟩ := htop hb
    obtain ⟨k1, k2, k3⟩ := hD2.2.2.2.2.2.2 hb
    have t5 := t5 hb
    have hst1 : (X5.1 117 32).toInt ≠ 0 := by rw [hb, if_pos rfl] at hst; omega
    have hVm := rx_V_m hD2.2.1.1.2.1 hb
    have hm : ∀ w, w < rp_W P → w / md_m P cs2.1 < 1024 := fun w hw => (hVm.2.1 w hw).2
    have hlt : ∀ c, c ∈ cs2.2.2.2.2.2.1.map (fun n => (md_ix n l9 0).toNat) → c < q.1 := fun c hc => by
      obtain ⟨n8, m1, m2⟩ := List.mem_map.mp hc
      obtain ⟨i, hi⟩ := List.getElem?_of_mem m1
      obtain ⟨a, -, -, a3, -, a5⟩ := hix i n8 hi
      rw [q1, ← m2, a3]
      exact a5
    obtain ⟨w3, z1, z2, -⟩ := md_Re_n hRe hck (fun _ => md_wk217 t5 q0 (by rw [List.length_map]; omega) hlt)
    have z2 := z2 hb
    have hR' := hRR (by rw [e117]; exact hst1)
    refine Or.inr ⟨hv, Or.inr ⟨_, _, _, c2, _, w3, _, hcs', rx_QD_st (d := 1) (q := ((cs2.2.2.2.2.2.1.map (fun n => (md_ix n l9 0).toNat)).length, md_pj (cs2.2.2.2.2.2.1.map (fun n => (md_ix n l9 0).toNat)) q.2)) hD2 hG' hlo ⟨rfl, rfl, rfl⟩ (by rw [hsk2]; rfl) h20 h51 ⟨rfl, rfl⟩ hcl' (fun _ => ⟨by rw [z2], by rw [z2]; rfl, by rw [z2]; exact k1, by rw [z2, q0]; rfl, List.length_map _, ⟨?_, ?_⟩, ?_⟩), z1, h142⟩⟩
    · have e : X'.1 131 (20 + sk.length) = X5.1 131 (20 + sk.length) := by
        rw [e17, fx_rIn (by decide), d4 131 (by decide) (by decide)]
        exact b1.2.2.2.1 131 _ (Or.inl rfl) (by omega)
      rw [e]
      unfold md_pj
      rw [List.length_map]
      exact q2.1
    · intro r x' hr
      unfold md_pj at hr
      rw [List.getElem?_map] at hr
      cases hy : q.2[r]? with
      | none => rw [hy] at hr; cases hr
      | some x =>
        rw [hy] at hr
        have hr := Option.some.inj hr
        subst hr
        have hrl := (List.getElem?_eq_some_iff.mp hy).1
        have hR2 := hR'.2.2 q s q0
        have hxl := (q3.2 x (List.mem_of_getElem? hy)).2
        refine ⟨fun c t hc => ?_, fun w hw => ?_⟩
        · have hc : ((cs2.2.2.2.2.2.1.map (fun n => (md_ix n l9 0).toNat)).map (fun c => x.1.getD c (false, Int32.ofInt 0)))[c]? = some t := hc
          rw [List.getElem?_map, List.getElem?_map] at hc
          cases hi : cs2.2.2.2.2.2.1[c]? with
          | none => rw [hi] at hc; cases hc
          | some n8 =>
            rw [hi] at hc
            have hc := Option.some.inj hc
            obtain ⟨a, a1, a2, a3, a4, a5⟩ := hix c n8 hi
            have hil := (List.getElem?_eq_some_iff.mp hi).1
            have hax : x.1[a]? = some t := by
              have hc : x.1.getD (md_ix n8 l9 0).toNat (false, Int32.ofInt 0) = t := hc
              rw [a3] at hc
              have hc : x.1.getD a (false, Int32.ofInt 0) = t := hc
              rw [← hc]
              rw [List.getD_eq_getElem?_getD, List.getElem?_eq_getElem (by omega)]
              rfl
            obtain ⟨u1, u2⟩ := (q2.2 r x hy).1 a t hax
            obtain ⟨v1, v2⟩ := (b2.2.2.2 hst1 r (by have := q2.1; omega)).1 a (by omega)
            obtain ⟨x1, x2⟩ := d6 (by rw [e117]; exact hst1) r c (by omega) hil
            rw [a2] at x1 x2
            have y1 : (X11.1 134 (8 * (30 * 49 + r) + a)).toInt = (if t.1 = true then 1 else 0) := by rw [v1]; exact rx_tm_nar u1
            refine ⟨?_, ?_⟩
            · rw [e17, fx_rIn (by decide), x1]
              exact rx_tm_nar y1
            · rw [e17, fx_rIn (by decide), x2, v2]
              exact u2
        · have := (q2.2 r x hy).2 w hw
          have hwm := hm w hw
          have h30 := q3.1
          unfold fx_bt at this ⊢
          rw [e17, fx_rIn (by decide), d4 136 (by decide) (by decide), b1.2.2.2.2.2.2 _ (by omega)]
          exact this
    · rw [q1] at hlt q3
      exact md_okA_pj q3 hlt (by rw [List.length_map]; omega)
end DD36
