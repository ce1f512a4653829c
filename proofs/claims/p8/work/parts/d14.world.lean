/-! THE REFERENCE: spans, WORLDS anew -/
section DD14
variable {P : md_P} {X X' X0 X1 : fx_X} {K : List md_Sy} {c c' c0 : md_C} {nm : md_Nm} {cs : md_CS} {ws : md_WS} {j j' near l n i k m r : Nat} {vs : List Int32} {v p1 p2 p3 : Int32} {u1 : Unit} {nn : Int64} {z f : Int32} {U A B : md_U} {x : Int64 × List Int32} {s : Int}
/-! digits of a WORLD's number -/
theorem md_foldl_mul : ∀ (l : List Nat) (a : Nat), l.foldl (· * ·) a = a * l.foldl (· * ·) 1
  | [], a => by show a = a * 1; omega
  | y :: l, a => by
    show l.foldl (· * ·) (a * y) = a * l.foldl (· * ·) (1 * y)
    rw [md_foldl_mul l (a * y), md_foldl_mul l (1 * y), Nat.one_mul, Nat.mul_assoc]
theorem md_all_cons : md_all (x :: U) = x.2.length * md_all U := by
  show ((U.map (fun x => x.2.length))).foldl (· * ·) (1 * x.2.length) = _
  rw [md_foldl_mul, Nat.one_mul]
  rfl
theorem md_all_ap : ∀ (A B : md_U), md_all (A ++ B) = md_all A * md_all B
  | [], B => by show md_all B = 1 * md_all B; omega
  | x :: A, B => by
    show md_all (x :: (A ++ B)) = _
    rw [md_all_cons, md_all_cons, md_all_ap A B, Nat.mul_assoc]
theorem md_no_ap (w : Nat) : ∀ (A B : md_U), md_no (A ++ B) w = md_no A (md_no B w)
  | [], _ => rfl
  | x :: A, B => by
    show md_no (A ++ B) w / x.2.length = md_no A (md_no B w) / x.2.length
    rw [md_no_ap w A B]
theorem md_no_div (w : Nat) : ∀ (B : md_U), md_no B w = w / md_all B
  | [] => by show w = w / 1; rw [Nat.div_one]
  | x :: B => by
    show md_no B w / x.2.length = _
    rw [md_no_div w B, md_all_cons, Nat.div_div_eq_div_mul, Nat.mul_comm]
theorem md_val_ap {w u : Nat} (hu : u < A.length) : md_val (A ++ B) w u = md_val A (w / md_all B) u := by
  unfold md_val
  rw [List.getElem?_append_left hu]
  obtain ⟨x, hx⟩ : ∃ x, A[u]? = some x := ⟨_, List.getElem?_eq_getElem hu⟩
  rw [hx]
  dsimp only
  rw [List.drop_append_of_le_length (by omega), md_no_ap, md_no_div w B]
/-- worlds of the whole text to those of a beginning of its UNKNOWNS -/
theorem md_m_ap (h : rp_Uf P = A ++ B) (hA : 1 ≤ md_all A) : md_m P A = md_all B := by
  unfold md_m rp_W
  rw [h, md_all_ap]
  exact Nat.mul_div_cancel_left _ (by omega)
/-! a span of values -/
theorem rx_222l {w : Nat} {cnt : Nat} (hp : p1.toInt = (w : Int)) (hw : w < 16) (hc : cnt ≤ 64) (h120 : (X0.1 120 w).toInt = (cnt : Int)) : ∀ (n i : Nat) (y3 : Int32) (X : fx_X), y3.toInt = (i : Int) → X.2 = X0.2 → (∀ q k, q ≠ 121 → X.1 q k = X0.1 q k) → gxF_222 p1 n 72 [f, y3] [] [] X v X' → v = Int32.ofInt 1 ∧ X'.2 = X0.2 ∧ (∀ q k, q ≠ 121 → X'.1 q k = X0.1 q k) ∧ ∀ k, X'.1 121 k = if 64 * w + i ≤ k ∧ k < 64 * w + cnt then f + Int32.ofNat (k - 64 * w) else X.1 121 k := by
  intro n
  induction n with
  | zero => intro i y3 X _ _ _ g; exact g.elim
  | succ n ih =>
    intro i y3 X hy e2 e1 g
    replace g := gxO_222_72 g
    unfold gxT_222_72 at g
    rw [fx_in hp] at g
    replace g := g.2
    rw [e1 120 w (by decide)] at g
    rcases fy_ifd g with ⟨c1, g1⟩ | ⟨c1, g1⟩
    · have ha : (p1 * ((Int8.ofInt 64).toInt32) + y3).toInt = ((w * 64 + i : Nat) : Int) := rx_lin hp rfl hy (by omega)
      rw [fx_in ha] at g1
      obtain ⟨-, X27, e27, x28, e28, g1⟩ := g1
      obtain ⟨q1, q2, q3, q4⟩ := ih (i + 1) x28 X27 (by rw [e28]; exact cx_in1 hy (by omega)) (by rw [e27]; exact e2) (fun q k hq => by rw [e27, fx_rIn hq]; exact e1 q k hq) g1
      refine ⟨q1, q2, q3, fun k => ?_⟩
      rw [q4 k]
      have ey : y3 = Int32.ofNat i := fx_inj (by
        rw [hy]
        have : (Int32.ofNat i) = Int32.ofInt (i : Int) := rfl
        rw [this, fx_ofI (by omega) (by omega)])
      by_cases z : k = 64 * w + i
      · rw [if_neg (by omega), if_pos (by omega), e27, z, show 64 * w + i = w * 64 + i by omega, fx_rIe, ey]
        congr 2
        omega
      · by_cases z2 : 64 * w + (i + 1) ≤ k ∧ k < 64 * w + cnt
        · rw [if_pos z2, if_pos (by omega)]
        · rw [if_neg z2, if_neg (by omega), e27, fx_rIk (by omega)]
    · rw [g1.2]
      exact ⟨g1.1, e2, e1, fun k => by rw [if_neg (by omega)]⟩
theorem md_rule_134 {k : Int} (h : k = 45 ∨ k = 4) : md_rule 134 k = some (if k = 45 then [45, 182, 4] else [4, 182]) := by
  rcases h with h | h <;> (subst h; rfl)
theorem md_rule_134x {k : Int} (h1 : k ≠ 45) (h2 : k ≠ 4) : md_rule 134 k = none := by
  show (md_49 134 k).map _ = none
  unfold md_49
  rw [if_neg (by decide), if_neg (by decide), if_neg (by decide), if_pos rfl, if_neg h1, if_neg h2]
  rfl
theorem rx_222 (hp : rx_B P X ∨ (p1.toInt = ((8 * rp_h P + n : Nat) : Int) ∧ cs.1.length = n ∧ n < 8)) (h : rx_B P X ∨ (rx_G P X j c ∧ md_R P ((132, l) :: K) j near c nm (md_scu cs (nn, [f]), ws) ∧ (rp_T P).1 j = 5 ∧ rx_U P X cs.1 ∧ rx_L P X n [f] ∧ (-9999 ≤ f.toInt ∧ f.toInt ≤ 9999) ∧ ∀ k, k ≠ 13 → c k = c0 k)) (g : gx_222 p1 X v X') : rx_lP P K nm cs ws nn n c0 v X X' := by
  rcases hp with hB | ⟨hp, hn, hn8⟩
  · exact rx_BX (gb_222 hB g) (gv_222 g) Or.inl
  rcases h with hB | ⟨hG, hR, hT, hU, hL, hf, hc0⟩
  · exact rx_BX (gb_222 hB g) (gv_222 g) Or.inl
  obtain ⟨n1, w3, X2, r1, g⟩ := g
  have hh := hG.2.2.2.1.2
  have hR1 := md_R_r (r := [5, 134]) hR (by decide) (by decide) (by decide) (by rw [hT]; rfl)
  have h1 := rx_214 (K := (134, j) :: K) (Q := rx_U P X cs.1 ∧ rx_L P X n [f]) (Or.inr ⟨hG, hR1, ⟨hT, by decide, by decide⟩, hU, hL⟩) r1
  rcases rx_go h1 g with e | ⟨h1, g1⟩
  · exact Or.inl e
  obtain ⟨w6, X5, r2, g1⟩ := g1
  have h2 := rx_221 (Q := rx_G P X2 (j + 1) c ∧ md_R P ((134, j) :: K) (j + 1) j c nm (md_scu cs (nn, [f]), ws) ∧ rx_U P X cs.1 ∧ rx_L P X n [f]) (h1.imp id (fun z => ⟨z.1, z⟩)) r2
  have hck : md_ck (rp_T P) (md_scu cs (nn, [f])) (182, j + 1, j + 1) = if (md_it (rp_T P) (j + 1)).toInt < f.toInt ∨ f.toInt + 63 < (md_it (rp_T P) (j + 1)).toInt then some none else md_k (md_scu cs (nn, (List.range ((md_it (rp_T P) (j + 1)).toInt - f.toInt + 1).toNat).map (fun i => f + Int32.ofNat i)), 0) := md_ck182.trans (if_neg (by omega))
  rcases h2 with ⟨hv, h2⟩ | ⟨hv, j2, h2⟩
  · rw [if_pos (by rw [hv]; rfl)] at g1
    rw [g1.2]
    left
    refine ⟨g1.1, ?_⟩
    rcases h2 with h2 | ⟨h24, hw0, hG1, hR2, -⟩
    · exact ⟨h2.1, h2.2.1⟩
    · refine ⟨?_, h24⟩
      by_cases hz : (rp_T P).1 (j + 1) = 45 ∨ (rp_T P).1 (j + 1) = 4
      · refine (md_R_w0 (md_R_r hR2 (by decide) (by decide) (by decide) (md_rule_134 hz)) (by decide) hw0 ?_)
        by_cases hm : (md_it (rp_T P) (j + 1)).toInt < f.toInt ∨ f.toInt + 63 < (md_it (rp_T P) (j + 1)).toInt
        · exact Or.inl (hck.trans (if_pos hm))
        · exact Or.inr ⟨_, _, ws, hck.trans (if_neg hm), fun _ => md_wk_id (by decide)⟩
      · exact (md_R_rx hR2 (by decide) (by decide) (md_rule_134x (fun z => hz (Or.inl z)) (fun z => hz (Or.inr z))))
  · rw [if_neg (by rw [hv]; decide)] at g1
    replace g1 := g1.2
    obtain ⟨x10, e10, g2⟩ := g1
    rcases h2 with hB | ⟨hG2, ⟨hwh, h35⟩, hG1, hR2, hU2, hL2⟩
    · -- a fault is kept
      rcases fy_ifd g2 with ⟨c1, g3⟩ | ⟨c1, g3⟩
      · obtain ⟨w14, X13, r3, e1, e2⟩ := g3
        rw [e2]
        exact Or.inr ⟨e1, Or.inl (rx_B_218 hB (by decide) r3)⟩
      · rcases fy_ifd g3 with ⟨c2, g4⟩ | ⟨c2, g4⟩
        · obtain ⟨w14, X13, r3, e1, e2⟩ := g4
          rw [e2]
          exact Or.inr ⟨e1, Or.inl (rx_B_218 hB (by decide) r3)⟩
        · obtain ⟨-, X18, e18, g5⟩ := g4
          have hB2 : rx_B P X18 := by rw [e18]; exact rx_B_w hB (Or.inl (by decide))
          exact rx_BX (gbl_222 p1 n1 _ _ _ _ X18 v X' hB2 g5) (gvl_222 p1 n1 _ _ _ _ X18 v X' g5) Or.inl
    · have f1 := gf_214 r1
      have f2 := gf_221 r2
      have hL5 := rx_L_fr (rx_L_fr hL2 (fy_ra f1 (by decide) (by decide)) (fy_ra f1 (by decide) (by decide))) (fy_ra f2 (by decide) (by decide)) (fy_ra f2 (by decide) (by decide))
      have hU5 := rx_U_fr (rx_U_fr hU2 f1 (by decide) (by decide)) f2 (by decide) (by decide)
      have h64 := rx_i64 hp (by omega)
      have hx10 : x10 = f := by
        rw [e10, fx_in h64]
        exact hL5.2.2 0 f rfl
      have hit := rx_it hG1.2.2.2.2.2.2.2.1 hwh
      have hz : (rp_T P).1 (j + 1) = 45 ∨ (rp_T P).1 (j + 1) = 4 := by unfold rx_wh at hwh; omega
      have hR3 := md_R_r hR2 (by decide) (by decide) (by decide) (md_rule_134 hz)
      rcases md_R_wh hR3 (by decide) hwh with ⟨q, -⟩ | ⟨c', nm', q1, q2, q3⟩
      · rw [md_room_id (by decide)] at q; cases q
      rw [md_room_id (by decide)] at q1
      cases q1
      rw [h35, hx10] at g2
      have hsub : (md_it (rp_T P) (j + 1) - f).toInt = (md_it (rp_T P) (j + 1)).toInt - f.toInt := fx_sub (by omega) (by omega)
      rcases fy_ifd g2 with ⟨c1, g3⟩ | ⟨c1, g3⟩
      · obtain ⟨w14, X13, r3, e1, e2⟩ := g3
        rw [e2]
        exact Or.inr ⟨e1, Or.inl (rx_tell (Or.inr ⟨hG2, q2 (hck.trans (if_pos (Or.inl c1)))⟩) (by decide) r3)⟩
      · rcases fy_ifd g3 with ⟨c2, g4⟩ | ⟨c2, g4⟩
        · obtain ⟨w14, X13, r3, e1, e2⟩ := g4
          rw [e2]
          exact Or.inr ⟨e1, Or.inl (rx_tell (Or.inr ⟨hG2, q2 (hck.trans (if_pos (Or.inr (by omega))))⟩) (by decide) r3)⟩
        · rw [fx_in hp] at g4
          obtain ⟨-, X18, e18, g5⟩ := g4
          obtain ⟨w2, n2, z1, z2, z3⟩ := q3 _ _ ws (hck.trans (if_neg (by omega))) (fun _ => md_wk_id (by decide))
          have ew : w2 = ws := by
            cases hb : rp_b P with
            | true => exact z2 hb
            | false => exact z3 hb
          rw [ew] at z1
          have e1' : (Int32.ofInt 1).toInt = 1 := rfl
          have hcnt : (X18.1 120 (8 * rp_h P + n)).toInt = ((((md_it (rp_T P) (j + 1)).toInt - f.toInt + 1).toNat : Nat) : Int) := by
            rw [e18, fx_rIe, fx_add (by omega) (by omega), hsub, e1']
            omega
          obtain ⟨b1, b2, b3, b4⟩ := rx_222l (w := 8 * rp_h P + n) hp (by omega) (by omega) hcnt n1 0 _ X18 rfl rfl (fun _ _ _ => rfl) g5
          have fz : fy [] [] [120, 121] X5 X' := by
            have f18 : fy [] [] [120, 121] X5 X18 := by rw [e18]; exact fy_a fy_rf (by decide)
            exact fy_tr f18 ⟨by rw [b2], fun r k _ _ => by rw [b2], fun r k hr _ => b3 r k (fun z => hr (by rw [z]; decide))⟩
          refine Or.inr ⟨b1, Or.inr ⟨j2, n2, c, _, rx_G_fr hG2 fz (by decide) (by decide), z1, ?_, ⟨?_, ?_, fun i v hv => ?_⟩, ?_, hc0⟩⟩
          · obtain ⟨u1, u2, u3, u4, u5⟩ := hU5
            refine ⟨by rw [fy_ra fz (by decide) (by decide)]; exact u1, by rw [fy_ra fz (by decide) (by decide)]; exact u2, u3, u4, fun u x hx => ?_⟩
            have hu := (List.getElem?_eq_some_iff.mp hx).1
            obtain ⟨v1, v2, v3, v4⟩ := u5 u x hx
            refine ⟨by rw [fy_rl fz (by decide) (by decide)]; exact v1, ?_, v3, fun i v hv => ?_⟩
            · rw [b3 120 _ (by decide), e18, fx_rIk (by omega)]; exact v2
            · have hi := (List.getElem?_eq_some_iff.mp hv).1
              rw [b4, if_neg (by omega), e18, fx_rIn (by decide)]
              exact v4 i v hv
          · rw [b3 120 _ (by decide), hcnt, List.length_map, List.length_range]
          · rw [List.length_map, List.length_range]; omega
          · rw [List.getElem?_map] at hv
            have hi : i < ((md_it (rp_T P) (j + 1)).toInt - f.toInt + 1).toNat := by
              rcases Nat.lt_or_ge i ((md_it (rp_T P) (j + 1)).toInt - f.toInt + 1).toNat with y | y
              · exact y
              · rw [List.getElem?_eq_none (by rw [List.length_range]; exact y)] at hv
                cases hv
            rw [List.getElem?_range hi] at hv
            rw [b4, if_pos (by omega), show 64 * (8 * rp_h P + n) + i - 64 * (8 * rp_h P + n) = i by omega]
            exact Option.some.inj hv
          · have g120 : X5.1 120 = X.1 120 := (fy_ra f2 (by decide) (by decide)).trans (fy_ra f1 (by decide) (by decide))
            have g121 : X5.1 121 = X.1 121 := (fy_ra f2 (by decide) (by decide)).trans (fy_ra f1 (by decide) (by decide))
            refine ⟨fun k hk => ?_, fun k hk => ?_⟩
            · rw [b3 120 _ (by decide), e18, fx_rIk hk, g120]
            · rw [b4, if_neg (by omega), e18, fx_rIn (by decide), g121]
/-! rows of bits spread -/
theorem rx_226l {M by' h : Nat} (hb1 : 1 ≤ by') (hM : M ≤ 1024) (h2 : p2.toInt = ((32 * k : Nat) : Int)) (hk : k ≤ 30000) (h3 : p3.toInt = (by' : Int)) (hr : r ≠ 117 ∧ r ≠ 122) : ∀ (n i : Nat) (y4 : Int32) (X : fx_X), y4.toInt = (i : Int) - 1 → i ≤ M → X.2 = X0.2 → (∀ q k, q ≠ r → X.1 q k = X0.1 q k) → (∀ k' b', b' < 1024 → fx_bt (X.1 r) (32 * k') b' = if k' = k ∧ i ≤ b' ∧ b' < M then fx_bt (X0.1 r) (32 * k) (b' / by') else fx_bt (X0.1 r) (32 * k') b') → gxF_226 r p2 p3 n 13 [y4] [] [] X u1 X' → X'.2 = X0.2 ∧ (∀ q k, q ≠ r → X'.1 q k = X0.1 q k) ∧ ∀ k' b', b' < 1024 → fx_bt (X'.1 r) (32 * k') b' = if k' = k ∧ b' < M then fx_bt (X0.1 r) (32 * k) (b' / by') else fx_bt (X0.1 r) (32 * k') b' := by
  intro n
  induction n with
  | zero => intro i y4 X _ _ _ _ _ g; exact g.elim
  | succ n ih =>
    intro i y4 X hy hi e2 e1 hB g
    replace g := gxO_226_13 g
    unfold gxT_226_13 at g
    rcases fy_ifd g with ⟨c1, g1⟩ | ⟨c1, g1⟩
    · rw [g1]
      have : i = 0 := by omega
      subst this
      exact ⟨e2, e1, fun k' b' hb' => by rw [hB k' b' hb']; simp only [Nat.zero_le, true_and]⟩
    · obtain ⟨-, w9, X8, r1, w11, X10, r2, x12, e12, g2⟩ := g1
      obtain ⟨w, rfl⟩ : ∃ w, i = w + 1 := ⟨i - 1, by omega⟩
      have hyw : y4.toInt = (w : Int) := by omega
      have hd := fx_div hyw h3 (by omega)
      have hle : w / by' ≤ w := Nat.div_le_self _ _
      obtain ⟨e8, ev⟩ := rx_227 h2 hd (by omega) (by omega) r1
      rw [e8] at r2
      obtain ⟨⟨b1, b2, b3⟩, -⟩ := rx_228 (k := k) h2 hyw hk (by omega) r2
      have em : (Int32.ofInt (-1)).toInt = -1 := rfl
      refine ih w x12 X10 (by rw [e12, fx_add (by omega) (by omega), hyw, em]; omega) (by omega) (b1.trans e2) (fun q k hq => (b2 q k hq).trans (e1 q k hq)) (fun k' b' hb' => ?_) g2
      have hwb : fx_bt (X.1 r) (32 * k) (w / by') = fx_bt (X0.1 r) (32 * k) (w / by') := by
        rw [hB k (w / by') (by omega), if_neg (fun y => by have := y.2.1; omega)]
      rw [b3 k' b' hb', ev, rx_ti, hwb, hB k' b' hb']
      by_cases z : k' = k
      · by_cases z2 : b' = w
        · rw [if_pos ⟨z, z2⟩, if_pos (by omega), z2]
        · rw [if_neg (fun y => z2 y.2)]
          by_cases z3 : w + 1 ≤ b' ∧ b' < M
          · rw [if_pos ⟨z, z3⟩, if_pos (by omega)]
          · rw [if_neg (fun y => z3 y.2), if_neg (by omega)]
      · rw [if_neg (fun y => z y.1), if_neg (fun y => z y.1), if_neg (fun y => z y.1)]
theorem rx_226 {M by' h : Nat} (hh : (X.1 117 37).toInt = (h : Int)) (hM0 : (X.1 122 h).toInt = (M : Int)) (hb1 : 1 ≤ by') (hM : M ≤ 1024) (hM1 : 1 ≤ M) (h2 : p2.toInt = ((32 * k : Nat) : Int)) (hk : k ≤ 30000) (h3 : p3.toInt = (by' : Int)) (hr : r ≠ 117 ∧ r ≠ 122) (g : gx_226 r p2 p3 X u1 X') : X'.2 = X.2 ∧ (∀ q k, q ≠ r → X'.1 q k = X.1 q k) ∧ ∀ k' b', b' < 1024 → fx_bt (X'.1 r) (32 * k') b' = if k' = k ∧ b' < M then fx_bt (X.1 r) (32 * k) (b' / by') else fx_bt (X.1 r) (32 * k') b' := by
  obtain ⟨n, -, x4, e4, g⟩ := g
  have e1 : (Int32.ofInt 1).toInt = 1 := rfl
  rw [fx_in hh] at e4
  exact rx_226l (h := h) hb1 hM h2 hk h3 hr n M x4 X (by rw [e4, fx_sub (by omega) (by omega), hM0, e1]) (Nat.le_refl _) rfl (fun _ _ _ => rfl) (fun k' b' _ => by rw [if_neg (by omega)]) g
end DD14
