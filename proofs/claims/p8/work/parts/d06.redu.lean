/-! THE REFERENCE: truths reduced -/
/-- symbols to come, whatever began them, ahead of K -/
def md_Rs (P : md_P) (a : List Int) (K : List md_Sy) (j near : Nat) (c : md_C) (nm : md_Nm) (q : md_S) : Prop := ∃ K1 : List md_Sy, K1.map (·.1) = a ∧ md_R P (K1 ++ K) j near c nm q
/-- the signs that wait, the latest first -/
def rx_W (X : fx_X) : List Int → Prop
  | [] => True
  | x :: wt => (X.1 139 wt.length).toInt = x ∧ rx_W X wt
section DD6
variable {P : md_P} {X X' X0 X1 : fx_X} {K : List md_Sy} {s : Int} {a r : List Int} {l j near : Nat} {c c' : md_C} {nm nm' : md_Nm} {cs : md_CS} {ws : md_WS} {q : md_S} {v w p p1 p2 p3 : Int32} {u : Unit} {h M H k d : Nat} {x : Int} {wt : List Int}
theorem md_Rs_i {K1 : List md_Sy} (h : md_R P (K1 ++ K) j near c nm q) : md_Rs P (K1.map (·.1)) K j near c nm q := ⟨K1, rfl, h⟩
theorem md_Rs_0 (h : md_Rs P [] K j near c nm q) : md_R P K j near c nm q := by
  obtain ⟨K1, h1, h2⟩ := h
  rw [List.map_eq_nil_iff] at h1
  subst h1
  exact h2
theorem md_Rs_c (h : md_Rs P (s :: a) K j near c nm q) : ∃ l K1, K1.map (·.1) = a ∧ md_R P ((s, l) :: (K1 ++ K)) j near c nm q := by
  obtain ⟨K1, h1, h2⟩ := h
  cases K1 with
  | nil => cases h1
  | cons y K1 =>
    obtain ⟨s1, l⟩ := y
    rw [List.map_cons] at h1
    injection h1 with e1 e2
    subst e1
    exact ⟨l, K1, e2, h2⟩
theorem md_Rs_t (h : md_Rs P (s :: a) K j near c nm q) (hs : s < 130) (hT : (rp_T P).1 j = s) (hj : j < 1000 ∨ s = 1) : md_Rs P a K (j + 1) j c nm q := by
  obtain ⟨l, K1, h1, h2⟩ := md_Rs_c h
  exact ⟨K1, h1, md_R_t h2 hs hT hj⟩
theorem md_Rs_tx (h : md_Rs P (s :: a) K j near c nm q) (hs : s < 130) (hT : (rp_T P).1 j ≠ s ∨ (1000 ≤ j ∧ s ≠ 1)) : md_F P := by
  obtain ⟨l, K1, h1, h2⟩ := md_Rs_c h
  exact md_R_tx h2 hs hT
theorem md_Rs_r (h : md_Rs P (s :: a) K j near c nm q) (hs : 130 ≤ s) (hs2 : s < 170) (h137 : s ≠ 137) (hr : md_rule s ((rp_T P).1 j) = some r) : md_Rs P (r ++ a) K j near c nm q := by
  obtain ⟨l, K1, h1, h2⟩ := md_Rs_c h
  refine ⟨r.map (fun a => (a, j)) ++ K1, ?_, ?_⟩
  · rw [List.map_append, h1, List.map_map]
    congr 1
    exact List.map_id r
  · rw [List.append_assoc]
    exact md_R_r h2 hs hs2 h137 hr
theorem md_Rs_e0 (h : md_Rs P (s :: a) K j near c nm q) (hs : s = 182 ∨ s = 183 ∨ s = 187 ∨ s = 188 ∨ s = 190 ∨ 192 ≤ s) : ∃ l K1, K1.map (·.1) = a ∧ md_Re P (K1 ++ K) j near c nm q (s, near, l) := by
  obtain ⟨l, K1, h1, h2⟩ := md_Rs_c h
  exact ⟨l, K1, h1, md_R_e0 h2 hs⟩
theorem md_Rs_q (h : md_Rs P (s :: a) K j near c nm q) (hs : s = 170 ∨ s = 171 ∨ s = 172) : (md_room s ((rp_T P).2 near) c nm = none ∧ md_F P) ∨ ∃ c' nm', md_room s ((rp_T P).2 near) c nm = some (c', nm') ∧ md_Rs P a K j near c' nm' q := by
  obtain ⟨l, K1, h1, h2⟩ := md_Rs_c h
  rcases md_R_q h2 hs with y | ⟨c', nm', y1, y2⟩
  · exact Or.inl y
  · exact Or.inr ⟨c', nm', y1, K1, h1, y2⟩
theorem md_Rs_171 (h : md_Rs P (171 :: a) K j near c nm q) : md_Rs P a K j near (md_u c 14 (c 14 - Int32.ofInt 1)) nm q := by
  rcases md_Rs_q h (by decide) with ⟨y, -⟩ | ⟨c', nm', y1, y2⟩
  · cases y
  · cases y1
    exact y2
theorem md_Rs_not (h : md_Rs P (205 :: a) K j near c nm (cs, ws)) (htr : rp_b P = true → ∃ y tr, md_tr ws = y :: tr) : ∃ w2, md_Rs P a K j near c nm (cs, w2) ∧ (rp_b P = true → md_kp ws w2 ∧ ∀ y tr, md_tr ws = y :: tr → md_tr w2 = (fun w => !y w) :: tr) := by
  obtain ⟨l, K1, h1, h2⟩ := md_Rs_e0 h (by decide)
  obtain ⟨tb, sk, tr, sd, rel, pt, rt, pk, fo, fd⟩ := ws
  cases tr with
  | nil =>
    cases hb : rp_b P with
    | true => obtain ⟨y, tr, z⟩ := htr hb; cases z
    | false =>
      obtain ⟨w2, q1, -, -⟩ := md_Re_n (w' := (tb, sk, [], sd, rel, pt, rt, pk, fo, fd)) h2 (md_ck204 (by decide)) (fun z => by rw [hb] at z; cases z)
      exact ⟨w2, ⟨K1, h1, q1⟩, fun z => by cases z⟩
  | cons y tr =>
    obtain ⟨w2, q1, q2, -⟩ := md_Re_n (w' := (tb, sk, (fun w => !y w) :: tr, sd, rel, pt, rt, pk, fo, fd)) h2 (md_ck204 (by decide)) (fun _ => rfl)
    refine ⟨w2, ⟨K1, h1, q1⟩, fun hb => ?_⟩
    rw [q2 hb]
    exact ⟨⟨rfl, rfl, rfl⟩, fun y' tr' z => by cases z; rfl⟩
theorem md_Rs_bin (h : md_Rs P (s :: a) K j near c nm (cs, ws)) (hs : s = 206 ∨ s = 207) (htr : rp_b P = true → ∃ y x tr, md_tr ws = y :: x :: tr ∧ tr.length ≤ 30) : ∃ w2, md_Rs P a K j near c nm (cs, w2) ∧ (rp_b P = true → md_kp ws w2 ∧ ∀ y x tr, md_tr ws = y :: x :: tr → md_tr w2 = (fun w => if s = 207 then x w || y w else x w && y w) :: tr) := by
  obtain ⟨l, K1, h1, h2⟩ := md_Rs_e0 h (by omega)
  obtain ⟨tb, sk, tr, sd, rel, pt, rt, pk, fo, fd⟩ := ws
  cases hb : rp_b P with
  | false =>
    obtain ⟨w2, q1, -, -⟩ := md_Re_n (w' := (tb, sk, [], sd, rel, pt, rt, pk, fo, fd)) h2 (md_ck204 (by omega)) (fun z => by rw [hb] at z; cases z)
    exact ⟨w2, ⟨K1, h1, q1⟩, fun z => by cases z⟩
  | true =>
    obtain ⟨y, x, tr', z, hl⟩ := htr hb
    have z : tr = y :: x :: tr' := z
    subst z
    have hl2 : ¬ 32 < (y :: x :: tr').length := by
      show ¬ 32 < tr'.length + 1 + 1
      omega
    rcases hs with e | e
    · subst e
      obtain ⟨w2, q1, q2, -⟩ := md_Re_n (w' := (tb, sk, (fun w => x w && y w) :: tr', sd, rel, pt, rt, pk, fo, fd)) h2 (md_ck204 (by decide)) (fun _ => by
        show (if 32 < (y :: x :: tr').length then none else _) = _
        rw [if_neg hl2])
      refine ⟨w2, ⟨K1, h1, q1⟩, fun _ => ?_⟩
      rw [q2 hb]
      exact ⟨⟨rfl, rfl, rfl⟩, fun y' x' tr'' z => by cases z; rfl⟩
    · subst e
      obtain ⟨w2, q1, q2, -⟩ := md_Re_n (w' := (tb, sk, (fun w => x w || y w) :: tr', sd, rel, pt, rt, pk, fo, fd)) h2 (md_ck204 (by decide)) (fun _ => by
        show (if 32 < (y :: x :: tr').length then none else _) = _
        rw [if_neg hl2])
      refine ⟨w2, ⟨K1, h1, q1⟩, fun _ => ?_⟩
      rw [q2 hb]
      exact ⟨⟨rfl, rfl, rfl⟩, fun y' x' tr'' z => by cases z; rfl⟩
theorem rx_W_fr (h : rx_W X wt) (e : X'.1 139 = X.1 139) : rx_W X' wt := by
  induction wt with
  | nil => exact True.intro
  | cons x wt ih => exact ⟨by rw [e]; exact h.1, ih h.2⟩
/-- a row of truths turned round, from k on -/
theorem rx_245l (hb : (X0.1 117 32).toInt = 1) (hh : (X0.1 117 37).toInt = (h : Int)) (hM : (X0.1 122 h).toInt = (M : Int)) (hM4 : M ≤ 1024) (hp : p1.toInt = (d : Int)) (hd : d ≤ 100) : ∀ (n k : Nat) (y2 : Int32) (X : fx_X), y2.toInt = (k : Int) → X.2 = X0.2 → (∀ q i, q ≠ 137 → X.1 q i = X0.1 q i) → gxF_245 p1 n 2 [y2] [] [] X u X' → X'.2 = X0.2 ∧ (∀ q i, q ≠ 137 → X'.1 q i = X0.1 q i) ∧ ∀ k' b', b' < 1024 → fx_bt (X'.1 137) (32 * k') b' = if k' = d ∧ k ≤ b' ∧ b' < M then !fx_bt (X.1 137) (32 * k') b' else fx_bt (X.1 137) (32 * k') b' := by
  intro n
  induction n with
  | zero => intro k y2 X _ _ _ g; exact g.elim
  | succ n ih =>
    intro k y2 X hk e2 e1 g
    replace g := gxO_245_2 g
    unfold gxT_245_2 at g
    rw [if_neg (by rw [e1 _ _ (by decide)]; omega), e1 117 37 (by decide), fx_in hh, e1 122 h (by decide)] at g
    replace g := g.2
    rcases fy_ifd g with ⟨hc, gg⟩ | ⟨hc, gg⟩
    · clear g
      obtain ⟨w10, X9, r1, gg⟩ := gg
      have hk1 : k < 1024 := by omega
      have hd32 := rx_i32 hp (by omega)
      obtain ⟨e9, ev⟩ := rx_227 hd32 hk (by omega) (by omega) r1
      have go : ∀ {t : Int32} {X16 : fx_X} {w17 : Unit}, (t.toInt != 0) = !fx_bt (X.1 137) (32 * d) k → gx_228 137 (p1 * ((Int8.ofInt 32).toInt32)) y2 t X9 w17 X16 → (∃ x18 : Int32, x18 = y2 + Int32.ofInt 1 ∧ gxF_245 p1 n 2 [x18] [] [] X16 u X') → X'.2 = X0.2 ∧ (∀ q i, q ≠ 137 → X'.1 q i = X0.1 q i) ∧ ∀ k' b', b' < 1024 → fx_bt (X'.1 137) (32 * k') b' = if k' = d ∧ k ≤ b' ∧ b' < M then !fx_bt (X.1 137) (32 * k') b' else fx_bt (X.1 137) (32 * k') b' := by
        intro t X16 w17 ht r2 g3
        obtain ⟨x18, rfl, g3⟩ := g3
        rw [e9] at r2
        obtain ⟨⟨b1, b2, b3⟩, -⟩ := rx_228 (k := d) hd32 hk (by omega) hk1 r2
        obtain ⟨q2, q3, q5⟩ := ih (k + 1) _ X16 (cx_in1 hk (by omega)) (b1.trans e2) (fun q i hq => (b2 q i hq).trans (e1 q i hq)) g3
        refine ⟨q2, q3, fun k' b' hb' => ?_⟩
        rw [q5 k' b' hb', b3 k' b' hb', ht]
        by_cases z : k' = d
        · subst z
          by_cases z2 : b' = k
          · subst z2
            rw [if_neg (by omega), if_pos ⟨rfl, rfl⟩, if_pos (by omega)]
          · rw [if_neg (fun y : k' = k' ∧ b' = k => z2 y.2)]
            by_cases z3 : k + 1 ≤ b' ∧ b' < M
            · rw [if_pos ⟨rfl, z3⟩, if_pos (by omega)]
            · rw [if_neg (fun y => z3 y.2), if_neg (by omega)]
        · rw [if_neg (fun y => z y.1), if_neg (fun y => z y.1), if_neg (fun y => z y.1)]
      rcases fy_ifd gg with ⟨c2, g4⟩ | ⟨c2, g4⟩
      · obtain ⟨w17, X16, r2, g4⟩ := g4
        refine go ?_ r2 g4
        rw [ev] at c2
        cases hbt : fx_bt (X.1 137) (32 * d) k with
        | true => rw [hbt, if_pos rfl] at c2; exact absurd c2 (by decide)
        | false => rfl
      · obtain ⟨w17, X16, r2, g4⟩ := g4
        refine go ?_ r2 g4
        rw [ev] at c2
        cases hbt : fx_bt (X.1 137) (32 * d) k with
        | true => rfl
        | false => rw [hbt, if_neg (by decide)] at c2; exact absurd rfl c2
    · rw [gg]
      exact ⟨e2, e1, fun k' b' hb' => by rw [if_neg (by omega)]⟩
theorem rx_245 (hb : (X.1 117 32).toInt = 1) (hh : (X.1 117 37).toInt = (h : Int)) (hM : (X.1 122 h).toInt = (M : Int)) (hM4 : M ≤ 1024) (hp : p1.toInt = (d : Int)) (hd : d ≤ 100) (g : gx_245 p1 X u X') : X'.2 = X.2 ∧ (∀ q i, q ≠ 137 → X'.1 q i = X.1 q i) ∧ ∀ k' b', b' < 1024 → fx_bt (X'.1 137) (32 * k') b' = if k' = d ∧ b' < M then !fx_bt (X.1 137) (32 * k') b' else fx_bt (X.1 137) (32 * k') b' := by
  obtain ⟨n, g⟩ := g
  obtain ⟨q1, q2, q3⟩ := rx_245l hb hh hM hM4 hp hd n 0 _ X rfl rfl (fun _ _ _ => rfl) g
  refine ⟨q1, q2, fun k' b' hb' => ?_⟩
  rw [q3 k' b' hb']
  simp only [Nat.zero_le, true_and]
theorem rx_245f (hb : (X.1 117 32).toInt = 0) (g : gx_245 p1 X u X') : X' = X := by
  obtain ⟨n, g⟩ := g
  cases n with
  | zero => exact g.elim
  | succ n =>
    have g := gxO_245_2 g
    unfold gxT_245_2 at g
    rw [if_pos hb] at g
    exact g
/-- two rows of truths made one, from k on -/
theorem rx_244l (hb : (X0.1 117 32).toInt = 1) (hh : (X0.1 117 37).toInt = (h : Int)) (hM : (X0.1 122 h).toInt = (M : Int)) (hM4 : M ≤ 1024) {y1 y2 y3 : Int32} (h1 : y1.toInt = x) (h2 : y2.toInt = ((32 * d : Nat) : Int)) (h3 : y3.toInt = ((32 * (d + 1) : Nat) : Int)) (hd : d ≤ 100) : ∀ (n k : Nat) (y4 : Int32) (X : fx_X), y4.toInt = (k : Int) → X.2 = X0.2 → (∀ q i, q ≠ 137 → X.1 q i = X0.1 q i) → gxF_244 n 78 [y1, y2, y3, y4] [] [] X u X' → X'.2 = X0.2 ∧ (∀ q i, q ≠ 137 → X'.1 q i = X0.1 q i) ∧ ∀ k' b', b' < 1024 → fx_bt (X'.1 137) (32 * k') b' = if k' = d ∧ k ≤ b' ∧ b' < M then (if x = 124 then fx_bt (X.1 137) (32 * d) b' || fx_bt (X.1 137) (32 * (d + 1)) b' else fx_bt (X.1 137) (32 * d) b' && fx_bt (X.1 137) (32 * (d + 1)) b') else fx_bt (X.1 137) (32 * k') b' := by
  intro n
  induction n with
  | zero => intro k y4 X _ _ _ g; exact g.elim
  | succ n ih =>
    intro k y4 X hk e2 e1 g
    replace g := gxO_244_78 g
    unfold gxT_244_78 at g
    rw [if_neg (by rw [e1 _ _ (by decide)]; omega), e1 117 37 (by decide), fx_in hh, e1 122 h (by decide)] at g
    replace g := g.2
    rcases fy_ifd g with ⟨hc, gg⟩ | ⟨hc, gg⟩
    · clear g
      obtain ⟨w23, X22, r1, w27, X26, r2, gg⟩ := gg
      have hk1 : k < 1024 := by omega
      obtain ⟨e22, ev1⟩ := rx_227 h2 hk (by omega) (by omega) r1
      rw [e22] at r2
      obtain ⟨e26, ev2⟩ := rx_227 h3 hk (by omega) (by omega) r2
      have go : ∀ {t : Int32} {X16 : fx_X} {w17 : Unit}, (t.toInt != 0) = (if x = 124 then fx_bt (X.1 137) (32 * d) k || fx_bt (X.1 137) (32 * (d + 1)) k else fx_bt (X.1 137) (32 * d) k && fx_bt (X.1 137) (32 * (d + 1)) k) → gx_228 137 y2 y4 t X26 w17 X16 → (∃ x18 : Int32, x18 = y4 + Int32.ofInt 1 ∧ gxF_244 n 78 [y1, y2, y3, x18] [] [] X16 u X') → X'.2 = X0.2 ∧ (∀ q i, q ≠ 137 → X'.1 q i = X0.1 q i) ∧ ∀ k' b', b' < 1024 → fx_bt (X'.1 137) (32 * k') b' = if k' = d ∧ k ≤ b' ∧ b' < M then (if x = 124 then fx_bt (X.1 137) (32 * d) b' || fx_bt (X.1 137) (32 * (d + 1)) b' else fx_bt (X.1 137) (32 * d) b' && fx_bt (X.1 137) (32 * (d + 1)) b') else fx_bt (X.1 137) (32 * k') b' := by
        intro t X16 w17 ht r3 g3
        obtain ⟨x18, rfl, g3⟩ := g3
        rw [e26] at r3
        obtain ⟨⟨b1, b2, b3⟩, -⟩ := rx_228 (k := d) h2 hk (by omega) hk1 r3
        obtain ⟨q2, q3, q5⟩ := ih (k + 1) _ X16 (cx_in1 hk (by omega)) (b1.trans e2) (fun q i hq => (b2 q i hq).trans (e1 q i hq)) g3
        refine ⟨q2, q3, fun k' b' hb' => ?_⟩
        rw [q5 k' b' hb', b3 k' b' hb', b3 d b' hb', b3 (d + 1) b' hb', ht]
        rw [if_neg (fun y : d + 1 = d ∧ b' = k => by omega)]
        by_cases z : k' = d
        · subst z
          by_cases z2 : b' = k
          · subst z2
            rw [if_neg (fun y : k' = k' ∧ b' + 1 ≤ b' ∧ b' < M => by omega), if_pos (⟨rfl, rfl⟩ : k' = k' ∧ b' = b'), if_pos (⟨rfl, Nat.le_refl _, by omega⟩ : k' = k' ∧ b' ≤ b' ∧ b' < M)]
          · rw [if_neg (fun y : k' = k' ∧ b' = k => z2 y.2)]
            by_cases z3 : k + 1 ≤ b' ∧ b' < M
            · rw [if_pos (⟨rfl, z3⟩ : k' = k' ∧ k + 1 ≤ b' ∧ b' < M), if_pos (⟨rfl, by omega, z3.2⟩ : k' = k' ∧ k ≤ b' ∧ b' < M)]
            · rw [if_neg (fun y : k' = k' ∧ k + 1 ≤ b' ∧ b' < M => z3 y.2), if_neg (fun y : k' = k' ∧ k ≤ b' ∧ b' < M => z3 ⟨by omega, y.2.2⟩)]
        · rw [if_neg (fun y : k' = d ∧ k + 1 ≤ b' ∧ b' < M => z y.1), if_neg (fun y : k' = d ∧ b' = k => z y.1), if_neg (fun y : k' = d ∧ k ≤ b' ∧ b' < M => z y.1)]
      have f1 : ¬ w23.toInt = 0 → fx_bt (X.1 137) (32 * d) k = true := fun z => by
        cases hbt : fx_bt (X.1 137) (32 * d) k with
        | true => rfl
        | false => rw [ev1, hbt, if_neg (by decide)] at z; exact absurd rfl z
      have f2 : w23.toInt = 0 → fx_bt (X.1 137) (32 * d) k = false := fun z => by
        cases hbt : fx_bt (X.1 137) (32 * d) k with
        | false => rfl
        | true => rw [ev1, hbt, if_pos rfl] at z; exact absurd z (by decide)
      have f3 : ¬ w27.toInt = 0 → fx_bt (X.1 137) (32 * (d + 1)) k = true := fun z => by
        cases hbt : fx_bt (X.1 137) (32 * (d + 1)) k with
        | true => rfl
        | false => rw [ev2, hbt, if_neg (by decide)] at z; exact absurd rfl z
      have f4 : w27.toInt = 0 → fx_bt (X.1 137) (32 * (d + 1)) k = false := fun z => by
        cases hbt : fx_bt (X.1 137) (32 * (d + 1)) k with
        | false => rfl
        | true => rw [ev2, hbt, if_pos rfl] at z; exact absurd z (by decide)
      rw [h1] at gg
      rcases fy_ifd gg with ⟨c1, g1⟩ | ⟨c1, g1⟩
      · rcases fy_ifd g1 with ⟨c2, g2⟩ | ⟨c2, g2⟩
        · rcases fy_ifd g2 with ⟨c3, g3⟩ | ⟨c3, g3⟩
          · obtain ⟨w52, X51, r3, g3⟩ := g3
            exact go (by rw [if_pos c1, f2 c2, f4 c3]; rfl) r3 g3
          · obtain ⟨w52, X51, r3, g3⟩ := g3
            exact go (by rw [if_pos c1, f2 c2, f3 c3]; rfl) r3 g3
        · obtain ⟨w52, X51, r3, g3⟩ := g2
          exact go (by rw [if_pos c1, f1 c2]; rfl) r3 g3
      · rcases fy_ifd g1 with ⟨c2, g2⟩ | ⟨c2, g2⟩
        · obtain ⟨w52, X51, r3, g3⟩ := g2
          exact go (by rw [if_neg c1, f2 c2]; rfl) r3 g3
        · rcases fy_ifd g2 with ⟨c3, g3⟩ | ⟨c3, g3⟩
          · obtain ⟨w52, X51, r3, g3⟩ := g3
            exact go (by rw [if_neg c1, f1 c2, f4 c3]; rfl) r3 g3
          · obtain ⟨w52, X51, r3, g3⟩ := g3
            exact go (by rw [if_neg c1, f1 c2, f3 c3]; rfl) r3 g3
    · rw [gg]
      exact ⟨e2, e1, fun k' b' hb' => by rw [if_neg (fun y : k' = d ∧ k ≤ b' ∧ b' < M => by omega)]⟩
end DD6
