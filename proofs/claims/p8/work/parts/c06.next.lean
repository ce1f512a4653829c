/-! TOKENS OF THE REFERENCE: next, to its end -/
section CX6
variable {X X' : fx_X} {u : Unit} {N b : Nat} {f : Nat → Int32} {y1 : Int32}
theorem md_end_s {p : Int → Prop} {k e : Nat} (hk : k < N) (hp : p (f k).toInt) (h : md_end p f N (k + 1) e) : md_end p f N k e := by
  refine ⟨by have := h.1; omega, fun i hi hie => ?_, h.2.2⟩
  by_cases z : i = k
  · subst z
    exact ⟨hk, hp⟩
  · exact h.2.1 i (by omega) hie
theorem md_end_0 {p : Int → Prop} {k : Nat} (h : ¬ (k < N ∧ p (f k).toInt)) : md_end p f N k k := ⟨Nat.le_refl _, fun i h1 h2 => absurd h2 (by omega), h⟩
theorem cx_in1 {y : Int32} {k : Nat} (hk : y.toInt = (k : Int)) (h : k ≤ 4000) : (y + Int32.ofInt 1).toInt = ((k + 1 : Nat) : Int) := by
  rw [fx_add (by rw [hk]; show -2147483648 ≤ (k : Int) + 1; omega) (by rw [hk]; show (k : Int) + 1 ≤ 2147483647; omega), hk]
  rfl
theorem cx_206_195 (hN : N ≤ 4000) (hX : (X.1 117 23).toInt = (N : Int)) (hf : X.1 138 = f) (h1 : y1.toInt = (b : Int)) : ∀ (n k : Nat) (y2 : Int32), y2.toInt = (k : Int) → b ≤ k → k ≤ N → gxF_206 n 195 [y1, y2] [] [] X u X' → ∃ (e : Nat) (y : Int32), md_end md_dig f N k e ∧ e ≤ N ∧ y.toInt = (e : Int) ∧ X' = cx_e X (if 4 < e - b then Int32.ofInt 5 else Int32.ofInt 2) y := by
  intro n
  induction n with
  | zero => intro k y2 _ _ _ g; exact g.elim
  | succ n ih =>
    intro k y2 hk hbk hkN g
    replace g := gxO_206_195 g
    obtain ⟨w, X1, r, g⟩ := g
    obtain ⟨rfl, hw⟩ := cx_209 hX hk r
    rw [hf] at hw
    by_cases q : k < N ∧ 48 ≤ (f k).toInt ∧ (f k).toInt ≤ 57
    · rw [if_pos q] at hw
      subst hw
      rw [if_neg (by decide)] at g
      obtain ⟨y, rfl, g⟩ := g
      obtain ⟨e, y, e1, e2, e3, e4⟩ := ih (k + 1) _ (cx_in1 hk (by omega)) (by omega) (by omega) g
      exact ⟨e, y, md_end_s q.1 q.2 e1, e2, e3, e4⟩
    · rw [if_neg q] at hw
      subst hw
      rw [if_pos (by decide)] at g
      have hs : (y2 - y1).toInt = (k : Int) - b := by rw [fx_sub (by omega) (by omega), hk, h1]
      refine ⟨k, y2, md_end_0 q, hkN, hk, ?_⟩
      split at g
      · obtain ⟨X1, rfl, X2, rfl, rfl⟩ := g
        rw [if_pos (by omega)]
        rfl
      · obtain ⟨X1, rfl, X2, rfl, rfl⟩ := g
        rw [if_neg (by omega)]
        rfl
theorem cx_206_109 (hN : N ≤ 4000) (hX : (X.1 117 23).toInt = (N : Int)) (hf : X.1 138 = f) (h1 : y1.toInt = (b : Int)) : ∀ (n k : Nat) (y2 : Int32), y2.toInt = (k : Int) → b ≤ k → k ≤ N → gxF_206 n 109 [y1, y2] [] [] X u X' → ∃ (e : Nat) (y : Int32), md_end md_ld f N k e ∧ e ≤ N ∧ y.toInt = (e : Int) ∧ ((8 < e - b ∧ X' = cx_e (fx_wI X 117 29 (Int32.ofInt (-1))) (Int32.ofInt 5) y) ∨ (¬ 8 < e - b ∧ ∃ mk kd : Int32, X' = cx_e (fx_wI X 117 29 mk) kd y ∧ md_RT (md_wd md_ws (md_pk f (e - b) b (Int64.ofNat 0)) 0) kd.toInt mk.toInt)) := by
  intro n
  induction n with
  | zero => intro k y2 _ _ _ g; exact g.elim
  | succ n ih =>
    intro k y2 hk hbk hkN g
    replace g := gxO_206_109 g
    obtain ⟨w, X1, r, g⟩ := g
    obtain ⟨rfl, hw⟩ := cx_208 hX hk r
    rw [hf] at hw
    by_cases q : k < N ∧ 97 ≤ (f k).toInt ∧ (f k).toInt ≤ 122
    · rw [if_pos q] at hw
      subst hw
      rw [if_neg (by decide)] at g
      obtain ⟨y, rfl, g⟩ := g
      obtain ⟨e, y, e1, e2, e3, e4⟩ := ih (k + 1) _ (cx_in1 hk (by omega)) (by omega) (by omega) g
      exact ⟨e, y, md_end_s q.1 (Or.inl q.2) e1, e2, e3, e4⟩
    · rw [if_neg q] at hw
      subst hw
      rw [if_pos (by decide)] at g
      obtain ⟨w, X1, r, g⟩ := g
      obtain ⟨rfl, hw⟩ := cx_209 hX hk r
      rw [hf] at hw
      by_cases q2 : k < N ∧ 48 ≤ (f k).toInt ∧ (f k).toInt ≤ 57
      · rw [if_pos q2] at hw
        subst hw
        rw [if_neg (by decide)] at g
        obtain ⟨y, rfl, g⟩ := g
        obtain ⟨e, y, e1, e2, e3, e4⟩ := ih (k + 1) _ (cx_in1 hk (by omega)) (by omega) (by omega) g
        exact ⟨e, y, md_end_s q2.1 (Or.inr q2.2) e1, e2, e3, e4⟩
      · rw [if_neg q2] at hw
        subst hw
        rw [if_pos (by decide)] at g
        have hs : (y2 - y1).toInt = (k : Int) - b := by rw [fx_sub (by omega) (by omega), hk, h1]
        refine ⟨k, y2, md_end_0 (fun z => z.2.elim (fun w => q ⟨z.1, w⟩) (fun w => q2 ⟨z.1, w⟩)), hkN, hk, ?_⟩
        by_cases q3 : 8 < (y2 - y1).toInt
        · rw [if_pos q3] at g
          obtain ⟨X1, rfl, g⟩ := g
          rw [if_pos q3] at g
          obtain ⟨X1, rfl, X2, rfl, rfl⟩ := g
          exact Or.inl ⟨by omega, rfl⟩
        · rw [if_neg q3] at g
          obtain ⟨pk, X1, r1, mk, X2, r2, X3, rfl, g⟩ := g
          obtain ⟨rfl, hpk⟩ := cx_210 h1 hk (by omega) hbk r1
          obtain ⟨rfl, hmk⟩ := cx_211 r2
          rw [if_neg q3, fx_rIe] at g
          rw [hf] at hpk
          subst hpk
          refine Or.inr ⟨by omega, ?_⟩
          split at g
          · obtain ⟨X1, rfl, X2, rfl, rfl⟩ := g
            refine ⟨mk, Int32.ofInt 1, rfl, ?_⟩
            rcases hmk with ⟨k1, k2⟩ | ⟨k1, k2, k3⟩
            · exact Or.inr (Or.inl ⟨k2, rfl⟩)
            · omega
          · obtain ⟨X1, rfl, X2, rfl, rfl⟩ := g
            refine ⟨mk, Int32.ofInt 4, rfl, ?_⟩
            rcases hmk with ⟨k1, k2⟩ | ⟨k1, k2, k3⟩
            · omega
            · exact Or.inr (Or.inr (Or.inr (Or.inr (Or.inr (Or.inr (Or.inl ⟨by omega, by omega, rfl, by omega⟩))))))
/-- the token that begins at b, N: none -/
def cx_nx (X X' : fx_X) (f : Nat → Int32) (N b : Nat) : Prop := fx_fr cx_FT [] X X' ∧ (X'.1 117 27).toInt = (b : Int) ∧ ((b = N ∧ (X'.1 117 26).toInt = 0 ∧ (X'.1 117 28).toInt = (N : Int)) ∨ (b < N ∧ ∃ e : Nat, (X'.1 117 28).toInt = (e : Int) ∧ md_rtk f N b (X'.1 117 26).toInt e (X'.1 117 29).toInt))
/-- where no blank stands -/
theorem cx_206_b {n : Nat} (hN : N ≤ 4000) (hX : (X.1 117 23).toInt = (N : Int)) (hf : X.1 138 = f) (h1 : y1.toInt = (b : Int)) (hb : b ≤ N) (g : ∃ X5 : fx_X, X5 = (fx_wI X 117 27 y1) ∧ ∃ x6 : Int32, x6 = (y1 + (Int32.ofInt 1)) ∧ ∃ (w9 : Int32) (X8 : fx_X), gx_207 y1 X5 w9 X8 ∧ ∃ X11 : fx_X, X11 = (fx_wI X8 117 29 w9) ∧ (if (y1).toInt < ((X11.1 117 23)).toInt then (∃ (w14 : Int32) (X13 : fx_X), gx_208 y1 X11 w14 X13 ∧ (if (w14).toInt = 0 then (∃ (w17 : Int32) (X16 : fx_X), gx_209 y1 X13 w17 X16 ∧ (if (w17).toInt = 0 then (∃ (w20 : Int32) (X19 : fx_X), gx_207 x6 X16 w20 X19 ∧ (if (w9).toInt = 46 then ((if (w20).toInt = 46 then (∃ X24 : fx_X, X24 = (fx_wI X19 117 29 ((Int16.ofInt 256).toInt32)) ∧ ∃ x25 : Int32, x25 = x6 + Int32.ofInt 1 ∧ gxF_206 n 310 [x25, w9] [] [] X24 u X') else (gxF_206 n 261 [x6, w9, w20] [] [] X19 u X'))) else (gxF_206 n 261 [x6, w9, w20] [] [] X19 u X'))) else (gxF_206 n 195 [y1, x6] [] [] X16 u X'))) else (gxF_206 n 109 [y1, x6] [] [] X13 u X'))) else (∃ X27 : fx_X, X27 = (fx_wI X11 117 26 (Int32.ofInt 0)) ∧ ∃ X29 : fx_X, X29 = (fx_wI X27 117 28 y1) ∧ X' = X29))) : cx_nx X X' f N b := by
  obtain ⟨X5, rfl, y6, rfl, c, X8, r1, X11, rfl, g⟩ := g
  have hX5 : ((fx_wI X 117 27 y1).1 117 23).toInt = (N : Int) := by rw [fx_rIk (by decide)]; exact hX
  obtain ⟨rfl, hc⟩ := cx_207 hX5 h1 r1
  rw [fx_rIn (by decide), hf] at hc
  have hX11 : ((fx_wI (fx_wI X 117 27 y1) 117 29 c).1 117 23).toInt = (N : Int) := by rw [fx_rIk (by decide)]; exact hX5
  have hf11 : (fx_wI (fx_wI X 117 27 y1) 117 29 c).1 138 = f := by rw [fx_rIn (by decide), fx_rIn (by decide), hf]
  have hfr : fx_fr cx_FT [] X (fx_wI (fx_wI X 117 27 y1) 117 29 c) := fx_fr_f (fx_fr_f fx_fr_rf (by decide)) (by decide)
  have hb27 : (fx_wI (fx_wI X 117 27 y1) 117 29 c).1 117 27 = y1 := by rw [fx_rIk (by decide), fx_rIe]
  have hb29 : (fx_wI (fx_wI X 117 27 y1) 117 29 c).1 117 29 = c := fx_rIe
  revert g hX11 hf11 hfr hb27 hb29
  generalize fx_wI (fx_wI X 117 27 y1) 117 29 c = Z
  intro g hZ hZf hfr hb27 hb29
  have hy6 := cx_in1 h1 (by omega : b ≤ 4000)
  by_cases q0 : b < N
  · rw [if_pos (by omega)] at g
    rw [if_pos q0] at hc
    subst hc
    obtain ⟨w, X13, r2, g⟩ := g
    obtain ⟨rfl, hw⟩ := cx_208 hZ h1 r2
    rw [hZf] at hw
    by_cases q1 : b < N ∧ 97 ≤ (f b).toInt ∧ (f b).toInt ≤ 122
    · rw [if_pos q1] at hw
      subst hw
      rw [if_neg (by decide)] at g
      obtain ⟨e, y, e1, e2, e3, e4⟩ := cx_206_109 hN hZ hZf h1 n (b + 1) _ hy6 (by omega) (by omega) g
      have eb := e1.1
      have e0 := md_end_s q0 (Or.inl q1.2 : md_ld (f b).toInt) e1
      rcases e4 with ⟨z, rfl⟩ | ⟨z, mk, kd, rfl, z2⟩
      · obtain ⟨k1, k2, k3, k4⟩ := cx_e_k (X := fx_wI Z 117 29 (Int32.ofInt (-1))) (kd := Int32.ofInt 5) (y := y)
        refine ⟨fx_fr_tr hfr (fx_fr_tr (fx_fr_f fx_fr_rf (by decide)) cx_e_fr), by rw [k2, fx_rIk (by decide), hb27, h1], Or.inr ⟨q0, e, by rw [k3, e3], by omega, e2, ?_⟩⟩
        rw [k1]
        refine ⟨2, b, Int64.ofNat 0, Or.inl ⟨q1.2, e, e0, ?_⟩, fun w => absurd rfl w, Or.inl ⟨rfl, Or.inl rfl⟩⟩
        rw [if_pos z]
        exact ⟨rfl, rfl, rfl⟩
      · obtain ⟨k1, k2, k3, k4⟩ := cx_e_k (X := fx_wI Z 117 29 mk) (kd := kd) (y := y)
        refine ⟨fx_fr_tr hfr (fx_fr_tr (fx_fr_f fx_fr_rf (by decide)) cx_e_fr), by rw [k2, fx_rIk (by decide), hb27, h1], Or.inr ⟨q0, e, by rw [k3, e3], by omega, e2, ?_⟩⟩
        rw [k1, k4, fx_rIe]
        refine ⟨_, e, md_pk f (e - b) b (Int64.ofNat 0), Or.inl ⟨q1.2, e, e0, ?_⟩, fun _ => rfl, z2⟩
        rw [if_neg z]
        exact ⟨rfl, rfl, rfl⟩
    · rw [if_neg q1] at hw
      subst hw
      rw [if_pos (by decide)] at g
      obtain ⟨w, X13, r2, g⟩ := g
      obtain ⟨rfl, hw⟩ := cx_209 hZ h1 r2
      rw [hZf] at hw
      by_cases q2 : b < N ∧ 48 ≤ (f b).toInt ∧ (f b).toInt ≤ 57
      · rw [if_pos q2] at hw
        subst hw
        rw [if_neg (by decide)] at g
        obtain ⟨e, y, e1, e2, e3, rfl⟩ := cx_206_195 hN hZ hZf h1 n (b + 1) _ hy6 (by omega) (by omega) g
        have eb := e1.1
        have e0 := md_end_s q0 q2.2 e1
        obtain ⟨k1, k2, k3, k4⟩ := cx_e_k (X := Z) (kd := if 4 < e - b then Int32.ofInt 5 else Int32.ofInt 2) (y := y)
        refine ⟨fx_fr_tr hfr cx_e_fr, by rw [k2, hb27, h1], Or.inr ⟨q0, e, by rw [k3, e3], by omega, e2, ?_⟩⟩
        rw [k1]
        by_cases z : 4 < e - b
        · refine ⟨2, b, Int64.ofNat 0, Or.inr (Or.inl ⟨q2.2, e, e0, ?_⟩), fun w => absurd rfl w, Or.inl ⟨rfl, Or.inl (by rw [if_pos z]; rfl)⟩⟩
          rw [if_pos z]
          exact ⟨rfl, rfl, rfl⟩
        · refine ⟨4, e, md_nu f (e - b) b (Int64.ofNat 0), Or.inr (Or.inl ⟨q2.2, e, e0, ?_⟩), fun _ => rfl, Or.inr (Or.inr (Or.inl ⟨rfl, by rw [if_neg z]; rfl⟩))⟩
          rw [if_neg z]
          exact ⟨rfl, rfl, rfl⟩
      · rw [if_neg q2] at hw
        subst hw
        rw [if_pos (by decide)] at g
        obtain ⟨d, X19, r3, g⟩ := g
        obtain ⟨rfl, hd⟩ := cx_207 hZ hy6 r3
        rw [hZf] at hd
        have hd2 : d.toInt = md_bh f N b := by
          unfold md_bh
          rw [hd]
          split <;> rfl
        have nl : ¬ md_ld (f b).toInt := fun z => z.elim (fun w => q1 ⟨q0, w⟩) (fun w => q2 ⟨q0, w⟩)
        have fin : ¬ ((f b).toInt = 46 ∧ d.toInt = 46) → gxF_206 n 261 [y1 + Int32.ofInt 1, f b, d] [] [] Z u X' → cx_nx X X' f N b := by
          intro h46 g
          obtain ⟨e, e1, e2, e3, e4⟩ := cx_206_261 q0 hN hy6 rfl hd2 nl hb29 h46 g
          exact ⟨fx_fr_tr hfr e1, by rw [e2, hb27, h1], Or.inr ⟨q0, e, e3, e4⟩⟩
        by_cases q3 : (f b).toInt = 46
        · rw [if_pos q3] at g
          by_cases q4 : d.toInt = 46
          · rw [if_pos q4] at g
            obtain ⟨X24, rfl, y, rfl, g⟩ := g
            have hb2 : b + 1 < N := by
              rw [hd2] at q4
              unfold md_bh at q4
              split at q4
              · assumption
              · omega
            have hy7 := cx_in1 hy6 (by omega : b + 1 ≤ 4000)
            rcases cx_206_310 g with ⟨q, rfl⟩ | ⟨q, rfl⟩
            · obtain ⟨k1, k2, k3, k4⟩ := cx_e_k (X := fx_wI Z 117 29 ((Int16.ofInt 256).toInt32)) (kd := Int32.ofInt 3) (y := y1 + Int32.ofInt 1 + Int32.ofInt 1)
              refine ⟨fx_fr_tr hfr (fx_fr_tr (fx_fr_f fx_fr_rf (by decide)) cx_e_fr), by rw [k2, fx_rIk (by decide), hb27, h1], Or.inr ⟨q0, b + 2, by rw [k3, hy7], by omega, by omega, ?_⟩⟩
              rw [k1, k4, fx_rIe]
              refine ⟨5, b + 2, _, Or.inr (Or.inr ⟨nl, rfl, ?_⟩), fun _ => rfl, Or.inr (Or.inr (Or.inr (Or.inl ⟨rfl, rfl, rfl⟩)))⟩
              rw [if_pos ⟨q3, by rw [← hd2]; exact q4⟩]
              exact ⟨rfl, rfl⟩
            · exact absurd (by rw [q3]; decide) q
          · rw [if_neg q4] at g
            exact fin (fun z => q4 z.2) g
        · rw [if_neg q3] at g
          exact fin (fun z => q3 z.1) g
  · rw [if_neg (by omega)] at g
    obtain ⟨X27, rfl, X29, rfl, rfl⟩ := g
    obtain ⟨k1, k2, k3, k4⟩ := cx_e_k (X := Z) (kd := Int32.ofInt 0) (y := y1)
    have hbN : b = N := by omega
    refine ⟨fx_fr_tr hfr cx_e_fr, ?_, Or.inl ⟨hbN, ?_, ?_⟩⟩
    · exact (congrArg Int32.toInt k2).trans (by rw [hb27, h1])
    · exact congrArg Int32.toInt k1
    · exact (congrArg Int32.toInt k3).trans (by rw [h1, hbN])
theorem cx_206_5 (hN : N ≤ 4000) (hX : (X.1 117 23).toInt = (N : Int)) (hf : X.1 138 = f) : ∀ (n k : Nat) (y1 : Int32), y1.toInt = (k : Int) → k ≤ N → gxF_206 n 5 [y1] [] [] X u X' → ∃ b, md_end md_bk f N k b ∧ cx_nx X X' f N b := by
  intro n
  induction n with
  | zero => intro k y1 _ _ g; exact g.elim
  | succ n ih =>
    intro k y1 hk hkN g
    replace g := gxO_206_5 g
    unfold gxT_206_5 at g
    by_cases q0 : k < N
    · rw [if_pos (by omega), fx_in hk, hf] at g
      obtain ⟨-, g⟩ := g
      have step : md_bk (f k).toInt → (∃ y : Int32, y = y1 + Int32.ofInt 1 ∧ gxF_206 n 5 [y] [] [] X u X') → ∃ b, md_end md_bk f N k b ∧ cx_nx X X' f N b := by
        rintro hb ⟨y, rfl, g⟩
        obtain ⟨b, b1, b2⟩ := ih (k + 1) _ (cx_in1 hk (by omega)) (by omega) g
        exact ⟨b, md_end_s q0 hb b1, b2⟩
      split at g
      · rename_i z
        exact step (Or.inl z) g
      · rename_i z1
        obtain ⟨-, g⟩ := g
        split at g
        · rename_i z
          exact step (Or.inr (Or.inl z)) g
        · rename_i z2
          obtain ⟨-, g⟩ := g
          split at g
          · rename_i z
            exact step (Or.inr (Or.inr (Or.inl z))) g
          · rename_i z3
            obtain ⟨-, g⟩ := g
            split at g
            · rename_i z
              exact step (Or.inr (Or.inr (Or.inr z))) g
            · rename_i z4
              refine ⟨k, md_end_0 (fun z => ?_), cx_206_b hN hX hf hk (by omega) g⟩
              rcases z.2 with w | w | w | w
              · exact z1 w
              · exact z2 w
              · exact z3 w
              · exact z4 w
    · rw [if_neg (by omega)] at g
      exact ⟨k, md_end_0 (fun z => q0 z.1), cx_206_b hN hX hf hk (by omega) g⟩
/-- the reference's next -/
theorem cx_206 {e0 : Nat} (hN : N ≤ 4000) (hX : (X.1 117 23).toInt = (N : Int)) (hf : X.1 138 = f) (h0 : (X.1 117 28).toInt = (e0 : Int)) (he : e0 ≤ N) (g : gx_206 X u X') : ∃ b, md_end md_bk f N e0 b ∧ cx_nx X X' f N b := by
  obtain ⟨n, x, rfl, g⟩ := g
  exact cx_206_5 hN hX hf n e0 _ h0 he g
end CX6
