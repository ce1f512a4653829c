/-! THE CLASS: a text worked out, note by note -/
section CE27
variable {P : md_P} {X X' X0 X1 : fx_X} {v p1 y1 y2 y3 : Int32} {u : Unit} {sr k m j near l : Nat} {pt : List (Nat → Bool)} {T : md_T} {U : md_U}
/-- the note is none that none works on: done, or a fault -/
theorem cx_f140 {W n : Nat} {val : md_V} {tw : List Nat} {ws : md_WS} (hW : cx_WS X sr W n val tw ws) (g : gx_140 p1 y2 X u X') : cx_nf sr X X' := cx_nf_fy hW.2.2.1 hW.2.1 (gf_140 g) (by decide) rfl (by decide)
theorem cx_WS_w {W n : Nat} {val : md_V} {tw : List Nat} {ws : md_WS} (hW : cx_WS X sr W n val tw ws) : cx_O X ∧ (sr = 54 ∨ sr = 66) := by
  obtain ⟨tb, sk, tr, sd, rel, pt, rt, pk, fo, fd⟩ := ws
  exact ⟨hW.2.2.1, hW.2.1⟩
theorem md_bd_ne {α β : Type} {a : α} {f : α → md_O β} : md_bd (md_k a) f = f a := rfl
theorem cx_97l (hs : sr = 54 ∨ sr = 66) (hW1 : 0 < rp_W P) {s2 : md_CS} {tw : List Nat} (htw : tw = s2.2.2.1.map (fun x => x.2.2.length)) : ∀ (es : List md_Ev) (q : Bool) (s : md_CS) (ws : md_WS) (as : List Int) (i n : Nat) (y2 : Int32) (X : fx_X), md_e2 q es → md_fa (rp_T P) s es = md_k (s2, as) → md_fd true P (s, ws) es ≠ none → ws.1.length = s.2.2.1.length → (md_rt ws < ws.1.length ∨ 10 ≤ md_rt ws) → (∀ (j : Nat) (x : md_Nt), (md_nts es)[j]? = some x → (X0.1 83 (i + j)).toInt = x.1) → (∀ (j : Nat) (a : Int), as[j]? = some a → (X0.1 86 (i + j)).toInt = a) → (X0.1 82 4).toInt = ((i + (md_nts es).length : Nat) : Int) → i + (md_nts es).length ≤ 2002 → y2.toInt = (i : Int) → cx_nf sr X0 X → (X.1 82 5).toInt = 0 → cx_WS X sr (rp_W P) (rp_n P) (rp_v P) tw ws → gxF_97 sr n 19 [y2] [] [] X u X' → cx_nf sr X0 X' ∧ ((md_fd true P (s, ws) es = some none ∧ (X'.1 82 5).toInt ≠ 0) ∨ ∃ q', md_fd true P (s, ws) es = md_k q' ∧ cx_WS X' sr (rp_W P) (rp_n P) (rp_v P) tw q'.2 ∧ (X'.1 82 5).toInt = 0) := by
  intro es
  induction es with
  | nil =>
    intro q s ws as i n y2 X he hfa hfd htl hrt h83 h86 h824 hle h2 hnf h5 hWS g
    cases n with
    | zero => exact g.elim
    | succ n =>
      replace g := gxO_97_19 g
      unfold gxT_97_19 at g
      have k824 : X.1 82 4 = X0.1 82 4 := hnf.2.1 82 4 (by decide) (fun _ => rfl) (by omega) (by omega) (by omega)
      have h824 : (X0.1 82 4).toInt = (i : Int) := h824
      rw [if_neg (by rw [k824]; omega)] at g
      have g : X' = X := g
      subst g
      exact ⟨hnf, Or.inr ⟨(s, ws), rfl, hWS, h5⟩⟩
  | cons e es ih =>
    intro q s ws as i n y2 X he hfa hfd htl hrt h83 h86 h824 hle h2 hnf h5 hWS g
    obtain ⟨a, near, lead⟩ := e
    obtain ⟨e1, e2, e3, e4⟩ := he
    have e2 : a ≠ 208 := e2
    have e3 : a ≠ 209 := e3
    rw [md_fa_c] at hfa
    obtain ⟨p, hp, hfa2⟩ := md_bd_k hfa
    obtain ⟨p2, hp2, hfa3⟩ := md_bd_k hfa2
    have efa : (p2.1, if md_quiet a = true then p2.2 else p.2 :: p2.2) = (s2, as) := md_k_inj hfa3
    have ea : as = if md_quiet a = true then p2.2 else p.2 :: p2.2 := (Prod.mk.inj efa).2.symm
    have es2 : p2.1 = s2 := (Prod.mk.inj efa).1
    have hp2 : md_fa (rp_T P) p.1 es = md_k (s2, p2.2) := by rw [hp2, ← es2]
    have hstep : md_step true P (s, ws) (a, near, lead) = md_bd (md_wk (rp_W P) (rp_n P) (rp_v P) (md_wd2 p.1 (a, near, lead)) ws (a, near, lead) p.2) (fun w => md_k (p.1, w)) := by
      rw [md_step_t]
      show md_bd (md_ck (rp_T P) s (a, near, lead)) _ = _
      rw [hp]
      rfl
    rw [md_fd_c, hstep] at hfd ⊢
    obtain ⟨U, cu, TB, rw_, sk_, pk_, fr_⟩ := s
    obtain ⟨c1, c2, c3, c4, c5, c6⟩ := md_ck_TB hp
    have htl : ws.1.length = TB.length := htl
    by_cases hq : md_quiet a = true
    · have ha : a = 170 ∨ a = 171 ∨ a = 172 ∨ a = 137 := by
        unfold md_quiet at hq
        simp at hq
        omega
      have hn : md_nts ((a, near, lead) :: es) = md_nts es := by
        show (if md_quiet a = true then md_nts es else _) = _
        rw [if_pos hq]
      rw [hn] at h83 h824 hle
      rw [if_pos hq] at ea
      subst ea
      rw [md_wk_id (by omega)] at hfd ⊢
      exact ih _ p.1 ws p2.2 i n y2 X e4 hp2 hfd (by rw [c4 (by omega) (by omega) (by omega)]; exact htl) hrt h83 h86 h824 hle h2 hnf h5 hWS g
    · have hn : md_nts ((a, near, lead) :: es) = (a, near, lead, Int32.ofNat (if a = 186 then md_cnt es else 0)) :: md_nts es := by
        show (if md_quiet a = true then md_nts es else _) = _
        rw [if_neg hq]
      rw [hn, List.length_cons] at h824 hle
      rw [hn] at h83
      rw [if_neg hq] at ea
      subst ea
      have hne : md_wk (rp_W P) (rp_n P) (rp_v P) (md_wd2 p.1 (a, near, lead)) ws (a, near, lead) p.2 ≠ none := fun z => by rw [z] at hfd; exact hfd rfl
      cases n with
      | zero => exact g.elim
      | succ n =>
        replace g := gxO_97_19 g
        unfold gxT_97_19 at g
        have kn : ∀ q k, 78 ≤ q → q < 95 → (q = 82 → k = 4) → X.1 q k = X0.1 q k := fun q k z1 z2 z3 => hnf.2.1 q k (by omega) z3 (by omega) (by omega) (by omega)
        rw [if_pos (by rw [kn 82 4 (by decide) (by decide) (fun _ => rfl)]; omega), if_pos h5] at g
        obtain ⟨w15, X14, r1, g⟩ := g
        obtain ⟨e14, v15⟩ := cx_57 h2 (by omega) r1
        subst e14
        have i15 : w15.toInt = a := by
          rw [v15, kn 83 _ (by decide) (by decide) (by omega)]
          have := h83 0 _ rfl
          rw [Nat.add_zero] at this
          exact this
        have i86 : (X.1 86 i).toInt = p.2 := by
          rw [kn 86 _ (by decide) (by decide) (by omega)]
          have := h86 0 _ rfl
          rw [Nat.add_zero] at this
          exact this
        have hpj : ∃ j : Nat, y2.toInt = (j : Int) ∧ j < 2500 ∧ (X.1 86 j).toInt = p.2 := ⟨i, h2, by omega, i86⟩
        obtain ⟨t1, t2⟩ := md_fa_TB es _ p.1 s2 p2.2 e4 hp2
        have hlw : tw.length = s2.2.2.1.length := by rw [htw, List.length_map]
        -- the rest of the loop
        have fin : ∀ (X2 : fx_X) (x : Int32), cx_nf sr X X2 → cx_nr X X2 sr (rp_W P) (rp_n P) (rp_v P) tw (md_wk (rp_W P) (rp_n P) (rp_v P) (md_wd2 p.1 (a, near, lead)) ws (a, near, lead) p.2) → x = y2 + Int32.ofInt 1 → gxF_97 sr n 19 [x] [] [] X2 u X' → cx_nf sr X0 X' ∧ ((md_bd (md_bd (md_wk (rp_W P) (rp_n P) (rp_v P) (md_wd2 p.1 (a, near, lead)) ws (a, near, lead) p.2) (fun w => md_k (p.1, w))) (fun q' => md_fd true P q' es) = some none ∧ (X'.1 82 5).toInt ≠ 0) ∨ ∃ q', md_bd (md_bd (md_wk (rp_W P) (rp_n P) (rp_v P) (md_wd2 p.1 (a, near, lead)) ws (a, near, lead) p.2) (fun w => md_k (p.1, w))) (fun q' => md_fd true P q' es) = md_k q' ∧ cx_WS X' sr (rp_W P) (rp_n P) (rp_v P) tw q'.2 ∧ (X'.1 82 5).toInt = 0) := by
          intro X2 x hnf2 hnr ex g2
          have hnf3 := cx_nf_tr hs hnf hnf2
          rcases hnr with ⟨o1, o2⟩ | ⟨w1, o1, o2, o3⟩
          · rw [o1]
            cases n with
            | zero => exact g2.elim
            | succ n =>
              replace g2 := gxO_97_19 g2
              unfold gxT_97_19 at g2
              have e : X' = X2 := by
                rcases fy_ifd g2 with ⟨_, g3⟩ | ⟨_, g3⟩
                · rw [if_neg o2] at g3
                  exact g3
                · exact g3
              subst e
              exact ⟨hnf3, Or.inl ⟨rfl, o2⟩⟩
          · rw [o1] at hfd ⊢
            obtain ⟨tb, sk, tr, sd, rel, pt, rt, pk, fo, fd⟩ := ws
            have l1 := md_wk_tl o1
            have l2 := md_wk_rt o1 hrt
            have htl : tb.length = TB.length := htl
            refine ih _ p.1 w1 p2.2 (i + 1) n x X2 e4 hp2 hfd ?_ l2 (fun j y hy => ?_) (fun j y hy => ?_) (by rw [h824]; omega) (by omega) (by rw [ex]; exact cx_inc h2 (by omega)) hnf3 (by rw [o3]; exact h5) o2 g2
            · by_cases z4 : a = 184
              · rw [l1.1 (Or.inl z4), c1 z4, List.length_append, htl]; rfl
              by_cases z6 : a = 192
              · obtain ⟨-, cs, c⟩ := c2 z6
                rw [l1.1 (Or.inr z6), c, List.length_append, htl]; rfl
              rw [l1.2 z4 z6, htl]
              by_cases z5 : a = 185
              · obtain ⟨B, z, z', d1, d2⟩ := c3 z5
                rw [d2, d1, List.length_append, List.length_append]; rfl
              · rw [c4 z4 z5 z6]
            · have := h83 (j + 1) y hy
              rw [show i + (j + 1) = i + 1 + j by omega] at this
              exact this
            · have := h86 (j + 1) y hy
              rw [show i + (j + 1) = i + 1 + j by omega] at this
              exact this
        rcases fy_ifd g with ⟨d1, g⟩ | ⟨d1, g⟩
        · rcases fy_ifd g with ⟨d2, g⟩ | ⟨d2, g⟩
          · obtain ⟨w20, X19, r2, x21, e21, g⟩ := g
            obtain ⟨tb, sk, tr, sd, rel, pt, rt, pk, fo, fd⟩ := ws
            have htl : tb.length = TB.length := htl
            have h184 : a = 184 → tb.length < tw.length := fun z => by
              rw [hlw]
              rw [c1 z, List.length_append] at t1
              have : TB.length + 1 ≤ s2.2.2.1.length := t1
              omega
            have h192 : a = 192 → p.2 = (tb.length : Int) ∧ tw[tb.length]? = some (md_wd2 p.1 (a, near, lead)) := fun z => by
              obtain ⟨k1, cs, k2⟩ := c2 z
              refine ⟨by rw [k1, htl], ?_⟩
              have := t2 TB.length (rp_T P |>.2 (lead + 1), true, cs) (by rw [k2, List.getElem?_append_right (Nat.le_refl _), Nat.sub_self]; rfl) (fun y => by rw [z] at y; cases y)
              rw [htw, List.getElem?_map, htl, this]
              unfold md_wd2
              rw [if_pos z, k2, List.getLast?_concat]
              rfl
            exact fin X19 x21 (cx_f143 hWS hrt (by omega) i15 hpj h184 c5 h192 hne r2) (cx_n143 hWS hrt (by omega) i15 hpj h184 c5 h192 hne r2) e21 g
          · obtain ⟨w25, X24, r2, w27, X26, r3, x28, e28, g⟩ := g
            obtain ⟨e24, v25⟩ := cx_40 h2 (by omega) r2
            subst e24
            exact fin X26 x28 (cx_f140 hWS r3) (cx_n140 hWS (by omega) i15 (by rw [v25]; exact i86) hne r3) e28 g
        · obtain ⟨w31, X30, r2, x32, e32, g⟩ := g
          obtain ⟨tb, sk, tr, sd, rel, pt, rt, pk, fo, fd⟩ := ws
          have h210 : a = 210 → 0 ≤ p.2 ∧ tw[p.2.toNat]? = some (md_wd2 p.1 (a, near, lead)) := fun z => by
            obtain ⟨k1, x, cs', k2, k3⟩ := c6 z
            refine ⟨k1, ?_⟩
            have k4 := c4 (by omega) (by omega) (by omega)
            have := t2 p.2.toNat x (by rw [k4]; exact k2) (fun y => by rw [z] at y; cases y)
            rw [htw, List.getElem?_map, this]
            unfold md_wd2
            rw [if_neg (by show ¬ a = 192; omega), k3]
            rfl
          exact fin X30 x32 (cx_f98 hWS hW1 (by omega) i15 hpj h210 hne r2) (cx_n98 hWS hW1 (by omega) i15 hpj h210 hne r2) e32 g
end CE27
