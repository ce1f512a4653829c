/-! THE CLASS: a COND worked out, whole -/
section CE03
variable {P : md_P} {X X' X0 X1 : fx_X} {v p1 y1 y2 y3 : Int32} {u : Unit} {sr k m j near l : Nat} {pt : List (Nat → Bool)} {f x : Nat → Bool} {T : md_T} {U : md_U}
theorem cx_156l (hs : sr = 54 ∨ sr = 66) (hce : cx_ce X0 sr (rp_W P) (rp_n P) (rp_v P)) : ∀ (es : List md_Ev) (s s2 s' : md_CS) (ws ws' : md_WS) (as : List Int) (i n : Nat) (y2 : Int32) (X : fx_X), (∀ e, e ∈ es → md_cset e.1 = true ∧ 170 ≤ e.1) → md_fa (rp_T P) s es = md_k (s2, as) → md_fd true P (s, ws) es = md_k (s', ws') → (∀ (j : Nat) (x : md_Nt), (md_nts es)[j]? = some x → (X0.1 83 (i + j)).toInt = x.1) → (∀ (j : Nat) (a : Int), as[j]? = some a → (X0.1 86 (i + j)).toInt = a) → (X0.1 82 4).toInt = ((i + (md_nts es).length : Nat) : Int) → i + (md_nts es).length ≤ 2002 → y2.toInt = (i : Int) → cx_kf X0 X → cx_Sd X sr (rp_W P) (md_sdw ws) (md_rew ws) → cx_tr X (rp_W P) (md_tr ws) → (md_tr ws).length ≤ 32 → gxF_156 sr n 7 [y2] [] [] X u X' → cx_kf X0 X' ∧ cx_tr X' (rp_W P) (md_tr ws') ∧ X'.2.2.1 95 7 = some sr := by
  intro es
  induction es with
  | nil =>
    intro s s2 s' ws ws' as i n y2 X hc hfa hfd h83 h86 h824 hle h2 hkf hSd htr hl g
    cases n with
    | zero => exact g.elim
    | succ n =>
      replace g := gxO_156_7 g
      unfold gxT_156_7 at g
      have k824 : X.1 82 4 = X0.1 82 4 := hkf.2.1 _ _ (by decide) (by decide)
      have h824 : (X0.1 82 4).toInt = (i : Int) := h824
      rw [if_neg (by rw [k824]; omega)] at g
      have g : X' = X := g
      subst g
      have hfd : (md_k (s, ws) : md_O md_S) = md_k (s', ws') := hfd
      have e : (s, ws) = (s', ws') := Option.some.inj (Option.some.inj hfd)
      cases e
      exact ⟨hkf, htr, hSd.1⟩
  | cons e es ih =>
    intro s s2 s' ws ws' as i n y2 X hc hfa hfd h83 h86 h824 hle h2 hkf hSd htr hl g
    obtain ⟨a, near, lead⟩ := e
    rw [md_fd_c, md_step_t] at hfd
    obtain ⟨q1, hq1, hfd2⟩ := md_bd_k hfd
    obtain ⟨p, hp, hq2⟩ := md_bd_k hq1
    obtain ⟨w1, hw1, hq3⟩ := md_bd_k hq2
    have eq1 : (p.1, w1) = q1 := Option.some.inj (Option.some.inj hq3)
    subst eq1
    have hp : md_ck (rp_T P) s (a, near, lead) = md_k p := hp
    rw [md_fa_c, hp] at hfa
    have hfa : md_bd (md_fa (rp_T P) p.1 es) (fun q2 => md_k (q2.1, if md_quiet a = true then q2.2 else p.2 :: q2.2)) = md_k (s2, as) := hfa
    obtain ⟨p2, hp2, hfa3⟩ := md_bd_k hfa
    have efa : (p2.1, if md_quiet a = true then p2.2 else p.2 :: p2.2) = (s2, as) := Option.some.inj (Option.some.inj hfa3)
    have ea : as = if md_quiet a = true then p2.2 else p.2 :: p2.2 := (Prod.mk.inj efa).2.symm
    obtain ⟨hcs, h170⟩ := hc (a, near, lead) List.mem_cons_self
    have hcs := md_cset_i hcs
    have h170 : 170 ≤ a := h170
    have hc' : ∀ e, e ∈ es → md_cset e.1 = true ∧ 170 ≤ e.1 := fun e he => hc e (List.mem_cons_of_mem _ he)
    by_cases hq : a = 170 ∨ a = 171
    · have hqt : md_quiet a = true := by rcases hq with z | z <;> (rw [z]; rfl)
      have hn : md_nts ((a, near, lead) :: es) = md_nts es := by
        show (if md_quiet a = true then md_nts es else _) = _
        rw [if_pos hqt]
      rw [hn] at h83 h824 hle
      rw [if_pos hqt] at ea
      subst ea
      have ew : w1 = ws := by
        have := (md_wk_id (W := md_all (rp_Uf P)) (n := (rp_Uf P).length) (wd := md_wd2 p.1 (a, near, lead)) (val := md_val (rp_Uf P)) (w := ws) (near := near) (l := lead) (arg := p.2) (by omega)).symm.trans hw1
        exact (Option.some.inj (Option.some.inj this)).symm
      subst ew
      exact ih p.1 p2.1 s' w1 ws' p2.2 i n y2 X hc' hp2 hfd2 h83 h86 h824 hle h2 hkf hSd htr hl g
    · have ha : a = 200 ∨ a = 201 ∨ (203 ≤ a ∧ a ≤ 207) := by omega
      have hqf : ¬ md_quiet a = true := fun z => by
        unfold md_quiet at z
        simp at z
        omega
      have hn : md_nts ((a, near, lead) :: es) = (a, near, lead, Int32.ofNat (if a = 186 then md_cnt es else 0)) :: md_nts es := by
        show (if md_quiet a = true then md_nts es else _) = _
        rw [if_neg hqf]
      rw [hn, List.length_cons] at h824 hle
      rw [hn] at h83
      rw [if_neg hqf] at ea
      subst ea
      cases n with
      | zero => exact g.elim
      | succ n =>
        replace g := gxO_156_7 g
        unfold gxT_156_7 at g
        have k824 : X.1 82 4 = X0.1 82 4 := hkf.2.1 _ _ (by decide) (by decide)
        rw [if_pos (by rw [k824]; omega)] at g
        obtain ⟨w8, X7, r1, w11, X10, r2, w13, X12, r3, x14, e14, g2⟩ := g
        obtain ⟨e7, v8⟩ := cx_57 h2 (by omega) r1
        subst e7
        obtain ⟨e10, v11⟩ := cx_40 h2 (by omega) r2
        subst e10
        have i8 : w8.toInt = a := by
          rw [v8, hkf.2.1 83 _ (by decide) (by decide)]
          have := h83 0 _ rfl
          rw [Nat.add_zero] at this
          exact this
        have i11 : w11.toInt = p.2 := by
          rw [v11, hkf.2.1 86 _ (by decide) (by decide)]
          have := h86 0 _ rfl
          rw [Nat.add_zero] at this
          exact this
        obtain ⟨b1, b2, b3, b4⟩ := cx_140w hs (cx_kf_ce hs hce hkf) hSd htr hl ha hw1 i8 i11 r3
        refine ih p.1 p2.1 s' w1 ws' p2.2 (i + 1) n x14 X12 hc' hp2 hfd2 (fun j x hx => ?_) (fun j a hx => ?_) (by rw [h824]; omega) (by omega) (by rw [e14]; exact cx_inc h2 (by omega)) (cx_kf_tr hkf b1) b2 b3 b4 g2
        · have := h83 (j + 1) x hx
          rw [show i + (j + 1) = i + 1 + j by omega] at this
          exact this
        · have := h86 (j + 1) a hx
          rw [show i + (j + 1) = i + 1 + j by omega] at this
          exact this
end CE03
