/-! THE REFERENCE: # of a query, reckoned and put in its place -/
section DD61
variable {P : md_P} {X X' X0 X1 X2 : fx_X} {n d k s h b R C M i i' c a j fd W m : Nat} {v w y3 y4 y5 y6 p1 p2 p3 p4 p5 z : Int32} {u : Unit} {ps : List Nat} {fo : Int} {A : List md_Row} {U : md_U} {cc : md_C} {l8 pk : List Int64}
theorem rx_265 (hG : rx_G P X j cc) (hU : rx_U P X U) (hV : rx_V P X U) (h1 : p1.toInt = (s : Int)) (hs : 20 ≤ s ∧ s < 48) (hcl : rx_cl X s l8) (hps : rx_ps l8.length ps X) (hpk : pk.length = ps.length ∧ ∀ (i a : Nat) (n : Int64), ps[i]? = some a → pk[i]? = some n → l8[a]? = some n) (hfo : p2.toInt = fo - 10 ∧ (fo = 16 ∨ fo = 17 ∨ fo = 18 ∨ fo = 19)) (hfd : fo = 16 ∨ (p3.toInt = (fd : Int) ∧ fd < l8.length)) (hrow : rp_b P = true → rx_Rw P X (md_m P U) s A ∧ md_okA U.length l8.length A) (g : gx_265 p1 p2 p3 p4 X v X') : (rp_b P = true ∧ 30 < (md_grs (rp_v P) (rp_W P) ps fo fd A).length ∧ v = Int32.ofInt 0 ∧ (X'.1 117 24).toInt ≠ 0 ∧ rx_lo s X X') ∨ (v = Int32.ofInt 1 ∧ rx_G P X' j cc ∧ rx_lo s X X' ∧ X'.1 117 51 = X.1 117 51 ∧ rx_cl X' s (pk ++ [X.2.1 117 33]) ∧ (rp_b P = true → (md_grs (rp_v P) (rp_W P) ps fo fd A).length ≤ 30 ∧ rx_Rw P X' (md_m P U) s (md_gr (rp_v P) (rp_W P) ps fo fd A))) := by
  obtain ⟨q, g⟩ := g
  unfold gxE_265 at g
  obtain ⟨x2, ex2, X6, e6, X9, e9, g⟩ := g
  have l6 := hcl.2.1
  have k9 : ∀ q, q ≠ 131 → q ≠ 132 → X9.1 q = X.1 q := fun q h1 h2 => by rw [e9, fx_rIn h2, e6, fx_rIn h1]
  have k9s : ∀ k, k ≠ 49 → X9.1 131 k = X.1 131 k ∧ X9.1 132 k = X.1 132 k := fun k hk => by
    refine ⟨?_, ?_⟩
    · rw [e9, fx_rIn (by decide), e6, fx_rIk hk]
    · rw [e9, fx_rIk hk, e6, fx_rIn (by decide)]
  have w131 : (X9.1 131 49).toInt = 0 := by rw [e9, fx_rIn (by decide), e6, fx_rIe]; rfl
  have w132 : (X9.1 132 49).toInt = ((ps.length + 1 : Nat) : Int) := by
    rw [e9, fx_rIe, ex2]; exact cx_in1 hps.1.1 (by have := hps.1.2; omega)
  have k92 : X9.2 = X.2 := by rw [e9, e6]; rfl
  have p6 := hps.1.2
  obtain ⟨n1, X1, f1, f2, f3, f4, g⟩ := rx_265c (X0 := X9) h1 hs.2 ⟨by rw [k9 117 (by decide) (by decide)]; exact hps.1.1, p6⟩ (fun i c hc => by rw [k9 142 (by decide) (by decide)]; exact hps.2.1 i c hc) (fun c hc => by have := hps.2.2 c hc; omega) ps.length 0 q _ X9 (by omega) rfl rfl ⟨rfl, fun _ _ _ => rfl⟩ (fun i c hi => absurd hi (Nat.not_lt_zero i)) g
  rw [k92] at f2 f3 f4
  have j9 : ∀ q, q ≠ 131 → q ≠ 132 → X1.1 q = X.1 q := fun q h1 h2 => by rw [f1]; exact k9 q h1 h2
  have fy1 : fy [] [] [131, 132, 133] X X1 := ⟨f2.1, fun r k hr _ => f2.2 r k (fun z => absurd (show r ∈ _ by rw [z]; decide) hr), fun r k hr _ => by rw [j9 r (fun z => hr (by rw [z]; decide)) (fun z => hr (by rw [z]; decide))]⟩
  have hG1 : rx_G P X1 j cc := rx_G_fr hG fy1 (by decide) (by decide)
  have lo1 : rx_lo 49 X X1 := by
    have key : ∀ r, r ∈ [118, 120, 121, 122, 123, 124, 126, 127, 128, 129] → r < 131 := by decide
    refine ⟨fun r hr => j9 r (by have := key r hr; omega) (by have := key r hr; omega), funext fun k => f2.2 119 k (by omega), funext fun k => f2.2 125 k (by omega), fun r k hr hk => ?_, fun k hk => f2.2 133 k (by omega), fun r k hr hk => by rw [j9 r (by omega) (by omega)], fun k b _ _ => by rw [j9 136 (by decide) (by decide)]⟩
    rw [f1]
    rcases hr with e | e
    · rw [e]; exact (k9s k (by omega)).1
    · rw [e]; exact (k9s k (by omega)).2
  have hV1 : rx_V P X1 U := fun hb => by
    have := hV hb
    rw [← j9 123 (by decide) (by decide)] at this
    exact this
  have hst := hG1.2.2.2.2.1
  have h5 : x2.toInt = ((ps.length + 1 : Nat) : Int) := by rw [ex2]; exact cx_in1 hps.1.1 (by omega)
  have e49 : ((Int8.ofInt 49).toInt32).toInt = ((49 : Nat) : Int) := rfl
  have j131 : X1.1 131 s = X.1 131 s := by rw [f1]; exact (k9s s (by omega)).1
  have j132 : X1.1 132 s = X.1 132 s := by rw [f1]; exact (k9s s (by omega)).2
  -- what the copy gives
  have fin : ∀ (X3 : fx_X) (u : Unit), rx_gq X1 X3 → ((X3.1 117 32).toInt ≠ 0 → (X3.1 131 49).toInt ≤ 30) → gx_251 ((Int8.ofInt 49).toInt32) p1 X3 u X' → rx_G P X' j cc ∧ rx_lo s X X' ∧ X'.1 117 51 = X.1 117 51 ∧ rx_cl X' s (pk ++ [X.2.1 117 33]) ∧ rx_cpa X3 X' 49 s := by
    intro X3 u hq h30 r
    obtain ⟨b1, b2⟩ := rx_251 (s1 := 49) (s2 := s) e49 h1 (by omega) h30 r
    refine ⟨rx_G_on (rx_G_fr hG1 (rx_fy_gq hq) (by decide) (by decide)) b1, rx_lo_tr (rx_lo_le (rx_lo_tr lo1 (rx_lo_gq hq)) (by omega)) (rx_on_lo b1 (Nat.le_refl _)), ?_, ⟨?_, ?_, fun c n hc => ?_⟩, b2⟩
    · rw [b1.2.1 117 (by decide) (by decide) (by decide) (by decide) (by decide), hq.2 117 51 (by omega) (by omega) (by omega) (by omega) (by omega) (by omega), j9 117 (by decide) (by decide)]
    · rw [b2.2.1, hq.2 132 49 (by omega) (by omega) (by omega) (by omega) (by omega) (by omega), f1, w132, List.length_append, hpk.1]
      rfl
    · rw [List.length_append, hpk.1, List.length_singleton]; omega
    · have hcl' := (List.getElem?_eq_some_iff.mp hc).1
      rw [List.length_append, List.length_singleton, hpk.1] at hcl'
      rw [b2.2.2.1 c (by omega), hq.1, show 8 * 49 + c = 392 + c by omega]
      rw [List.getElem?_append] at hc
      split at hc
      · rename_i hh
        rw [hpk.1] at hh
        have q1 : ps[c]? = some ps[c] := List.getElem?_eq_getElem hh
        rw [f3 c _ q1]
        exact hcl.2.2 _ n (hpk.2 c _ n q1 hc)
      · rename_i hh
        rw [hpk.1] at hh hc
        have hce : c = ps.length := by omega
        subst hce
        rw [Nat.sub_self] at hc
        rw [f4]
        exact Option.some.inj hc
  cases hb : rp_b P with
  | false =>
    rw [hb, if_neg (by decide)] at hst
    cases n1 with
    | zero => exact g.elim
    | succ n1 =>
      replace g := gxO_265_91 g
      unfold gxT_265_91 at g
      rw [if_pos hst] at g
      obtain ⟨w27, X26, r1, e1, e2⟩ := g
      subst e2
      obtain ⟨t1, t2, t3, t4, -⟩ := fin X1 w27 rx_gq_rf (fun z => absurd hst z) r1
      exact Or.inr ⟨e1, t1, t2, t3, t4, fun z => by cases z⟩
  | true =>
    rw [hb, if_pos rfl] at hst
    obtain ⟨hA, oA⟩ := hrow hb
    have hA1 : rx_Rw P X1 (md_m P U) s A := ⟨by rw [j131]; exact hA.1, fun r x hx => ⟨fun c t hc => by
      obtain ⟨t1, t2⟩ := (hA.2 r x hx).1 c t hc
      exact ⟨by rw [j9 134 (by decide) (by decide)]; exact t1, by rw [j9 135 (by decide) (by decide)]; exact t2⟩, fun w hw => by rw [j9 136 (by decide) (by decide)]; exact (hA.2 r x hx).2 w hw⟩⟩
    have hC1 : (X1.1 132 s).toInt = (l8.length : Int) := by rw [j132]; exact hcl.1
    have hh := hG1.2.2.2.1
    have hU8 := hU.2.2.1
    have hVm := rx_V_m hV hb
    have hM4 := hU.2.2.2.1.2
    have hW : ∀ b, b < md_all U → b * md_m P U < rp_W P := fun b hb => by
      rw [← hVm.2.2]
      exact Nat.mul_lt_mul_of_pos_right hb (by have := hVm.1; omega)
    have hdv : ∀ b, b * md_m P U / md_m P U = b := fun b => Nat.mul_div_cancel b (by have := hVm.1; omega)
    have hL : ∀ n, n < rp_W P → md_line (rp_v P) (n / md_m P U * md_m P U) A = md_line (rp_v P) n A := fun n hn => rx_ga_ln hh hV1 hb hs hA1 oA hC1 l6 hU8 (hW _ (hVm.2.1 n hn).1) hn (hdv _)
    have hM : (X1.1 122 (rp_h P)).toInt = (md_all U : Int) := by rw [j9 122 (by decide) (by decide)]; exact hU.2.1
    have hps1 : rx_ps l8.length ps X1 := ⟨⟨by rw [j9 117 (by decide) (by decide)]; exact hps.1.1, p6⟩, fun i c hc => by rw [j9 142 (by decide) (by decide)]; exact hps.2.1 i c hc, hps.2.2⟩
    rcases rx_265b (X0 := X1) (h := rp_h P) (M := md_all U) (wf := fun b => b * md_m P U) (val := rp_v P) (A := A) (by omega) hh hM hM4 hfo hfd rfl (fun b hbM => ⟨by
      have := rx_ga_Rw hh hV1 hb hs hA1 oA hC1 l6 hU8 (hW b hbM)
      rw [hdv] at this
      exact this, fun i x hx => by
      have := (hA1.2 i x hx).2 _ (hW b hbM)
      rw [hdv] at this
      exact this⟩) hps1 h1 hs.2 h5 (md_all U) 0 n1 _ X1 [] (by omega) rfl rx_gq_rf ⟨⟨by rw [f1]; exact w131, Nat.zero_le _⟩, List.Pairwise.nil, fun x hx => by (cases hx), fun x => ⟨fun z => by (cases z), fun ⟨b, _, z⟩ => by
        unfold md_Db at z
        rw [decide_eq_false (Nat.not_lt_zero b), Bool.false_and] at z
        cases z⟩, fun i x hx => by (cases hx)⟩ g with ⟨⟨z1, z2, z2'⟩, Z, z3, z4, z5⟩ | ⟨hv, X3, u, G', z1, z2, z3⟩
    · refine Or.inl ⟨rfl, ?_, z1, z2, rx_lo_le (rx_lo_tr lo1 z2') (by omega)⟩
      have := md_nd Z (md_grs (rp_v P) (rp_W P) ps fo fd A) z3 (fun x hx => by
        obtain ⟨b', b1, b2⟩ := z5 x hx
        exact md_grs_mem.mpr ⟨b' * md_m P U, hW b' b1, b2⟩)
      omega
    · obtain ⟨y1, y2⟩ := rx_gi_Rw hV hb hL z2 hM4
      obtain ⟨t1, t2, t3, t4, t5⟩ := fin X3 u z1 (fun _ => by have := z2.1.1; have := z2.1.2; omega) z3
      refine Or.inr ⟨hv, t1, t2, t3, t4, fun _ => ⟨y2, ?_⟩⟩
      have hst3 : (X3.1 117 32).toInt ≠ 0 := by
        rw [z1.2 117 32 (by omega) (by omega) (by omega) (by omega) (by omega) (by omega)]
        omega
      exact rx_Rw_cp y1 t5 (md_okA_gr (n := U.length) y2 p6) (fun w hw => (hVm.2.1 w hw).2) hst3
end DD61
