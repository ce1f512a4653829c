/-! ONE CALL OF BOTH: the shelves stay alike -/
def lw_K (tb : aj_T) (h : aj_H) (N : Nat) : Prop := fx_T tb h ∧ ∃ (sr : Nat) (U : md_U) (TB : md_TB) (pt : List (Nat → Bool)) (nl hh : Nat), cx_M2 sr U TB pt nl (fx_V tb h) ∧ rx_MH hh U pt nl (fx_V tb h) ∧ md_by ((fx_V tb h).1 53) ((fx_V tb h).1 138) N
section LWH5
variable {tb : aj_T} {h h1 h2 : aj_H} {s u1 : List Nat} {N d1 d2 mc1 ms1 mc2 ms2 m1 m2 : Nat} {as1 as2 : List Value} {r1 r2 : Option Value} {x1 x2 c2 v w z1 z2 p1 p2 p3 p4 p5 : Int32}
theorem lw_n1 (htb : tb.length = 52) (f1 : cw_F h 0 10 1 (.int x1)) : (fx_V tb h).1 52 1 = x1 := by
  obtain ⟨fs, e0, e1⟩ := f1
  have := (lw_V_o htb e0 1).1
  rw [e1] at this
  exact this
theorem lw_n2 (htb : tb.length = 52) (hT : ak_Ty ak_C0 s h) (hB : cw_B s) : (fx_V tb h).1 117 23 = aw_xf h 23 := by
  obtain ⟨fs, e0⟩ := lw_ob (i := 65) (t := 63) (c := 11) hT (cw_s0 hB rfl) rfl
  have := (lw_V_o htb e0 23).1
  rw [show 52 + 65 = 117 from rfl] at this
  rw [this]
  unfold aw_xf
  rw [e0]
  show fx_vI ((fs[23]?).getD .null) = (match (fs[23]? : Option Value) with
    | some (.int x) => x
    | _ => 0)
  cases fs[23]? with
  | none => rfl
  | some v => cases v <;> rfl
theorem lw_M2_2 {sr : Nat} {U U' : md_U} {TB TB' : md_TB} {pt pt' : List (Nat → Bool)} {nl nl' : Nat} (htb : tb.length = 52) (hT : ak_Ty ak_C0 s h) (hB : cw_B s) (h0 : lw_s2 h h1) (hM : cx_M2 sr U TB pt nl (fx_V tb h)) (hM' : cx_MH sr False U' TB' pt' nl' (fx_V tb h1)) : cx_M2 sr U' TB' pt' nl' (fx_V tb h1) := by
  have key : ∀ (i c k r : Nat), (∀ v, cw_F h i c k v → cw_F h1 i c k v) → (∃ fs, h[i]? = some (.inr (c, fs))) → (fx_V tb h).2.2.1 (52 + i) k = some r → (fx_V tb h1).2.2.1 (52 + i) k = some r := by
    rintro i c k r e ⟨fs, e0⟩ hr
    rw [(lw_V_o htb e0 k).2] at hr
    cases hv : fs[k]? with
    | none => rw [hv] at hr; cases hr
    | some v =>
      rw [hv] at hr
      have hv' : v = .ref r := by
        have hr : fx_vR v = some r := hr
        unfold fx_vR at hr
        split at hr
        · cases hr; rfl
        · cases hr
      obtain ⟨fs', g0, g1⟩ := e v ⟨fs, e0, hv⟩
      rw [(lw_V_o htb g0 k).2, g1, hv']
      rfl
  refine ⟨hM', key 0 10 4 _ h0.1 (lw_ob (i := 0) (t := 62) (c := 10) hT (cw_s0 hB rfl) rfl) hM.2.1, ?_⟩
  obtain ⟨rs, hr⟩ := hM.2.2
  exact ⟨rs, key 43 9 5 _ h0.2 (lw_ob (i := 43) (t := 61) (c := 9) hT (cw_s0 hB rfl) rfl) hr⟩
/-- behind the reference's call -/
theorem lw_Kend {sr : Nat} {U : md_U} {TB : md_TB} {pt : List (Nat → Bool)} {nl hh : Nat} (htb : tb.length = 52) (same : ∀ i, i < 65 ∨ 98 ≤ i → h2[i]? = h1[i]?) (hl : fx_le (fx_V tb h1) (fx_V tb h2)) (hT2 : fx_T tb h2) (hM : cx_M2 sr U TB pt nl (fx_V tb h1)) (hR : rx_MH hh U pt nl (fx_V tb h2)) (hb : md_by ((fx_V tb h1).1 53) ((fx_V tb h2).1 138) N) : lw_K tb h2 N := by
  refine ⟨hT2, sr, U, TB, pt, nl, hh, cx_M2_ag hM (lw_agR htb same) hl.1, hR, ?_⟩
  rw [(lw_agR htb same 53 (by decide)).1]
  exact hb
/-- a question of both -/
theorem lw_Kq (htb : tb.length = 52) (hT : ak_Ty ak_C0 s h) (hB : cw_B s) (hK : lw_K tb h N) {Q : Option Value → fx_X → Prop} (ok1 : fx_K tb m1 as1 (fx_V tb h) Q) (g1 : aj_runs aj_rc aj_cls tb aj_mt d1 m1 as1 h mc1 ms1 r1 h1) (sh : lw_sh h h1) (rs : cw_rs h h1) (hk : lw_rk tb m2 as2) (g2 : aj_runs aj_rc aj_cls tb aj_mt d2 m2 as2 h1 mc2 ms2 r2 h2) (same : ∀ i, i < 65 ∨ 98 ≤ i → h2[i]? = h1[i]?) : lw_K tb h2 N := by
  obtain ⟨hT0, sr, U, TB, pt, nl, hh, hM, hR, hb⟩ := hK
  obtain ⟨hT1, -, -⟩ := ok1 d1 h mc1 ms1 r1 h1 hT0 rfl g1
  obtain ⟨Q2, ok2, hq2⟩ := hk (fx_V tb h1)
  obtain ⟨hT2, hle, q2⟩ := ok2 d2 h1 mc2 ms2 r2 h2 hT1 rfl g2
  obtain ⟨k1, k2⟩ := hq2 _ _ q2
  obtain ⟨hM1, e53⟩ := cx_M2_sh htb hT hB sh hM
  have ag := lw_agC htb rs
  refine lw_Kend htb same hle hT2 hM1 (k1 _ _ _ _ (rx_MH_ag hR (fun r z1 z2 => ⟨(ag r z1 z2).1, (ag r z1 z2).2.1⟩))) ?_
  rw [e53, k2, (ag 138 (by decide) (by decide)).1]
  exact hb
/-- what both calls begin with -/
theorem lw_Kin (htb : tb.length = 52) (hT : ak_Ty ak_C0 s h) (hB : cw_B s) (f1 : cw_F h 0 10 1 (.int x1)) (hc : x1.toInt = (aw_xf h 23).toInt) (hT0 : fx_T tb h) (hT1 : fx_T tb h1) (rs : cw_rs h h1) : ((fx_V tb h).1 52 1).toInt = (x1.toInt.toNat : Int) ∧ x1.toInt.toNat ≤ 4000 ∧ cx_rX (fx_V tb h) ∧ cx_S (fx_V tb h) ∧ ((fx_V tb h1).1 117 23).toInt = (x1.toInt.toNat : Int) := by
  obtain ⟨⟨b1, b2⟩, -⟩ := cw_tape hT hB f1
  refine ⟨by rw [lw_n1 htb f1]; omega, by omega, cx_rX_G ⟨tb, h, hT0, rfl⟩, cx_S_G ⟨tb, h, hT0, rfl⟩, ?_⟩
  rw [(lw_agC htb rs 117 (by decide) (by decide)).1, lw_n2 htb hT hB, ← hc]
  omega
theorem lw_Kread (htb : tb.length = 52) (hT : ak_Ty ak_C0 s h) (hB : cw_B s) (f1 : cw_F h 0 10 1 (.int x1)) (hc : x1.toInt = (aw_xf h 23).toInt) (hK : lw_K tb h x1.toInt.toNat) (g1 : aj_runs aj_rc aj_cls tb aj_mt d1 19 [.ref 52] h mc1 ms1 r1 h1) (rs : cw_rs h h1) (g2 : aj_runs aj_rc aj_cls tb aj_mt d2 203 [.ref 117] h1 mc2 ms2 r2 h2) (same : ∀ i, i < 65 ∨ 98 ≤ i → h2[i]? = h1[i]?) : lw_K tb h2 0 := by
  obtain ⟨hT0, sr, U, TB, pt, nl, hh, hM, hR, hb⟩ := hK
  obtain ⟨hT1, -, v, e1, q1⟩ := gx_19_ok d1 h mc1 ms1 r1 h1 hT0 rfl g1
  obtain ⟨hT2, hle, w, e2, q2⟩ := gx_203_ok d2 h1 mc2 ms2 r2 h2 hT1 rfl g2
  obtain ⟨a1, a2, a3, a4, a5⟩ := lw_Kin htb hT hB f1 hc hT0 hT1 rs
  have ag := lw_agC htb rs
  obtain ⟨sr', U', TB', pt', nl', hh', b1, b2, -⟩ := xx_read a3 a4 a1 a2 hM q1 (rx_MH_ag hR (fun r z1 z2 => ⟨(ag r z1 z2).1, (ag r z1 z2).2.1⟩)) (by rw [(ag 138 (by decide) (by decide)).1]; exact hb) a5 q2
  exact lw_Kend htb same hle hT2 b1 b2 (fun i hi => absurd hi (Nat.not_lt_zero i))
theorem lw_Klearn (htb : tb.length = 52) (hT : ak_Ty ak_C0 s h) (hB : cw_B s) (f1 : cw_F h 0 10 1 (.int x1)) (hc : x1.toInt = (aw_xf h 23).toInt) (hK : lw_K tb h x1.toInt.toNat) (g1 : aj_runs aj_rc aj_cls tb aj_mt d1 154 [.ref 52] h mc1 ms1 (some (.int z1)) h1) (sh : lw_s2 h h1) (rs : cw_rs h h1) (g2 : aj_runs aj_rc aj_cls tb aj_mt d2 281 [.ref 117] h1 mc2 ms2 (some (.int z2)) h2) (same : ∀ i, i < 65 ∨ 98 ≤ i → h2[i]? = h1[i]?) : lw_K tb h2 0 ∧ z1 = z2 := by
  obtain ⟨hT0, sr, U, TB, pt, nl, hh, hM, hR, hb⟩ := hK
  obtain ⟨hT1, -, v, e1, q1⟩ := gx_154_ok d1 h mc1 ms1 _ h1 hT0 rfl g1
  obtain ⟨hT2, hle, w, e2, q2⟩ := gx_281_ok d2 h1 mc2 ms2 _ h2 hT1 rfl g2
  obtain ⟨a1, a2, a3, a4, a5⟩ := lw_Kin htb hT hB f1 hc hT0 hT1 rs
  have ag := lw_agC htb rs
  obtain ⟨pt', nl', b0, b1, b2⟩ := xx_learn2 a3 a4 a1 a2 hM.1 q1 (rx_MH_ag hR (fun r z1 z2 => ⟨(ag r z1 z2).1, (ag r z1 z2).2.1⟩)) (by rw [(ag 138 (by decide) (by decide)).1]; exact hb) a5 q2
  cases e1
  cases e2
  exact ⟨lw_Kend htb same hle hT2 (lw_M2_2 htb hT hB sh hM b1) b2 (fun i hi => absurd hi (Nat.not_lt_zero i)), Int32.toInt_inj.mp b0⟩
theorem lw_Kask (htb : tb.length = 52) (hT : ak_Ty ak_C0 s h) (hB : cw_B s) (f1 : cw_F h 0 10 1 (.int x1)) (hc : x1.toInt = (aw_xf h 23).toInt) (hK : lw_K tb h x1.toInt.toNat) (g1 : aj_runs aj_rc aj_cls tb aj_mt d1 161 [.ref 52] h mc1 ms1 (some (.int z1)) h1) (sh : lw_s2 h h1) (rs : cw_rs h h1) (g2 : aj_runs aj_rc aj_cls tb aj_mt d2 284 [.ref 117] h1 mc2 ms2 (some (.int z2)) h2) (same : ∀ i, i < 65 ∨ 98 ≤ i → h2[i]? = h1[i]?) : lw_K tb h2 0 ∧ z1 = z2 := by
  obtain ⟨hT0, sr, U, TB, pt, nl, hh, hM, hR, hb⟩ := hK
  obtain ⟨hT1, -, v, e1, q1⟩ := gx_161_ok d1 h mc1 ms1 _ h1 hT0 rfl g1
  obtain ⟨hT2, hle, w, e2, q2⟩ := gx_284_ok d2 h1 mc2 ms2 _ h2 hT1 rfl g2
  obtain ⟨a1, a2, a3, a4, a5⟩ := lw_Kin htb hT hB f1 hc hT0 hT1 rs
  have ag := lw_agC htb rs
  obtain ⟨b0, b1, b2⟩ := xx_ask a3 a4 a1 a2 hM.1 q1 (rx_MH_ag hR (fun r z1 z2 => ⟨(ag r z1 z2).1, (ag r z1 z2).2.1⟩)) (by rw [(ag 138 (by decide) (by decide)).1]; exact hb) a5 q2
  cases e1
  cases e2
  exact ⟨lw_Kend htb same hle hT2 (lw_M2_2 htb hT hB sh hM b1) b2 (fun i hi => absurd hi (Nat.not_lt_zero i)), Int32.toInt_inj.mp b0⟩
theorem lw_Kundo (htb : tb.length = 52) (hT : ak_Ty ak_C0 s h) (hB : cw_B s) (hK : lw_K tb h N) (g1 : aj_runs aj_rc aj_cls tb aj_mt d1 159 [.ref 52] h mc1 ms1 (some (.int z1)) h1) (sh : lw_s3 h h1) (rs : cw_rs h h1) (g2 : aj_runs aj_rc aj_cls tb aj_mt d2 283 [.ref 117] h1 mc2 ms2 (some (.int z2)) h2) (same : ∀ i, i < 65 ∨ 98 ≤ i → h2[i]? = h1[i]?) : lw_K tb h2 N ∧ z1 = z2 := by
  obtain ⟨hT0, sr, U, TB, pt, nl, hh, hM, hR, hb⟩ := hK
  obtain ⟨hT1, -, v, e1, q1⟩ := gx_159_ok d1 h mc1 ms1 _ h1 hT0 rfl g1
  obtain ⟨hT2, hle, w, e2, q2⟩ := gx_283_ok d2 h1 mc2 ms2 _ h2 hT1 rfl g2
  have ag := lw_agC htb rs
  obtain ⟨pt', nl', b0, b1, b2⟩ := xx_undo hM.1 q1 (rx_MH_ag hR (fun r z1 z2 => ⟨(ag r z1 z2).1, (ag r z1 z2).2.1⟩)) q2
  cases e1
  cases e2
  refine ⟨lw_Kend htb same hle hT2 (lw_M2_2 htb hT hB sh.1 hM b1) b2 ?_, b0⟩
  have e53 := (lw_ag (tb := tb) (h := h) (h' := h1) (r := 53) htb (fun _ => sh.2)).1
  rw [e53, fy_ra (gf_283 q2) (by decide) (by decide), (ag 138 (by decide) (by decide)).1]
  exact hb
theorem lw_Kfeed (htb : tb.length = 52) (hT : ak_Ty ak_C0 s h) (hB : cw_B s) (f1 : cw_F h 0 10 1 (.int x1)) (hc : x1.toInt = (aw_xf h 23).toInt) (hK : lw_K tb h x1.toInt.toNat) (g1 : aj_runs aj_rc aj_cls tb aj_mt d1 16 [.ref 52, .int p1, .int p2, .int p3, .int p4, .int p5] h mc1 ms1 r1 h1) (rs : cw_rs h h1) (f2 : cw_F h1 0 10 1 (.int x2)) (g2 : aj_runs aj_rc aj_cls tb aj_mt d2 200 [.ref 117, .int p1, .int p2, .int p3, .int p4, .int p5] h1 mc2 ms2 r2 h2) (same : ∀ i, i < 65 ∨ 98 ≤ i → h2[i]? = h1[i]?) : lw_K tb h2 x2.toInt.toNat := by
  obtain ⟨hT0, sr, U, TB, pt, nl, hh, hM, hR, hb⟩ := hK
  obtain ⟨hT1, hle1, v, e1, q1⟩ := gx_16_ok p1 p2 p3 p4 p5 d1 h mc1 ms1 r1 h1 hT0 rfl g1
  obtain ⟨hT2, hle, w, e2, q2⟩ := gx_200_ok p1 p2 p3 p4 p5 d2 h1 mc2 ms2 r2 h2 hT1 rfl g2
  obtain ⟨a1, a2, a3, a4, a5⟩ := lw_Kin htb hT hB f1 hc hT0 hT1 rs
  have ag := lw_agC htb rs
  obtain ⟨N', b1, b2, b3⟩ := xx_feed a1 a5 a2 (by rw [(ag 138 (by decide) (by decide)).1]; exact hb) q1 q2
  have eN : N' = x2.toInt.toNat := by
    rw [lw_n1 htb f2] at b1
    omega
  subst eN
  have f16 := gf_16 q1
  have hM1 : cx_M2 sr U TB pt nl (fx_V tb h1) := by
    have hs := hM.1.2.1
    have hO := hM.1.2.2.1.2.2.1
    refine cx_M2_q hM (by rw [f16.1]) (by rw [f16.1]) ⟨by unfold cx_O at hO ⊢; rw [f16.1]; exact hO, by rw [f16.1]; exact hM.2.2⟩ (fun t r ht hr => ⟨by rw [f16.1]; exact hr, ?_⟩) (fun q k y1 y2 _ _ => ?_) (fun q y1 y2 => fy_rl f16 (fun z => by have := List.mem_singleton.mp z; omega) (fun z hz => by cases hz))
    · have := (hO.2.1 (sr + 8, t) r (cx_slot hs ht) hr).1
      rw [fy_ra f16 (fun z => by have := List.mem_singleton.mp z; omega) (fun z hz => by have := List.mem_singleton.mp hz; rw [this]; show 52 ≠ r; omega)]
    · rw [fy_ra f16 (fun z => by have := List.mem_singleton.mp z; omega) (fun z hz => by have := List.mem_singleton.mp hz; rw [this]; show 52 ≠ q; omega)]
  exact lw_Kend htb same hle hT2 hM1 (rx_MH_fy (rx_MH_ag hR (fun r z1 z2 => ⟨(ag r z1 z2).1, (ag r z1 z2).2.1⟩)) (gf_200 q2) (by decide) (by decide)) b3
theorem lw_Kback (htb : tb.length = 52) (hT : ak_Ty ak_C0 s h) (hB : cw_B s) (f1 : cw_F h 0 10 1 (.int x1)) (hc : x1.toInt = (aw_xf h 23).toInt) (hK : lw_K tb h x1.toInt.toNat) (g1 : aj_runs aj_rc aj_cls tb aj_mt d1 18 [.ref 52, .int p1] h mc1 ms1 r1 h1) (rs : cw_rs h h1) (f2 : cw_F h1 0 10 1 (.int x2)) (g2 : aj_runs aj_rc aj_cls tb aj_mt d2 202 [.ref 117, .int p1] h1 mc2 ms2 r2 h2) (same : ∀ i, i < 65 ∨ 98 ≤ i → h2[i]? = h1[i]?) : lw_K tb h2 x2.toInt.toNat := by
  obtain ⟨hT0, sr, U, TB, pt, nl, hh, hM, hR, hb⟩ := hK
  obtain ⟨hT1, hle1, v, e1, q1⟩ := gx_18_ok p1 d1 h mc1 ms1 r1 h1 hT0 rfl g1
  obtain ⟨hT2, hle, w, e2, q2⟩ := gx_202_ok p1 d2 h1 mc2 ms2 r2 h2 hT1 rfl g2
  obtain ⟨a1, a2, a3, a4, a5⟩ := lw_Kin htb hT hB f1 hc hT0 hT1 rs
  have ag := lw_agC htb rs
  obtain ⟨N', b1, b2, b3⟩ := xx_back a1 a5 a2 (by rw [(ag 138 (by decide) (by decide)).1]; exact hb) q1 q2
  have eN : N' = x2.toInt.toNat := by
    rw [lw_n1 htb f2] at b1
    omega
  subst eN
  have f16 := gf_18 q1
  have hM1 : cx_M2 sr U TB pt nl (fx_V tb h1) := by
    have hs := hM.1.2.1
    have hO := hM.1.2.2.1.2.2.1
    refine cx_M2_q hM (by rw [f16.1]) (by rw [f16.1]) ⟨by unfold cx_O at hO ⊢; rw [f16.1]; exact hO, by rw [f16.1]; exact hM.2.2⟩ (fun t r ht hr => ⟨by rw [f16.1]; exact hr, ?_⟩) (fun q k y1 y2 _ _ => ?_) (fun q y1 y2 => fy_rl f16 List.not_mem_nil (fun z hz => by cases hz))
    · have := (hO.2.1 (sr + 8, t) r (cx_slot hs ht) hr).1
      rw [fy_ra f16 List.not_mem_nil (fun z hz => by have := List.mem_singleton.mp hz; rw [this]; show 52 ≠ r; omega)]
    · rw [fy_ra f16 List.not_mem_nil (fun z hz => by have := List.mem_singleton.mp hz; rw [this]; show 52 ≠ q; omega)]
  exact lw_Kend htb same hle hT2 hM1 (rx_MH_fy (rx_MH_ag hR (fun r z1 z2 => ⟨(ag r z1 z2).1, (ag r z1 z2).2.1⟩)) (gf_202 q2) (by decide) (by decide)) b3
end LWH5
