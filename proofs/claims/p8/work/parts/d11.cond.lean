/-! THE REFERENCE: a COND, its loops -/
section DD11
variable {P : md_P} {K : List md_Sy} {l near : Nat} {c c' c0 : md_C} {nm nm' : md_Nm} {cs : md_CS} {ws w2 : md_WS} {q : md_S} {H M k d : Nat} {x : Int} {v : Int32} {X' : fx_X} {n : Nat}
theorem md_kl_141 {wt : List Int} (h : md_wf wt) (h1 : md_tp wt ≠ 33) (h2 : md_tp wt ≠ 38) : md_kl wt = 141 :: (md_kl wt).tail := by
  cases wt with
  | nil => rfl
  | cons x wt =>
    rcases h.1 with e | e | ⟨e, -⟩ | ⟨e, -⟩
    · exact absurd e h1
    · subst e; rfl
    · exact absurd e h2
    · subst e; rfl
theorem md_kl_139 {wt : List Int} (h : md_wf wt) (h1 : md_tp wt = 0 ∨ md_tp wt = 40) : (md_kl wt).tail = 139 :: (md_kl wt).tail.tail := by
  cases wt with
  | nil => rfl
  | cons x wt =>
    have h1' : x = 0 ∨ x = 40 := h1
    rcases h1' with e | e
    · subst e
      rcases h.1 with z | z | ⟨z, -⟩ | ⟨z, -⟩ <;> exact absurd z (by decide)
    · subst e; rfl
def rx_I19b (P : md_P) (K : List md_Sy) (cs : md_CS) (ws : md_WS) (nm : md_Nm) (c0 : md_C) (n : Nat) (v : Int32) (X' : fx_X) : Prop := ∀ (j : Nat) (wt : List Int) (X : fx_X) (y1 : Int32), y1.toInt = (md_po wt : Int) → rx_Z P X j K cs ws nm c0 wt (md_nb wt) (142 :: md_kl wt) → gxF_237 n 19 [y1, Int32.ofInt 1] [] [] X v X' → rx_Po P K cs ws nm c0 v X'
theorem rx_249s (ih : rx_I249 P K cs ws nm c0 n v X') (ih19 : rx_I19b P K cs ws nm c0 n v X') : rx_I249 P K cs ws nm c0 (n + 1) v X' := by
  intro j wt X y1 hy hT htp h g
  replace g := gxO_237_249 g
  unfold gxT_237_249 at g
  have hZ : ∃ a, rx_Z P X j K cs ws nm c0 wt (md_nb wt + 1) a := by
    rcases h with h | ⟨-, -, h⟩
    · exact ⟨_, h⟩
    · exact ⟨_, h⟩
  obtain ⟨a0, hZ⟩ := hZ
  obtain ⟨hwf, -, hW, hw, -⟩ := rx_Z_wf hZ
  have hlen := rx_Z_l hZ
  obtain ⟨c, hG⟩ := rx_Z_tok hZ
  obtain ⟨w93, X92, r1, g⟩ := g
  obtain ⟨e92, h93⟩ := rx_243 hW hw (by omega) (by decide) r1
  subst e92
  have push : ∀ (x : Int) (a : List Int) {X2 X3 : fx_X} {w105 : Int32} {X104 : fx_X}, (x = 38 ∨ x = 124) → (rp_T P).1 j = x → md_wf (x :: wt) → rx_Z P X92 j K cs ws nm c0 wt (md_nb wt + 1) (x :: a) → (∀ c' X5, rx_G P X5 (j + 1) c' → rx_Z P X5 (j + 1) K cs ws nm c0 (x :: wt) (md_nb wt + 1) a → rx_Z P X5 (j + 1) K cs ws nm c0 (x :: wt) (md_nb wt + 1) (142 :: md_kl (x :: wt))) → X2 = fx_wI X92 139 (X92.1 117 43).toInt.toNat (X92.1 117 29) → X3 = fx_wI X2 117 43 (X2.1 117 43 + Int32.ofInt 1) → gx_214 X3 w105 X104 → (if w105.toInt = 0 then (v = (Int32.ofInt 0) ∧ X' = X104) else gxF_237 n 19 [y1, Int32.ofInt 1] [] [] X104 v X') → rx_Po P K cs ws nm c0 v X' := by
    intro x a X2 X3 w105 X104 hx hTx hwf2 hZx hto e2 e3 r g5
    rcases rx_go (rx_Z_po hZx hx hTx hwf2 (by omega) e2 e3 r) g5 with e | ⟨hB | hZ2, g6⟩
    · exact Or.inl e
    · exact rx_Bl hB g6
    · obtain ⟨c', hG'⟩ := rx_Z_tok hZ2
      have hnb : md_nb (x :: wt) = 1 + md_nb wt := by
        show (if x = 38 ∨ x = 124 then 1 else 0) + md_nb wt = _
        rw [if_pos hx]
      have hpo : md_po (x :: wt) = md_po wt := by
        show (if x = 40 then 1 else 0) + md_po wt = _
        rw [if_neg (by omega), Nat.zero_add]
      have hZ3 := hto c' X104 hG' hZ2
      rw [show md_nb wt + 1 = md_nb (x :: wt) by omega] at hZ3
      exact ih19 (j + 1) (x :: wt) X104 y1 (by rw [hpo]; exact hy) hZ3 g6
  have e38 : ((Int8.ofInt 38).toInt32).toInt = 38 := rfl
  have e124 : ((Int8.ofInt 124).toInt32).toInt = 124 := rfl
  rw [e38] at h93
  rcases fy_ifd g with ⟨c1, g1⟩ | ⟨c1, g1⟩
  · have ht38 : md_tp wt ≠ 38 := by
      rcases h93 with h93 | h93
      · exact absurd c1 h93.1
      · exact h93.2
    obtain ⟨w98, X97, r2, g1⟩ := g1
    obtain ⟨e97, h98⟩ := rx_220 r2
    subst e97
    rw [e124] at h98
    rcases fy_ifd g1 with ⟨c2, g2⟩ | ⟨c2, g2⟩
    · have hT38 : (rp_T P).1 j = 38 := by
        rcases hT with z | z
        · exact z
        · rcases h98 with h98 | h98
          · omega
          · exact absurd ((rx_sg_i hG (by decide)).mpr z) h98.2
      have hA : rx_Z P X97 j K cs ws nm c0 wt (md_nb wt + 1) (md_kl wt) := by
        rcases h with h | ⟨z, -, -⟩
        · exact h
        · omega
      rw [md_kl_141 hwf htp ht38] at hA
      have hA2 := rx_Z_r (r := [38, 142, 206, 141]) hA (by decide) (by rw [hT38]; rfl)
      have hA3 : rx_Z P X97 j K cs ws nm c0 wt (md_nb wt + 1) (38 :: 142 :: 206 :: 141 :: (md_kl wt).tail) := hA2
      rw [← md_kl_141 hwf htp ht38] at hA3
      obtain ⟨-, X102, e102, X103, e103, w105, X104, r3, g3⟩ := g2
      refine push 38 (142 :: 206 :: md_kl wt) (Or.inl rfl) hT38 ⟨Or.inr (Or.inr (Or.inl ⟨rfl, ?_⟩)), hwf⟩ hA3 (fun _ _ _ z => z) e102 e103 r3 g3
      rcases md_wf_tp hwf with z | z | z | z | z
      · subst z; exact Or.inl rfl
      · exact absurd z htp
      · exact Or.inr (Or.inl z)
      · exact absurd z ht38
      · exact Or.inr (Or.inr z)
    · have hT124 : (rp_T P).1 j = 124 := by
        rcases h98 with h98 | h98
        · exact (rx_sg_i hG (by decide)).mp h98.2
        · omega
      obtain ⟨w108, X107, r3, g2⟩ := g2
      obtain ⟨e107, h108⟩ := rx_243 hW hw (by omega) (by decide) r3
      subst e107
      rw [e124] at h108
      rcases fy_ifd g2 with ⟨c3, g3⟩ | ⟨c3, g3⟩
      · have ht124 : md_tp wt ≠ 124 := by
          rcases h108 with z | z
          · exact absurd c3 z.1
          · exact z.2
        have ht : md_tp wt = 0 ∨ md_tp wt = 40 := by
          rcases md_wf_tp hwf with z | z | z | z | z
          · subst z; exact Or.inl rfl
          · exact absurd z htp
          · exact Or.inr z
          · exact absurd z ht38
          · exact absurd z ht124
        have hB : rx_Z P X107 j K cs ws nm c0 wt (md_nb wt + 1) (md_kl wt).tail := by
          rcases h with h | ⟨-, -, h⟩
          · exact rx_Z_139 h (by omega) ht
          · exact h
        rw [md_kl_139 hwf ht] at hB
        have hB2 := rx_Z_r (r := [124, 140, 207, 139]) hB (by decide) (by rw [hT124]; rfl)
        have hB3 : rx_Z P X107 j K cs ws nm c0 wt (md_nb wt + 1) (124 :: 140 :: 207 :: 139 :: (md_kl wt).tail.tail) := hB2
        rw [← md_kl_139 hwf ht] at hB3
        obtain ⟨-, X112, e112, X113, e113, w115, X114, r4, g4⟩ := g3
        exact push 124 (140 :: 207 :: (md_kl wt).tail) (Or.inr rfl) hT124 ⟨Or.inr (Or.inr (Or.inr ⟨rfl, ht⟩)), hwf⟩ hB3 (fun c' X5 _ z => rx_Z_r (s := 140) (r := [142, 141]) z (by decide) rfl) e112 e113 r4 g4
      · have ht124 : md_tp wt = 124 := by
          rcases h108 with z | z
          · exact z.2
          · exact absurd z.1 c3
        have hA : rx_Z P X107 j K cs ws nm c0 wt (md_nb wt + 1) (md_kl wt) := by
          rcases h with h | ⟨-, z, -⟩
          · exact h
          · omega
        obtain ⟨w118, X117, r4, g4⟩ := g3
        obtain ⟨wt', e1, e2, e3, e4⟩ := rx_due (Or.inr ⟨ht124, by omega⟩) hA r4
        refine ih j wt' X117 y1 (by rw [e2]; exact hy) hT e3 ?_ g4
        rcases e4 with ⟨z, -⟩ | ⟨-, z1, z2⟩
        · omega
        · exact Or.inr ⟨hT124, z1, z2⟩
  · have ht38 : md_tp wt = 38 := by
      rcases h93 with h93 | h93
      · exact h93.2
      · exact absurd h93.1 c1
    have hA : rx_Z P X92 j K cs ws nm c0 wt (md_nb wt + 1) (md_kl wt) := by
      rcases h with h | ⟨-, z, -⟩
      · exact h
      · omega
    obtain ⟨w96, X95, r2, g2⟩ := g1
    obtain ⟨wt', e1, e2, e3, e4⟩ := rx_due (Or.inl ht38) hA r2
    refine ih j wt' X95 y1 (by rw [e2]; exact hy) hT e3 ?_ g2
    rcases e4 with ⟨-, z⟩ | ⟨z, -⟩
    · exact Or.inl z
    · omega
/-- a bracket is shut -/
theorem rx_Z_cl {j : Nat} {X X1 X2 : fx_X} {wt a : List Int} (h : rx_Z P X j K cs ws nm c0 (40 :: wt) H (41 :: 171 :: a)) (hT : (rp_T P).1 j = 41) (e1 : X1 = fx_wI X 117 43 (X.1 117 43 - Int32.ofInt 1)) (e2 : X2 = fx_wI X1 117 41 (X1.1 117 41 - Int32.ofInt 1)) (g : gx_214 X2 v X') : rx_X P v X' ∨ (v = Int32.ofInt 1 ∧ (rx_B P X' ∨ rx_Z P X' (j + 1) K cs ws nm c0 wt H a)) := by
  have hlen := rx_Z_l h
  obtain ⟨near, c, w2, ⟨hG, hR⟩, hK, ⟨hW, hw⟩, ⟨hc1, hc2, hc3⟩, hc0, hwf⟩ := h
  obtain ⟨l, K1, hm, hR1⟩ := md_Rs_c hR
  have f3 : fy [(117, 41), (117, 43)] [] [] X X2 := by rw [e2, e1]; exact fy_f (fy_f fy_rf (by decide)) (by decide)
  have h1 := rx_214 (Q := True) (Or.inr ⟨rx_G_fr hG f3 (by decide) (by decide), hR1, ⟨hT, by decide, by decide⟩, True.intro⟩) g
  rcases h1 with e | ⟨hv, e | ⟨hG', hR', -⟩⟩
  · exact Or.inl e
  · exact Or.inr ⟨hv, Or.inl e⟩
  · have hcn : md_cn (40 :: wt) = 1 + md_cn wt := rfl
    have e1' : (Int32.ofInt 1).toInt = 1 := rfl
    have hw' : (X.1 117 43).toInt = ((wt.length + 1 : Nat) : Int) := hw
    have hlen' : wt.length + 1 ≤ 26 := hlen
    rw [hcn] at hc1 hc2 hc3
    have hR2 := md_Rs_171 (⟨K1, hm, hR'⟩ : md_Rs P (171 :: a) K (j + 1) j c nm (cs, w2))
    have f4 := fy_tr (fy_sub (F' := (117, 41) :: (117, 43) :: fF_214) (L' := []) (A' := []) f3 (by decide) (by decide) (by decide)) (fy_sub (gf_214 g) (by decide) (by decide) (by decide))
    have hG'' : rx_G P X' (j + 1) (md_u c 14 (c 14 - Int32.ofInt 1)) := hG'
    refine Or.inr ⟨hv, Or.inr ⟨j, _, w2, ⟨hG'', hR2⟩, ⟨rx_K_fr hK.1 f4 (by decide) (by decide) rfl, hK.2⟩, ⟨rx_W_fr hW.2 (fy_ra f4 (by decide) (by decide)), ?_⟩, ⟨?_, ?_, by omega⟩, fun k hk => (if_neg hk).trans (hc0 k hk), hwf.2⟩⟩
    · rw [(gf_214 g).2.2 117 43 (by decide) (by decide), e2, fx_rIk (by decide), e1, fx_rIe, fx_sub (by omega) (by omega), hw', e1']
      omega
    · rw [(gf_214 g).2.2 117 41 (by decide) (by decide), e2, fx_rIe, e1, fx_rIk (by decide), fx_sub (by omega) (by omega), hc1, e1']
      omega
    · show (c 14 - Int32.ofInt 1).toInt = _
      rw [fx_sub (by omega) (by omega), hc2, e1']; omega
theorem rx_157s (ih : rx_I157 P K cs ws nm c0 n v X') (ih205 : rx_I128 P K cs ws nm c0 n 205 v X') : rx_I157 P K cs ws nm c0 (n + 1) v X' := by
  intro j wt X y1 hy hpo hT htp h g
  replace g := gxO_237_157 g
  unfold gxT_237_157 at g
  have hZ : ∃ a, rx_Z P X j K cs ws nm c0 wt (md_nb wt + 1) a := by
    rcases h with h | ⟨-, h⟩
    · exact ⟨_, h⟩
    · exact ⟨_, h⟩
  obtain ⟨a0, hZ⟩ := hZ
  obtain ⟨hwf, -, hW, hw, -⟩ := rx_Z_wf hZ
  have hlen := rx_Z_l hZ
  obtain ⟨w120, X119, r1, g⟩ := g
  obtain ⟨e119, h120⟩ := rx_243 hW hw (by omega) (by decide) r1
  subst e119
  have e40 : ((Int8.ofInt 40).toInt32).toInt = 40 := rfl
  rw [e40] at h120
  rcases fy_ifd g with ⟨c1, g1⟩ | ⟨c1, g1⟩
  · have ht40 : md_tp wt ≠ 40 := by
      rcases h120 with z | z
      · exact absurd c1 z.1
      · exact z.2
    have hk : md_tp wt = 38 ∨ (md_tp wt = 124 ∧ (rp_T P).1 j ≠ 38) := by
      rcases md_wf_tp hwf with z | z | z | z | z
      · subst z; exact absurd hpo (Nat.lt_irrefl 0)
      · exact absurd z htp
      · exact absurd z ht40
      · exact Or.inl z
      · exact Or.inr ⟨z, by omega⟩
    have hA : rx_Z P X119 j K cs ws nm c0 wt (md_nb wt + 1) (md_kl wt) := by
      rcases h with h | ⟨z, -⟩
      · exact h
      · omega
    obtain ⟨w130, X129, r2, g2⟩ := g1
    obtain ⟨wt', e1, e2, e3, e4⟩ := rx_due hk hA r2
    refine ih j wt' X129 y1 (by rw [e2]; exact hy) (by omega) hT e3 ?_ g2
    rcases e4 with ⟨-, z⟩ | ⟨-, z1, z2⟩
    · exact Or.inl z
    · exact Or.inr ⟨z1, z2⟩
  · have ht40 : md_tp wt = 40 := by
      rcases h120 with z | z
      · exact z.2
      · exact absurd z.1 c1
    have hB : rx_Z P X119 j K cs ws nm c0 wt (md_nb wt + 1) (md_kl wt).tail := by
      rcases h with h | ⟨-, h⟩
      · exact rx_Z_139 h (by omega) (Or.inr ht40)
      · exact h
    obtain ⟨wt', rfl⟩ := md_tp_at ht40 (by decide)
    have hB2 := rx_Z_r (s := 139) (a := 41 :: 171 :: md_kl wt') hB (by decide) (md_rule_139 (by omega))
    obtain ⟨X122, e122, x123, e123, X125, e125, w127, X126, r2, g2⟩ := g1
    have hnb : md_nb (40 :: wt') = 0 + md_nb wt' := rfl
    have hpo' : md_po (40 :: wt') = 1 + md_po wt' := rfl
    have hpc := md_po_cn (wt := wt')
    have hcn := (rx_Z_wf hB2).2.1
    have hcn' : md_cn (40 :: wt') = 1 + md_cn wt' := rfl
    rcases rx_go (rx_Z_cl hB2 hT e122 e125 r2) g2 with e | ⟨hBd | hZ2, g3⟩
    · exact Or.inl e
    · exact rx_Bl hBd g3
    · refine ih205 (j + 1) wt' X126 x123 ?_ (by rw [show md_nb wt' + 1 = md_nb (40 :: wt') + 1 by omega]; exact hZ2) (fun z => absurd z (by decide)) g3
      have e1' : (Int32.ofInt (-1)).toInt = -1 := rfl
      rw [e123, fx_add (by omega) (by omega), hy, e1']
      omega
theorem rx_128s {pc : Nat} (ih : rx_I128 P K cs ws nm c0 n pc v X') (ih144 : rx_I128 P K cs ws nm c0 n 144 v X') (hpc : pc = 128 ∨ pc = 205) : rx_I128 P K cs ws nm c0 (n + 1) pc v X' := by
  intro j wt X y1 hy h _ g
  obtain ⟨hwf, -, hW, hw, -⟩ := rx_Z_wf h
  have hlen := rx_Z_l h
  have g' : ∃ (w60 : Int32) (X59 : fx_X), gx_243 ((Int8.ofInt 33).toInt32) X w60 X59 ∧ (if (w60).toInt = 0 then (gxF_237 n 144 [y1] [] [] X59 v X') else (∃ (w63 : Unit) (X62 : fx_X), gx_244 X59 w63 X62 ∧ gxF_237 n pc [y1] [] [] X62 v X')) := by
    rcases hpc with e | e
    · subst e; exact gxO_237_128 g
    · subst e; exact gxO_237_205 g
  obtain ⟨w60, X59, r1, g1⟩ := g'
  obtain ⟨e59, h60⟩ := rx_243 hW hw (by omega) (by decide) r1
  subst e59
  have e33 : ((Int8.ofInt 33).toInt32).toInt = 33 := rfl
  rw [e33] at h60
  rcases fy_ifd g1 with ⟨c1, g2⟩ | ⟨c1, g2⟩
  · refine ih144 j wt X59 y1 hy h (fun _ => ?_) g2
    rcases h60 with z | z
    · exact absurd c1 z.1
    · exact z.2
  · have ht : md_tp wt = 33 := by
      rcases h60 with z | z
      · exact z.2
      · exact absurd z.1 c1
    obtain ⟨wt', rfl⟩ := md_tp_at ht (by decide)
    obtain ⟨w63, X62, r2, g3⟩ := g2
    have hnb : md_nb (33 :: wt') = 0 + md_nb wt' := rfl
    have hpo : md_po (33 :: wt') = 0 + md_po wt' := rfl
    have h2 := rx_Z_not (a := md_kl wt') h (by omega) r2
    rw [show md_nb (33 :: wt') + 1 = md_nb wt' + 1 by omega] at h2
    exact ih j wt' X62 y1 (by omega) h2 (fun z => by omega) g3
theorem rx_144s (ih157 : rx_I157 P K cs ws nm c0 n v X') (ih19 : rx_I19 P K cs ws nm c0 n v X') (ih249 : rx_I249 P K cs ws nm c0 n v X') : rx_I128 P K cs ws nm c0 (n + 1) 144 v X' := by
  intro j wt X y1 hy h htp g
  replace htp := htp rfl
  replace g := gxO_237_144 g
  unfold gxT_237_144 at g
  obtain ⟨c, hG⟩ := rx_Z_tok h
  have e38 : ((Int8.ofInt 38).toInt32).toInt = 38 := rfl
  have e124 : ((Int8.ofInt 124).toInt32).toInt = 124 := rfl
  have e41 : ((Int8.ofInt 41).toInt32).toInt = 41 := rfl
  have amp : (0 < md_po wt → (rp_T P).1 j ≠ 41) → (∃ (w66 : Int32) (X65 : fx_X), gx_220 ((Int8.ofInt 38).toInt32) X w66 X65 ∧ (if (w66).toInt = 0 then (∃ (w71 : Int32) (X70 : fx_X), gx_220 ((Int8.ofInt 124).toInt32) X65 w71 X70 ∧ (if (w71).toInt = 0 then (gxF_237 n 19 [y1, (Int32.ofInt 0)] [] [] X70 v X') else (gxF_237 n 249 [y1, (Int32.ofInt 1)] [] [] X70 v X'))) else (gxF_237 n 249 [y1, (Int32.ofInt 1)] [] [] X65 v X'))) → rx_Po P K cs ws nm c0 v X' := by
    intro h41 g2
    obtain ⟨w66, X65, r1, g3⟩ := g2
    obtain ⟨e65, h66⟩ := rx_220 r1
    subst e65
    rw [e38] at h66
    rcases fy_ifd g3 with ⟨c1, g4⟩ | ⟨c1, g4⟩
    · have hT38 : (rp_T P).1 j ≠ 38 := fun z => by
        rcases h66 with y | y
        · omega
        · exact y.2 ((rx_sg_i hG (by decide)).mpr z)
      obtain ⟨w71, X70, r2, g5⟩ := g4
      obtain ⟨e70, h71⟩ := rx_220 r2
      subst e70
      rw [e124] at h71
      rcases fy_ifd g5 with ⟨c2, g6⟩ | ⟨c2, g6⟩
      · have hT124 : (rp_T P).1 j ≠ 124 := fun z => by
          rcases h71 with y | y
          · omega
          · exact y.2 ((rx_sg_i hG (by decide)).mpr z)
        exact ih19 j wt X70 y1 hy h htp hT38 hT124 h41 g6
      · have hT124 : (rp_T P).1 j = 124 := by
          rcases h71 with y | y
          · exact (rx_sg_i hG (by decide)).mp y.2
          · omega
        exact ih249 j wt X70 y1 hy (Or.inr hT124) htp (Or.inl h) g6
    · have hT38 : (rp_T P).1 j = 38 := by
        rcases h66 with y | y
        · exact (rx_sg_i hG (by decide)).mp y.2
        · omega
      exact ih249 j wt X65 y1 hy (Or.inl hT38) htp (Or.inl h) g4
  rcases fy_ifd g with ⟨c1, g1⟩ | ⟨c1, g1⟩
  · obtain ⟨w78, X77, r1, g2⟩ := g1
    obtain ⟨e77, h78⟩ := rx_220 r1
    subst e77
    rw [e41] at h78
    rcases fy_ifd g2 with ⟨c2, g3⟩ | ⟨c2, g3⟩
    · refine amp (fun _ z => ?_) g3
      rcases h78 with y | y
      · omega
      · exact y.2 ((rx_sg_i hG (by decide)).mpr z)
    · have hT41 : (rp_T P).1 j = 41 := by
        rcases h78 with y | y
        · exact (rx_sg_i hG (by decide)).mp y.2
        · omega
      exact ih157 j wt X77 y1 hy (by omega) hT41 htp (Or.inl h) g3
  · exact amp (fun z => by omega) g1
theorem rx_19s (ih329 : rx_I329 P K cs ws nm c0 n v X') : rx_I19 P K cs ws nm c0 (n + 1) v X' := by
  intro j wt X y1 hy h htp h38 h124 h41 g
  replace g := gxO_237_19 g
  unfold gxT_237_19 at g
  rw [if_pos (by decide)] at g
  rcases fy_ifd g with ⟨c1, g1⟩ | ⟨c1, g1⟩
  · obtain ⟨w10, X9, r, e1, e2⟩ := g1
    subst e1
    subst e2
    have hF : md_F P := by
      obtain ⟨hwf, -, -, -, hnb⟩ := rx_Z_wf h
      obtain ⟨near, c, w2, ⟨hG, hR⟩, ⟨hK, -⟩, -⟩ := h
      exact md_Y_F hwf htp (by omega) h38 h124 (h41 (by omega)) hR (fun hb => ⟨(hK.2.2.2 hb).1, by omega⟩)
    exact Or.inl (rx_215 hF (by decide) r)
  · exact ih329 j wt X (by omega) h38 h124 htp (Or.inl h) g1
theorem rx_19bs (ih23 : rx_I23 P K cs ws nm c0 n v X') : rx_I19b P K cs ws nm c0 (n + 1) v X' := by
  intro j wt X y1 hy h g
  replace g := gxO_237_19 g
  unfold gxT_237_19 at g
  rw [if_neg (by decide)] at g
  exact ih23 j wt X y1 hy h g
theorem rx_23s (ih23 : rx_I23 P K cs ws nm c0 n v X') (ih128 : rx_I128 P K cs ws nm c0 n 128 v X') : rx_I23 P K cs ws nm c0 (n + 1) v X' := by
  intro j wt X y1 hy h g
  replace g := gxO_237_23 g
  unfold gxT_237_23 at g
  obtain ⟨hwf, hcn8, hW, hw, hnb18⟩ := rx_Z_wf h
  have hlen := rx_Z_l h
  obtain ⟨c, hG⟩ := rx_Z_tok h
  have e33 : ((Int8.ofInt 33).toInt32).toInt = 33 := rfl
  have e40 : ((Int8.ofInt 40).toInt32).toInt = 40 := rfl
  have hpc := md_po_cn (wt := wt)
  -- ! and (
  have op : ∀ (x : Int) (a : List Int) (y : Int32), (x = 33 ∨ x = 40) → (rp_T P).1 j = x → rx_Z P X j K cs ws nm c0 wt (md_nb wt) (x :: 170 :: a) → (∀ X5, rx_Z P X5 (j + 1) K cs ws nm c0 (x :: wt) (md_nb wt) a → rx_Z P X5 (j + 1) K cs ws nm c0 (x :: wt) (md_nb wt) (142 :: md_kl (x :: wt))) → (X.1 117 41).toInt ≠ 8 → y.toInt = (md_po (x :: wt) : Int) → ∀ {X1 X2 X3 : fx_X} {w : Int32} {X4 : fx_X}, X1 = fx_wI X 117 41 (X.1 117 41 + Int32.ofInt 1) → X2 = fx_wI X1 139 (X1.1 117 43).toInt.toNat (X1.1 117 29) → X3 = fx_wI X2 117 43 (X2.1 117 43 + Int32.ofInt 1) → gx_214 X3 w X4 → (if w.toInt = 0 then (v = (Int32.ofInt 0) ∧ X' = X4) else gxF_237 n 23 [y] [] [] X4 v X') → rx_Po P K cs ws nm c0 v X' := by
    intro x a y hx hT hZ hto h8 hyx X1 X2 X3 w X4 e1 e2 e3 r g1
    rcases rx_go (rx_Z_op hZ hx hT h8 (by omega) e1 e2 e3 r) g1 with e | ⟨hB | hZ2, g2⟩
    · exact Or.inl e
    · exact rx_Bl hB g2
    · have hnb : md_nb (x :: wt) = md_nb wt := by
        show (if x = 38 ∨ x = 124 then 1 else 0) + md_nb wt = _
        rw [if_neg (by omega), Nat.zero_add]
      have hZ3 := hto X4 hZ2
      rw [← hnb] at hZ3
      exact ih23 (j + 1) (x :: wt) X4 y hyx hZ3 g2
  obtain ⟨w15, X14, r1, g⟩ := g
  obtain ⟨e14, h15⟩ := rx_220 r1
  subst e14
  rw [e33] at h15
  rcases fy_ifd g with ⟨c1, g1⟩ | ⟨c1, g1⟩
  · have hT33 : (rp_T P).1 j ≠ 33 := fun z => by
      rcases h15 with y | y
      · omega
      · exact y.2 ((rx_sg_i hG (by decide)).mpr z)
    obtain ⟨w36, X35, r2, g1⟩ := g1
    obtain ⟨e35, h36⟩ := rx_220 r2
    subst e35
    rw [e40] at h36
    rcases fy_ifd g1 with ⟨c2, g2⟩ | ⟨c2, g2⟩
    · have hT40 : (rp_T P).1 j ≠ 40 := fun z => by
        rcases h36 with y | y
        · omega
        · exact y.2 ((rx_sg_i hG (by decide)).mpr z)
      obtain ⟨w39, X38, r3, g3⟩ := g2
      obtain ⟨near, c', w2, ⟨hG', hR⟩, ⟨hK, hkp⟩, -, ⟨hc1, hc2, hc3⟩, hc0, -⟩ := h
      obtain ⟨l, K1, hm, hR1⟩ := md_Rs_c hR
      have h1 := rx_238 (Q := True) (Or.inr ⟨hG', hR1, ⟨hT33, hT40⟩, hK, by omega, True.intro⟩) r3
      rcases rx_go h1 g3 with e | ⟨⟨j', n2, w3, h2⟩, g4⟩
      · exact Or.inl e
      · rcases h2 with hB | ⟨hG2, hR2, hK2, hkp2, -⟩
        · exact rx_Bl hB g4
        · have f := gf_238 r3
          refine ih128 j' wt X38 y1 hy ⟨n2, c', w3, ⟨hG2, K1, hm, hR2⟩, ⟨hK2, fun hb => ?_⟩, ⟨rx_W_fr hW (fy_ra f (by decide) (by decide)), by rw [f.2.2 117 43 (by decide) (by decide)]; exact hw⟩, ⟨by rw [f.2.2 117 41 (by decide) (by decide)]; exact hc1, hc2, hc3⟩, hc0, hwf⟩ (fun z => absurd z (by decide)) g4
          obtain ⟨z1, z2, z3⟩ := hkp2 hb
          obtain ⟨y1, y2, y3⟩ := hkp hb
          exact ⟨z1.trans y1, z2.trans y2, z3.trans y3⟩
    · have hT40 : (rp_T P).1 j = 40 := by
        rcases h36 with y | y
        · exact (rx_sg_i hG (by decide)).mp y.2
        · omega
      have hZ := rx_Z_r (r := [40, 170, 138, 41, 171]) h (by decide) (by rw [hT40]; rfl)
      rcases fy_ifd g2 with ⟨c3, g3⟩ | ⟨c3, g3⟩
      · obtain ⟨w58, X57, r3, e1, e2⟩ := g3
        subst e1
        subst e2
        exact Or.inl (rx_215 (rx_Z_8 (a := 138 :: 41 :: 171 :: md_kl wt) hZ (Or.inr rfl) c3) (by decide) r3)
      · obtain ⟨X42, e42, hl, X45, e45, X46, e46, g4⟩ := g3
        have hmk : (X46.1 117 29).toInt = 40 := by
          rw [e46, fx_rIk (by decide), e45, fx_rIn (by decide), e42, fx_rIk (by decide)]
          exact ((rx_sg_i hG (by decide)).mpr hT40).2
        rw [if_pos hmk] at g4
        obtain ⟨x52, e52, w55, X54, r3, g5⟩ := g4
        refine op 40 (138 :: 41 :: 171 :: md_kl wt) x52 (Or.inr rfl) hT40 hZ (fun X5 z => ?_) c3 ?_ e42 e45 e46 r3 g5
        · have z1 := rx_Z_r (s := 138) (r := [140, 139]) z (by decide) rfl
          exact rx_Z_r (s := 140) (r := [142, 141]) (a := 139 :: 41 :: 171 :: md_kl wt) z1 (by decide) rfl
        · have hpo : md_po (40 :: wt) = 1 + md_po wt := rfl
          rw [e52, cx_in1 hy (by omega), hpo]
          omega
  · have hT33 : (rp_T P).1 j = 33 := by
      rcases h15 with y | y
      · exact (rx_sg_i hG (by decide)).mp y.2
      · omega
    have hZ := rx_Z_r (r := [33, 170, 142, 171, 205]) h (by decide) (by rw [hT33]; rfl)
    rcases fy_ifd g1 with ⟨c3, g3⟩ | ⟨c3, g3⟩
    · obtain ⟨w58, X57, r3, e1, e2⟩ := g3
      subst e1
      subst e2
      exact Or.inl (rx_215 (rx_Z_8 (a := 142 :: 171 :: 205 :: md_kl wt) hZ (Or.inl rfl) c3) (by decide) r3)
    · obtain ⟨X42, e42, hl, X45, e45, X46, e46, g4⟩ := g3
      have hmk : ¬ (X46.1 117 29).toInt = 40 := by
        rw [e46, fx_rIk (by decide), e45, fx_rIn (by decide), e42, fx_rIk (by decide), ((rx_sg_i hG (by decide)).mpr hT33).2]
        decide
      rw [if_neg hmk] at g4
      obtain ⟨w55, X54, r3, g5⟩ := g4
      refine op 33 (142 :: 171 :: 205 :: md_kl wt) y1 (Or.inl rfl) hT33 hZ (fun X5 z => z) c3 ?_ e42 e45 e46 r3 g5
      have hpo : md_po (33 :: wt) = 0 + md_po wt := rfl
      omega
theorem rx_237l : ∀ n : Nat, rx_I19 P K cs ws nm c0 n v X' ∧ rx_I19b P K cs ws nm c0 n v X' ∧ rx_I23 P K cs ws nm c0 n v X' ∧ rx_I128 P K cs ws nm c0 n 128 v X' ∧ rx_I128 P K cs ws nm c0 n 144 v X' ∧ rx_I157 P K cs ws nm c0 n v X' ∧ rx_I128 P K cs ws nm c0 n 205 v X' ∧ rx_I249 P K cs ws nm c0 n v X' ∧ rx_I329 P K cs ws nm c0 n v X' := by
  intro n
  induction n with
  | zero => exact ⟨fun _ _ _ _ _ _ _ _ _ _ g => g.elim, fun _ _ _ _ _ _ g => g.elim, fun _ _ _ _ _ _ g => g.elim, fun _ _ _ _ _ _ _ g => g.elim, fun _ _ _ _ _ _ _ g => g.elim, fun _ _ _ _ _ _ _ _ _ g => g.elim, fun _ _ _ _ _ _ _ g => g.elim, fun _ _ _ _ _ _ _ _ g => g.elim, fun _ _ _ _ _ _ _ _ g => g.elim⟩
  | succ n ih =>
    obtain ⟨i19, i19b, i23, i128, i144, i157, i205, i249, i329⟩ := ih
    exact ⟨rx_19s i329, rx_19bs i23, rx_23s i23 i128, rx_128s i128 i144 (Or.inl rfl), rx_144s i157 i19 i249, rx_157s i157 i205, rx_128s i205 i144 (Or.inr rfl), rx_249s i249 i19b, rx_329s i329⟩
/-- a COND -/
theorem rx_237 {j : Nat} {X : fx_X} {Q : Prop} (h : rx_B P X ∨ (rx_G P X j c ∧ md_R P ((138, l) :: K) j near c nm (cs, ws) ∧ rx_U P X cs.1 ∧ rx_V P X cs.1 ∧ (rp_b P = true → md_tr ws = []) ∧ (c 14).toInt = 0 ∧ Q)) (g : gx_237 X v X') : rx_X P v X' ∨ (v = Int32.ofInt 1 ∧ (rx_B P X' ∨ ∃ j' near' c' w2, rx_G P X' j' c' ∧ md_R P K j' near' c' nm (cs, w2) ∧ rx_K P X' cs w2 1 ∧ (rp_b P = true → md_kp ws w2) ∧ (∀ k, k ≠ 14 → c' k = c k) ∧ (c' 14).toInt = 0 ∧ Q)) := by
  rcases h with h | ⟨hG, hR, hU, hV, htr, hc, hQ⟩
  · exact rx_BX (gb_237 h g) (gv_237 g) Or.inl
  obtain ⟨n, X2, e2, X3, e3, X4, e4, g⟩ := g
  have f4 : fy [(117, 41), (117, 43), (117, 44)] [] [] X X4 := by rw [e4, e3, e2]; exact fy_f (fy_f (fy_f fy_rf (by decide)) (by decide)) (by decide)
  have hR1 := md_R_r (r := [140, 139]) hR (by decide) (by decide) (by decide) rfl
  have hR2 := md_R_r (r := [142, 141]) (K := (139, j) :: K) hR1 (by decide) (by decide) (by decide) rfl
  have hZ : rx_Z P X4 j K cs ws nm c [] 0 (142 :: md_kl []) := by
    refine ⟨near, c, ws, ⟨rx_G_fr hG f4 (by decide) (by decide), [(142, j), (141, j), (139, j)], rfl, hR2⟩, ⟨⟨rx_U_fr hU f4 (by decide) (by decide), rx_V_fr hV f4 (by decide) (by decide), ⟨?_, by omega⟩, fun hb => ?_⟩, fun _ => ⟨rfl, rfl, rfl⟩⟩, ⟨True.intro, ?_⟩, ⟨?_, hc, by decide⟩, fun _ _ => rfl, True.intro⟩
    · rw [e4, fx_rIk (by decide), e3, fx_rIe]; rfl
    · rw [htr hb]; exact ⟨rfl, True.intro⟩
    · rw [e4, fx_rIk (by decide), e3, fx_rIk (by decide), e2, fx_rIe]; rfl
    · rw [e4, fx_rIe]; rfl
  have key := (rx_237l (P := P) (K := K) (cs := cs) (ws := ws) (nm := nm) (c0 := c) (v := v) (X' := X') n).2.1 j [] X4 _ rfl hZ g
  rcases key with e | ⟨hv, hB | ⟨j', near', c', w2, z1, z2, z3, z4, z5, z6⟩⟩
  · exact Or.inl e
  · exact Or.inr ⟨hv, Or.inl hB⟩
  · exact Or.inr ⟨hv, Or.inr ⟨j', near', c', w2, z1, z2, z3, z4, z5, z6, hQ⟩⟩
end DD11
