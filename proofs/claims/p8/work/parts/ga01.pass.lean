/-! A TOKEN MORE: pass (printed by wip/p2/ref/r01.py) -/
section ARA1
variable {tb : aj_T} {s : List Nat} {h : aj_H} {S S' S1 : aj_S} {d n : Nat} {g g' : aw_gh} {F A : List Nat}
theorem aw_fr_tT (fr : aw_fr F A S S') (h1 : 23 ∉ F) (h2 : 21 ∉ A) : aw_tT S' = aw_tT S := by
  unfold aw_tT aw_tF aw_tN
  rw [(fr.1 23 h1).1, (fr.2 21 h2).1]
theorem aw_ul_h {T : aw_Ts} {a b : Nat} : ∀ {n : Nat}, (∀ j, j < n → 1 ≤ j → (j ≠ a ↔ j ≠ b)) → aw_ul T a n = aw_ul T b n := by
  intro n
  induction n with
  | zero => intro _; rfl
  | succ n ih =>
    intro hh
    have e := ih (fun j hj => hh j (by omega))
    unfold aw_ul
    by_cases h1 : 1 ≤ n
    · have e2 := hh n (by omega) h1
      by_cases h3 : aw_is T n 4 0
      · by_cases h4 : n ≠ a
        · rw [if_pos ⟨h3, h4, h1⟩, if_pos ⟨h3, e2.mp h4, h1⟩, e]
        · rw [if_neg (fun z => h4 z.2.1), if_neg (fun z => h4 (e2.mpr z.2.1)), e]
      · rw [if_neg (fun z => h3 z.1), if_neg (fun z => h3 z.1), e]
    · rw [if_neg (fun z => h1 z.2.2), if_neg (fun z => h1 z.2.2), e]
theorem aw_tl_h {T : aw_Ts} {a b : Nat} : ∀ {n : Nat}, (∀ j, j < n → 1 ≤ j → (j ≠ a ↔ j ≠ b)) → aw_tl T a n = aw_tl T b n := by
  intro n
  induction n with
  | zero => intro _; rfl
  | succ n ih =>
    intro hh
    have e := ih (fun j hj => hh j (by omega))
    unfold aw_tl
    by_cases h1 : 1 ≤ n
    · have e2 := hh n (by omega) h1
      by_cases h3 : aw_is T n 4 1 ∨ aw_is T n 4 5
      · by_cases h4 : n ≠ a
        · rw [if_pos ⟨h3, h4, h1⟩, if_pos ⟨h3, e2.mp h4, h1⟩, e]
        · rw [if_neg (fun z => h4 z.2.1), if_neg (fun z => h4 (e2.mpr z.2.1)), e]
      · rw [if_neg (fun z => h3 z.1), if_neg (fun z => h3 z.1), e]
    · rw [if_neg (fun z => h1 z.2.2), if_neg (fun z => h1 z.2.2), e]
/-- a hole goes on, or begins here -/
def aw_hol (J a a' : Nat) (sp : Prop) : Prop := (a' = a ∧ ¬ sp) ∨ (a = 0 ∧ a' = J ∧ sp)
theorem aw_ul_s {T : aw_Ts} {J a a' : Nat} (hJ : 1 ≤ J) (hh : aw_hol J a a' (aw_is T J 4 0)) : aw_ul T a' (J + 1) = aw_ul T a J := by
  rcases hh with ⟨rfl, h1⟩ | ⟨rfl, rfl, h1⟩
  · conv => lhs; unfold aw_ul
    rw [if_neg (fun z => h1 z.1)]
  · conv => lhs; unfold aw_ul
    rw [if_neg (fun z => z.2.1 rfl)]
    exact aw_ul_h (fun j hj h2 => ⟨fun _ => by omega, fun _ => by omega⟩)
theorem aw_tl_s {T : aw_Ts} {J a a' : Nat} (hJ : 1 ≤ J) (hh : aw_hol J a a' (aw_is T J 4 1 ∨ aw_is T J 4 5)) : aw_tl T a' (J + 1) = aw_tl T a J := by
  rcases hh with ⟨rfl, h1⟩ | ⟨rfl, rfl, h1⟩
  · conv => lhs; unfold aw_tl
    rw [if_neg (fun z => h1 z.1)]
  · conv => lhs; unfold aw_tl
    rw [if_neg (fun z => z.2.1 rfl)]
    exact aw_tl_h (fun j hj h2 => ⟨fun _ => by omega, fun _ => by omega⟩)
theorem aw_G_pass {nm : Int64 → Prop} {fl : Bool} {la ho hu ht ho' hu' ht' : Nat} (hG : aw_G (nm, fl, la, ho, hu, ht) S) (fr : aw_fr [26, 27, 28, 29, 30] [] S S') (hJ : (S'.1 30).toInt = (S.1 30).toInt + 1) (hA : aw_GA S') (k0 : (S.1 26).toInt ≠ 0) (h1 : (ho = 0 ∨ ho' = ho) ∧ (ho' = aw_tJ S ∨ (¬ aw_is (aw_tT S) (aw_tJ S) 3 63 ∧ ¬ aw_is (aw_tT S) (aw_tJ S) 4 2))) (h2 : aw_hol (aw_tJ S) hu hu' (aw_is (aw_tT S) (aw_tJ S) 4 0)) (h3 : aw_hol (aw_tJ S) ht ht' (aw_is (aw_tT S) (aw_tJ S) 4 1 ∨ aw_is (aw_tT S) (aw_tJ S) 4 5)) : aw_G (nm, fl, la, ho', hu', ht') S' := by
  obtain ⟨GA, GB, GC, GD, GE⟩ := hG
  have eT := aw_fr_tT fr (by decide) (by decide)
  have eF : aw_tF S' = aw_tF S := (fr.2 21 (by decide)).1
  have f0 := (fr.1 0 (by decide)).1
  have f24 := (fr.1 24 (by decide)).1
  have f32 := (fr.1 32 (by decide)).1
  have f37 := (fr.1 37 (by decide)).1
  have f45 := (fr.1 45 (by decide)).1
  have aa : ∀ k, S'.2.2.1 k = S.2.2.1 k := fun k => (fr.2 k (by simp)).1
  have ab : ∀ k, S'.2.2.2 k = S.2.2.2 k := fun k => (fr.2 k (by simp)).2
  have hJ1 := GA.1
  have eJ : aw_tJ S' = aw_tJ S + 1 := by
    unfold aw_tJ at hJ1 ⊢
    omega
  have tk := GA.2.1
  have ul := aw_ul_s hJ1 h2
  have tl := aw_tl_s hJ1 h3
  have old : ∀ q, 1 ≤ q → q < aw_tJ S + 1 → q ≠ ho' → (q < aw_tJ S ∧ q ≠ ho) ∨ (¬ aw_is (aw_tT S) q 3 63 ∧ ¬ aw_is (aw_tT S) q 4 2) := by
    intro q q1 q2 q3
    by_cases qJ : q = aw_tJ S
    · subst qJ
      rcases h1.2 with z | z
      · exact absurd z.symm q3
      · exact Or.inr z
    · refine Or.inl ⟨by omega, ?_⟩
      rcases h1.1 with z | z
      · rw [z]
        omega
      · rw [← z]
        exact q3
  refine ⟨hA, ?_, ?_, ?_, ?_⟩
  · intro w0
    rw [f32] at w0
    rcases GB w0 with z | ⟨z1, z2⟩
    · exact Or.inl (by rw [f24]; exact z)
    · refine Or.inr ⟨fun q q1 q2 q3 => ?_, fun hf => ?_⟩
      · rw [eJ] at q2
        rw [eT, eF]
        rcases old q q1 q2 q3 with ⟨q4, q5⟩ | ⟨q4, q5⟩
        · exact z1 q q1 q4 q5
        · exact ⟨fun z => absurd z q4, fun z => absurd z q5⟩
      · show aw_nc ((aw_ul (aw_tT S') hu' (aw_tJ S')).map (aw_vm (aw_tF S') (aw_tT S'))) 1
        rw [eT, eF, eJ, ul]
        exact z2 hf
  · intro w1
    rw [f32] at w1
    obtain ⟨z1, z2, z3, z4⟩ := GC w1
    refine ⟨?_, ?_, ?_, ?_⟩
    · show aw_tJ S' ≤ la
      rw [eJ]
      have z1 : aw_tJ S ≤ la := z1
      have : aw_tJ S ≠ la := by
        intro z
        refine k0 ?_
        rw [tk.1, z]
        exact z2
      omega
    · show ((aw_tT S') la).1 = 0
      rw [eT]
      exact z2
    · rw [eT, eF]
      exact z3
    · intro hf
      rw [eT, eF]
      exact z4 hf
  · obtain ⟨d1, d2, d3, d4⟩ := GD
    have eh : aw_h S' = aw_h S := by
      unfold aw_h
      rw [f37]
    refine ⟨fun hf v => ?_, fun hf => ?_, fun hz => ?_, fun hz => ?_⟩
    · rw [eh, aa, ab]
      exact d1 hf v
    · show ((S'.2.2.1 1 (aw_h S')).toInt = (aw_ul (aw_tT S') hu' (aw_tJ S')).length ∧ (∀ (u i : Nat), (aw_ul (aw_tT S') hu' (aw_tJ S'))[u]? = some i → S'.2.2.2 2 (aw_h S' * 8 + u) = aw_nm (aw_tF S') (aw_tT S') (i + 1) ∧ (S'.2.2.1 3 (aw_h S' * 8 + u)).toInt = aw_vm (aw_tF S') (aw_tT S') i) ∧ (S'.2.2.1 5 (aw_h S')).toInt = aw_wc ((aw_ul (aw_tT S') hu' (aw_tJ S')).map (aw_vm (aw_tF S') (aw_tT S')))) ∧ ((S'.2.2.1 7 (aw_h S')).toInt = (aw_tl (aw_tT S') ht' (aw_tJ S')).length ∧ ∀ (u i : Nat), (aw_tl (aw_tT S') ht' (aw_tJ S'))[u]? = some i → S'.2.2.2 8 (aw_h S' * 10 + u) = aw_nm (aw_tF S') (aw_tT S') (i + 1))
      rw [eh, eT, eF, eJ, ul, tl, aa, aa, aa, aa, ab, ab]
      exact d2 hf
    · show aw_is (aw_tT S') hu' 4 0 ∧ hu' < aw_tJ S' ∧ ∀ i, hu' < i → i < aw_tJ S' → ¬ aw_is (aw_tT S') i 4 0
      have hz : hu' ≠ 0 := hz
      rw [eT, eJ]
      rcases h2 with ⟨rfl, z1⟩ | ⟨z0, rfl, z1⟩
      · obtain ⟨y1, y2, y3⟩ := d3 hz
        have y2 : hu' < aw_tJ S := y2
        refine ⟨y1, by omega, fun i i1 i2 => ?_⟩
        by_cases e : i = aw_tJ S
        · rw [e]
          exact z1
        · exact y3 i i1 (by omega)
      · exact ⟨z1, by omega, fun i i1 i2 => by omega⟩
    · show (aw_is (aw_tT S') ht' 4 1 ∨ aw_is (aw_tT S') ht' 4 5) ∧ ht' < aw_tJ S' ∧ ∀ i, ht' < i → i < aw_tJ S' → ¬ aw_is (aw_tT S') i 4 1 ∧ ¬ aw_is (aw_tT S') i 4 5
      have hz : ht' ≠ 0 := hz
      rw [eT, eJ]
      rcases h3 with ⟨rfl, z1⟩ | ⟨z0, rfl, z1⟩
      · obtain ⟨y1, y2, y3⟩ := d4 hz
        have y2 : ht' < aw_tJ S := y2
        refine ⟨y1, by omega, fun i i1 i2 => ?_⟩
        by_cases e : i = aw_tJ S
        · rw [e]
          exact ⟨fun z => z1 (Or.inl z), fun z => z1 (Or.inr z)⟩
        · exact y3 i i1 (by omega)
      · exact ⟨z1, by omega, fun i i1 i2 => by omega⟩
  · unfold aw_GE aw_hold aw_held aw_h aw_hh at GE ⊢
    rw [f0, f32, f37, f45, aa 5, aa 10, aa 11, aa 12, aa 17, aa 18]
    exact GE
/-- what a stop leaves -/
theorem aw_G_stop (hG : aw_G g S) (fr : aw_fr [24, 25, 31] [] S S') (h24 : (S'.1 24).toInt ≠ 0) : aw_G g S' := by
  obtain ⟨GA, GB, GC, GD, GE⟩ := hG
  have eT := aw_fr_tT fr (by decide) (by decide)
  have f : ∀ k, k ∉ [24, 25, 31] → S'.1 k = S.1 k := fun k hk => (fr.1 k hk).1
  have aa : ∀ k, S'.2.2.1 k = S.2.2.1 k := fun k => (fr.2 k (by simp)).1
  have ab : ∀ k, S'.2.2.2 k = S.2.2.2 k := fun k => (fr.2 k (by simp)).2
  refine ⟨?_, fun _ => Or.inl h24, ?_, ?_, ?_⟩
  · unfold aw_GA aw_tok aw_tT aw_tJ aw_tN aw_tF at GA ⊢
    rw [f 23 (by decide), f 26 (by decide), f 27 (by decide), f 28 (by decide), f 29 (by decide), f 30 (by decide), aa 21]
    exact GA
  · unfold aw_GC aw_tT aw_tJ aw_tN aw_tF at GC ⊢
    rw [f 23 (by decide), f 30 (by decide), f 32 (by decide), aa 21]
    exact GC
  · unfold aw_GD aw_tT aw_tJ aw_tN aw_tF aw_h at GD ⊢
    rw [f 23 (by decide), f 30 (by decide), f 37 (by decide), aa 21, aa 1, aa 3, aa 5, aa 7, ab 2, ab 8]
    exact GD
  · unfold aw_GE aw_hold aw_held aw_h aw_hh at GE ⊢
    rw [f 0 (by decide), f 32 (by decide), f 37 (by decide), f 45 (by decide), aa 5, aa 10, aa 11, aa 12, aa 17, aa 18]
    exact GE
theorem aw_G_tell (hG : aw_G g S) (fr : aw_fr [24, 25] [] S S') (h0 : (S.1 32).toInt = 0 → (S'.1 24).toInt ≠ 0) : aw_G g S' := by
  obtain ⟨GA, GB, GC, GD, GE⟩ := hG
  have f : ∀ k, k ∉ [24, 25] → S'.1 k = S.1 k := fun k hk => (fr.1 k hk).1
  have aa : ∀ k, S'.2.2.1 k = S.2.2.1 k := fun k => (fr.2 k (by simp)).1
  have ab : ∀ k, S'.2.2.2 k = S.2.2.2 k := fun k => (fr.2 k (by simp)).2
  refine ⟨?_, fun w0 => Or.inl (h0 (by rw [f 32 (by decide)] at w0; exact w0)), ?_, ?_, ?_⟩
  · unfold aw_GA aw_tok aw_tT aw_tJ aw_tN aw_tF at GA ⊢
    rw [f 23 (by decide), f 26 (by decide), f 27 (by decide), f 28 (by decide), f 29 (by decide), f 30 (by decide), aa 21]
    exact GA
  · unfold aw_GC aw_tT aw_tJ aw_tN aw_tF at GC ⊢
    rw [f 23 (by decide), f 30 (by decide), f 32 (by decide), aa 21]
    exact GC
  · unfold aw_GD aw_tT aw_tJ aw_tN aw_tF aw_h at GD ⊢
    rw [f 23 (by decide), f 30 (by decide), f 37 (by decide), aa 21, aa 1, aa 3, aa 5, aa 7, ab 2, ab 8]
    exact GD
  · unfold aw_GE aw_hold aw_held aw_h aw_hh at GE ⊢
    rw [f 0 (by decide), f 32 (by decide), f 37 (by decide), f 45 (by decide), aa 5, aa 10, aa 11, aa 12, aa 17, aa 18]
    exact GE
theorem aw_GA_next (hA : aw_GA S) (fr : aw_fr [26, 27, 28, 29, 30] [] S S') (hJ : (S'.1 30).toInt = (S.1 30).toInt + 1) {kd m : Int} {b e : Nat} (hR : aw_R (S.2.2.1 21) (aw_tN S) ((aw_tT S) (aw_tJ S)).2.2.1 kd b e m) (ht : aw_tok S' kd b e m) : aw_GA S' := by
  have eT := aw_fr_tT fr (by decide) (by decide)
  have hJ1 := hA.1
  have eJ : aw_tJ S' = aw_tJ S + 1 := by
    unfold aw_tJ at hJ1 ⊢
    omega
  have eN : aw_tN S' = aw_tN S := by
    unfold aw_tN
    rw [(fr.1 23 (by decide)).1]
  have hR : aw_R (aw_tF S) (aw_tN S) ((aw_tT S) (aw_tJ S)).2.2.1 kd b e m := hR
  have e1 : (aw_tT S) (aw_tJ S + 1) = (kd, b, e, m) := aw_tokF_eq hR
  have hb := aw_R_b hR hA.2.2
  unfold aw_GA
  rw [eT, eJ, eN, e1]
  exact ⟨by omega, ht, hb.2.2.1⟩
theorem ar_passR (hU : aw_U tb s h) (hT : ak_Ty ak_TN s (aj_mh h S)) (hA : aw_GA S) (hd : 4 ≤ d) : aw_K tb h d 214 [.ref 117] S (ar_QB s h [24, 25, 26, 27, 28, 29, 30, 31] [] S (fun S' => aw_fr [24, 25, 31] [] S S' ∧ (S'.1 24).toInt = 2) (fun S' => aw_fr [26, 27, 28, 29, 30] [] S S' ∧ (S'.1 30).toInt = (S.1 30).toInt + 1 ∧ aw_GA S')) := by
  obtain ⟨d, rfl⟩ : ∃ e, d = e + 1 := ⟨d - 1, by omega⟩
  have b23 := aw_bd_f (aw_hy_sT hU.2.2) hT (k := 23) (lo := 0) (hi := 4000) (by decide) rfl
  have hs : aw_sT s := aw_hy_sT hU.2.2
  refine aw_m aj_m214_at rfl (Nat.le_of_ble_eq_true rfl) ?_
  show aw_W _ _ _ _ 0 [(0, .ref 117)] [] _ _
  obtain ⟨lv1, elv1⟩ : ∃ l : aj_V, l = [(0, .ref 117)] := ⟨_, rfl⟩
  rw [← elv1]
  have hlv1_0 : aj_lv lv1 0 = some (.ref 117) := by rw [elv1]; rfl
  have hI2 : aw_I s h (aw_sm S) S := ⟨hT, aw_sm_rf⟩
  have fr3 : aw_fr [24, 25, 26, 27, 28, 29, 30, 31] [] S S := aw_fr_rf
  refine aw_l2 aj_d214 rfl rfl hlv1_0 ?_
  have b4 : 0 ≤ (S.1 30).toInt ∧ (S.1 30).toInt ≤ 1001 := aw_bd_f hs (hI2).1 (by decide) rfl
  refine aw_g hU.1 aj_d214 rfl rfl (by decide) (v := .int (S.1 30)) rfl ?_
  refine aw_n aj_d214 rfl rfl ?_
  refine aw_c (tgt := 20) aj_d214 rfl rfl (fun q5 => ?_) (fun q5 => ?_)
  · have q5 : (S.1 30).toInt ≤ (1000 : Int) := aw_t_le (a := (S.1 30).toInt) (b := (1000 : Int)) rfl rfl q5
    refine aw_l2 aj_d214 rfl rfl hlv1_0 ?_
    refine aw_n aj_d214 rfl rfl ?_
    refine aw_g hU.1 aj_d214 rfl rfl (by decide) (v := .int (S.1 30)) rfl ?_
    refine aw_n aj_d214 rfl rfl ?_
    refine aw_add aj_d214 rfl (a := (S.1 30).toInt) (b := (1 : Int)) rfl rfl (by omega) (by omega) (fun x6 ex6 => ?_)
    refine aw_p hU.1 aj_d214 rfl rfl (by decide) rfl ?_
    have hI7 : aw_I s h (aw_sm (aw_wf S 30 x6)) (aw_wf S 30 x6) := ⟨aw_T_f hU.2.1 hs hU.1.1 (hI2).1 (by decide) rfl (aw_bp (a := x6.toInt) rfl (by omega) (by omega)), aw_sm_rf⟩
    have fr8 := aw_fr_f (k := 30) (v := x6) (by decide) fr3
    refine aw_l2 aj_d214 rfl rfl hlv1_0 ?_
    refine aw_k hU.1 aj_d214 rfl rfl [] rfl rfl rfl (Nat.le_of_ble_eq_true rfl) (aw_nextK (aw_UV hU (fun _ _ _ q => q)) ⟨(hI7).1, trivial⟩ (n := aw_tN S) (by show (S.1 23).toInt = _; unfold aw_tN; omega) (e0 := ((aw_tT S) (aw_tJ S)).2.2.1) hA.2.1.2.2.1 hA.2.2 (by omega)) ?_
    rintro r9 S9 ⟨rfl, kd, b, e, m, hR, htk, ⟨fa, fb⟩, hT9⟩
    have fc9 : aw_fr [26, 27, 28, 29, 30] [] S S9 := ⟨fun j hj => ⟨(fb j (by simp at hj; omega) (by simp at hj; omega) (by simp at hj; omega) (by simp at hj; omega)).trans (if_neg (by simp at hj; omega)), congrFun (congrArg Prod.fst fa) j⟩, fun j _ => ⟨congrFun (congrArg (fun x => x.2.1) fa) j, congrFun (congrArg (fun x => x.2.2) fa) j⟩⟩
    have hJ9 : (S9.1 30).toInt = (S.1 30).toInt + 1 := (congrArg Int32.toInt (fb 30 (by decide) (by decide) (by decide) (by decide))).trans (by show (x6).toInt = _; omega)
    have hA9 : aw_GA S9 := aw_GA_next hA fc9 hJ9 hR htk
    show aw_W _ _ _ _ 34 lv1 [] _ _
    refine aw_n aj_d214 rfl rfl ?_
    refine aw_e aj_d214 rfl rfl ?_
    exact ⟨hT9, aw_fr_sub (by decide) (by decide) fc9, Or.inr ⟨_, rfl, rfl, fc9, hJ9, hA9⟩⟩
  · have q5 : (S.1 30).toInt > (1000 : Int) := aw_t_le (a := (S.1 30).toInt) (b := (1000 : Int)) rfl rfl q5
    refine aw_l2 aj_d214 rfl rfl hlv1_0 ?_
    refine aw_n aj_d214 rfl rfl ?_
    refine aw_l2 aj_d214 rfl rfl hlv1_0 ?_
    have b10 : 0 ≤ (S.1 27).toInt ∧ (S.1 27).toInt ≤ 4000 := aw_bd_f hs (hI2).1 (by decide) rfl
    refine aw_g hU.1 aj_d214 rfl rfl (by decide) (v := .int (S.1 27)) rfl ?_
    refine aw_k hU.1 aj_d214 rfl rfl [_, _] rfl rfl rfl (Nat.le_of_ble_eq_true rfl) (ar_stop hU (hI2).1 (by omega) (a := (2 : Int)) rfl) ?_
    rintro _ S11 ⟨hT11, fc11, rfl, hs11⟩
    show aw_W _ _ _ _ 19 lv1 [.int (Int32.ofInt 0)] _ _
    refine aw_e aj_d214 rfl rfl ?_
    exact ⟨hT11, aw_fr_sub (by decide) (by decide) fc11, Or.inl ⟨_, rfl, rfl, fc11, hs11⟩⟩
/-- pass, the ghosts going on -/
theorem ar_passG {nm : Int64 → Prop} {fl : Bool} {la ho hu ht ho' hu' ht' : Nat} (hU : aw_U tb s h) (hT : ak_Ty ak_TN s (aj_mh h S)) (hG : aw_G (nm, fl, la, ho, hu, ht) S) (hd : 4 ≤ d) (k0 : (S.1 26).toInt ≠ 0) (h1 : (ho = 0 ∨ ho' = ho) ∧ (ho' = aw_tJ S ∨ (¬ aw_is (aw_tT S) (aw_tJ S) 3 63 ∧ ¬ aw_is (aw_tT S) (aw_tJ S) 4 2))) (h2 : aw_hol (aw_tJ S) hu hu' (aw_is (aw_tT S) (aw_tJ S) 4 0)) (h3 : aw_hol (aw_tJ S) ht ht' (aw_is (aw_tT S) (aw_tJ S) 4 1 ∨ aw_is (aw_tT S) (aw_tJ S) 4 5)) : aw_K tb h d 214 [.ref 117] S (ar_QB s h [24, 25, 26, 27, 28, 29, 30, 31] [] S (fun S' => aw_G (nm, fl, la, ho, hu, ht) S' ∧ aw_fr [24, 25, 31] [] S S' ∧ (S'.1 24).toInt ≠ 0) (fun S' => aw_G (nm, fl, la, ho', hu', ht') S' ∧ aw_fr [26, 27, 28, 29, 30] [] S S' ∧ (S'.1 30).toInt = (S.1 30).toInt + 1)) := by
  refine aw_mono ?_ (ar_passR hU hT hG.1 hd)
  rintro r S' ⟨k1, k2, ⟨b, rfl, hb, k3, k4⟩ | ⟨b, rfl, hb, k3, k4, k5⟩⟩
  · exact ⟨k1, k2, Or.inl ⟨b, rfl, hb, aw_G_stop hG k3 (by omega), k3, by omega⟩⟩
  · exact ⟨k1, k2, Or.inr ⟨b, rfl, hb, aw_G_pass hG k3 k4 k5 k0 h1 h2 h3, k3, k4⟩⟩
/-- pass over a token that tells nothing -/
theorem ar_pass (hU : aw_U tb s h) (hT : ak_Ty ak_TN s (aj_mh h S)) (hG : aw_G g S) (hd : 4 ≤ d) (k0 : (S.1 26).toInt ≠ 0) (k3 : ¬ ((S.1 26).toInt = 3 ∧ (S.1 29).toInt = 63)) (k4 : (S.1 26).toInt = 4 → (S.1 29).toInt = 3 ∨ 6 ≤ (S.1 29).toInt) : aw_K tb h d 214 [.ref 117] S (ar_QB s h [24, 25, 26, 27, 28, 29, 30, 31] [] S (fun S' => aw_G g S' ∧ aw_fr [24, 25, 31] [] S S' ∧ (S'.1 24).toInt ≠ 0) (fun S' => aw_G g S' ∧ (S.1 30).toInt + 1 ≤ (S'.1 30).toInt ∧ aw_fr [26, 27, 28, 29, 30] [] S S' ∧ (S'.1 30).toInt = (S.1 30).toInt + 1)) := by
  obtain ⟨nm, fl, la, ho, hu, ht⟩ := g
  have tk := hG.1.2.1
  have ni : ∀ a b : Int, ((S.1 26).toInt = a → (S.1 29).toInt ≠ b) → ¬ aw_is (aw_tT S) (aw_tJ S) a b := fun a b hh z => hh (tk.1.trans z.1) (tk.2.2.2.trans z.2)
  refine aw_mono ?_ (ar_passG (ho' := ho) (hu' := hu) (ht' := ht) hU hT hG hd k0 ⟨Or.inr rfl, Or.inr ⟨ni 3 63 (fun a b => k3 ⟨a, b⟩), ni 4 2 (fun a b => by have := k4 a; omega)⟩⟩ (Or.inl ⟨rfl, ni 4 0 (fun a b => by have := k4 a; omega)⟩) (Or.inl ⟨rfl, fun z => z.elim (ni 4 1 (fun a b => by have := k4 a; omega)) (ni 4 5 (fun a b => by have := k4 a; omega))⟩))
  rintro r S' ⟨k1, k2, ⟨b, rfl, hb, p1, p2⟩ | ⟨b, rfl, hb, p1, p2, p3⟩⟩
  · exact ⟨k1, k2, Or.inl ⟨b, rfl, hb, p1, p2⟩⟩
  · exact ⟨k1, k2, Or.inr ⟨b, rfl, hb, p1, by omega, p2, p3⟩⟩
theorem arc_214a (hU : aw_U tb s h) : ak_CT ak_TR (aw_SP s h (aw_G g)) aw_kap tb 4 ac_c214a := by
  refine ar_ofB (F := [24, 25, 26, 27, 28, 29, 30, 31]) (A := []) hU aw_Gs_G rfl ⟨rfl, rfl, rfl, (by decide), rfl, rfl, rfl⟩ ⟨by decide, fun _ z => nomatch z⟩ (fun d hd S as hI hA hQ => ?_)
  obtain ⟨v0, as, rfl, g0, hA⟩ := cw_gAc hA
  cases cw_gAn hA
  obtain rfl := aw_117 hU.2.2 g0
  have q26 := aw_gQ_to hU hQ (e := (26, (1, 2))) (by decide) (by decide)
  dsimp only at q26
  refine aw_mono ?_ (ar_pass hU hI.1 hI.2 hd (by omega) (by omega) (by omega))
  rintro r S' ⟨k1, k2, ⟨b, rfl, hb, p1, pf, -⟩ | ⟨b, rfl, hb, p1, p2, p3, p4⟩⟩
  · exact ⟨k1, k2, Or.inl ⟨b, rfl, hb, p1, Int.le_of_eq (congrArg Int32.toInt (pf.1 30 (by decide)).1).symm⟩⟩
  · exact ⟨k1, k2, Or.inr ⟨b, rfl, hb, p1, p2⟩⟩
theorem arc_214b (hU : aw_U tb s h) : ak_CT ak_TR (aw_SP s h (aw_G g)) aw_kap tb 4 ac_c214b := by
  refine ar_ofB (F := [24, 25, 26, 27, 28, 29, 30, 31]) (A := []) hU aw_Gs_G rfl ⟨rfl, rfl, rfl, (by decide), rfl, rfl, rfl⟩ ⟨by decide, fun _ z => nomatch z⟩ (fun d hd S as hI hA hQ => ?_)
  obtain ⟨v0, as, rfl, g0, hA⟩ := cw_gAc hA
  cases cw_gAn hA
  obtain rfl := aw_117 hU.2.2 g0
  have q26 := aw_gQ_to hU hQ (e := (26, (3, 3))) (by decide) (by decide)
  have q29 := aw_gQ_to hU hQ (e := (29, (0, 62))) (by decide) (by decide)
  dsimp only at q26 q29
  refine aw_mono ?_ (ar_pass hU hI.1 hI.2 hd (by omega) (by omega) (by omega))
  rintro r S' ⟨k1, k2, ⟨b, rfl, hb, p1, pf, -⟩ | ⟨b, rfl, hb, p1, p2, p3, p4⟩⟩
  · exact ⟨k1, k2, Or.inl ⟨b, rfl, hb, p1, Int.le_of_eq (congrArg Int32.toInt (pf.1 30 (by decide)).1).symm⟩⟩
  · exact ⟨k1, k2, Or.inr ⟨b, rfl, hb, p1, p2⟩⟩
theorem arc_214c (hU : aw_U tb s h) : ak_CT ak_TR (aw_SP s h (aw_G g)) aw_kap tb 4 ac_c214c := by
  refine ar_ofB (F := [24, 25, 26, 27, 28, 29, 30, 31]) (A := []) hU aw_Gs_G rfl ⟨rfl, rfl, rfl, (by decide), rfl, rfl, rfl⟩ ⟨by decide, fun _ z => nomatch z⟩ (fun d hd S as hI hA hQ => ?_)
  obtain ⟨v0, as, rfl, g0, hA⟩ := cw_gAc hA
  cases cw_gAn hA
  obtain rfl := aw_117 hU.2.2 g0
  have q26 := aw_gQ_to hU hQ (e := (26, (3, 3))) (by decide) (by decide)
  have q29 := aw_gQ_to hU hQ (e := (29, (64, 258))) (by decide) (by decide)
  dsimp only at q26 q29
  refine aw_mono ?_ (ar_pass hU hI.1 hI.2 hd (by omega) (by omega) (by omega))
  rintro r S' ⟨k1, k2, ⟨b, rfl, hb, p1, pf, -⟩ | ⟨b, rfl, hb, p1, p2, p3, p4⟩⟩
  · exact ⟨k1, k2, Or.inl ⟨b, rfl, hb, p1, Int.le_of_eq (congrArg Int32.toInt (pf.1 30 (by decide)).1).symm⟩⟩
  · exact ⟨k1, k2, Or.inr ⟨b, rfl, hb, p1, p2⟩⟩
theorem arc_214d (hU : aw_U tb s h) : ak_CT ak_TR (aw_SP s h (aw_G g)) aw_kap tb 4 ac_c214d := by
  refine ar_ofB (F := [24, 25, 26, 27, 28, 29, 30, 31]) (A := []) hU aw_Gs_G rfl ⟨rfl, rfl, rfl, (by decide), rfl, rfl, rfl⟩ ⟨by decide, fun _ z => nomatch z⟩ (fun d hd S as hI hA hQ => ?_)
  obtain ⟨v0, as, rfl, g0, hA⟩ := cw_gAc hA
  cases cw_gAn hA
  obtain rfl := aw_117 hU.2.2 g0
  have q26 := aw_gQ_to hU hQ (e := (26, (4, 4))) (by decide) (by decide)
  have q29 := aw_gQ_to hU hQ (e := (29, (6, 2147483647))) (by decide) (by decide)
  dsimp only at q26 q29
  refine aw_mono ?_ (ar_pass hU hI.1 hI.2 hd (by omega) (by omega) (by omega))
  rintro r S' ⟨k1, k2, ⟨b, rfl, hb, p1, pf, -⟩ | ⟨b, rfl, hb, p1, p2, p3, p4⟩⟩
  · exact ⟨k1, k2, Or.inl ⟨b, rfl, hb, p1, Int.le_of_eq (congrArg Int32.toInt (pf.1 30 (by decide)).1).symm⟩⟩
  · exact ⟨k1, k2, Or.inr ⟨b, rfl, hb, p1, p2⟩⟩
theorem aw_G_ho {nm : Int64 → Prop} {fl : Bool} {la ho ho' hu ht : Nat} (hG : aw_G (nm, fl, la, ho, hu, ht) S) (h0 : (S.1 32).toInt = 0 → (S.1 24).toInt ≠ 0) : aw_G (nm, fl, la, ho', hu, ht) S := ⟨hG.1, fun w0 => Or.inl (h0 w0), hG.2.2.1, hG.2.2.2.1, hG.2.2.2.2⟩
theorem aw_tk_R {f : Nat → Int32} {n j : Nat} (hk : (aw_tk f n (j + 1)).1 ≠ 0) : aw_R f n (aw_tk f n j).2.2.1 (aw_tk f n (j + 1)).1 (aw_tk f n (j + 1)).2.1 (aw_tk f n (j + 1)).2.2.1 (aw_tk f n (j + 1)).2.2.2 := by
  by_cases hx : ∃ t : Int × Nat × Nat × Int, aw_R f n (aw_tk f n j).2.2.1 t.1 t.2.1 t.2.2.1 t.2.2.2
  · have e : aw_tk f n (j + 1) = Classical.choose hx := aw_tokF_c hx
    rw [e]
    exact Classical.choose_spec hx
  · exfalso
    refine hk ?_
    show (aw_tokF f n (aw_tk f n j).2.2.1).1 = 0
    unfold aw_tokF
    rw [dif_neg hx]
theorem aw_tk_le {f : Nat → Int32} {n : Nat} : ∀ j, (aw_tk f n j).2.2.1 ≤ n := by
  intro j
  induction j with
  | zero => exact Nat.zero_le _
  | succ j ih =>
    by_cases hx : ∃ t : Int × Nat × Nat × Int, aw_R f n (aw_tk f n j).2.2.1 t.1 t.2.1 t.2.2.1 t.2.2.2
    · have e : aw_tk f n (j + 1) = Classical.choose hx := aw_tokF_c hx
      rw [e]
      exact (aw_R_b (Classical.choose_spec hx) ih).2.2.1
    · show (aw_tokF f n (aw_tk f n j).2.2.1).2.2.1 ≤ n
      unfold aw_tokF
      rw [dif_neg hx]
      exact ih
/-- of the token that stands here: its place, digits -/
theorem aw_GA_tok (hA : aw_GA S) (hk : (S.1 26).toInt ≠ 0) : (S.1 27).toInt = ((aw_tT S) (aw_tJ S)).2.1 ∧ (S.1 28).toInt = ((aw_tT S) (aw_tJ S)).2.2.1 ∧ ((aw_tT S) (aw_tJ S)).2.1 < ((aw_tT S) (aw_tJ S)).2.2.1 ∧ ((aw_tT S) (aw_tJ S)).2.2.1 ≤ aw_tN S ∧ ((S.1 26).toInt = 2 → ((aw_tT S) (aw_tJ S)).2.2.1 ≤ ((aw_tT S) (aw_tJ S)).2.1 + 4 ∧ ∀ j, ((aw_tT S) (aw_tJ S)).2.1 ≤ j → j < ((aw_tT S) (aw_tJ S)).2.2.1 → 48 ≤ (aw_tF S j).toInt ∧ (aw_tF S j).toInt ≤ 57) := by
  obtain ⟨h1, h2, h3⟩ := hA
  obtain ⟨j, e⟩ : ∃ j, aw_tJ S = j + 1 := ⟨aw_tJ S - 1, by omega⟩
  rw [e] at h2 h3 ⊢
  have hk2 : (aw_tk (aw_tF S) (aw_tN S) (j + 1)).1 ≠ 0 := fun z => hk (h2.1.trans z)
  have hb := aw_R_b (aw_tk_R hk2) (aw_tk_le j)
  exact ⟨h2.2.1, h2.2.2.1, hb.2.2.2.2.2.1 hk2, h3, fun z => hb.2.2.2.2.2.2 (h2.1.symm.trans z)⟩
end ARA1
