/-! TABLES TOLD (printed by wip/p2/ref/r14.py) -/
section ARA14
variable {tb : aj_T} {s : List Nat} {h : aj_H} {S S' S1 S2 : aj_S} {d n : Nat} {g g' : aw_gh} {F A : List Nat} {G : aj_S → Prop} {nm : Int64 → Prop} {fl : Bool} {la ho hu ht q t p : Nat}
theorem aw_G_t8 {j : Nat} {v : Int64} (hG : aw_G g S) (hf : g.2.1 = false) (hj : aw_h S * 10 + (S.2.2.1 7 (aw_h S)).toInt.toNat ≤ j) : aw_G g (aw_wb S 8 j v) := by
  obtain ⟨GA, GB, GC, GD, GE⟩ := hG
  refine ⟨GA, GB, GC, ⟨?_, ?_, GD.2.2.1, GD.2.2.2⟩, GE⟩
  · intro z
    rw [hf] at z
    cases z
  · intro z
    obtain ⟨⟨u1, u2, u3⟩, t1, t2⟩ := GD.2.1 z
    refine ⟨⟨u1, u2, u3⟩, t1, fun u i hi => ?_⟩
    have hl := (List.getElem?_eq_some_iff.mp hi).1
    have hl : u < (aw_tl (aw_tT S) g.2.2.2.2.2 (aw_tJ S)).length := hl
    refine Eq.trans ?_ (t2 u i hi)
    show (vp_updL (S.2.2.2 8) j v) (aw_h S * 10 + u) = _
    unfold vp_updL
    rw [if_neg (by omega)]
theorem aw_tl_fill {T : aw_Ts} (hp : 1 ≤ p) (hw : aw_is T p 4 1 ∨ aw_is T p 4 5) : ∀ {J : Nat}, p < J → (∀ i, p < i → i < J → ¬ aw_is T i 4 1 ∧ ¬ aw_is T i 4 5) → aw_tl T 0 J = aw_tl T p J ++ [p] := by
  intro J
  induction J with
  | zero => intro h; exact absurd h (Nat.not_lt_zero _)
  | succ J ih =>
    intro h1 h2
    by_cases e : J = p
    · subst e
      conv => lhs; unfold aw_tl
      rw [if_pos ⟨hw, by omega, hp⟩]
      conv => rhs; unfold aw_tl
      rw [if_neg (fun z => z.2.1 rfl)]
      rw [aw_tl_h (a := 0) (b := J) (fun j hj h3 => ⟨fun _ => by omega, fun _ => by omega⟩)]
    · have hn := h2 J (by omega) (by omega)
      rw [aw_tl_1 hn, aw_tl_1 hn]
      exact ih (by omega) (fun i i1 i2 => h2 i i1 (by omega))
theorem aw_G_tt {x : Int32} {j : Nat} (hG : aw_G (nm, false, la, 0, 0, p) S) (hp : p ≠ 0) (hj : j = aw_h S) (hn : S.2.2.2 8 (aw_h S * 10 + (S.2.2.1 7 (aw_h S)).toInt.toNat) = aw_nm (aw_tF S) (aw_tT S) (p + 1)) (hx : x.toInt = (S.2.2.1 7 (aw_h S)).toInt + 1) : aw_G (nm, false, la, 0, 0, 0) (aw_wa S 7 j x) := by
  subst hj
  obtain ⟨GA, GB, GC, GD, GE⟩ := hG
  obtain ⟨w1, w2, w3⟩ := GD.2.2.2 hp
  refine ⟨GA, GB, GC, ⟨fun z => absurd z Bool.false_ne_true, ?_, GD.2.2.1, fun z => absurd rfl z⟩, GE⟩
  intro z
  obtain ⟨⟨u1, u2, u3⟩, t1, t2⟩ := GD.2.1 z
  have ef := aw_tl_fill (T := aw_tT S) (p := p) (by omega) w1 w2 w3
  have t1 : (S.2.2.1 7 (aw_h S)).toInt = (aw_tl (aw_tT S) p (aw_tJ S)).length := t1
  refine ⟨⟨u1, u2, u3⟩, ?_⟩
  show ((upd (S.2.2.1 7) (aw_h S) x) (aw_h S)).toInt = ((aw_tl (aw_tT S) 0 (aw_tJ S)).length : Nat) ∧ ∀ (u i : Nat), (aw_tl (aw_tT S) 0 (aw_tJ S))[u]? = some i → S.2.2.2 8 (aw_h S * 10 + u) = aw_nm (aw_tF S) (aw_tT S) (i + 1)
  unfold upd
  rw [if_pos rfl, ef, List.length_append]
  refine ⟨by show x.toInt = ((_ + 1 : Nat) : Int); omega, fun u i hi => ?_⟩
  by_cases hu : u < (aw_tl (aw_tT S) p (aw_tJ S)).length
  · rw [List.getElem?_append_left hu] at hi
    exact t2 u i hi
  · rw [List.getElem?_append_right (by omega)] at hi
    have e0 : u - (aw_tl (aw_tT S) p (aw_tJ S)).length = 0 := by
      have := (List.getElem?_eq_some_iff.mp hi).1
      simp at this
      omega
    rw [e0] at hi
    cases hi
    have hlu : u = (S.2.2.1 7 (aw_h S)).toInt.toNat := by
      rw [t1]
      show u = (((aw_tl (aw_tT S) p (aw_tJ S)).length : Nat) : Int).toNat
      omega
    rw [← hn, hlu]
theorem ar_columnTold (hU : aw_U tb s h) (hT : ak_Ty ak_TN s (aj_mh h S)) (hG : aw_G g S) (hd : 6 ≤ d) {x : Int32} (hx : 0 ≤ x.toInt ∧ x.toInt ≤ 19) (hc : 0 ≤ (S.2.2.1 15 (x.toInt).toNat).toInt ∧ (S.2.2.1 15 (x.toInt).toNat).toInt ≤ 4) : aw_K tb h d 232 [.ref 117, .int x] S (ar_QT s h g [24, 25, 26, 27, 28, 29, 30, 31, 33, 34] [15, 16] S (fun S' => 0 ≤ (S'.2.2.1 15 (x.toInt).toNat).toInt ∧ (S'.2.2.1 15 (x.toInt).toNat).toInt ≤ 4)) := by
  obtain ⟨d, rfl⟩ : ∃ e, d = e + 1 := ⟨d - 1, by omega⟩
  have hs : aw_sT s := aw_hy_sT hU.2.2
  refine aw_m aj_m232_at rfl (Nat.le_of_ble_eq_true rfl) ?_
  show aw_W _ _ _ _ 0 [(0, .ref 117), (1, .int x)] [] _ _
  obtain ⟨lv1, elv1⟩ : ∃ l : aj_V, l = [(0, .ref 117), (1, .int x)] := ⟨_, rfl⟩
  rw [← elv1]
  have hlv1_0 : aj_lv lv1 0 = some (.ref 117) := by rw [elv1]; rfl
  have hlv1_1 : aj_lv lv1 1 = some (.int x) := by rw [elv1]; rfl
  have hI2 : aw_I s h (aw_sm S) S := ⟨hT, aw_sm_rf⟩
  have fr3 : aw_fr [24, 25, 26, 27, 28, 29, 30, 31, 33, 34] [15, 16] S S := aw_fr_rf
  refine aw_l2 aj_d232 rfl rfl hlv1_0 ?_
  have b4 : 0 ≤ (S.1 26).toInt ∧ (S.1 26).toInt ≤ 5 := aw_bd_f hs (hI2).1 (by decide) rfl
  refine aw_g hU.1 aj_d232 rfl rfl (by decide) (v := .int (S.1 26)) rfl ?_
  refine aw_n aj_d232 rfl rfl ?_
  refine aw_c (tgt := 28) aj_d232 rfl rfl (fun q5 => ?_) (fun q5 => ?_)
  · have q5 : (S.1 26).toInt ≠ (1 : Int) := aw_t_ne (a := (S.1 26).toInt) (b := (1 : Int)) rfl rfl q5
    refine aw_l2 aj_d232 rfl rfl hlv1_0 ?_
    have b7 : 0 ≤ (S.1 30).toInt ∧ (S.1 30).toInt ≤ 1001 := aw_bd_f hs (hI2).1 (by decide) rfl
    refine aw_k hU.1 aj_d232 rfl rfl [] rfl rfl rfl (Nat.le_of_ble_eq_true rfl) (ar_named hU (hI2).1 hG (by omega)) ?_
    rintro _ S6 ⟨hT6, fc6, ⟨b6, rfl, hb6, hG6, ck6, hz6⟩ | ⟨b6, rfl, hb6, hG6, ck6, cj6, k16, nm6⟩⟩
    · skip
      have ck6 : ((S.1 30)).toInt ≤ (S6.1 30).toInt := ck6
      have fr8 := aw_fr_tr fr3 (aw_fr_sub (F := [24, 25, 26, 27, 28, 29, 30, 31, 33, 34]) (A := []) (by decide) (by decide) fc6)
      have hI9 : aw_I s h (aw_sm S6) S6 := ⟨hT6, aw_sm_rf⟩
      show aw_W _ _ _ _ 32 lv1 [.int b6] _ _
      refine aw_z (tgt := 37) aj_d232 rfl rfl (fun q10 => ?_) (fun q10 => ?_)
      · have q10 : (0 : Int) ≠ (0 : Int) := aw_t_ne (a := (0 : Int)) (b := (0 : Int)) hb6 rfl q10
        exfalso
        omega
      · have q10 : (0 : Int) = (0 : Int) := aw_t_ne (a := (0 : Int)) (b := (0 : Int)) hb6 rfl q10
        refine aw_n aj_d232 rfl rfl ?_
        refine aw_e aj_d232 rfl rfl ?_
        have b11 : 0 ≤ (S6.1 30).toInt ∧ (S6.1 30).toInt ≤ 1001 := aw_bd_f hs (hI9).1 (by decide) rfl
        exact ⟨(hI9).1, fr8, Or.inl ⟨_, rfl, rfl, hG6, (show _ ≤ ((S6.1 30)).toInt by omega)⟩⟩
    · skip
      have cj6 : (S6.1 30).toInt = ((S.1 30)).toInt + 1 := cj6
      have k16 : ((S.1 26)).toInt = 1 := k16
      have fr12 := aw_fr_tr fr3 (aw_fr_sub (F := [24, 25, 26, 27, 28, 29, 30, 31, 33, 34]) (A := []) (by decide) (by decide) fc6)
      have hI13 : aw_I s h (aw_sm S6) S6 := ⟨hT6, aw_sm_rf⟩
      show aw_W _ _ _ _ 32 lv1 [.int b6] _ _
      refine aw_z (tgt := 37) aj_d232 rfl rfl (fun q14 => ?_) (fun q14 => ?_)
      · have q14 : (1 : Int) ≠ (0 : Int) := aw_t_ne (a := (1 : Int)) (b := (0 : Int)) hb6 rfl q14
        refine aw_l2 aj_d232 rfl rfl hlv1_0 ?_
        refine aw_l0 aj_d232 rfl rfl hlv1_1 ?_
        refine aw_l2 aj_d232 rfl rfl hlv1_0 ?_
        refine aw_g hU.1 aj_d232 rfl rfl (by decide) (v := .long (S6.2.1 33)) rfl ?_
        refine aw_k hU.1 aj_d232 rfl rfl [_, _] rfl rfl rfl (Nat.le_of_ble_eq_true rfl) (aw_columnOfK (aw_UV hU aw_Gs_sm) hI13 (by omega) (t := (x.toInt).toNat) (by omega) (by omega)) ?_
        rintro _ zb15 ⟨b15, rfl, fb15, -⟩
        rw [fb15]
        show aw_W _ _ _ _ 46 lv1 [.int b15] _ _
        refine aw_z (tgt := 58) aj_d232 rfl rfl (fun q16 => ?_) (fun q16 => ?_)
        · have q16 : b15.toInt < (0 : Int) := aw_t_lt (a := b15.toInt) (b := (0 : Int)) rfl rfl q16
          refine aw_l2 aj_d232 rfl rfl hlv1_0 ?_
          refine aw_g hU.1 aj_d232 rfl rfl (by decide) (v := .ref 133) rfl ?_
          refine aw_l0 aj_d232 rfl rfl hlv1_1 ?_
          refine aw_n aj_d232 rfl rfl ?_
          refine aw_mul aj_d232 rfl (a := x.toInt) (b := (8 : Int)) rfl rfl (by omega) (by omega) (fun x17 ex17 => ?_)
          refine aw_l2 aj_d232 rfl rfl hlv1_0 ?_
          refine aw_g hU.1 aj_d232 rfl rfl (by decide) (v := .ref 132) rfl ?_
          refine aw_l0 aj_d232 rfl rfl hlv1_1 ?_
          refine aw_ld (k := 15) hU.1 aj_d232 (Or.inl ⟨rfl, rfl⟩) rfl (by decide) (by decide) rfl (a := x.toInt) rfl (by omega) (by omega) (fun x18 ex18 => ?_)
          have bx18 : (-1) ≤ x18.toInt ∧ x18.toInt ≤ 6 := by
            rw [ex18]
            exact aw_bd_a hs (hI13).1 (k := 15) (by decide) (by decide) rfl (by decide) rfl (by omega)
          have ftx18 : x18.toInt = (S.2.2.1 15 (x.toInt).toNat).toInt := congrArg Int32.toInt (ex18.trans (congrFun ((fc6.2 15 (by decide)).1.trans rfl) _))
          refine aw_add aj_d232 rfl (a := x17.toInt) (b := x18.toInt) rfl rfl (by omega) (by omega) (fun x19 ex19 => ?_)
          refine aw_l2 aj_d232 rfl rfl hlv1_0 ?_
          refine aw_g hU.1 aj_d232 rfl rfl (by decide) (v := .long (S6.2.1 33)) rfl ?_
          refine aw_stl (k := 16) hU.1 aj_d232 rfl (by decide) (by decide) rfl (a := x19.toInt) rfl (by omega) (by omega) ?_
          have hI20 := aw_I_b (aw_UV hU aw_Gs_sm) (k := 16) (j := (x19.toInt).toNat) (v := (S6.2.1 33)) hI13 (by decide) (by decide) (by decide) rfl rfl
          have fr21 := aw_fr_b (k := 16) (j := (x19.toInt).toNat) (v := (S6.2.1 33)) (by decide) fr12
          refine aw_l2 aj_d232 rfl rfl hlv1_0 ?_
          refine aw_g hU.1 aj_d232 rfl rfl (by decide) (v := .ref 132) rfl ?_
          refine aw_l0 aj_d232 rfl rfl hlv1_1 ?_
          refine aw_n aj_d232 rfl rfl ?_
          refine aw_ld (k := 15) hU.1 aj_d232 (Or.inl ⟨rfl, rfl⟩) rfl (by decide) (by decide) rfl (a := x.toInt) rfl (by omega) (by omega) (fun x22 ex22 => ?_)
          have bx22 : (-1) ≤ x22.toInt ∧ x22.toInt ≤ 6 := by
            rw [ex22]
            exact aw_bd_a hs (hI20).1 (k := 15) (by decide) (by decide) rfl (by decide) rfl (by omega)
          have ftx22 : x22.toInt = (S.2.2.1 15 (x.toInt).toNat).toInt := congrArg Int32.toInt (ex22.trans (congrFun ((fc6.2 15 (by decide)).1.trans rfl) _))
          refine aw_n aj_d232 rfl rfl ?_
          refine aw_add aj_d232 rfl (a := x22.toInt) (b := (1 : Int)) rfl rfl (by omega) (by omega) (fun x23 ex23 => ?_)
          refine aw_st (k := 15) hU.1 aj_d232 (Or.inl ⟨rfl, rfl⟩) rfl (by decide) (by decide) rfl (a := x.toInt) rfl (by omega) (by omega) ?_
          have hI24 := aw_I_a (aw_UV hU aw_Gs_sm) (k := 15) (j := (x.toInt).toNat) (v := aj_nar 0 x23) hI20 (by decide) (by decide) (by decide) rfl (by decide) (by decide) rfl (aw_bp (a := x23.toInt) rfl (by omega) (by omega))
          have fr25 := aw_fr_a (k := 15) (j := (x.toInt).toNat) (v := aj_nar 0 x23) (by decide) fr21
          refine aw_n aj_d232 rfl rfl ?_
          refine aw_e aj_d232 rfl rfl ?_
          have b26 : 0 ≤ (S6.1 30).toInt ∧ (S6.1 30).toInt ≤ 1001 := aw_bd_f hs (hI13).1 (by decide) rfl
          exact ⟨(hI24).1, fr25, Or.inr ⟨_, rfl, rfl, (aw_G_sm hI24.2 hG6), (show _ + 1 ≤ ((S6.1 30)).toInt by omega), (by show 0 ≤ ((upd _ _ _) _).toInt ∧ ((upd _ _ _) _).toInt ≤ 4; unfold upd; rw [if_pos rfl]; show 0 ≤ (x23).toInt ∧ (x23).toInt ≤ 4; omega)⟩⟩
        · have q16 : b15.toInt ≥ (0 : Int) := aw_t_lt (a := b15.toInt) (b := (0 : Int)) rfl rfl q16
          refine aw_l2 aj_d232 rfl rfl hlv1_0 ?_
          refine aw_n aj_d232 rfl rfl ?_
          refine aw_l2 aj_d232 rfl rfl hlv1_0 ?_
          refine aw_g hU.1 aj_d232 rfl rfl (by decide) (v := .int (S6.1 34)) rfl ?_
          refine aw_k hU.1 aj_d232 rfl rfl [_, _] rfl rfl rfl (Nat.le_of_ble_eq_true rfl) (ar_tell hU (hI13).1 (by omega) (a := (3 : Int)) rfl (by omega)) ?_
          rintro _ S27 ⟨hT27, fc27, rfl, hz27, hw27⟩
          have hG27 := aw_G_tell hG6 fc27 hz27
          have b28 : 0 ≤ (S.1 32).toInt ∧ (S.1 32).toInt ≤ 1 := aw_bd_f hs (hI2).1 (by decide) rfl
          have c29 : (S6.1 32).toInt = (S.1 32).toInt := (congrArg Int32.toInt (fc6.1 32 (by decide)).1).trans rfl
          have b30 : 0 ≤ (S6.1 32).toInt ∧ (S6.1 32).toInt ≤ 1 := aw_bd_f hs (hI13).1 (by decide) rfl
          have hz27 : ((S6.1 32)).toInt = 0 → (S27.1 24).toInt ≠ 0 := hz27
          have fr31 := aw_fr_tr fr12 (aw_fr_sub (F := [24, 25]) (A := []) (by decide) (by decide) fc27)
          have hI32 : aw_I s h (aw_sm S27) S27 := ⟨hT27, aw_sm_rf⟩
          show aw_W _ _ _ _ 58 lv1 [] _ _
          refine aw_l2 aj_d232 rfl rfl hlv1_0 ?_
          refine aw_g hU.1 aj_d232 rfl rfl (by decide) (v := .ref 133) rfl ?_
          refine aw_l0 aj_d232 rfl rfl hlv1_1 ?_
          refine aw_n aj_d232 rfl rfl ?_
          refine aw_mul aj_d232 rfl (a := x.toInt) (b := (8 : Int)) rfl rfl (by omega) (by omega) (fun x33 ex33 => ?_)
          refine aw_l2 aj_d232 rfl rfl hlv1_0 ?_
          refine aw_g hU.1 aj_d232 rfl rfl (by decide) (v := .ref 132) rfl ?_
          refine aw_l0 aj_d232 rfl rfl hlv1_1 ?_
          refine aw_ld (k := 15) hU.1 aj_d232 (Or.inl ⟨rfl, rfl⟩) rfl (by decide) (by decide) rfl (a := x.toInt) rfl (by omega) (by omega) (fun x34 ex34 => ?_)
          have bx34 : (-1) ≤ x34.toInt ∧ x34.toInt ≤ 6 := by
            rw [ex34]
            exact aw_bd_a hs (hI32).1 (k := 15) (by decide) (by decide) rfl (by decide) rfl (by omega)
          have ftx34 : x34.toInt = (S.2.2.1 15 (x.toInt).toNat).toInt := congrArg Int32.toInt (ex34.trans (congrFun ((fc27.2 15 (by decide)).1.trans ((fc6.2 15 (by decide)).1.trans rfl)) _))
          refine aw_add aj_d232 rfl (a := x33.toInt) (b := x34.toInt) rfl rfl (by omega) (by omega) (fun x35 ex35 => ?_)
          refine aw_l2 aj_d232 rfl rfl hlv1_0 ?_
          refine aw_g hU.1 aj_d232 rfl rfl (by decide) (v := .long (S27.2.1 33)) rfl ?_
          refine aw_stl (k := 16) hU.1 aj_d232 rfl (by decide) (by decide) rfl (a := x35.toInt) rfl (by omega) (by omega) ?_
          have hI36 := aw_I_b (aw_UV hU aw_Gs_sm) (k := 16) (j := (x35.toInt).toNat) (v := (S27.2.1 33)) hI32 (by decide) (by decide) (by decide) rfl rfl
          have fr37 := aw_fr_b (k := 16) (j := (x35.toInt).toNat) (v := (S27.2.1 33)) (by decide) fr31
          refine aw_l2 aj_d232 rfl rfl hlv1_0 ?_
          refine aw_g hU.1 aj_d232 rfl rfl (by decide) (v := .ref 132) rfl ?_
          refine aw_l0 aj_d232 rfl rfl hlv1_1 ?_
          refine aw_n aj_d232 rfl rfl ?_
          refine aw_ld (k := 15) hU.1 aj_d232 (Or.inl ⟨rfl, rfl⟩) rfl (by decide) (by decide) rfl (a := x.toInt) rfl (by omega) (by omega) (fun x38 ex38 => ?_)
          have bx38 : (-1) ≤ x38.toInt ∧ x38.toInt ≤ 6 := by
            rw [ex38]
            exact aw_bd_a hs (hI36).1 (k := 15) (by decide) (by decide) rfl (by decide) rfl (by omega)
          have ftx38 : x38.toInt = (S.2.2.1 15 (x.toInt).toNat).toInt := congrArg Int32.toInt (ex38.trans (congrFun ((fc27.2 15 (by decide)).1.trans ((fc6.2 15 (by decide)).1.trans rfl)) _))
          refine aw_n aj_d232 rfl rfl ?_
          refine aw_add aj_d232 rfl (a := x38.toInt) (b := (1 : Int)) rfl rfl (by omega) (by omega) (fun x39 ex39 => ?_)
          refine aw_st (k := 15) hU.1 aj_d232 (Or.inl ⟨rfl, rfl⟩) rfl (by decide) (by decide) rfl (a := x.toInt) rfl (by omega) (by omega) ?_
          have hI40 := aw_I_a (aw_UV hU aw_Gs_sm) (k := 15) (j := (x.toInt).toNat) (v := aj_nar 0 x39) hI36 (by decide) (by decide) (by decide) rfl (by decide) (by decide) rfl (aw_bp (a := x39.toInt) rfl (by omega) (by omega))
          have fr41 := aw_fr_a (k := 15) (j := (x.toInt).toNat) (v := aj_nar 0 x39) (by decide) fr37
          refine aw_n aj_d232 rfl rfl ?_
          refine aw_e aj_d232 rfl rfl ?_
          have b42 : 0 ≤ (S6.1 30).toInt ∧ (S6.1 30).toInt ≤ 1001 := aw_bd_f hs (hI13).1 (by decide) rfl
          have c43 : (S27.1 30).toInt = (S6.1 30).toInt := (congrArg Int32.toInt (fc27.1 30 (by decide)).1).trans rfl
          have b44 : 0 ≤ (S27.1 30).toInt ∧ (S27.1 30).toInt ≤ 1001 := aw_bd_f hs (hI32).1 (by decide) rfl
          exact ⟨(hI40).1, fr41, Or.inr ⟨_, rfl, rfl, (aw_G_sm hI40.2 hG27), (show _ + 1 ≤ ((S27.1 30)).toInt by omega), (by show 0 ≤ ((upd _ _ _) _).toInt ∧ ((upd _ _ _) _).toInt ≤ 4; unfold upd; rw [if_pos rfl]; show 0 ≤ (x39).toInt ∧ (x39).toInt ≤ 4; omega)⟩⟩
      · have q14 : (1 : Int) = (0 : Int) := aw_t_ne (a := (1 : Int)) (b := (0 : Int)) hb6 rfl q14
        exfalso
        omega
  · have q5 : (S.1 26).toInt = (1 : Int) := aw_t_ne (a := (S.1 26).toInt) (b := (1 : Int)) rfl rfl q5
    refine aw_l2 aj_d232 rfl rfl hlv1_0 ?_
    refine aw_g hU.1 aj_d232 rfl rfl (by decide) (v := .ref 132) rfl ?_
    refine aw_l0 aj_d232 rfl rfl hlv1_1 ?_
    refine aw_ld (k := 15) hU.1 aj_d232 (Or.inl ⟨rfl, rfl⟩) rfl (by decide) (by decide) rfl (a := x.toInt) rfl (by omega) (by omega) (fun x45 ex45 => ?_)
    have bx45 : (-1) ≤ x45.toInt ∧ x45.toInt ≤ 6 := by
      rw [ex45]
      exact aw_bd_a hs (hI2).1 (k := 15) (by decide) (by decide) rfl (by decide) rfl (by omega)
    have ftx45 : x45.toInt = (S.2.2.1 15 (x.toInt).toNat).toInt := congrArg Int32.toInt (ex45.trans (congrFun rfl _))
    refine aw_n aj_d232 rfl rfl ?_
    refine aw_c (tgt := 28) aj_d232 rfl rfl (fun q46 => ?_) (fun q46 => ?_)
    · have q46 : x45.toInt ≠ (4 : Int) := aw_t_ne (a := x45.toInt) (b := (4 : Int)) rfl rfl q46
      refine aw_l2 aj_d232 rfl rfl hlv1_0 ?_
      have b48 : 0 ≤ (S.1 30).toInt ∧ (S.1 30).toInt ≤ 1001 := aw_bd_f hs (hI2).1 (by decide) rfl
      refine aw_k hU.1 aj_d232 rfl rfl [] rfl rfl rfl (Nat.le_of_ble_eq_true rfl) (ar_named hU (hI2).1 hG (by omega)) ?_
      rintro _ S47 ⟨hT47, fc47, ⟨b47, rfl, hb47, hG47, ck47, hz47⟩ | ⟨b47, rfl, hb47, hG47, ck47, cj47, k147, nm47⟩⟩
      · skip
        have ck47 : ((S.1 30)).toInt ≤ (S47.1 30).toInt := ck47
        have fr49 := aw_fr_tr fr3 (aw_fr_sub (F := [24, 25, 26, 27, 28, 29, 30, 31, 33, 34]) (A := []) (by decide) (by decide) fc47)
        have hI50 : aw_I s h (aw_sm S47) S47 := ⟨hT47, aw_sm_rf⟩
        show aw_W _ _ _ _ 32 lv1 [.int b47] _ _
        refine aw_z (tgt := 37) aj_d232 rfl rfl (fun q51 => ?_) (fun q51 => ?_)
        · have q51 : (0 : Int) ≠ (0 : Int) := aw_t_ne (a := (0 : Int)) (b := (0 : Int)) hb47 rfl q51
          exfalso
          omega
        · have q51 : (0 : Int) = (0 : Int) := aw_t_ne (a := (0 : Int)) (b := (0 : Int)) hb47 rfl q51
          refine aw_n aj_d232 rfl rfl ?_
          refine aw_e aj_d232 rfl rfl ?_
          have b52 : 0 ≤ (S47.1 30).toInt ∧ (S47.1 30).toInt ≤ 1001 := aw_bd_f hs (hI50).1 (by decide) rfl
          exact ⟨(hI50).1, fr49, Or.inl ⟨_, rfl, rfl, hG47, (show _ ≤ ((S47.1 30)).toInt by omega)⟩⟩
      · skip
        have cj47 : (S47.1 30).toInt = ((S.1 30)).toInt + 1 := cj47
        have k147 : ((S.1 26)).toInt = 1 := k147
        have fr53 := aw_fr_tr fr3 (aw_fr_sub (F := [24, 25, 26, 27, 28, 29, 30, 31, 33, 34]) (A := []) (by decide) (by decide) fc47)
        have hI54 : aw_I s h (aw_sm S47) S47 := ⟨hT47, aw_sm_rf⟩
        show aw_W _ _ _ _ 32 lv1 [.int b47] _ _
        refine aw_z (tgt := 37) aj_d232 rfl rfl (fun q55 => ?_) (fun q55 => ?_)
        · have q55 : (1 : Int) ≠ (0 : Int) := aw_t_ne (a := (1 : Int)) (b := (0 : Int)) hb47 rfl q55
          refine aw_l2 aj_d232 rfl rfl hlv1_0 ?_
          refine aw_l0 aj_d232 rfl rfl hlv1_1 ?_
          refine aw_l2 aj_d232 rfl rfl hlv1_0 ?_
          refine aw_g hU.1 aj_d232 rfl rfl (by decide) (v := .long (S47.2.1 33)) rfl ?_
          refine aw_k hU.1 aj_d232 rfl rfl [_, _] rfl rfl rfl (Nat.le_of_ble_eq_true rfl) (aw_columnOfK (aw_UV hU aw_Gs_sm) hI54 (by omega) (t := (x.toInt).toNat) (by omega) (by omega)) ?_
          rintro _ zb56 ⟨b56, rfl, fb56, -⟩
          rw [fb56]
          show aw_W _ _ _ _ 46 lv1 [.int b56] _ _
          refine aw_z (tgt := 58) aj_d232 rfl rfl (fun q57 => ?_) (fun q57 => ?_)
          · have q57 : b56.toInt < (0 : Int) := aw_t_lt (a := b56.toInt) (b := (0 : Int)) rfl rfl q57
            refine aw_l2 aj_d232 rfl rfl hlv1_0 ?_
            refine aw_g hU.1 aj_d232 rfl rfl (by decide) (v := .ref 133) rfl ?_
            refine aw_l0 aj_d232 rfl rfl hlv1_1 ?_
            refine aw_n aj_d232 rfl rfl ?_
            refine aw_mul aj_d232 rfl (a := x.toInt) (b := (8 : Int)) rfl rfl (by omega) (by omega) (fun x58 ex58 => ?_)
            refine aw_l2 aj_d232 rfl rfl hlv1_0 ?_
            refine aw_g hU.1 aj_d232 rfl rfl (by decide) (v := .ref 132) rfl ?_
            refine aw_l0 aj_d232 rfl rfl hlv1_1 ?_
            refine aw_ld (k := 15) hU.1 aj_d232 (Or.inl ⟨rfl, rfl⟩) rfl (by decide) (by decide) rfl (a := x.toInt) rfl (by omega) (by omega) (fun x59 ex59 => ?_)
            have bx59 : (-1) ≤ x59.toInt ∧ x59.toInt ≤ 6 := by
              rw [ex59]
              exact aw_bd_a hs (hI54).1 (k := 15) (by decide) (by decide) rfl (by decide) rfl (by omega)
            have ftx59 : x59.toInt = (S.2.2.1 15 (x.toInt).toNat).toInt := congrArg Int32.toInt (ex59.trans (congrFun ((fc47.2 15 (by decide)).1.trans rfl) _))
            refine aw_add aj_d232 rfl (a := x58.toInt) (b := x59.toInt) rfl rfl (by omega) (by omega) (fun x60 ex60 => ?_)
            refine aw_l2 aj_d232 rfl rfl hlv1_0 ?_
            refine aw_g hU.1 aj_d232 rfl rfl (by decide) (v := .long (S47.2.1 33)) rfl ?_
            refine aw_stl (k := 16) hU.1 aj_d232 rfl (by decide) (by decide) rfl (a := x60.toInt) rfl (by omega) (by omega) ?_
            have hI61 := aw_I_b (aw_UV hU aw_Gs_sm) (k := 16) (j := (x60.toInt).toNat) (v := (S47.2.1 33)) hI54 (by decide) (by decide) (by decide) rfl rfl
            have fr62 := aw_fr_b (k := 16) (j := (x60.toInt).toNat) (v := (S47.2.1 33)) (by decide) fr53
            refine aw_l2 aj_d232 rfl rfl hlv1_0 ?_
            refine aw_g hU.1 aj_d232 rfl rfl (by decide) (v := .ref 132) rfl ?_
            refine aw_l0 aj_d232 rfl rfl hlv1_1 ?_
            refine aw_n aj_d232 rfl rfl ?_
            refine aw_ld (k := 15) hU.1 aj_d232 (Or.inl ⟨rfl, rfl⟩) rfl (by decide) (by decide) rfl (a := x.toInt) rfl (by omega) (by omega) (fun x63 ex63 => ?_)
            have bx63 : (-1) ≤ x63.toInt ∧ x63.toInt ≤ 6 := by
              rw [ex63]
              exact aw_bd_a hs (hI61).1 (k := 15) (by decide) (by decide) rfl (by decide) rfl (by omega)
            have ftx63 : x63.toInt = (S.2.2.1 15 (x.toInt).toNat).toInt := congrArg Int32.toInt (ex63.trans (congrFun ((fc47.2 15 (by decide)).1.trans rfl) _))
            refine aw_n aj_d232 rfl rfl ?_
            refine aw_add aj_d232 rfl (a := x63.toInt) (b := (1 : Int)) rfl rfl (by omega) (by omega) (fun x64 ex64 => ?_)
            refine aw_st (k := 15) hU.1 aj_d232 (Or.inl ⟨rfl, rfl⟩) rfl (by decide) (by decide) rfl (a := x.toInt) rfl (by omega) (by omega) ?_
            have hI65 := aw_I_a (aw_UV hU aw_Gs_sm) (k := 15) (j := (x.toInt).toNat) (v := aj_nar 0 x64) hI61 (by decide) (by decide) (by decide) rfl (by decide) (by decide) rfl (aw_bp (a := x64.toInt) rfl (by omega) (by omega))
            have fr66 := aw_fr_a (k := 15) (j := (x.toInt).toNat) (v := aj_nar 0 x64) (by decide) fr62
            refine aw_n aj_d232 rfl rfl ?_
            refine aw_e aj_d232 rfl rfl ?_
            have b67 : 0 ≤ (S47.1 30).toInt ∧ (S47.1 30).toInt ≤ 1001 := aw_bd_f hs (hI54).1 (by decide) rfl
            exact ⟨(hI65).1, fr66, Or.inr ⟨_, rfl, rfl, (aw_G_sm hI65.2 hG47), (show _ + 1 ≤ ((S47.1 30)).toInt by omega), (by show 0 ≤ ((upd _ _ _) _).toInt ∧ ((upd _ _ _) _).toInt ≤ 4; unfold upd; rw [if_pos rfl]; show 0 ≤ (x64).toInt ∧ (x64).toInt ≤ 4; omega)⟩⟩
          · have q57 : b56.toInt ≥ (0 : Int) := aw_t_lt (a := b56.toInt) (b := (0 : Int)) rfl rfl q57
            refine aw_l2 aj_d232 rfl rfl hlv1_0 ?_
            refine aw_n aj_d232 rfl rfl ?_
            refine aw_l2 aj_d232 rfl rfl hlv1_0 ?_
            refine aw_g hU.1 aj_d232 rfl rfl (by decide) (v := .int (S47.1 34)) rfl ?_
            refine aw_k hU.1 aj_d232 rfl rfl [_, _] rfl rfl rfl (Nat.le_of_ble_eq_true rfl) (ar_tell hU (hI54).1 (by omega) (a := (3 : Int)) rfl (by omega)) ?_
            rintro _ S68 ⟨hT68, fc68, rfl, hz68, hw68⟩
            have hG68 := aw_G_tell hG47 fc68 hz68
            have b69 : 0 ≤ (S.1 32).toInt ∧ (S.1 32).toInt ≤ 1 := aw_bd_f hs (hI2).1 (by decide) rfl
            have c70 : (S47.1 32).toInt = (S.1 32).toInt := (congrArg Int32.toInt (fc47.1 32 (by decide)).1).trans rfl
            have b71 : 0 ≤ (S47.1 32).toInt ∧ (S47.1 32).toInt ≤ 1 := aw_bd_f hs (hI54).1 (by decide) rfl
            have hz68 : ((S47.1 32)).toInt = 0 → (S68.1 24).toInt ≠ 0 := hz68
            have fr72 := aw_fr_tr fr53 (aw_fr_sub (F := [24, 25]) (A := []) (by decide) (by decide) fc68)
            have hI73 : aw_I s h (aw_sm S68) S68 := ⟨hT68, aw_sm_rf⟩
            show aw_W _ _ _ _ 58 lv1 [] _ _
            refine aw_l2 aj_d232 rfl rfl hlv1_0 ?_
            refine aw_g hU.1 aj_d232 rfl rfl (by decide) (v := .ref 133) rfl ?_
            refine aw_l0 aj_d232 rfl rfl hlv1_1 ?_
            refine aw_n aj_d232 rfl rfl ?_
            refine aw_mul aj_d232 rfl (a := x.toInt) (b := (8 : Int)) rfl rfl (by omega) (by omega) (fun x74 ex74 => ?_)
            refine aw_l2 aj_d232 rfl rfl hlv1_0 ?_
            refine aw_g hU.1 aj_d232 rfl rfl (by decide) (v := .ref 132) rfl ?_
            refine aw_l0 aj_d232 rfl rfl hlv1_1 ?_
            refine aw_ld (k := 15) hU.1 aj_d232 (Or.inl ⟨rfl, rfl⟩) rfl (by decide) (by decide) rfl (a := x.toInt) rfl (by omega) (by omega) (fun x75 ex75 => ?_)
            have bx75 : (-1) ≤ x75.toInt ∧ x75.toInt ≤ 6 := by
              rw [ex75]
              exact aw_bd_a hs (hI73).1 (k := 15) (by decide) (by decide) rfl (by decide) rfl (by omega)
            have ftx75 : x75.toInt = (S.2.2.1 15 (x.toInt).toNat).toInt := congrArg Int32.toInt (ex75.trans (congrFun ((fc68.2 15 (by decide)).1.trans ((fc47.2 15 (by decide)).1.trans rfl)) _))
            refine aw_add aj_d232 rfl (a := x74.toInt) (b := x75.toInt) rfl rfl (by omega) (by omega) (fun x76 ex76 => ?_)
            refine aw_l2 aj_d232 rfl rfl hlv1_0 ?_
            refine aw_g hU.1 aj_d232 rfl rfl (by decide) (v := .long (S68.2.1 33)) rfl ?_
            refine aw_stl (k := 16) hU.1 aj_d232 rfl (by decide) (by decide) rfl (a := x76.toInt) rfl (by omega) (by omega) ?_
            have hI77 := aw_I_b (aw_UV hU aw_Gs_sm) (k := 16) (j := (x76.toInt).toNat) (v := (S68.2.1 33)) hI73 (by decide) (by decide) (by decide) rfl rfl
            have fr78 := aw_fr_b (k := 16) (j := (x76.toInt).toNat) (v := (S68.2.1 33)) (by decide) fr72
            refine aw_l2 aj_d232 rfl rfl hlv1_0 ?_
            refine aw_g hU.1 aj_d232 rfl rfl (by decide) (v := .ref 132) rfl ?_
            refine aw_l0 aj_d232 rfl rfl hlv1_1 ?_
            refine aw_n aj_d232 rfl rfl ?_
            refine aw_ld (k := 15) hU.1 aj_d232 (Or.inl ⟨rfl, rfl⟩) rfl (by decide) (by decide) rfl (a := x.toInt) rfl (by omega) (by omega) (fun x79 ex79 => ?_)
            have bx79 : (-1) ≤ x79.toInt ∧ x79.toInt ≤ 6 := by
              rw [ex79]
              exact aw_bd_a hs (hI77).1 (k := 15) (by decide) (by decide) rfl (by decide) rfl (by omega)
            have ftx79 : x79.toInt = (S.2.2.1 15 (x.toInt).toNat).toInt := congrArg Int32.toInt (ex79.trans (congrFun ((fc68.2 15 (by decide)).1.trans ((fc47.2 15 (by decide)).1.trans rfl)) _))
            refine aw_n aj_d232 rfl rfl ?_
            refine aw_add aj_d232 rfl (a := x79.toInt) (b := (1 : Int)) rfl rfl (by omega) (by omega) (fun x80 ex80 => ?_)
            refine aw_st (k := 15) hU.1 aj_d232 (Or.inl ⟨rfl, rfl⟩) rfl (by decide) (by decide) rfl (a := x.toInt) rfl (by omega) (by omega) ?_
            have hI81 := aw_I_a (aw_UV hU aw_Gs_sm) (k := 15) (j := (x.toInt).toNat) (v := aj_nar 0 x80) hI77 (by decide) (by decide) (by decide) rfl (by decide) (by decide) rfl (aw_bp (a := x80.toInt) rfl (by omega) (by omega))
            have fr82 := aw_fr_a (k := 15) (j := (x.toInt).toNat) (v := aj_nar 0 x80) (by decide) fr78
            refine aw_n aj_d232 rfl rfl ?_
            refine aw_e aj_d232 rfl rfl ?_
            have b83 : 0 ≤ (S47.1 30).toInt ∧ (S47.1 30).toInt ≤ 1001 := aw_bd_f hs (hI54).1 (by decide) rfl
            have c84 : (S68.1 30).toInt = (S47.1 30).toInt := (congrArg Int32.toInt (fc68.1 30 (by decide)).1).trans rfl
            have b85 : 0 ≤ (S68.1 30).toInt ∧ (S68.1 30).toInt ≤ 1001 := aw_bd_f hs (hI73).1 (by decide) rfl
            exact ⟨(hI81).1, fr82, Or.inr ⟨_, rfl, rfl, (aw_G_sm hI81.2 hG68), (show _ + 1 ≤ ((S68.1 30)).toInt by omega), (by show 0 ≤ ((upd _ _ _) _).toInt ∧ ((upd _ _ _) _).toInt ≤ 4; unfold upd; rw [if_pos rfl]; show 0 ≤ (x80).toInt ∧ (x80).toInt ≤ 4; omega)⟩⟩
        · have q55 : (1 : Int) = (0 : Int) := aw_t_ne (a := (1 : Int)) (b := (0 : Int)) hb47 rfl q55
          exfalso
          omega
    · have q46 : x45.toInt = (4 : Int) := aw_t_ne (a := x45.toInt) (b := (4 : Int)) rfl rfl q46
      refine aw_l2 aj_d232 rfl rfl hlv1_0 ?_
      refine aw_n aj_d232 rfl rfl ?_
      refine aw_l2 aj_d232 rfl rfl hlv1_0 ?_
      have b86 : 0 ≤ (S.1 27).toInt ∧ (S.1 27).toInt ≤ 4000 := aw_bd_f hs (hI2).1 (by decide) rfl
      refine aw_g hU.1 aj_d232 rfl rfl (by decide) (v := .int (S.1 27)) rfl ?_
      refine aw_k hU.1 aj_d232 rfl rfl [_, _] rfl rfl rfl (Nat.le_of_ble_eq_true rfl) (ar_stop hU (hI2).1 (by omega) (a := (2 : Int)) rfl) ?_
      rintro _ S87 ⟨hT87, fc87, rfl, hz87⟩
      have hG87 := aw_G_stop hG fc87 (by omega)
      have fr88 := aw_fr_tr fr3 (aw_fr_sub (F := [24, 25, 31]) (A := []) (by decide) (by decide) fc87)
      have hI89 : aw_I s h (aw_sm S87) S87 := ⟨hT87, aw_sm_rf⟩
      show aw_W _ _ _ _ 27 lv1 [.int (Int32.ofInt 0)] _ _
      refine aw_e aj_d232 rfl rfl ?_
      have b90 : 0 ≤ (S.1 30).toInt ∧ (S.1 30).toInt ≤ 1001 := aw_bd_f hs (hI2).1 (by decide) rfl
      have c91 : (S87.1 30).toInt = (S.1 30).toInt := (congrArg Int32.toInt (fc87.1 30 (by decide)).1).trans rfl
      have b92 : 0 ≤ (S87.1 30).toInt ∧ (S87.1 30).toInt ≤ 1001 := aw_bd_f hs (hI89).1 (by decide) rfl
      exact ⟨(hI89).1, fr88, Or.inl ⟨_, rfl, rfl, hG87, (show _ ≤ ((S87.1 30)).toInt by omega)⟩⟩
theorem ar_tableName (hU : aw_U tb s h) (hT : ak_Ty ak_TN s (aj_mh h S)) (hG : aw_G (nm, false, la, 0, 0, 0) S) (hd : 6 ≤ d) {x : Int32} (hx : 0 ≤ x.toInt ∧ x.toInt ≤ 1) (hk : (S.1 26).toInt = 4 ∧ ((S.1 29).toInt = 1 ∨ (S.1 29).toInt = 5)) : aw_K tb h d 230 [.ref 117, .int x] S (ar_QB s h [24, 25, 26, 27, 28, 29, 30, 31, 33, 34] [8, 9] S aw_B (fun S' => aw_G (nm, false, la, 0, 0, aw_tJ S) S' ∧ (S.1 30).toInt + 1 ≤ (S'.1 30).toInt ∧ (S'.2.2.1 7 (aw_h S')).toInt ≤ 9 ∧ S'.2.2.2 8 (aw_h S' * 10 + (S'.2.2.1 7 (aw_h S')).toInt.toNat) = aw_nm (aw_tF S) (aw_tT S) (aw_tJ S + 1))) := by
  obtain ⟨d, rfl⟩ : ∃ e, d = e + 1 := ⟨d - 1, by omega⟩
  have hs : aw_sT s := aw_hy_sT hU.2.2
  refine aw_m aj_m230_at rfl (Nat.le_of_ble_eq_true rfl) ?_
  show aw_W _ _ _ _ 0 [(0, .ref 117), (1, .int x)] [] _ _
  obtain ⟨lv93, elv93⟩ : ∃ l : aj_V, l = [(0, .ref 117), (1, .int x)] := ⟨_, rfl⟩
  rw [← elv93]
  have hlv93_0 : aj_lv lv93 0 = some (.ref 117) := by rw [elv93]; rfl
  have hlv93_1 : aj_lv lv93 1 = some (.int x) := by rw [elv93]; rfl
  have hI94 : aw_I s h (aw_sm S) S := ⟨hT, aw_sm_rf⟩
  have fr95 : aw_fr [24, 25, 26, 27, 28, 29, 30, 31, 33, 34] [8, 9] S S := aw_fr_rf
  refine aw_l2 aj_d230 rfl rfl hlv93_0 ?_
  have i4 : (aw_tT S (aw_tJ S)).1 = 4 := hG.1.2.1.1.symm.trans hk.1
  have i5 : aw_is (aw_tT S) (aw_tJ S) 4 1 ∨ aw_is (aw_tT S) (aw_tJ S) 4 5 := hk.2.elim (fun z => Or.inl ⟨i4, hG.1.2.1.2.2.2.symm.trans z⟩) (fun z => Or.inr ⟨i4, hG.1.2.1.2.2.2.symm.trans z⟩)
  have ni : ∀ b : Int, b ≠ 1 → b ≠ 5 → ¬ aw_is (aw_tT S) (aw_tJ S) 4 b := fun b b1 b5 z => i5.elim (fun y => b1 (z.2.symm.trans y.2)) (fun y => b5 (z.2.symm.trans y.2))
  have n3 : ¬ aw_is (aw_tT S) (aw_tJ S) 3 63 := fun z => absurd (i4.symm.trans z.1) (by decide)
  refine aw_k hU.1 aj_d230 rfl rfl [] rfl rfl rfl (Nat.le_of_ble_eq_true rfl) (ar_passG (ho' := 0) (hu' := 0) (ht' := aw_tJ S) hU (hI94).1 hG (by omega) (by omega) ⟨Or.inl rfl, Or.inr ⟨n3, ni 2 (by decide) (by decide)⟩⟩ (Or.inl ⟨rfl, ni 0 (by decide) (by decide)⟩) (Or.inr ⟨rfl, rfl, i5⟩)) ?_
  rintro _ S96 ⟨hT96, fc96, ⟨b96, rfl, hb96, hG96, fd96, hz96⟩ | ⟨b96, rfl, hb96, hG96, fd96, cj96⟩⟩
  · skip
    have fr97 := aw_fr_tr fr95 (aw_fr_sub (F := [24, 25, 31]) (A := []) (by decide) (by decide) fd96)
    have hI98 : aw_I s h (aw_sm S96) S96 := ⟨hT96, aw_sm_rf⟩
    show aw_W _ _ _ _ 4 lv93 [.int b96] _ _
    refine aw_z (tgt := 9) aj_d230 rfl rfl (fun q99 => ?_) (fun q99 => ?_)
    · have q99 : (0 : Int) ≠ (0 : Int) := aw_t_ne (a := (0 : Int)) (b := (0 : Int)) hb96 rfl q99
      exfalso
      omega
    · have q99 : (0 : Int) = (0 : Int) := aw_t_ne (a := (0 : Int)) (b := (0 : Int)) hb96 rfl q99
      refine aw_n aj_d230 rfl rfl ?_
      refine aw_e aj_d230 rfl rfl ?_
      exact ⟨(hI98).1, fr97, Or.inl ⟨_, rfl, rfl, aw_G_B hG96⟩⟩
  · skip
    have fr100 := aw_fr_tr fr95 (aw_fr_sub (F := [26, 27, 28, 29, 30]) (A := []) (by decide) (by decide) fd96)
    have hI101 : aw_I s h (aw_sm S96) S96 := ⟨hT96, aw_sm_rf⟩
    show aw_W _ _ _ _ 4 lv93 [.int b96] _ _
    have eT1 : aw_tT S96 = aw_tT S := aw_fr_tT fd96 (by decide) (by decide)
    have eF1 : aw_tF S96 = aw_tF S := (fd96.2 21 (by decide)).1
    have eJ1 : aw_tJ S96 = aw_tJ S + 1 := by
      have j1 := hG.1.1
      unfold aw_tJ at j1 ⊢
      omega
    refine aw_z (tgt := 9) aj_d230 rfl rfl (fun q102 => ?_) (fun q102 => ?_)
    · have q102 : (1 : Int) ≠ (0 : Int) := aw_t_ne (a := (1 : Int)) (b := (0 : Int)) hb96 rfl q102
      refine aw_l2 aj_d230 rfl rfl hlv93_0 ?_
      have b103 : 0 ≤ (S96.1 26).toInt ∧ (S96.1 26).toInt ≤ 5 := aw_bd_f hs (hI101).1 (by decide) rfl
      refine aw_g hU.1 aj_d230 rfl rfl (by decide) (v := .int (S96.1 26)) rfl ?_
      refine aw_n aj_d230 rfl rfl ?_
      refine aw_c (tgt := 41) aj_d230 rfl rfl (fun q104 => ?_) (fun q104 => ?_)
      · have q104 : (S96.1 26).toInt ≠ (1 : Int) := aw_t_ne (a := (S96.1 26).toInt) (b := (1 : Int)) rfl rfl q104
        refine aw_l2 aj_d230 rfl rfl hlv93_0 ?_
        have b106 : 0 ≤ (S96.1 30).toInt ∧ (S96.1 30).toInt ≤ 1001 := aw_bd_f hs (hI101).1 (by decide) rfl
        refine aw_k hU.1 aj_d230 rfl rfl [] rfl rfl rfl (Nat.le_of_ble_eq_true rfl) (ar_named hU (hI101).1 hG96 (by omega)) ?_
        rintro _ S105 ⟨hT105, fc105, ⟨b105, rfl, hb105, hG105, ck105, hz105⟩ | ⟨b105, rfl, hb105, hG105, ck105, cj105, k1105, nm105⟩⟩
        · skip
          have ck105 : ((S96.1 30)).toInt ≤ (S105.1 30).toInt := ck105
          have fr107 := aw_fr_tr fr100 (aw_fr_sub (F := [24, 25, 26, 27, 28, 29, 30, 31, 33, 34]) (A := []) (by decide) (by decide) fc105)
          have hI108 : aw_I s h (aw_sm S105) S105 := ⟨hT105, aw_sm_rf⟩
          show aw_W _ _ _ _ 45 lv93 [.int b105] _ _
          refine aw_z (tgt := 50) aj_d230 rfl rfl (fun q109 => ?_) (fun q109 => ?_)
          · have q109 : (0 : Int) ≠ (0 : Int) := aw_t_ne (a := (0 : Int)) (b := (0 : Int)) hb105 rfl q109
            exfalso
            omega
          · have q109 : (0 : Int) = (0 : Int) := aw_t_ne (a := (0 : Int)) (b := (0 : Int)) hb105 rfl q109
            refine aw_n aj_d230 rfl rfl ?_
            refine aw_e aj_d230 rfl rfl ?_
            exact ⟨(hI108).1, fr107, Or.inl ⟨_, rfl, rfl, aw_G_B hG105⟩⟩
        · skip
          have cj105 : (S105.1 30).toInt = ((S96.1 30)).toInt + 1 := cj105
          have k1105 : ((S96.1 26)).toInt = 1 := k1105
          have fr110 := aw_fr_tr fr100 (aw_fr_sub (F := [24, 25, 26, 27, 28, 29, 30, 31, 33, 34]) (A := []) (by decide) (by decide) fc105)
          have hI111 : aw_I s h (aw_sm S105) S105 := ⟨hT105, aw_sm_rf⟩
          show aw_W _ _ _ _ 45 lv93 [.int b105] _ _
          refine aw_z (tgt := 50) aj_d230 rfl rfl (fun q112 => ?_) (fun q112 => ?_)
          · have q112 : (1 : Int) ≠ (0 : Int) := aw_t_ne (a := (1 : Int)) (b := (0 : Int)) hb105 rfl q112
            refine aw_l2 aj_d230 rfl rfl hlv93_0 ?_
            refine aw_l2 aj_d230 rfl rfl hlv93_0 ?_
            have b113 : 0 ≤ (S.1 37).toInt ∧ (S.1 37).toInt ≤ 1 := aw_bd_f hs (hI94).1 (by decide) rfl
            have c114 : (S96.1 37).toInt = (S.1 37).toInt := (congrArg Int32.toInt (fd96.1 37 (by decide)).1).trans rfl
            have b115 : 0 ≤ (S96.1 37).toInt ∧ (S96.1 37).toInt ≤ 1 := aw_bd_f hs (hI101).1 (by decide) rfl
            have c116 : (S105.1 37).toInt = (S.1 37).toInt := (congrArg Int32.toInt (fc105.1 37 (by decide)).1).trans c114
            have b117 : 0 ≤ (S105.1 37).toInt ∧ (S105.1 37).toInt ≤ 1 := aw_bd_f hs (hI111).1 (by decide) rfl
            refine aw_g hU.1 aj_d230 rfl rfl (by decide) (v := .int (S105.1 37)) rfl ?_
            refine aw_l2 aj_d230 rfl rfl hlv93_0 ?_
            refine aw_g hU.1 aj_d230 rfl rfl (by decide) (v := .long (S105.2.1 33)) rfl ?_
            refine aw_k hU.1 aj_d230 rfl rfl [_, _] rfl rfl rfl (Nat.le_of_ble_eq_true rfl) (aw_tableOfK (aw_UV hU aw_Gs_sm) hI111 (by omega) (t := ((S105.1 37).toInt).toNat) (by show ((S105.1 37)).toInt = _; omega) (by omega)) ?_
            rintro _ zb118 ⟨b118, rfl, fb118, hfb118⟩
            rw [fb118]
            show aw_W _ _ _ _ 62 lv93 [.int b118] _ _
            refine aw_z (tgt := 74) aj_d230 rfl rfl (fun q119 => ?_) (fun q119 => ?_)
            · have q119 : b118.toInt < (0 : Int) := aw_t_lt (a := b118.toInt) (b := (0 : Int)) rfl rfl q119
              refine aw_l2 aj_d230 rfl rfl hlv93_0 ?_
              refine aw_g hU.1 aj_d230 rfl rfl (by decide) (v := .ref 125) rfl ?_
              refine aw_l2 aj_d230 rfl rfl hlv93_0 ?_
              refine aw_g hU.1 aj_d230 rfl rfl (by decide) (v := .int (S105.1 37)) rfl ?_
              refine aw_n aj_d230 rfl rfl ?_
              refine aw_mul aj_d230 rfl (a := (S.1 37).toInt) (b := (10 : Int)) c116 rfl (by omega) (by omega) (fun x120 ex120 => ?_)
              refine aw_l2 aj_d230 rfl rfl hlv93_0 ?_
              refine aw_g hU.1 aj_d230 rfl rfl (by decide) (v := .ref 124) rfl ?_
              refine aw_l2 aj_d230 rfl rfl hlv93_0 ?_
              refine aw_g hU.1 aj_d230 rfl rfl (by decide) (v := .int (S105.1 37)) rfl ?_
              refine aw_ld (k := 7) hU.1 aj_d230 (Or.inl ⟨rfl, rfl⟩) rfl (by decide) (by decide) rfl (a := (S.1 37).toInt) c116 (by omega) (by omega) (fun x121 ex121 => ?_)
              have bx121 : 0 ≤ x121.toInt ∧ x121.toInt ≤ 10 := by
                rw [ex121]
                exact aw_bd_a hs (hI111).1 (k := 7) (by decide) (by decide) rfl (by decide) rfl (by omega)
              have ftx121 : x121.toInt = (S.2.2.1 7 ((S.1 37).toInt).toNat).toInt := congrArg Int32.toInt (ex121.trans (congrFun ((fc105.2 7 (by decide)).1.trans ((fd96.2 7 (by decide)).1.trans rfl)) _))
              refine aw_add aj_d230 rfl (a := x120.toInt) (b := x121.toInt) rfl rfl (by omega) (by omega) (fun x122 ex122 => ?_)
              refine aw_l2 aj_d230 rfl rfl hlv93_0 ?_
              refine aw_g hU.1 aj_d230 rfl rfl (by decide) (v := .long (S105.2.1 33)) rfl ?_
              refine aw_stl (k := 8) hU.1 aj_d230 rfl (by decide) (by decide) rfl (a := x122.toInt) rfl (by omega) (by omega) ?_
              have hI123 : aw_I s h (aw_sm (aw_wb S105 8 (x122.toInt).toNat (S105.2.1 33))) (aw_wb S105 8 (x122.toInt).toNat (S105.2.1 33)) := ⟨aw_T_b hU.2.1 hs hU.1.1 (hI111).1 (by decide) (by decide) rfl rfl, aw_sm_rf⟩
              have fr124 := aw_fr_b (k := 8) (j := (x122.toInt).toNat) (v := (S105.2.1 33)) (by decide) fr110
              have e7126 : (S105.2.2.1 7 (((S105.1 37)).toInt).toNat).toInt = (S.2.2.1 7 ((S.1 37).toInt).toNat).toInt := by rw [show (S105.2.2.1 7) = S.2.2.1 7 from ((fc105.2 7 (by decide)).1.trans ((fd96.2 7 (by decide)).1.trans rfl)), show ((S105.1 37)).toInt = (S.1 37).toInt from c116]
              have ehhG125 : aw_h S105 = (((S105.1 37)).toInt).toNat := rfl
              have hG125 : aw_G (nm, false, la, 0, 0, aw_tJ S) (aw_wb S105 8 (x122.toInt).toNat (S105.2.1 33)) := aw_G_t8 hG105 rfl (by rw [ehhG125]; omega)
              have hI127 : aw_I s h (aw_sm (aw_wb S105 8 (x122.toInt).toNat (S105.2.1 33))) (aw_wb S105 8 (x122.toInt).toNat (S105.2.1 33)) := ⟨(hI123).1, aw_sm_rf⟩
              refine aw_l2 aj_d230 rfl rfl hlv93_0 ?_
              refine aw_g hU.1 aj_d230 rfl rfl (by decide) (v := .ref 126) rfl ?_
              refine aw_l2 aj_d230 rfl rfl hlv93_0 ?_
              refine aw_g hU.1 aj_d230 rfl rfl (by decide) (v := .int (S105.1 37)) rfl ?_
              refine aw_n aj_d230 rfl rfl ?_
              refine aw_mul aj_d230 rfl (a := (S.1 37).toInt) (b := (10 : Int)) c116 rfl (by omega) (by omega) (fun x128 ex128 => ?_)
              refine aw_l2 aj_d230 rfl rfl hlv93_0 ?_
              refine aw_g hU.1 aj_d230 rfl rfl (by decide) (v := .ref 124) rfl ?_
              refine aw_l2 aj_d230 rfl rfl hlv93_0 ?_
              refine aw_g hU.1 aj_d230 rfl rfl (by decide) (v := .int (S105.1 37)) rfl ?_
              refine aw_ld (k := 7) hU.1 aj_d230 (Or.inl ⟨rfl, rfl⟩) rfl (by decide) (by decide) rfl (a := (S.1 37).toInt) c116 (by omega) (by omega) (fun x129 ex129 => ?_)
              have bx129 : 0 ≤ x129.toInt ∧ x129.toInt ≤ 10 := by
                rw [ex129]
                exact aw_bd_a hs (hI127).1 (k := 7) (by decide) (by decide) rfl (by decide) rfl (by omega)
              have ftx129 : x129.toInt = (S.2.2.1 7 ((S.1 37).toInt).toNat).toInt := congrArg Int32.toInt (ex129.trans (congrFun ((fc105.2 7 (by decide)).1.trans ((fd96.2 7 (by decide)).1.trans rfl)) _))
              refine aw_add aj_d230 rfl (a := x128.toInt) (b := x129.toInt) rfl rfl (by omega) (by omega) (fun x130 ex130 => ?_)
              refine aw_l0 aj_d230 rfl rfl hlv93_1 ?_
              refine aw_n aj_d230 rfl rfl ?_
              refine aw_c (tgt := 130) aj_d230 rfl rfl (fun q131 => ?_) (fun q131 => ?_)
              · have q131 : x.toInt ≠ (1 : Int) := aw_t_ne (a := x.toInt) (b := (1 : Int)) rfl rfl q131
                refine aw_n aj_d230 rfl rfl ?_
                refine aw_st (k := 9) hU.1 aj_d230 (Or.inr (Or.inr (Or.inl ⟨rfl, rfl⟩))) rfl (by decide) (by decide) rfl (a := x130.toInt) rfl (by omega) (by omega) ?_
                have hI132 := aw_I_a (aw_UV hU aw_Gs_sm) (k := 9) (j := (x130.toInt).toNat) (v := aj_nar 2 (Int32.ofInt 0)) hI127 (by decide) (by decide) (by decide) rfl (by decide) (by decide) rfl (aw_nar2 _)
                have fr133 := aw_fr_a (k := 9) (j := (x130.toInt).toNat) (v := aj_nar 2 (Int32.ofInt 0)) (by decide) fr124
                refine aw_n aj_d230 rfl rfl ?_
                refine aw_e aj_d230 rfl rfl ?_
                have e7134 : (S105.2.2.1 7 (((S105.1 37)).toInt).toNat).toInt = (S.2.2.1 7 ((S.1 37).toInt).toNat).toInt := by rw [show (S105.2.2.1 7) = S.2.2.1 7 from ((fc105.2 7 (by decide)).1.trans ((fd96.2 7 (by decide)).1.trans rfl)), show ((S105.1 37)).toInt = (S.1 37).toInt from c116]
                have b135 : 0 ≤ (S105.1 30).toInt ∧ (S105.1 30).toInt ≤ 1001 := aw_bd_f hs (hI111).1 (by decide) rfl
                refine ⟨(hI132).1, fr133, Or.inr ⟨_, rfl, rfl, (aw_G_sm hI132.2 hG125), (show _ + 1 ≤ ((S105.1 30)).toInt by omega), ?_, ?_⟩⟩
                · show (S105.2.2.1 7 (((S105.1 37)).toInt).toNat).toInt ≤ 9
                  omega
                · show (vp_updL (S105.2.2.2 8) (x122.toInt).toNat ((S105.2.1 33))) ((((S105.1 37)).toInt).toNat * 10 + ((S105.2.2.1 7 (((S105.1 37)).toInt).toNat).toInt).toNat) = _
                  unfold vp_updL
                  rw [if_pos (by omega), show (S105.2.1 33) = S105.2.1 33 from rfl, nm105, eT1, eF1, eJ1]
              · have q131 : x.toInt = (1 : Int) := aw_t_ne (a := x.toInt) (b := (1 : Int)) rfl rfl q131
                refine aw_n aj_d230 rfl rfl ?_
                refine aw_n aj_d230 rfl rfl ?_
                refine aw_st (k := 9) hU.1 aj_d230 (Or.inr (Or.inr (Or.inl ⟨rfl, rfl⟩))) rfl (by decide) (by decide) rfl (a := x130.toInt) rfl (by omega) (by omega) ?_
                have hI136 := aw_I_a (aw_UV hU aw_Gs_sm) (k := 9) (j := (x130.toInt).toNat) (v := aj_nar 2 (Int32.ofInt 1)) hI127 (by decide) (by decide) (by decide) rfl (by decide) (by decide) rfl (aw_nar2 _)
                have fr137 := aw_fr_a (k := 9) (j := (x130.toInt).toNat) (v := aj_nar 2 (Int32.ofInt 1)) (by decide) fr124
                refine aw_n aj_d230 rfl rfl ?_
                refine aw_e aj_d230 rfl rfl ?_
                have e7138 : (S105.2.2.1 7 (((S105.1 37)).toInt).toNat).toInt = (S.2.2.1 7 ((S.1 37).toInt).toNat).toInt := by rw [show (S105.2.2.1 7) = S.2.2.1 7 from ((fc105.2 7 (by decide)).1.trans ((fd96.2 7 (by decide)).1.trans rfl)), show ((S105.1 37)).toInt = (S.1 37).toInt from c116]
                have b139 : 0 ≤ (S105.1 30).toInt ∧ (S105.1 30).toInt ≤ 1001 := aw_bd_f hs (hI111).1 (by decide) rfl
                refine ⟨(hI136).1, fr137, Or.inr ⟨_, rfl, rfl, (aw_G_sm hI136.2 hG125), (show _ + 1 ≤ ((S105.1 30)).toInt by omega), ?_, ?_⟩⟩
                · show (S105.2.2.1 7 (((S105.1 37)).toInt).toNat).toInt ≤ 9
                  omega
                · show (vp_updL (S105.2.2.2 8) (x122.toInt).toNat ((S105.2.1 33))) ((((S105.1 37)).toInt).toNat * 10 + ((S105.2.2.1 7 (((S105.1 37)).toInt).toNat).toInt).toNat) = _
                  unfold vp_updL
                  rw [if_pos (by omega), show (S105.2.1 33) = S105.2.1 33 from rfl, nm105, eT1, eF1, eJ1]
            · have q119 : b118.toInt ≥ (0 : Int) := aw_t_lt (a := b118.toInt) (b := (0 : Int)) rfl rfl q119
              refine aw_l2 aj_d230 rfl rfl hlv93_0 ?_
              refine aw_n aj_d230 rfl rfl ?_
              refine aw_l2 aj_d230 rfl rfl hlv93_0 ?_
              refine aw_g hU.1 aj_d230 rfl rfl (by decide) (v := .int (S105.1 34)) rfl ?_
              refine aw_k hU.1 aj_d230 rfl rfl [_, _] rfl rfl rfl (Nat.le_of_ble_eq_true rfl) (ar_tell hU (hI111).1 (by omega) (a := (3 : Int)) rfl (by omega)) ?_
              rintro _ S140 ⟨hT140, fc140, rfl, hz140, hw140⟩
              have hG140 := aw_G_tell hG105 fc140 hz140
              have b141 : 0 ≤ (S.1 32).toInt ∧ (S.1 32).toInt ≤ 1 := aw_bd_f hs (hI94).1 (by decide) rfl
              have c142 : (S96.1 32).toInt = (S.1 32).toInt := (congrArg Int32.toInt (fd96.1 32 (by decide)).1).trans rfl
              have b143 : 0 ≤ (S96.1 32).toInt ∧ (S96.1 32).toInt ≤ 1 := aw_bd_f hs (hI101).1 (by decide) rfl
              have c144 : (S105.1 32).toInt = (S.1 32).toInt := (congrArg Int32.toInt (fc105.1 32 (by decide)).1).trans c142
              have b145 : 0 ≤ (S105.1 32).toInt ∧ (S105.1 32).toInt ≤ 1 := aw_bd_f hs (hI111).1 (by decide) rfl
              have hz140 : ((S105.1 32)).toInt = 0 → (S140.1 24).toInt ≠ 0 := hz140
              have fr146 := aw_fr_tr fr110 (aw_fr_sub (F := [24, 25]) (A := []) (by decide) (by decide) fc140)
              have hI147 : aw_I s h (aw_sm S140) S140 := ⟨hT140, aw_sm_rf⟩
              show aw_W _ _ _ _ 74 lv93 [] _ _
              refine aw_l2 aj_d230 rfl rfl hlv93_0 ?_
              refine aw_g hU.1 aj_d230 rfl rfl (by decide) (v := .ref 125) rfl ?_
              refine aw_l2 aj_d230 rfl rfl hlv93_0 ?_
              have c148 : (S140.1 37).toInt = (S.1 37).toInt := (congrArg Int32.toInt (fc140.1 37 (by decide)).1).trans c116
              have b149 : 0 ≤ (S140.1 37).toInt ∧ (S140.1 37).toInt ≤ 1 := aw_bd_f hs (hI147).1 (by decide) rfl
              refine aw_g hU.1 aj_d230 rfl rfl (by decide) (v := .int (S140.1 37)) rfl ?_
              refine aw_n aj_d230 rfl rfl ?_
              refine aw_mul aj_d230 rfl (a := (S.1 37).toInt) (b := (10 : Int)) c148 rfl (by omega) (by omega) (fun x150 ex150 => ?_)
              refine aw_l2 aj_d230 rfl rfl hlv93_0 ?_
              refine aw_g hU.1 aj_d230 rfl rfl (by decide) (v := .ref 124) rfl ?_
              refine aw_l2 aj_d230 rfl rfl hlv93_0 ?_
              refine aw_g hU.1 aj_d230 rfl rfl (by decide) (v := .int (S140.1 37)) rfl ?_
              refine aw_ld (k := 7) hU.1 aj_d230 (Or.inl ⟨rfl, rfl⟩) rfl (by decide) (by decide) rfl (a := (S.1 37).toInt) c148 (by omega) (by omega) (fun x151 ex151 => ?_)
              have bx151 : 0 ≤ x151.toInt ∧ x151.toInt ≤ 10 := by
                rw [ex151]
                exact aw_bd_a hs (hI147).1 (k := 7) (by decide) (by decide) rfl (by decide) rfl (by omega)
              have ftx151 : x151.toInt = (S.2.2.1 7 ((S.1 37).toInt).toNat).toInt := congrArg Int32.toInt (ex151.trans (congrFun ((fc140.2 7 (by decide)).1.trans ((fc105.2 7 (by decide)).1.trans ((fd96.2 7 (by decide)).1.trans rfl))) _))
              refine aw_add aj_d230 rfl (a := x150.toInt) (b := x151.toInt) rfl rfl (by omega) (by omega) (fun x152 ex152 => ?_)
              refine aw_l2 aj_d230 rfl rfl hlv93_0 ?_
              refine aw_g hU.1 aj_d230 rfl rfl (by decide) (v := .long (S140.2.1 33)) rfl ?_
              refine aw_stl (k := 8) hU.1 aj_d230 rfl (by decide) (by decide) rfl (a := x152.toInt) rfl (by omega) (by omega) ?_
              have hI153 : aw_I s h (aw_sm (aw_wb S140 8 (x152.toInt).toNat (S140.2.1 33))) (aw_wb S140 8 (x152.toInt).toNat (S140.2.1 33)) := ⟨aw_T_b hU.2.1 hs hU.1.1 (hI147).1 (by decide) (by decide) rfl rfl, aw_sm_rf⟩
              have fr154 := aw_fr_b (k := 8) (j := (x152.toInt).toNat) (v := (S140.2.1 33)) (by decide) fr146
              have e7156 : (S140.2.2.1 7 (((S140.1 37)).toInt).toNat).toInt = (S.2.2.1 7 ((S.1 37).toInt).toNat).toInt := by rw [show (S140.2.2.1 7) = S.2.2.1 7 from ((fc140.2 7 (by decide)).1.trans ((fc105.2 7 (by decide)).1.trans ((fd96.2 7 (by decide)).1.trans rfl))), show ((S140.1 37)).toInt = (S.1 37).toInt from c148]
              have ehhG155 : aw_h S140 = (((S140.1 37)).toInt).toNat := rfl
              have hG155 : aw_G (nm, false, la, 0, 0, aw_tJ S) (aw_wb S140 8 (x152.toInt).toNat (S140.2.1 33)) := aw_G_t8 hG140 rfl (by rw [ehhG155]; omega)
              have hI157 : aw_I s h (aw_sm (aw_wb S140 8 (x152.toInt).toNat (S140.2.1 33))) (aw_wb S140 8 (x152.toInt).toNat (S140.2.1 33)) := ⟨(hI153).1, aw_sm_rf⟩
              refine aw_l2 aj_d230 rfl rfl hlv93_0 ?_
              refine aw_g hU.1 aj_d230 rfl rfl (by decide) (v := .ref 126) rfl ?_
              refine aw_l2 aj_d230 rfl rfl hlv93_0 ?_
              refine aw_g hU.1 aj_d230 rfl rfl (by decide) (v := .int (S140.1 37)) rfl ?_
              refine aw_n aj_d230 rfl rfl ?_
              refine aw_mul aj_d230 rfl (a := (S.1 37).toInt) (b := (10 : Int)) c148 rfl (by omega) (by omega) (fun x158 ex158 => ?_)
              refine aw_l2 aj_d230 rfl rfl hlv93_0 ?_
              refine aw_g hU.1 aj_d230 rfl rfl (by decide) (v := .ref 124) rfl ?_
              refine aw_l2 aj_d230 rfl rfl hlv93_0 ?_
              refine aw_g hU.1 aj_d230 rfl rfl (by decide) (v := .int (S140.1 37)) rfl ?_
              refine aw_ld (k := 7) hU.1 aj_d230 (Or.inl ⟨rfl, rfl⟩) rfl (by decide) (by decide) rfl (a := (S.1 37).toInt) c148 (by omega) (by omega) (fun x159 ex159 => ?_)
              have bx159 : 0 ≤ x159.toInt ∧ x159.toInt ≤ 10 := by
                rw [ex159]
                exact aw_bd_a hs (hI157).1 (k := 7) (by decide) (by decide) rfl (by decide) rfl (by omega)
              have ftx159 : x159.toInt = (S.2.2.1 7 ((S.1 37).toInt).toNat).toInt := congrArg Int32.toInt (ex159.trans (congrFun ((fc140.2 7 (by decide)).1.trans ((fc105.2 7 (by decide)).1.trans ((fd96.2 7 (by decide)).1.trans rfl))) _))
              refine aw_add aj_d230 rfl (a := x158.toInt) (b := x159.toInt) rfl rfl (by omega) (by omega) (fun x160 ex160 => ?_)
              refine aw_l0 aj_d230 rfl rfl hlv93_1 ?_
              refine aw_n aj_d230 rfl rfl ?_
              refine aw_c (tgt := 130) aj_d230 rfl rfl (fun q161 => ?_) (fun q161 => ?_)
              · have q161 : x.toInt ≠ (1 : Int) := aw_t_ne (a := x.toInt) (b := (1 : Int)) rfl rfl q161
                refine aw_n aj_d230 rfl rfl ?_
                refine aw_st (k := 9) hU.1 aj_d230 (Or.inr (Or.inr (Or.inl ⟨rfl, rfl⟩))) rfl (by decide) (by decide) rfl (a := x160.toInt) rfl (by omega) (by omega) ?_
                have hI162 := aw_I_a (aw_UV hU aw_Gs_sm) (k := 9) (j := (x160.toInt).toNat) (v := aj_nar 2 (Int32.ofInt 0)) hI157 (by decide) (by decide) (by decide) rfl (by decide) (by decide) rfl (aw_nar2 _)
                have fr163 := aw_fr_a (k := 9) (j := (x160.toInt).toNat) (v := aj_nar 2 (Int32.ofInt 0)) (by decide) fr154
                refine aw_n aj_d230 rfl rfl ?_
                refine aw_e aj_d230 rfl rfl ?_
                have e7164 : (S140.2.2.1 7 (((S140.1 37)).toInt).toNat).toInt = (S.2.2.1 7 ((S.1 37).toInt).toNat).toInt := by rw [show (S140.2.2.1 7) = S.2.2.1 7 from ((fc140.2 7 (by decide)).1.trans ((fc105.2 7 (by decide)).1.trans ((fd96.2 7 (by decide)).1.trans rfl))), show ((S140.1 37)).toInt = (S.1 37).toInt from c148]
                have b165 : 0 ≤ (S105.1 30).toInt ∧ (S105.1 30).toInt ≤ 1001 := aw_bd_f hs (hI111).1 (by decide) rfl
                have c166 : (S140.1 30).toInt = (S105.1 30).toInt := (congrArg Int32.toInt (fc140.1 30 (by decide)).1).trans rfl
                have b167 : 0 ≤ (S140.1 30).toInt ∧ (S140.1 30).toInt ≤ 1001 := aw_bd_f hs (hI147).1 (by decide) rfl
                refine ⟨(hI162).1, fr163, Or.inr ⟨_, rfl, rfl, (aw_G_sm hI162.2 hG155), (show _ + 1 ≤ ((S140.1 30)).toInt by omega), ?_, ?_⟩⟩
                · show (S140.2.2.1 7 (((S140.1 37)).toInt).toNat).toInt ≤ 9
                  omega
                · show (vp_updL (S140.2.2.2 8) (x152.toInt).toNat ((S140.2.1 33))) ((((S140.1 37)).toInt).toNat * 10 + ((S140.2.2.1 7 (((S140.1 37)).toInt).toNat).toInt).toNat) = _
                  unfold vp_updL
                  rw [if_pos (by omega), ((fc140.1 33 (by decide)).2.trans rfl), nm105, eT1, eF1, eJ1]
              · have q161 : x.toInt = (1 : Int) := aw_t_ne (a := x.toInt) (b := (1 : Int)) rfl rfl q161
                refine aw_n aj_d230 rfl rfl ?_
                refine aw_n aj_d230 rfl rfl ?_
                refine aw_st (k := 9) hU.1 aj_d230 (Or.inr (Or.inr (Or.inl ⟨rfl, rfl⟩))) rfl (by decide) (by decide) rfl (a := x160.toInt) rfl (by omega) (by omega) ?_
                have hI168 := aw_I_a (aw_UV hU aw_Gs_sm) (k := 9) (j := (x160.toInt).toNat) (v := aj_nar 2 (Int32.ofInt 1)) hI157 (by decide) (by decide) (by decide) rfl (by decide) (by decide) rfl (aw_nar2 _)
                have fr169 := aw_fr_a (k := 9) (j := (x160.toInt).toNat) (v := aj_nar 2 (Int32.ofInt 1)) (by decide) fr154
                refine aw_n aj_d230 rfl rfl ?_
                refine aw_e aj_d230 rfl rfl ?_
                have e7170 : (S140.2.2.1 7 (((S140.1 37)).toInt).toNat).toInt = (S.2.2.1 7 ((S.1 37).toInt).toNat).toInt := by rw [show (S140.2.2.1 7) = S.2.2.1 7 from ((fc140.2 7 (by decide)).1.trans ((fc105.2 7 (by decide)).1.trans ((fd96.2 7 (by decide)).1.trans rfl))), show ((S140.1 37)).toInt = (S.1 37).toInt from c148]
                have b171 : 0 ≤ (S105.1 30).toInt ∧ (S105.1 30).toInt ≤ 1001 := aw_bd_f hs (hI111).1 (by decide) rfl
                have c172 : (S140.1 30).toInt = (S105.1 30).toInt := (congrArg Int32.toInt (fc140.1 30 (by decide)).1).trans rfl
                have b173 : 0 ≤ (S140.1 30).toInt ∧ (S140.1 30).toInt ≤ 1001 := aw_bd_f hs (hI147).1 (by decide) rfl
                refine ⟨(hI168).1, fr169, Or.inr ⟨_, rfl, rfl, (aw_G_sm hI168.2 hG155), (show _ + 1 ≤ ((S140.1 30)).toInt by omega), ?_, ?_⟩⟩
                · show (S140.2.2.1 7 (((S140.1 37)).toInt).toNat).toInt ≤ 9
                  omega
                · show (vp_updL (S140.2.2.2 8) (x152.toInt).toNat ((S140.2.1 33))) ((((S140.1 37)).toInt).toNat * 10 + ((S140.2.2.1 7 (((S140.1 37)).toInt).toNat).toInt).toNat) = _
                  unfold vp_updL
                  rw [if_pos (by omega), ((fc140.1 33 (by decide)).2.trans rfl), nm105, eT1, eF1, eJ1]
          · have q112 : (1 : Int) = (0 : Int) := aw_t_ne (a := (1 : Int)) (b := (0 : Int)) hb105 rfl q112
            exfalso
            omega
      · have q104 : (S96.1 26).toInt = (1 : Int) := aw_t_ne (a := (S96.1 26).toInt) (b := (1 : Int)) rfl rfl q104
        refine aw_l2 aj_d230 rfl rfl hlv93_0 ?_
        refine aw_g hU.1 aj_d230 rfl rfl (by decide) (v := .ref 124) rfl ?_
        refine aw_l2 aj_d230 rfl rfl hlv93_0 ?_
        have b174 : 0 ≤ (S.1 37).toInt ∧ (S.1 37).toInt ≤ 1 := aw_bd_f hs (hI94).1 (by decide) rfl
        have c175 : (S96.1 37).toInt = (S.1 37).toInt := (congrArg Int32.toInt (fd96.1 37 (by decide)).1).trans rfl
        have b176 : 0 ≤ (S96.1 37).toInt ∧ (S96.1 37).toInt ≤ 1 := aw_bd_f hs (hI101).1 (by decide) rfl
        refine aw_g hU.1 aj_d230 rfl rfl (by decide) (v := .int (S96.1 37)) rfl ?_
        refine aw_ld (k := 7) hU.1 aj_d230 (Or.inl ⟨rfl, rfl⟩) rfl (by decide) (by decide) rfl (a := (S.1 37).toInt) c175 (by omega) (by omega) (fun x177 ex177 => ?_)
        have bx177 : 0 ≤ x177.toInt ∧ x177.toInt ≤ 10 := by
          rw [ex177]
          exact aw_bd_a hs (hI101).1 (k := 7) (by decide) (by decide) rfl (by decide) rfl (by omega)
        have ftx177 : x177.toInt = (S.2.2.1 7 ((S.1 37).toInt).toNat).toInt := congrArg Int32.toInt (ex177.trans (congrFun ((fd96.2 7 (by decide)).1.trans rfl) _))
        refine aw_n aj_d230 rfl rfl ?_
        refine aw_c (tgt := 41) aj_d230 rfl rfl (fun q178 => ?_) (fun q178 => ?_)
        · have q178 : x177.toInt ≠ (10 : Int) := aw_t_ne (a := x177.toInt) (b := (10 : Int)) rfl rfl q178
          refine aw_l2 aj_d230 rfl rfl hlv93_0 ?_
          have b180 : 0 ≤ (S96.1 30).toInt ∧ (S96.1 30).toInt ≤ 1001 := aw_bd_f hs (hI101).1 (by decide) rfl
          refine aw_k hU.1 aj_d230 rfl rfl [] rfl rfl rfl (Nat.le_of_ble_eq_true rfl) (ar_named hU (hI101).1 hG96 (by omega)) ?_
          rintro _ S179 ⟨hT179, fc179, ⟨b179, rfl, hb179, hG179, ck179, hz179⟩ | ⟨b179, rfl, hb179, hG179, ck179, cj179, k1179, nm179⟩⟩
          · skip
            have ck179 : ((S96.1 30)).toInt ≤ (S179.1 30).toInt := ck179
            have fr181 := aw_fr_tr fr100 (aw_fr_sub (F := [24, 25, 26, 27, 28, 29, 30, 31, 33, 34]) (A := []) (by decide) (by decide) fc179)
            have hI182 : aw_I s h (aw_sm S179) S179 := ⟨hT179, aw_sm_rf⟩
            show aw_W _ _ _ _ 45 lv93 [.int b179] _ _
            refine aw_z (tgt := 50) aj_d230 rfl rfl (fun q183 => ?_) (fun q183 => ?_)
            · have q183 : (0 : Int) ≠ (0 : Int) := aw_t_ne (a := (0 : Int)) (b := (0 : Int)) hb179 rfl q183
              exfalso
              omega
            · have q183 : (0 : Int) = (0 : Int) := aw_t_ne (a := (0 : Int)) (b := (0 : Int)) hb179 rfl q183
              refine aw_n aj_d230 rfl rfl ?_
              refine aw_e aj_d230 rfl rfl ?_
              exact ⟨(hI182).1, fr181, Or.inl ⟨_, rfl, rfl, aw_G_B hG179⟩⟩
          · skip
            have cj179 : (S179.1 30).toInt = ((S96.1 30)).toInt + 1 := cj179
            have k1179 : ((S96.1 26)).toInt = 1 := k1179
            have fr184 := aw_fr_tr fr100 (aw_fr_sub (F := [24, 25, 26, 27, 28, 29, 30, 31, 33, 34]) (A := []) (by decide) (by decide) fc179)
            have hI185 : aw_I s h (aw_sm S179) S179 := ⟨hT179, aw_sm_rf⟩
            show aw_W _ _ _ _ 45 lv93 [.int b179] _ _
            refine aw_z (tgt := 50) aj_d230 rfl rfl (fun q186 => ?_) (fun q186 => ?_)
            · have q186 : (1 : Int) ≠ (0 : Int) := aw_t_ne (a := (1 : Int)) (b := (0 : Int)) hb179 rfl q186
              refine aw_l2 aj_d230 rfl rfl hlv93_0 ?_
              refine aw_l2 aj_d230 rfl rfl hlv93_0 ?_
              have c187 : (S179.1 37).toInt = (S.1 37).toInt := (congrArg Int32.toInt (fc179.1 37 (by decide)).1).trans c175
              have b188 : 0 ≤ (S179.1 37).toInt ∧ (S179.1 37).toInt ≤ 1 := aw_bd_f hs (hI185).1 (by decide) rfl
              refine aw_g hU.1 aj_d230 rfl rfl (by decide) (v := .int (S179.1 37)) rfl ?_
              refine aw_l2 aj_d230 rfl rfl hlv93_0 ?_
              refine aw_g hU.1 aj_d230 rfl rfl (by decide) (v := .long (S179.2.1 33)) rfl ?_
              refine aw_k hU.1 aj_d230 rfl rfl [_, _] rfl rfl rfl (Nat.le_of_ble_eq_true rfl) (aw_tableOfK (aw_UV hU aw_Gs_sm) hI185 (by omega) (t := ((S179.1 37).toInt).toNat) (by show ((S179.1 37)).toInt = _; omega) (by omega)) ?_
              rintro _ zb189 ⟨b189, rfl, fb189, hfb189⟩
              rw [fb189]
              show aw_W _ _ _ _ 62 lv93 [.int b189] _ _
              refine aw_z (tgt := 74) aj_d230 rfl rfl (fun q190 => ?_) (fun q190 => ?_)
              · have q190 : b189.toInt < (0 : Int) := aw_t_lt (a := b189.toInt) (b := (0 : Int)) rfl rfl q190
                refine aw_l2 aj_d230 rfl rfl hlv93_0 ?_
                refine aw_g hU.1 aj_d230 rfl rfl (by decide) (v := .ref 125) rfl ?_
                refine aw_l2 aj_d230 rfl rfl hlv93_0 ?_
                refine aw_g hU.1 aj_d230 rfl rfl (by decide) (v := .int (S179.1 37)) rfl ?_
                refine aw_n aj_d230 rfl rfl ?_
                refine aw_mul aj_d230 rfl (a := (S.1 37).toInt) (b := (10 : Int)) c187 rfl (by omega) (by omega) (fun x191 ex191 => ?_)
                refine aw_l2 aj_d230 rfl rfl hlv93_0 ?_
                refine aw_g hU.1 aj_d230 rfl rfl (by decide) (v := .ref 124) rfl ?_
                refine aw_l2 aj_d230 rfl rfl hlv93_0 ?_
                refine aw_g hU.1 aj_d230 rfl rfl (by decide) (v := .int (S179.1 37)) rfl ?_
                refine aw_ld (k := 7) hU.1 aj_d230 (Or.inl ⟨rfl, rfl⟩) rfl (by decide) (by decide) rfl (a := (S.1 37).toInt) c187 (by omega) (by omega) (fun x192 ex192 => ?_)
                have bx192 : 0 ≤ x192.toInt ∧ x192.toInt ≤ 10 := by
                  rw [ex192]
                  exact aw_bd_a hs (hI185).1 (k := 7) (by decide) (by decide) rfl (by decide) rfl (by omega)
                have ftx192 : x192.toInt = (S.2.2.1 7 ((S.1 37).toInt).toNat).toInt := congrArg Int32.toInt (ex192.trans (congrFun ((fc179.2 7 (by decide)).1.trans ((fd96.2 7 (by decide)).1.trans rfl)) _))
                refine aw_add aj_d230 rfl (a := x191.toInt) (b := x192.toInt) rfl rfl (by omega) (by omega) (fun x193 ex193 => ?_)
                refine aw_l2 aj_d230 rfl rfl hlv93_0 ?_
                refine aw_g hU.1 aj_d230 rfl rfl (by decide) (v := .long (S179.2.1 33)) rfl ?_
                refine aw_stl (k := 8) hU.1 aj_d230 rfl (by decide) (by decide) rfl (a := x193.toInt) rfl (by omega) (by omega) ?_
                have hI194 : aw_I s h (aw_sm (aw_wb S179 8 (x193.toInt).toNat (S179.2.1 33))) (aw_wb S179 8 (x193.toInt).toNat (S179.2.1 33)) := ⟨aw_T_b hU.2.1 hs hU.1.1 (hI185).1 (by decide) (by decide) rfl rfl, aw_sm_rf⟩
                have fr195 := aw_fr_b (k := 8) (j := (x193.toInt).toNat) (v := (S179.2.1 33)) (by decide) fr184
                have e7197 : (S179.2.2.1 7 (((S179.1 37)).toInt).toNat).toInt = (S.2.2.1 7 ((S.1 37).toInt).toNat).toInt := by rw [show (S179.2.2.1 7) = S.2.2.1 7 from ((fc179.2 7 (by decide)).1.trans ((fd96.2 7 (by decide)).1.trans rfl)), show ((S179.1 37)).toInt = (S.1 37).toInt from c187]
                have ehhG196 : aw_h S179 = (((S179.1 37)).toInt).toNat := rfl
                have hG196 : aw_G (nm, false, la, 0, 0, aw_tJ S) (aw_wb S179 8 (x193.toInt).toNat (S179.2.1 33)) := aw_G_t8 hG179 rfl (by rw [ehhG196]; omega)
                have hI198 : aw_I s h (aw_sm (aw_wb S179 8 (x193.toInt).toNat (S179.2.1 33))) (aw_wb S179 8 (x193.toInt).toNat (S179.2.1 33)) := ⟨(hI194).1, aw_sm_rf⟩
                refine aw_l2 aj_d230 rfl rfl hlv93_0 ?_
                refine aw_g hU.1 aj_d230 rfl rfl (by decide) (v := .ref 126) rfl ?_
                refine aw_l2 aj_d230 rfl rfl hlv93_0 ?_
                refine aw_g hU.1 aj_d230 rfl rfl (by decide) (v := .int (S179.1 37)) rfl ?_
                refine aw_n aj_d230 rfl rfl ?_
                refine aw_mul aj_d230 rfl (a := (S.1 37).toInt) (b := (10 : Int)) c187 rfl (by omega) (by omega) (fun x199 ex199 => ?_)
                refine aw_l2 aj_d230 rfl rfl hlv93_0 ?_
                refine aw_g hU.1 aj_d230 rfl rfl (by decide) (v := .ref 124) rfl ?_
                refine aw_l2 aj_d230 rfl rfl hlv93_0 ?_
                refine aw_g hU.1 aj_d230 rfl rfl (by decide) (v := .int (S179.1 37)) rfl ?_
                refine aw_ld (k := 7) hU.1 aj_d230 (Or.inl ⟨rfl, rfl⟩) rfl (by decide) (by decide) rfl (a := (S.1 37).toInt) c187 (by omega) (by omega) (fun x200 ex200 => ?_)
                have bx200 : 0 ≤ x200.toInt ∧ x200.toInt ≤ 10 := by
                  rw [ex200]
                  exact aw_bd_a hs (hI198).1 (k := 7) (by decide) (by decide) rfl (by decide) rfl (by omega)
                have ftx200 : x200.toInt = (S.2.2.1 7 ((S.1 37).toInt).toNat).toInt := congrArg Int32.toInt (ex200.trans (congrFun ((fc179.2 7 (by decide)).1.trans ((fd96.2 7 (by decide)).1.trans rfl)) _))
                refine aw_add aj_d230 rfl (a := x199.toInt) (b := x200.toInt) rfl rfl (by omega) (by omega) (fun x201 ex201 => ?_)
                refine aw_l0 aj_d230 rfl rfl hlv93_1 ?_
                refine aw_n aj_d230 rfl rfl ?_
                refine aw_c (tgt := 130) aj_d230 rfl rfl (fun q202 => ?_) (fun q202 => ?_)
                · have q202 : x.toInt ≠ (1 : Int) := aw_t_ne (a := x.toInt) (b := (1 : Int)) rfl rfl q202
                  refine aw_n aj_d230 rfl rfl ?_
                  refine aw_st (k := 9) hU.1 aj_d230 (Or.inr (Or.inr (Or.inl ⟨rfl, rfl⟩))) rfl (by decide) (by decide) rfl (a := x201.toInt) rfl (by omega) (by omega) ?_
                  have hI203 := aw_I_a (aw_UV hU aw_Gs_sm) (k := 9) (j := (x201.toInt).toNat) (v := aj_nar 2 (Int32.ofInt 0)) hI198 (by decide) (by decide) (by decide) rfl (by decide) (by decide) rfl (aw_nar2 _)
                  have fr204 := aw_fr_a (k := 9) (j := (x201.toInt).toNat) (v := aj_nar 2 (Int32.ofInt 0)) (by decide) fr195
                  refine aw_n aj_d230 rfl rfl ?_
                  refine aw_e aj_d230 rfl rfl ?_
                  have e7205 : (S179.2.2.1 7 (((S179.1 37)).toInt).toNat).toInt = (S.2.2.1 7 ((S.1 37).toInt).toNat).toInt := by rw [show (S179.2.2.1 7) = S.2.2.1 7 from ((fc179.2 7 (by decide)).1.trans ((fd96.2 7 (by decide)).1.trans rfl)), show ((S179.1 37)).toInt = (S.1 37).toInt from c187]
                  have b206 : 0 ≤ (S179.1 30).toInt ∧ (S179.1 30).toInt ≤ 1001 := aw_bd_f hs (hI185).1 (by decide) rfl
                  refine ⟨(hI203).1, fr204, Or.inr ⟨_, rfl, rfl, (aw_G_sm hI203.2 hG196), (show _ + 1 ≤ ((S179.1 30)).toInt by omega), ?_, ?_⟩⟩
                  · show (S179.2.2.1 7 (((S179.1 37)).toInt).toNat).toInt ≤ 9
                    omega
                  · show (vp_updL (S179.2.2.2 8) (x193.toInt).toNat ((S179.2.1 33))) ((((S179.1 37)).toInt).toNat * 10 + ((S179.2.2.1 7 (((S179.1 37)).toInt).toNat).toInt).toNat) = _
                    unfold vp_updL
                    rw [if_pos (by omega), show (S179.2.1 33) = S179.2.1 33 from rfl, nm179, eT1, eF1, eJ1]
                · have q202 : x.toInt = (1 : Int) := aw_t_ne (a := x.toInt) (b := (1 : Int)) rfl rfl q202
                  refine aw_n aj_d230 rfl rfl ?_
                  refine aw_n aj_d230 rfl rfl ?_
                  refine aw_st (k := 9) hU.1 aj_d230 (Or.inr (Or.inr (Or.inl ⟨rfl, rfl⟩))) rfl (by decide) (by decide) rfl (a := x201.toInt) rfl (by omega) (by omega) ?_
                  have hI207 := aw_I_a (aw_UV hU aw_Gs_sm) (k := 9) (j := (x201.toInt).toNat) (v := aj_nar 2 (Int32.ofInt 1)) hI198 (by decide) (by decide) (by decide) rfl (by decide) (by decide) rfl (aw_nar2 _)
                  have fr208 := aw_fr_a (k := 9) (j := (x201.toInt).toNat) (v := aj_nar 2 (Int32.ofInt 1)) (by decide) fr195
                  refine aw_n aj_d230 rfl rfl ?_
                  refine aw_e aj_d230 rfl rfl ?_
                  have e7209 : (S179.2.2.1 7 (((S179.1 37)).toInt).toNat).toInt = (S.2.2.1 7 ((S.1 37).toInt).toNat).toInt := by rw [show (S179.2.2.1 7) = S.2.2.1 7 from ((fc179.2 7 (by decide)).1.trans ((fd96.2 7 (by decide)).1.trans rfl)), show ((S179.1 37)).toInt = (S.1 37).toInt from c187]
                  have b210 : 0 ≤ (S179.1 30).toInt ∧ (S179.1 30).toInt ≤ 1001 := aw_bd_f hs (hI185).1 (by decide) rfl
                  refine ⟨(hI207).1, fr208, Or.inr ⟨_, rfl, rfl, (aw_G_sm hI207.2 hG196), (show _ + 1 ≤ ((S179.1 30)).toInt by omega), ?_, ?_⟩⟩
                  · show (S179.2.2.1 7 (((S179.1 37)).toInt).toNat).toInt ≤ 9
                    omega
                  · show (vp_updL (S179.2.2.2 8) (x193.toInt).toNat ((S179.2.1 33))) ((((S179.1 37)).toInt).toNat * 10 + ((S179.2.2.1 7 (((S179.1 37)).toInt).toNat).toInt).toNat) = _
                    unfold vp_updL
                    rw [if_pos (by omega), show (S179.2.1 33) = S179.2.1 33 from rfl, nm179, eT1, eF1, eJ1]
              · have q190 : b189.toInt ≥ (0 : Int) := aw_t_lt (a := b189.toInt) (b := (0 : Int)) rfl rfl q190
                refine aw_l2 aj_d230 rfl rfl hlv93_0 ?_
                refine aw_n aj_d230 rfl rfl ?_
                refine aw_l2 aj_d230 rfl rfl hlv93_0 ?_
                refine aw_g hU.1 aj_d230 rfl rfl (by decide) (v := .int (S179.1 34)) rfl ?_
                refine aw_k hU.1 aj_d230 rfl rfl [_, _] rfl rfl rfl (Nat.le_of_ble_eq_true rfl) (ar_tell hU (hI185).1 (by omega) (a := (3 : Int)) rfl (by omega)) ?_
                rintro _ S211 ⟨hT211, fc211, rfl, hz211, hw211⟩
                have hG211 := aw_G_tell hG179 fc211 hz211
                have b212 : 0 ≤ (S.1 32).toInt ∧ (S.1 32).toInt ≤ 1 := aw_bd_f hs (hI94).1 (by decide) rfl
                have c213 : (S96.1 32).toInt = (S.1 32).toInt := (congrArg Int32.toInt (fd96.1 32 (by decide)).1).trans rfl
                have b214 : 0 ≤ (S96.1 32).toInt ∧ (S96.1 32).toInt ≤ 1 := aw_bd_f hs (hI101).1 (by decide) rfl
                have c215 : (S179.1 32).toInt = (S.1 32).toInt := (congrArg Int32.toInt (fc179.1 32 (by decide)).1).trans c213
                have b216 : 0 ≤ (S179.1 32).toInt ∧ (S179.1 32).toInt ≤ 1 := aw_bd_f hs (hI185).1 (by decide) rfl
                have hz211 : ((S179.1 32)).toInt = 0 → (S211.1 24).toInt ≠ 0 := hz211
                have fr217 := aw_fr_tr fr184 (aw_fr_sub (F := [24, 25]) (A := []) (by decide) (by decide) fc211)
                have hI218 : aw_I s h (aw_sm S211) S211 := ⟨hT211, aw_sm_rf⟩
                show aw_W _ _ _ _ 74 lv93 [] _ _
                refine aw_l2 aj_d230 rfl rfl hlv93_0 ?_
                refine aw_g hU.1 aj_d230 rfl rfl (by decide) (v := .ref 125) rfl ?_
                refine aw_l2 aj_d230 rfl rfl hlv93_0 ?_
                have c219 : (S211.1 37).toInt = (S.1 37).toInt := (congrArg Int32.toInt (fc211.1 37 (by decide)).1).trans c187
                have b220 : 0 ≤ (S211.1 37).toInt ∧ (S211.1 37).toInt ≤ 1 := aw_bd_f hs (hI218).1 (by decide) rfl
                refine aw_g hU.1 aj_d230 rfl rfl (by decide) (v := .int (S211.1 37)) rfl ?_
                refine aw_n aj_d230 rfl rfl ?_
                refine aw_mul aj_d230 rfl (a := (S.1 37).toInt) (b := (10 : Int)) c219 rfl (by omega) (by omega) (fun x221 ex221 => ?_)
                refine aw_l2 aj_d230 rfl rfl hlv93_0 ?_
                refine aw_g hU.1 aj_d230 rfl rfl (by decide) (v := .ref 124) rfl ?_
                refine aw_l2 aj_d230 rfl rfl hlv93_0 ?_
                refine aw_g hU.1 aj_d230 rfl rfl (by decide) (v := .int (S211.1 37)) rfl ?_
                refine aw_ld (k := 7) hU.1 aj_d230 (Or.inl ⟨rfl, rfl⟩) rfl (by decide) (by decide) rfl (a := (S.1 37).toInt) c219 (by omega) (by omega) (fun x222 ex222 => ?_)
                have bx222 : 0 ≤ x222.toInt ∧ x222.toInt ≤ 10 := by
                  rw [ex222]
                  exact aw_bd_a hs (hI218).1 (k := 7) (by decide) (by decide) rfl (by decide) rfl (by omega)
                have ftx222 : x222.toInt = (S.2.2.1 7 ((S.1 37).toInt).toNat).toInt := congrArg Int32.toInt (ex222.trans (congrFun ((fc211.2 7 (by decide)).1.trans ((fc179.2 7 (by decide)).1.trans ((fd96.2 7 (by decide)).1.trans rfl))) _))
                refine aw_add aj_d230 rfl (a := x221.toInt) (b := x222.toInt) rfl rfl (by omega) (by omega) (fun x223 ex223 => ?_)
                refine aw_l2 aj_d230 rfl rfl hlv93_0 ?_
                refine aw_g hU.1 aj_d230 rfl rfl (by decide) (v := .long (S211.2.1 33)) rfl ?_
                refine aw_stl (k := 8) hU.1 aj_d230 rfl (by decide) (by decide) rfl (a := x223.toInt) rfl (by omega) (by omega) ?_
                have hI224 : aw_I s h (aw_sm (aw_wb S211 8 (x223.toInt).toNat (S211.2.1 33))) (aw_wb S211 8 (x223.toInt).toNat (S211.2.1 33)) := ⟨aw_T_b hU.2.1 hs hU.1.1 (hI218).1 (by decide) (by decide) rfl rfl, aw_sm_rf⟩
                have fr225 := aw_fr_b (k := 8) (j := (x223.toInt).toNat) (v := (S211.2.1 33)) (by decide) fr217
                have e7227 : (S211.2.2.1 7 (((S211.1 37)).toInt).toNat).toInt = (S.2.2.1 7 ((S.1 37).toInt).toNat).toInt := by rw [show (S211.2.2.1 7) = S.2.2.1 7 from ((fc211.2 7 (by decide)).1.trans ((fc179.2 7 (by decide)).1.trans ((fd96.2 7 (by decide)).1.trans rfl))), show ((S211.1 37)).toInt = (S.1 37).toInt from c219]
                have ehhG226 : aw_h S211 = (((S211.1 37)).toInt).toNat := rfl
                have hG226 : aw_G (nm, false, la, 0, 0, aw_tJ S) (aw_wb S211 8 (x223.toInt).toNat (S211.2.1 33)) := aw_G_t8 hG211 rfl (by rw [ehhG226]; omega)
                have hI228 : aw_I s h (aw_sm (aw_wb S211 8 (x223.toInt).toNat (S211.2.1 33))) (aw_wb S211 8 (x223.toInt).toNat (S211.2.1 33)) := ⟨(hI224).1, aw_sm_rf⟩
                refine aw_l2 aj_d230 rfl rfl hlv93_0 ?_
                refine aw_g hU.1 aj_d230 rfl rfl (by decide) (v := .ref 126) rfl ?_
                refine aw_l2 aj_d230 rfl rfl hlv93_0 ?_
                refine aw_g hU.1 aj_d230 rfl rfl (by decide) (v := .int (S211.1 37)) rfl ?_
                refine aw_n aj_d230 rfl rfl ?_
                refine aw_mul aj_d230 rfl (a := (S.1 37).toInt) (b := (10 : Int)) c219 rfl (by omega) (by omega) (fun x229 ex229 => ?_)
                refine aw_l2 aj_d230 rfl rfl hlv93_0 ?_
                refine aw_g hU.1 aj_d230 rfl rfl (by decide) (v := .ref 124) rfl ?_
                refine aw_l2 aj_d230 rfl rfl hlv93_0 ?_
                refine aw_g hU.1 aj_d230 rfl rfl (by decide) (v := .int (S211.1 37)) rfl ?_
                refine aw_ld (k := 7) hU.1 aj_d230 (Or.inl ⟨rfl, rfl⟩) rfl (by decide) (by decide) rfl (a := (S.1 37).toInt) c219 (by omega) (by omega) (fun x230 ex230 => ?_)
                have bx230 : 0 ≤ x230.toInt ∧ x230.toInt ≤ 10 := by
                  rw [ex230]
                  exact aw_bd_a hs (hI228).1 (k := 7) (by decide) (by decide) rfl (by decide) rfl (by omega)
                have ftx230 : x230.toInt = (S.2.2.1 7 ((S.1 37).toInt).toNat).toInt := congrArg Int32.toInt (ex230.trans (congrFun ((fc211.2 7 (by decide)).1.trans ((fc179.2 7 (by decide)).1.trans ((fd96.2 7 (by decide)).1.trans rfl))) _))
                refine aw_add aj_d230 rfl (a := x229.toInt) (b := x230.toInt) rfl rfl (by omega) (by omega) (fun x231 ex231 => ?_)
                refine aw_l0 aj_d230 rfl rfl hlv93_1 ?_
                refine aw_n aj_d230 rfl rfl ?_
                refine aw_c (tgt := 130) aj_d230 rfl rfl (fun q232 => ?_) (fun q232 => ?_)
                · have q232 : x.toInt ≠ (1 : Int) := aw_t_ne (a := x.toInt) (b := (1 : Int)) rfl rfl q232
                  refine aw_n aj_d230 rfl rfl ?_
                  refine aw_st (k := 9) hU.1 aj_d230 (Or.inr (Or.inr (Or.inl ⟨rfl, rfl⟩))) rfl (by decide) (by decide) rfl (a := x231.toInt) rfl (by omega) (by omega) ?_
                  have hI233 := aw_I_a (aw_UV hU aw_Gs_sm) (k := 9) (j := (x231.toInt).toNat) (v := aj_nar 2 (Int32.ofInt 0)) hI228 (by decide) (by decide) (by decide) rfl (by decide) (by decide) rfl (aw_nar2 _)
                  have fr234 := aw_fr_a (k := 9) (j := (x231.toInt).toNat) (v := aj_nar 2 (Int32.ofInt 0)) (by decide) fr225
                  refine aw_n aj_d230 rfl rfl ?_
                  refine aw_e aj_d230 rfl rfl ?_
                  have e7235 : (S211.2.2.1 7 (((S211.1 37)).toInt).toNat).toInt = (S.2.2.1 7 ((S.1 37).toInt).toNat).toInt := by rw [show (S211.2.2.1 7) = S.2.2.1 7 from ((fc211.2 7 (by decide)).1.trans ((fc179.2 7 (by decide)).1.trans ((fd96.2 7 (by decide)).1.trans rfl))), show ((S211.1 37)).toInt = (S.1 37).toInt from c219]
                  have b236 : 0 ≤ (S179.1 30).toInt ∧ (S179.1 30).toInt ≤ 1001 := aw_bd_f hs (hI185).1 (by decide) rfl
                  have c237 : (S211.1 30).toInt = (S179.1 30).toInt := (congrArg Int32.toInt (fc211.1 30 (by decide)).1).trans rfl
                  have b238 : 0 ≤ (S211.1 30).toInt ∧ (S211.1 30).toInt ≤ 1001 := aw_bd_f hs (hI218).1 (by decide) rfl
                  refine ⟨(hI233).1, fr234, Or.inr ⟨_, rfl, rfl, (aw_G_sm hI233.2 hG226), (show _ + 1 ≤ ((S211.1 30)).toInt by omega), ?_, ?_⟩⟩
                  · show (S211.2.2.1 7 (((S211.1 37)).toInt).toNat).toInt ≤ 9
                    omega
                  · show (vp_updL (S211.2.2.2 8) (x223.toInt).toNat ((S211.2.1 33))) ((((S211.1 37)).toInt).toNat * 10 + ((S211.2.2.1 7 (((S211.1 37)).toInt).toNat).toInt).toNat) = _
                    unfold vp_updL
                    rw [if_pos (by omega), ((fc211.1 33 (by decide)).2.trans rfl), nm179, eT1, eF1, eJ1]
                · have q232 : x.toInt = (1 : Int) := aw_t_ne (a := x.toInt) (b := (1 : Int)) rfl rfl q232
                  refine aw_n aj_d230 rfl rfl ?_
                  refine aw_n aj_d230 rfl rfl ?_
                  refine aw_st (k := 9) hU.1 aj_d230 (Or.inr (Or.inr (Or.inl ⟨rfl, rfl⟩))) rfl (by decide) (by decide) rfl (a := x231.toInt) rfl (by omega) (by omega) ?_
                  have hI239 := aw_I_a (aw_UV hU aw_Gs_sm) (k := 9) (j := (x231.toInt).toNat) (v := aj_nar 2 (Int32.ofInt 1)) hI228 (by decide) (by decide) (by decide) rfl (by decide) (by decide) rfl (aw_nar2 _)
                  have fr240 := aw_fr_a (k := 9) (j := (x231.toInt).toNat) (v := aj_nar 2 (Int32.ofInt 1)) (by decide) fr225
                  refine aw_n aj_d230 rfl rfl ?_
                  refine aw_e aj_d230 rfl rfl ?_
                  have e7241 : (S211.2.2.1 7 (((S211.1 37)).toInt).toNat).toInt = (S.2.2.1 7 ((S.1 37).toInt).toNat).toInt := by rw [show (S211.2.2.1 7) = S.2.2.1 7 from ((fc211.2 7 (by decide)).1.trans ((fc179.2 7 (by decide)).1.trans ((fd96.2 7 (by decide)).1.trans rfl))), show ((S211.1 37)).toInt = (S.1 37).toInt from c219]
                  have b242 : 0 ≤ (S179.1 30).toInt ∧ (S179.1 30).toInt ≤ 1001 := aw_bd_f hs (hI185).1 (by decide) rfl
                  have c243 : (S211.1 30).toInt = (S179.1 30).toInt := (congrArg Int32.toInt (fc211.1 30 (by decide)).1).trans rfl
                  have b244 : 0 ≤ (S211.1 30).toInt ∧ (S211.1 30).toInt ≤ 1001 := aw_bd_f hs (hI218).1 (by decide) rfl
                  refine ⟨(hI239).1, fr240, Or.inr ⟨_, rfl, rfl, (aw_G_sm hI239.2 hG226), (show _ + 1 ≤ ((S211.1 30)).toInt by omega), ?_, ?_⟩⟩
                  · show (S211.2.2.1 7 (((S211.1 37)).toInt).toNat).toInt ≤ 9
                    omega
                  · show (vp_updL (S211.2.2.2 8) (x223.toInt).toNat ((S211.2.1 33))) ((((S211.1 37)).toInt).toNat * 10 + ((S211.2.2.1 7 (((S211.1 37)).toInt).toNat).toInt).toNat) = _
                    unfold vp_updL
                    rw [if_pos (by omega), ((fc211.1 33 (by decide)).2.trans rfl), nm179, eT1, eF1, eJ1]
            · have q186 : (1 : Int) = (0 : Int) := aw_t_ne (a := (1 : Int)) (b := (0 : Int)) hb179 rfl q186
              exfalso
              omega
        · have q178 : x177.toInt = (10 : Int) := aw_t_ne (a := x177.toInt) (b := (10 : Int)) rfl rfl q178
          refine aw_l2 aj_d230 rfl rfl hlv93_0 ?_
          refine aw_n aj_d230 rfl rfl ?_
          refine aw_l2 aj_d230 rfl rfl hlv93_0 ?_
          have b245 : 0 ≤ (S96.1 27).toInt ∧ (S96.1 27).toInt ≤ 4000 := aw_bd_f hs (hI101).1 (by decide) rfl
          refine aw_g hU.1 aj_d230 rfl rfl (by decide) (v := .int (S96.1 27)) rfl ?_
          refine aw_k hU.1 aj_d230 rfl rfl [_, _] rfl rfl rfl (Nat.le_of_ble_eq_true rfl) (ar_stop hU (hI101).1 (by omega) (a := (2 : Int)) rfl) ?_
          rintro _ S246 ⟨hT246, fc246, rfl, hz246⟩
          have hG246 := aw_G_stop hG96 fc246 (by omega)
          have fr247 := aw_fr_tr fr100 (aw_fr_sub (F := [24, 25, 31]) (A := []) (by decide) (by decide) fc246)
          have hI248 : aw_I s h (aw_sm S246) S246 := ⟨hT246, aw_sm_rf⟩
          show aw_W _ _ _ _ 40 lv93 [.int (Int32.ofInt 0)] _ _
          refine aw_e aj_d230 rfl rfl ?_
          exact ⟨(hI248).1, fr247, Or.inl ⟨_, rfl, rfl, aw_G_B hG246⟩⟩
    · have q102 : (1 : Int) = (0 : Int) := aw_t_ne (a := (1 : Int)) (b := (0 : Int)) hb96 rfl q102
      exfalso
      omega
end ARA14
