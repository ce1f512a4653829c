/-! TABLES OF A SHELF, BY HAND (printed by wip/p2/cwalk/g84.py) -/
section CW84
variable {T : ak_TT} {Φ : List Nat → Option Value → aj_H → Prop} {tb : aj_T} {con : ak_Con} {d : Nat} {s s' s2 s0 : List Nat} {h h' h2 h0 h1 : aj_H} {i j p q x c k l l' : Nat} {b b' b2 : Int} {o o' o2 o0 : cw_O} {EF : Nat → Nat → Nat → Prop} {EA : Nat → Prop} {n nt n0 iv y y' v t wd : Int32} {w : Value} {f g g0 : Nat → Int32} {B N : Prop} {bb : Int}
theorem cw_CQ_row (hT : ak_Ty ak_C1 s h) (hk : k = 3 ∨ k = 4) (hF : cw_F h i 6 k w) (hv : v.toInt ≤ 30) (hQ : cw_CQ N bb x n f iv g0 n0 B y nt g s h) : cw_CQ N bb x n f iv g0 n0 B y nt g s (cw_sf h i k (.int v)) := by
  obtain ⟨q1, q2, q3, q4, q5, q6, q7, q8, q9, q10, q11⟩ := hQ
  obtain ⟨a9, f9, ⟨-, h30⟩, -⟩ := id q8
  have I' : cw_I cw_XB s (cw_sf h i k (.int v)) := cw_I_sfR (T := ak_C1) (B := 20000000) rfl rfl hT q1 hF hk (by omega) (Nat.le_refl _)
  have k' : cw_kp (fun a c _ => a = i ∧ c = 6) (fun _ => False) (cw_o h) (cw_o (cw_sf h i k (.int v))) := cw_kp_sf hF ⟨rfl, rfl⟩
  have sy : cw_sy bb bb (cw_o h) (cw_o (cw_sf h i k (.int v))) := by
    rcases hk with rfl | rfl
    · exact cw_sy_w3 hF (by have := h30; omega)
    · exact cw_sy_w4 hF (by have := h30; omega)
  refine ⟨I', q2, cw_kp_F k' (fun z => absurd z.2 (by decide)) (by decide) q3, cw_kp_A k' id (by decide) q4, cw_kp_A k' id (by decide) q5, cw_kp_F k' (fun z => absurd z.2 (by decide)) (by decide) q6, cw_kp_F k' (fun z => absurd z.2 (by decide)) (by decide) q7, cw_Z_kp k' (fun z => absurd z.2 (by decide)) (fun z => absurd z.2 (by decide)) (fun _ _ => id) sy q8, q9, q10, fun z => ?_⟩
  obtain ⟨m, hm, hf⟩ := q11 z
  exact ⟨m, hm, k'.1 _ _ _ _ (fun z => absurd z.2 (by decide)) hf⟩
theorem cw_I_c7 {T : ak_TT} (h1 : T.1 = ak_ti) (h4 : T.2.1[4]? = ak_ft0[4]?) {X : Option Nat} (hT : ak_Ty T s h) (hI : cw_I X s h) {v w : Value} (fd : cw_F h x 7 k v) : cw_I X s (cw_sf h x k w) ∧ cw_kp (fun a c k' => a = x ∧ c = 7 ∧ k' = k) (fun _ => False) (cw_o h) (cw_o (cw_sf h x k w)) := by
  have k5 : cw_kp (fun a c k' => a = x ∧ c = 7 ∧ k' = k) (fun _ => False) (cw_o h) (cw_o (cw_sf h x k w)) := cw_kp_sf fd ⟨rfl, rfl, rfl⟩
  exact ⟨⟨hI.1, cw_wds_kp k5 id hI.2.1, cw_dis_kp k5 id (fun z => absurd z.2.1 (by decide)) hI.2.2.1, cw_gd_kp (T := T) h1 h4 hT hI.1 k5 id ⟨fun z => absurd z.2.1 (by decide), fun z => absurd z.2.1 (by decide)⟩ hI.2.2.2.1, cw_H_sfo hI.2.2.2.2.1 fd (by decide), cw_rm_kp k5 (fun _ _ z => z) ⟨fun z => absurd z.2.1 (by decide), fun z => absurd z.2.1 (by decide)⟩ hI.2.2.2.2.2⟩, k5⟩
theorem cw_CQ_tab (hT : ak_Ty ak_C1 s h) {nt' : Int32} (e : nt'.toInt = nt.toInt + 1) (h0 : 0 ≤ nt.toInt) {a : Nat} {f3 : Nat → Option Nat} (f7 : cw_F h x 7 7 (.ref (52 + a))) (hA : (cw_o h).2 a = some (5, 10, cw_q f3)) (hf : f3 nt.toInt.toNat = some (52 + i)) (hok : cw_ok 30 (cw_o h) i) (hQ : cw_CQ N bb x n f iv g0 n0 B y nt g s h) : cw_CQ N bb x n f iv g0 n0 B y nt' g s (cw_sf h x 12 (.int nt')) := by
  obtain ⟨q1, q2, q3, q4, q5, q6, q7, q8, q9, q10, q11⟩ := hQ
  obtain ⟨a', f3', z0, z1, z2, z3, z4⟩ := q8
  have ea : 52 + a' = 52 + a := Value.ref.inj (cw_F_u ((cw_fo_F (by decide)).mp z2) f7).2
  obtain rfl : a' = a := by omega
  have z1' := (cw_fo_F (h := h) (by decide)).mp z1
  obtain ⟨I', k'⟩ := cw_I_c7 (T := ak_C1) (w := .int nt') rfl rfl hT q1 z1'
  have e3 := hA.symm.trans z3
  cases e3
  have sy : cw_sy bb bb (cw_o h) (cw_o (cw_sf h x 12 (.int nt'))) := cw_sy_n k' (fun _ _ z => absurd z.2.1 (by decide))
  refine ⟨I', q2, cw_kp_F k' (fun z => absurd z.2.1 (by decide)) (by decide) q3, cw_kp_A k' id (by decide) q4, cw_kp_A k' id (by decide) q5, cw_kp_F k' (fun z => absurd z.2.1 (by decide)) (by decide) q6, cw_kp_F k' (fun z => absurd z.2.1 (by decide)) (by decide) q7, ⟨a', f3, z0, (cw_fo_F (by decide)).mpr (cw_sf_same z1'), k'.1 _ _ _ _ (fun z => absurd z.2.2 (by decide)) z2, k'.2 _ _ id z3, fun t ht => ?_⟩, by omega, q10, fun z => ?_⟩
  · by_cases et : t = nt.toInt.toNat
    · subst et
      exact Or.inr ⟨i, hf, sy _ (cw_ok_mono z0.2 hok)⟩
    · rcases z4 t (by omega) with w | ⟨i', w1, w2⟩
      · exact Or.inl w
      · exact Or.inr ⟨i', w1, sy _ w2⟩
  · obtain ⟨m, hm, hf⟩ := q11 z
    exact ⟨m, hm, k'.1 _ _ _ _ (fun z => absurd z.2.1 (by decide)) hf⟩
theorem cw_CQ_new (hT : ak_Ty ak_C1 s h) {a : Nat} (ha : a = 10 ∨ a = 22) {f3 : Nat → Option Nat} (f7 : cw_F h x 7 7 (.ref (52 + a))) (hA : cw_A h a 5 10 (cw_q f3)) (ht : nt.toInt.toNat < 10) (hf : f3 nt.toInt.toNat = none) (hQ : cw_CQ N bb x n f iv g0 n0 B y nt g s h) : cw_CQ N bb x n f iv g0 n0 B y nt g (s ++ [58, 94, 95, 96]) (cw_sa (h ++ cw_R h.length) a (cw_q (va_up f3 nt.toInt.toNat (some (52 + h.length))))) := by
  obtain ⟨q1, q2, q3, q4, q5, q6, q7, q8, q9, q10, q11⟩ := hQ
  obtain ⟨I', k'⟩ := cw_I_newR (T := ak_C1) rfl rfl (Or.inr (Or.inl rfl)) hT q1 (q := a) (N := 10) (by omega) hA ht hf
  obtain ⟨a', f3', z0, z1, z2, z3, z4⟩ := q8
  have ea : 52 + a' = 52 + a := Value.ref.inj (cw_F_u ((cw_fo_F (by decide)).mp z2) f7).2
  obtain rfl : a = a' := by omega
  have hA' : (cw_o h).2 a = some (5, 10, cw_q f3) := by
    rcases ha with rfl | rfl
    · exact (cw_oa_A (by decide)).mpr hA
    · exact (cw_oa_A (by decide)).mpr hA
  have e3 := hA'.symm.trans z3
  cases e3
  have sy : cw_sy bb bb (cw_o h) (cw_o (cw_sa (h ++ cw_R h.length) a (cw_q (va_up f3 nt.toInt.toNat (some (52 + h.length)))))) := cw_sy_n k' (fun _ _ z => z)
  have a' := cw_sa_same (x' := cw_q (va_up f3 nt.toInt.toNat (some (52 + h.length)))) (cw_A_app (X := cw_R h.length) hA)
  refine ⟨I', cw_sapp q2, cw_kp_F k' id (by decide) q3, cw_kp_A k' (fun z => by omega) (by decide) q4, cw_kp_A k' (fun z => by omega) (by decide) q5, cw_kp_F k' id (by decide) q6, cw_kp_F k' id (by decide) q7, ⟨a, va_up f3 nt.toInt.toNat (some (52 + h.length)), z0, k'.1 _ _ _ _ id z1, k'.1 _ _ _ _ id z2, ?_, fun t ht2 => ?_⟩, q9, q10, fun z => ?_⟩
  · rcases ha with rfl | rfl
    · exact (cw_oa_A (by decide)).mpr a'
    · exact (cw_oa_A (by decide)).mpr a'
  · have eu : va_up f3 nt.toInt.toNat (some (52 + h.length)) t = f3 t := if_neg (by omega)
    rcases z4 t ht2 with w | ⟨i', w1, w2⟩
    · exact Or.inl ⟨w.1, eu.trans w.2⟩
    · exact Or.inr ⟨i', eu.trans w1, sy _ w2⟩
  · obtain ⟨m, hm, hf⟩ := q11 z
    exact ⟨m, hm, k'.1 _ _ _ _ id hf⟩
/-- a TABLE more -/
theorem cw_addTab (htb : ak_tbOK ak_C1 tb) (hT : ak_Ty ak_C1 s h) (hd : 2 ≤ d) (hx : x = 2 ∨ x = 14) {w9 : Int64} {b3 : Int32} (hb3 : 0 ≤ b3.toInt ∧ b3.toInt ≤ 1) (hQ : cw_CQ N bb x n f iv g0 n0 B y nt g s h) : cw_K ak_C1 (fun s' r h' => (∃ u, s' = s ++ u) ∧ ∃ nt', cw_CQ N bb x n f iv g0 n0 B y nt' g s' h') tb d (cw_nC 92 (some (.inl ((-1), 9)))) [.ref (52 + x), .long w9, .int b3] s h := by
  obtain ⟨d, rfl⟩ : ∃ e, d = e + 1 := ⟨d - 1, by omega⟩
  obtain ⟨Ih, qx, f2, a31, a34, f4, f5, Zh, nh, gh, bh⟩ := id hQ
  have hB := Ih.1
  obtain ⟨a, q3, ⟨ha, -⟩, f12, f7, a10, hZ⟩ := Zh
  have f12 := (cw_fo_F (h := h) (by decide)).mp f12
  have f7 := (cw_fo_F (h := h) (by decide)).mp f7
  obtain ⟨v', f', g'⟩ := cw_tyF (i := x) (t := 59) (c := 7) (k := 12) (y := .inl (0, 10)) hT qx rfl rfl rfl
  cases (cw_F_u f' f12).2
  obtain ⟨x', e, hx'⟩ := ak_gi g'
  cases e
  dsimp only [ak_win] at hx'
  refine cw_m (con := cw_nC 92 (some (.inl ((-1), 9)))) aj_m92_at (Nat.le_of_ble_eq_true rfl) ?_
  rcases hx with rfl | rfl
  · rcases ha with rfl | rfl
    · have a10 : cw_A h 10 5 10 (cw_q q3) := (cw_oa_A (by decide)).mp a10
      have ha : (10 : Nat) = 10 ∨ (10 : Nat) = 22 := by decide
      show cw_W _ _ _ _ _ _ _ _ _ _ 0 [(0, .ref (52 + 2)), (1, .long w9), (3, .int b3)] []
      refine cw_n aj_d92 rfl rfl ?_
      refine cw_g (i := 2) (v := .int nt) htb.1 aj_d92 rfl rfl (by decide) f12 ?_
      refine cw_n aj_d92 rfl rfl ?_
      show cw_W _ _ _ _ _ _ _ _ _ _ 6 [(4, .int nt), (0, .ref (52 + 2)), (1, .long w9), (3, .int b3)] []
      refine cw_n aj_d92 rfl rfl ?_
      refine cw_n aj_d92 rfl rfl ?_
      refine cw_g (i := 2) (v := .ref (52 + 10)) htb.1 aj_d92 rfl rfl (by decide) f7 ?_
      refine cw_alen (i := 10) htb.1 aj_d92 rfl a10 (by decide) (by omega) (fun x1001 ex1001 => ?_)
      refine cw_c (tgt := 36) aj_d92 rfl rfl (fun q1002 => ?_) (fun q1002 => ?_)
      · have q1002 : nt.toInt ≥ (10 : Int) := aw_t_ge (a := nt.toInt) (b := (10 : Int)) rfl ex1001 q1002
        refine cw_n aj_d92 rfl rfl ?_
        refine cw_Wr aj_d92 rfl rfl hT ?_ ?_
        · exact ⟨⟨[], (List.append_nil _).symm⟩, _, (cw_CQ_eq rfl hQ)⟩
        · exact cw_gw (s := s) (a := -1) rfl (by decide) (by decide)
      · have q1002 : nt.toInt < (10 : Int) := aw_t_ge (a := nt.toInt) (b := (10 : Int)) rfl ex1001 q1002
        refine cw_n aj_d92 rfl rfl ?_
        refine cw_n aj_d92 rfl rfl ?_
        obtain ⟨v1003, f1003, g1003⟩ := cw_tyF (i := 2) (t := 59) (c := 7) (k := 8) (y := (.inr (some ([73], false)))) hT (cw_s0 hB rfl) rfl rfl rfl
        obtain ⟨i1003, rfl, q1003⟩ := cw_gr g1003 (by decide)
        refine cw_g (i := 2) (v := .ref (52 + i1003)) htb.1 aj_d92 rfl rfl (by decide) f1003 ?_
        obtain ⟨n1005, z1005, a1005, p1005l, p1005r, p1005⟩ := cw_tyA (i := i1003) (t := 73) (kd := 1) (n1 := 10) (n2 := 10) (y := (.inr none)) hT q1003 rfl
        obtain rfl : n1005 = 10 := Nat.le_antisymm p1005r p1005l
        obtain ⟨fn1005, rfl, p1005c⟩ := cw_xl p1005
        refine cw_alen (i := i1003) htb.1 aj_d92 rfl a1005 (by decide) (by omega) (fun x1004 ex1004 => ?_)
        refine cw_c (tgt := 36) aj_d92 rfl rfl (fun q1006 => ?_) (fun q1006 => ?_)
        · have q1006 : nt.toInt ≥ (10 : Int) := aw_t_ge (a := nt.toInt) (b := (10 : Int)) rfl ex1004 q1006
          refine cw_n aj_d92 rfl rfl ?_
          refine cw_Wr aj_d92 rfl rfl hT ?_ ?_
          · exact ⟨⟨[], (List.append_nil _).symm⟩, _, (cw_CQ_eq rfl hQ)⟩
          · exact cw_gw (s := s) (a := -1) rfl (by decide) (by decide)
        · have q1006 : nt.toInt < (10 : Int) := aw_t_ge (a := nt.toInt) (b := (10 : Int)) rfl ex1004 q1006
          refine cw_n aj_d92 rfl rfl ?_
          refine cw_n aj_d92 rfl rfl ?_
          obtain ⟨v1007, f1007, g1007⟩ := cw_tyF (i := 2) (t := 59) (c := 7) (k := 10) (y := (.inr (some ([75], false)))) hT (cw_s0 hB rfl) rfl rfl rfl
          obtain ⟨i1007, rfl, q1007⟩ := cw_gr g1007 (by decide)
          refine cw_g (i := 2) (v := .ref (52 + i1007)) htb.1 aj_d92 rfl rfl (by decide) f1007 ?_
          obtain ⟨n1009, z1009, a1009, p1009l, p1009r, p1009⟩ := cw_tyA (i := i1007) (t := 75) (kd := 2) (n1 := 10) (n2 := 10) (y := (.inl (0, 1))) hT q1007 rfl
          obtain rfl : n1009 = 10 := Nat.le_antisymm p1009r p1009l
          obtain ⟨fn1009, rfl, p1009c⟩ := cw_xi p1009
          refine cw_alen (i := i1007) htb.1 aj_d92 rfl a1009 (by decide) (by omega) (fun x1008 ex1008 => ?_)
          refine cw_c (tgt := 38) aj_d92 rfl rfl (fun q1010 => ?_) (fun q1010 => ?_)
          · have q1010 : nt.toInt < (10 : Int) := aw_t_lt (a := nt.toInt) (b := (10 : Int)) rfl ex1008 q1010
            refine cw_n aj_d92 rfl rfl ?_
            refine cw_g (i := 2) (v := .ref (52 + i1003)) htb.1 aj_d92 rfl rfl (by decide) f1003 ?_
            refine cw_n aj_d92 rfl rfl ?_
            refine cw_n aj_d92 rfl rfl ?_
            refine cw_stl (i := i1003) htb aj_d92 rfl a1005 hT q1003 rfl (by decide) (a := nt.toInt) rfl (by omega) (by omega) (fun hT1011 => ?_)
            have f1012 : cw_F (cw_sa h i1003 (.inr (.inl (vp_updL fn1005 (nt.toInt).toNat w9)))) 2 7 12 (.int nt) := cw_sa_F f12
            have f1013 : cw_F (cw_sa h i1003 (.inr (.inl (vp_updL fn1005 (nt.toInt).toNat w9)))) 2 7 7 (.ref (52 + 10)) := cw_sa_F f7
            have f1014 : cw_F (cw_sa h i1003 (.inr (.inl (vp_updL fn1005 (nt.toInt).toNat w9)))) 2 7 8 (.ref (52 + i1003)) := cw_sa_F f1003
            have f1015 : cw_F (cw_sa h i1003 (.inr (.inl (vp_updL fn1005 (nt.toInt).toNat w9)))) 2 7 10 (.ref (52 + i1007)) := cw_sa_F f1007
            have a1016 : cw_A (cw_sa h i1003 (.inr (.inl (vp_updL fn1005 (nt.toInt).toNat w9)))) i1003 1 10 (.inr (.inl (vp_updL fn1005 (nt.toInt).toNat w9))) := cw_sa_same a1005
            refine cw_n aj_d92 rfl rfl ?_
            refine cw_g (i := 2) (v := .ref (52 + i1007)) htb.1 aj_d92 rfl rfl (by decide) f1015 ?_
            refine cw_n aj_d92 rfl rfl ?_
            refine cw_n aj_d92 rfl rfl ?_
            obtain ⟨n1017, z1017, a1017, p1017l, p1017r, p1017⟩ := cw_tyA (i := i1007) (t := 75) (kd := 2) (n1 := 10) (n2 := 10) (y := (.inl (0, 1))) hT1011 q1007 rfl
            obtain rfl : n1017 = 10 := Nat.le_antisymm p1017r p1017l
            obtain ⟨fn1017, rfl, p1017c⟩ := cw_xi p1017
            refine cw_st (i := i1007) htb aj_d92 (Or.inr (Or.inr (Or.inl ⟨rfl, rfl⟩))) rfl a1017 hT1011 q1007 rfl (by decide) (a := nt.toInt) rfl (by omega) (by omega) (ak_nar_ok (kd := 2) (q := (0, 1)) hb3 (Or.inr (Or.inl rfl))) (fun hT1018 => ?_)
            have f1019 : cw_F (cw_sa (cw_sa h i1003 (.inr (.inl (vp_updL fn1005 (nt.toInt).toNat w9)))) i1007 (.inl (upd fn1017 (nt.toInt).toNat (aj_nar 2 b3)))) 2 7 12 (.int nt) := cw_sa_F f1012
            have f1020 : cw_F (cw_sa (cw_sa h i1003 (.inr (.inl (vp_updL fn1005 (nt.toInt).toNat w9)))) i1007 (.inl (upd fn1017 (nt.toInt).toNat (aj_nar 2 b3)))) 2 7 7 (.ref (52 + 10)) := cw_sa_F f1013
            have f1021 : cw_F (cw_sa (cw_sa h i1003 (.inr (.inl (vp_updL fn1005 (nt.toInt).toNat w9)))) i1007 (.inl (upd fn1017 (nt.toInt).toNat (aj_nar 2 b3)))) 2 7 8 (.ref (52 + i1003)) := cw_sa_F f1014
            have f1022 : cw_F (cw_sa (cw_sa h i1003 (.inr (.inl (vp_updL fn1005 (nt.toInt).toNat w9)))) i1007 (.inl (upd fn1017 (nt.toInt).toNat (aj_nar 2 b3)))) 2 7 10 (.ref (52 + i1007)) := cw_sa_F f1015
            have a1023 : cw_A (cw_sa (cw_sa h i1003 (.inr (.inl (vp_updL fn1005 (nt.toInt).toNat w9)))) i1007 (.inl (upd fn1017 (nt.toInt).toNat (aj_nar 2 b3)))) i1007 2 10 (.inl (upd fn1017 (nt.toInt).toNat (aj_nar 2 b3))) := cw_sa_same a1017
            have a1024 : cw_A (cw_sa (cw_sa h i1003 (.inr (.inl (vp_updL fn1005 (nt.toInt).toNat w9)))) i1007 (.inl (upd fn1017 (nt.toInt).toNat (aj_nar 2 b3)))) 10 5 10 (cw_q q3) := cw_trA ((cw_o_sa a1017 (cw_nsp hB q1007 (by decide))).trans ((cw_o_sa a1005 (cw_nsp hB q1003 (by decide))).trans rfl)) (by decide) a10
            refine cw_n aj_d92 rfl rfl ?_
            refine cw_g (i := 2) (v := .ref (52 + 10)) htb.1 aj_d92 rfl rfl (by decide) f1020 ?_
            refine cw_n aj_d92 rfl rfl ?_
            refine cw_ldq (i := 10) htb.1 aj_d92 rfl a1024 (a := nt.toInt) rfl (by omega) (by omega) ?_
            cases hf : q3 (nt.toInt).toNat with
            | some r =>
              obtain ⟨i, rfl, qi⟩ := cw_refs (T := ak_C1) (t := 72) (n1 := 10) (n2 := 10) hT1018 (cw_s0 hB rfl) rfl a1024 (l := (nt.toInt).toNat) (by omega) hf
              show cw_W _ _ _ _ _ _ _ _ _ _ 61 [(4, .int nt), (0, .ref (52 + 2)), (1, .long w9), (3, .int b3)] [.ref (52 + i)]
              refine cw_n aj_d92 rfl rfl ?_
              refine cw_n aj_d92 rfl rfl ?_
              refine cw_g (i := 2) (v := .ref (52 + 10)) htb.1 aj_d92 rfl rfl (by decide) f1020 ?_
              refine cw_n aj_d92 rfl rfl ?_
              refine cw_ldq (i := 10) htb.1 aj_d92 rfl a1024 (a := nt.toInt) rfl (by omega) (by omega) ?_
              rw [hf]
              show cw_W _ _ _ _ _ _ _ _ _ _ 85 [(4, .int nt), (0, .ref (52 + 2)), (1, .long w9), (3, .int b3)] [.ref (52 + i)]
              refine cw_n aj_d92 rfl rfl ?_
              refine cw_p1 (kind := 1) (by decide) (i := i) (t := 58) (c := 6) (k := 3) (v := .int (Int32.ofInt 0)) (y := (.inl (0, 20000000))) htb aj_d92 rfl rfl hT1018 qi rfl rfl rfl (cw_gw (a := (0 : Int)) rfl (by omega) (by omega)) (by decide) rfl rfl (fun hT1025 => ?_)
              obtain ⟨v1026, f1026, g1026⟩ := cw_tyF (i := i) (t := 58) (c := 6) (k := 3) (y := (.inl (0, 20000000))) hT1018 qi rfl rfl rfl
              obtain ⟨x1026, rfl, b1026⟩ := ak_gi g1026
              dsimp only [ak_win] at b1026
              have f1027 : cw_F (cw_sf (cw_sa (cw_sa h i1003 (.inr (.inl (vp_updL fn1005 (nt.toInt).toNat w9)))) i1007 (.inl (upd fn1017 (nt.toInt).toNat (aj_nar 2 b3)))) i 3 (.int (Int32.ofInt 0))) 2 7 12 (.int nt) := cw_sf_ne f1019 (Or.inr (by decide))
              have f1028 : cw_F (cw_sf (cw_sa (cw_sa h i1003 (.inr (.inl (vp_updL fn1005 (nt.toInt).toNat w9)))) i1007 (.inl (upd fn1017 (nt.toInt).toNat (aj_nar 2 b3)))) i 3 (.int (Int32.ofInt 0))) 2 7 7 (.ref (52 + 10)) := cw_sf_ne f1020 (Or.inr (by decide))
              have f1029 : cw_F (cw_sf (cw_sa (cw_sa h i1003 (.inr (.inl (vp_updL fn1005 (nt.toInt).toNat w9)))) i1007 (.inl (upd fn1017 (nt.toInt).toNat (aj_nar 2 b3)))) i 3 (.int (Int32.ofInt 0))) 2 7 8 (.ref (52 + i1003)) := cw_sf_ne f1021 (Or.inr (by decide))
              have f1030 : cw_F (cw_sf (cw_sa (cw_sa h i1003 (.inr (.inl (vp_updL fn1005 (nt.toInt).toNat w9)))) i1007 (.inl (upd fn1017 (nt.toInt).toNat (aj_nar 2 b3)))) i 3 (.int (Int32.ofInt 0))) 2 7 10 (.ref (52 + i1007)) := cw_sf_ne f1022 (Or.inr (by decide))
              have a1031 : cw_A (cw_sf (cw_sa (cw_sa h i1003 (.inr (.inl (vp_updL fn1005 (nt.toInt).toNat w9)))) i1007 (.inl (upd fn1017 (nt.toInt).toNat (aj_nar 2 b3)))) i 3 (.int (Int32.ofInt 0))) 10 5 10 (.inr (.inr (.inr (.inr q3)))) := cw_sf_A a1024
              have f1032 : cw_F (cw_sf (cw_sa (cw_sa h i1003 (.inr (.inl (vp_updL fn1005 (nt.toInt).toNat w9)))) i1007 (.inl (upd fn1017 (nt.toInt).toNat (aj_nar 2 b3)))) i 3 (.int (Int32.ofInt 0))) i 6 3 (.int (Int32.ofInt 0)) := cw_sf_same f1026
              refine cw_n aj_d92 rfl rfl ?_
              refine cw_g (i := 2) (v := .ref (52 + 10)) htb.1 aj_d92 rfl rfl (by decide) f1028 ?_
              refine cw_n aj_d92 rfl rfl ?_
              refine cw_ldq (i := 10) htb.1 aj_d92 rfl a1031 (a := nt.toInt) rfl (by omega) (by omega) ?_
              rw [hf]
              show cw_W _ _ _ _ _ _ _ _ _ _ 96 [(4, .int nt), (0, .ref (52 + 2)), (1, .long w9), (3, .int b3)] [.ref (52 + i)]
              refine cw_n aj_d92 rfl rfl ?_
              refine cw_p1 (kind := 1) (by decide) (i := i) (t := 58) (c := 6) (k := 4) (v := .int (Int32.ofInt 0)) (y := (.inl (0, 20000000))) htb aj_d92 rfl rfl hT1025 qi rfl rfl rfl (cw_gw (a := (0 : Int)) rfl (by omega) (by omega)) (by decide) rfl rfl (fun hT1033 => ?_)
              obtain ⟨v1034, f1034, g1034⟩ := cw_tyF (i := i) (t := 58) (c := 6) (k := 4) (y := (.inl (0, 20000000))) hT1025 qi rfl rfl rfl
              obtain ⟨x1034, rfl, b1034⟩ := ak_gi g1034
              dsimp only [ak_win] at b1034
              have f1035 : cw_F (cw_sf (cw_sf (cw_sa (cw_sa h i1003 (.inr (.inl (vp_updL fn1005 (nt.toInt).toNat w9)))) i1007 (.inl (upd fn1017 (nt.toInt).toNat (aj_nar 2 b3)))) i 3 (.int (Int32.ofInt 0))) i 4 (.int (Int32.ofInt 0))) 2 7 12 (.int nt) := cw_sf_ne f1027 (Or.inr (by decide))
              have f1036 : cw_F (cw_sf (cw_sf (cw_sa (cw_sa h i1003 (.inr (.inl (vp_updL fn1005 (nt.toInt).toNat w9)))) i1007 (.inl (upd fn1017 (nt.toInt).toNat (aj_nar 2 b3)))) i 3 (.int (Int32.ofInt 0))) i 4 (.int (Int32.ofInt 0))) 2 7 7 (.ref (52 + 10)) := cw_sf_ne f1028 (Or.inr (by decide))
              have f1037 : cw_F (cw_sf (cw_sf (cw_sa (cw_sa h i1003 (.inr (.inl (vp_updL fn1005 (nt.toInt).toNat w9)))) i1007 (.inl (upd fn1017 (nt.toInt).toNat (aj_nar 2 b3)))) i 3 (.int (Int32.ofInt 0))) i 4 (.int (Int32.ofInt 0))) 2 7 8 (.ref (52 + i1003)) := cw_sf_ne f1029 (Or.inr (by decide))
              have f1038 : cw_F (cw_sf (cw_sf (cw_sa (cw_sa h i1003 (.inr (.inl (vp_updL fn1005 (nt.toInt).toNat w9)))) i1007 (.inl (upd fn1017 (nt.toInt).toNat (aj_nar 2 b3)))) i 3 (.int (Int32.ofInt 0))) i 4 (.int (Int32.ofInt 0))) 2 7 10 (.ref (52 + i1007)) := cw_sf_ne f1030 (Or.inr (by decide))
              have f1039 : cw_F (cw_sf (cw_sf (cw_sa (cw_sa h i1003 (.inr (.inl (vp_updL fn1005 (nt.toInt).toNat w9)))) i1007 (.inl (upd fn1017 (nt.toInt).toNat (aj_nar 2 b3)))) i 3 (.int (Int32.ofInt 0))) i 4 (.int (Int32.ofInt 0))) i 6 3 (.int (Int32.ofInt 0)) := cw_sf_ne f1032 (Or.inr (by decide))
              have a1040 : cw_A (cw_sf (cw_sf (cw_sa (cw_sa h i1003 (.inr (.inl (vp_updL fn1005 (nt.toInt).toNat w9)))) i1007 (.inl (upd fn1017 (nt.toInt).toNat (aj_nar 2 b3)))) i 3 (.int (Int32.ofInt 0))) i 4 (.int (Int32.ofInt 0))) 10 5 10 (.inr (.inr (.inr (.inr q3)))) := cw_sf_A a1031
              have f1041 : cw_F (cw_sf (cw_sf (cw_sa (cw_sa h i1003 (.inr (.inl (vp_updL fn1005 (nt.toInt).toNat w9)))) i1007 (.inl (upd fn1017 (nt.toInt).toNat (aj_nar 2 b3)))) i 3 (.int (Int32.ofInt 0))) i 4 (.int (Int32.ofInt 0))) i 6 4 (.int (Int32.ofInt 0)) := cw_sf_same f1034
              refine cw_n aj_d92 rfl rfl ?_
              refine cw_n aj_d92 rfl rfl ?_
              refine cw_g (i := 2) (v := .int nt) htb.1 aj_d92 rfl rfl (by decide) f1035 ?_
              refine cw_n aj_d92 rfl rfl ?_
              refine cw_add aj_d92 rfl (a := nt.toInt) (b := (1 : Int)) rfl rfl (by omega) (by omega) (fun x1042 ex1042 => ?_)
              refine cw_p (i := 2) (t := 59) (c := 7) (k := 12) (v := .int x1042) (y := (.inl (0, 10))) htb aj_d92 rfl rfl hT1033 (cw_s0 hB rfl) rfl rfl rfl (cw_gw (a := x1042.toInt) rfl (by omega) (by omega)) (by decide) rfl rfl (fun hT1043 => ?_)
              have f1044 : cw_F (cw_sf (cw_sf (cw_sf (cw_sa (cw_sa h i1003 (.inr (.inl (vp_updL fn1005 (nt.toInt).toNat w9)))) i1007 (.inl (upd fn1017 (nt.toInt).toNat (aj_nar 2 b3)))) i 3 (.int (Int32.ofInt 0))) i 4 (.int (Int32.ofInt 0))) 2 12 (.int x1042)) 2 7 7 (.ref (52 + 10)) := cw_sf_ne f1036 (Or.inr (by decide))
              have f1045 : cw_F (cw_sf (cw_sf (cw_sf (cw_sa (cw_sa h i1003 (.inr (.inl (vp_updL fn1005 (nt.toInt).toNat w9)))) i1007 (.inl (upd fn1017 (nt.toInt).toNat (aj_nar 2 b3)))) i 3 (.int (Int32.ofInt 0))) i 4 (.int (Int32.ofInt 0))) 2 12 (.int x1042)) 2 7 8 (.ref (52 + i1003)) := cw_sf_ne f1037 (Or.inr (by decide))
              have f1046 : cw_F (cw_sf (cw_sf (cw_sf (cw_sa (cw_sa h i1003 (.inr (.inl (vp_updL fn1005 (nt.toInt).toNat w9)))) i1007 (.inl (upd fn1017 (nt.toInt).toNat (aj_nar 2 b3)))) i 3 (.int (Int32.ofInt 0))) i 4 (.int (Int32.ofInt 0))) 2 12 (.int x1042)) 2 7 10 (.ref (52 + i1007)) := cw_sf_ne f1038 (Or.inr (by decide))
              have f1047 : cw_F (cw_sf (cw_sf (cw_sf (cw_sa (cw_sa h i1003 (.inr (.inl (vp_updL fn1005 (nt.toInt).toNat w9)))) i1007 (.inl (upd fn1017 (nt.toInt).toNat (aj_nar 2 b3)))) i 3 (.int (Int32.ofInt 0))) i 4 (.int (Int32.ofInt 0))) 2 12 (.int x1042)) i 6 3 (.int (Int32.ofInt 0)) := cw_sf_ne f1039 (Or.inr (by decide))
              have f1048 : cw_F (cw_sf (cw_sf (cw_sf (cw_sa (cw_sa h i1003 (.inr (.inl (vp_updL fn1005 (nt.toInt).toNat w9)))) i1007 (.inl (upd fn1017 (nt.toInt).toNat (aj_nar 2 b3)))) i 3 (.int (Int32.ofInt 0))) i 4 (.int (Int32.ofInt 0))) 2 12 (.int x1042)) i 6 4 (.int (Int32.ofInt 0)) := cw_sf_ne f1041 (Or.inr (by decide))
              have a1049 : cw_A (cw_sf (cw_sf (cw_sf (cw_sa (cw_sa h i1003 (.inr (.inl (vp_updL fn1005 (nt.toInt).toNat w9)))) i1007 (.inl (upd fn1017 (nt.toInt).toNat (aj_nar 2 b3)))) i 3 (.int (Int32.ofInt 0))) i 4 (.int (Int32.ofInt 0))) 2 12 (.int x1042)) 10 5 10 (.inr (.inr (.inr (.inr q3)))) := cw_sf_A a1040
              have f1050 : cw_F (cw_sf (cw_sf (cw_sf (cw_sa (cw_sa h i1003 (.inr (.inl (vp_updL fn1005 (nt.toInt).toNat w9)))) i1007 (.inl (upd fn1017 (nt.toInt).toNat (aj_nar 2 b3)))) i 3 (.int (Int32.ofInt 0))) i 4 (.int (Int32.ofInt 0))) 2 12 (.int x1042)) 2 7 12 (.int x1042) := cw_sf_same f1035
              refine cw_n aj_d92 rfl rfl ?_
              refine cw_Wr aj_d92 rfl rfl hT1043 ?_ ?_
              · exact ⟨⟨[], (List.append_nil _).symm⟩, _, cw_CQ_tab (x := 2) (i := i) hT1033 ex1042 (by omega) f1036 ((cw_oa_A (by decide)).mpr a1040) hf (cw_ok_F f1041 f1039 (by decide) (by decide)) (cw_CQ_row hT1025 (Or.inr rfl) f1034 (by decide) (cw_CQ_row hT1018 (Or.inl rfl) f1026 (by decide) (cw_CQ_eq ((cw_o_sa a1017 (cw_nsp hB q1007 (by decide))).trans ((cw_o_sa a1005 (cw_nsp hB q1003 (by decide))).trans rfl)) hQ)))⟩
              · exact cw_gw (s := s) (a := nt.toInt) rfl (by omega) (by omega)
            | none =>
              show cw_W _ _ _ _ _ _ _ _ _ _ 61 [(4, .int nt), (0, .ref (52 + 2)), (1, .long w9), (3, .int b3)] [.null]
              refine cw_n aj_d92 rfl rfl ?_
              refine cw_n aj_d92 rfl rfl ?_
              refine cw_g (i := 2) (v := .ref (52 + 10)) htb.1 aj_d92 rfl rfl (by decide) f1020 ?_
              refine cw_n aj_d92 rfl rfl ?_
              refine cw_newR htb.1 aj_d92 rfl rfl hT1018 rfl rfl rfl rfl rfl (Nat.le_of_ble_eq_true rfl) (by omega) (fun hTn => ?_)
              have qn : (s ++ [58, 94, 95, 96])[(cw_sa (cw_sa h i1003 (.inr (.inl (vp_updL fn1005 (nt.toInt).toNat w9)))) i1007 (.inl (upd fn1017 (nt.toInt).toNat (aj_nar 2 b3)))).length]? = some 58 := by
                rw [hT1018.1, List.getElem?_append_right (Nat.le_refl _), Nat.sub_self]
                rfl
              refine cw_sq htb aj_d92 rfl (q := 10) (cw_A_app a1024) hTn (cw_sapp (cw_s0 hB rfl)) rfl (by decide) (a := nt.toInt) rfl (by omega) (by omega) (i := (cw_sa (cw_sa h i1003 (.inr (.inl (vp_updL fn1005 (nt.toInt).toNat w9)))) i1007 (.inl (upd fn1017 (nt.toInt).toNat (aj_nar 2 b3)))).length) qn ⟨_, by rw [List.getElem?_append_right (Nat.le_refl _), Nat.sub_self]; rfl⟩ (fun hT2 => ?_)
              have Q2 := cw_CQ_new (x := 2) hT1018 ha f1020 a1024 (by omega) hf (cw_CQ_eq ((cw_o_sa a1017 (cw_nsp hB q1007 (by decide))).trans ((cw_o_sa a1005 (cw_nsp hB q1003 (by decide))).trans rfl)) hQ)
              have hB2 := Q2.1.1
              have a10n := cw_sa_same (x' := cw_q (va_up q3 (nt.toInt).toNat (some (52 + (cw_sa (cw_sa h i1003 (.inr (.inl (vp_updL fn1005 (nt.toInt).toNat w9)))) i1007 (.inl (upd fn1017 (nt.toInt).toNat (aj_nar 2 b3)))).length)))) (cw_A_app (X := cw_R (cw_sa (cw_sa h i1003 (.inr (.inl (vp_updL fn1005 (nt.toInt).toNat w9)))) i1007 (.inl (upd fn1017 (nt.toInt).toNat (aj_nar 2 b3)))).length) a1024)
              obtain ⟨-, -, -, -, -, -, -, Z2, -⟩ := id Q2
              obtain ⟨an, q3n, -, f12n, f7m, -, -⟩ := Z2
              have f12n := (cw_fo_F (by decide)).mp f12n
              have f7n : cw_F (cw_sa ((cw_sa (cw_sa h i1003 (.inr (.inl (vp_updL fn1005 (nt.toInt).toNat w9)))) i1007 (.inl (upd fn1017 (nt.toInt).toNat (aj_nar 2 b3)))) ++ cw_R (cw_sa (cw_sa h i1003 (.inr (.inl (vp_updL fn1005 (nt.toInt).toNat w9)))) i1007 (.inl (upd fn1017 (nt.toInt).toNat (aj_nar 2 b3)))).length) 10 (cw_q (va_up q3 (nt.toInt).toNat (some (52 + (cw_sa (cw_sa h i1003 (.inr (.inl (vp_updL fn1005 (nt.toInt).toNat w9)))) i1007 (.inl (upd fn1017 (nt.toInt).toNat (aj_nar 2 b3)))).length))))) 2 7 7 (.ref (52 + 10)) := cw_sa_F (cw_F_app f1020)
              have hfn : (va_up q3 (nt.toInt).toNat (some (52 + (cw_sa (cw_sa h i1003 (.inr (.inl (vp_updL fn1005 (nt.toInt).toNat w9)))) i1007 (.inl (upd fn1017 (nt.toInt).toNat (aj_nar 2 b3)))).length))) (nt.toInt).toNat = some (52 + (cw_sa (cw_sa h i1003 (.inr (.inl (vp_updL fn1005 (nt.toInt).toNat w9)))) i1007 (.inl (upd fn1017 (nt.toInt).toNat (aj_nar 2 b3)))).length) := if_pos rfl
              show cw_W _ _ _ _ _ _ _ _ _ _ 78 [(4, .int nt), (0, .ref (52 + 2)), (1, .long w9), (3, .int b3)] []
              refine cw_n aj_d92 rfl rfl ?_
              refine cw_g (i := 2) (v := .ref (52 + 10)) htb.1 aj_d92 rfl rfl (by decide) f7n ?_
              refine cw_n aj_d92 rfl rfl ?_
              refine cw_ldq (i := 10) htb.1 aj_d92 rfl a10n (a := nt.toInt) rfl (by omega) (by omega) ?_
              rw [hfn]
              show cw_W _ _ _ _ _ _ _ _ _ _ 85 [(4, .int nt), (0, .ref (52 + 2)), (1, .long w9), (3, .int b3)] [.ref (52 + (cw_sa (cw_sa h i1003 (.inr (.inl (vp_updL fn1005 (nt.toInt).toNat w9)))) i1007 (.inl (upd fn1017 (nt.toInt).toNat (aj_nar 2 b3)))).length)]
              refine cw_n aj_d92 rfl rfl ?_
              refine cw_p1 (kind := 1) (by decide) (i := (cw_sa (cw_sa h i1003 (.inr (.inl (vp_updL fn1005 (nt.toInt).toNat w9)))) i1007 (.inl (upd fn1017 (nt.toInt).toNat (aj_nar 2 b3)))).length) (t := 58) (c := 6) (k := 3) (v := .int (Int32.ofInt 0)) (y := (.inl (0, 20000000))) htb aj_d92 rfl rfl hT2 qn rfl rfl rfl (cw_gw (a := (0 : Int)) rfl (by omega) (by omega)) (by decide) rfl rfl (fun hT1051 => ?_)
              obtain ⟨v1052, f1052, g1052⟩ := cw_tyF (i := (cw_sa (cw_sa h i1003 (.inr (.inl (vp_updL fn1005 (nt.toInt).toNat w9)))) i1007 (.inl (upd fn1017 (nt.toInt).toNat (aj_nar 2 b3)))).length) (t := 58) (c := 6) (k := 3) (y := (.inl (0, 20000000))) hT2 qn rfl rfl rfl
              obtain ⟨x1052, rfl, b1052⟩ := ak_gi g1052
              dsimp only [ak_win] at b1052
              have f1053 : cw_F (cw_sf (cw_sa ((cw_sa (cw_sa h i1003 (.inr (.inl (vp_updL fn1005 (nt.toInt).toNat w9)))) i1007 (.inl (upd fn1017 (nt.toInt).toNat (aj_nar 2 b3)))) ++ cw_R (cw_sa (cw_sa h i1003 (.inr (.inl (vp_updL fn1005 (nt.toInt).toNat w9)))) i1007 (.inl (upd fn1017 (nt.toInt).toNat (aj_nar 2 b3)))).length) 10 (cw_q (va_up q3 (nt.toInt).toNat (some (52 + (cw_sa (cw_sa h i1003 (.inr (.inl (vp_updL fn1005 (nt.toInt).toNat w9)))) i1007 (.inl (upd fn1017 (nt.toInt).toNat (aj_nar 2 b3)))).length))))) (cw_sa (cw_sa h i1003 (.inr (.inl (vp_updL fn1005 (nt.toInt).toNat w9)))) i1007 (.inl (upd fn1017 (nt.toInt).toNat (aj_nar 2 b3)))).length 3 (.int (Int32.ofInt 0))) 2 7 12 (.int nt) := cw_sf_ne f12n (Or.inr (by decide))
              have f1054 : cw_F (cw_sf (cw_sa ((cw_sa (cw_sa h i1003 (.inr (.inl (vp_updL fn1005 (nt.toInt).toNat w9)))) i1007 (.inl (upd fn1017 (nt.toInt).toNat (aj_nar 2 b3)))) ++ cw_R (cw_sa (cw_sa h i1003 (.inr (.inl (vp_updL fn1005 (nt.toInt).toNat w9)))) i1007 (.inl (upd fn1017 (nt.toInt).toNat (aj_nar 2 b3)))).length) 10 (cw_q (va_up q3 (nt.toInt).toNat (some (52 + (cw_sa (cw_sa h i1003 (.inr (.inl (vp_updL fn1005 (nt.toInt).toNat w9)))) i1007 (.inl (upd fn1017 (nt.toInt).toNat (aj_nar 2 b3)))).length))))) (cw_sa (cw_sa h i1003 (.inr (.inl (vp_updL fn1005 (nt.toInt).toNat w9)))) i1007 (.inl (upd fn1017 (nt.toInt).toNat (aj_nar 2 b3)))).length 3 (.int (Int32.ofInt 0))) 2 7 7 (.ref (52 + 10)) := cw_sf_ne f7n (Or.inr (by decide))
              have a1055 : cw_A (cw_sf (cw_sa ((cw_sa (cw_sa h i1003 (.inr (.inl (vp_updL fn1005 (nt.toInt).toNat w9)))) i1007 (.inl (upd fn1017 (nt.toInt).toNat (aj_nar 2 b3)))) ++ cw_R (cw_sa (cw_sa h i1003 (.inr (.inl (vp_updL fn1005 (nt.toInt).toNat w9)))) i1007 (.inl (upd fn1017 (nt.toInt).toNat (aj_nar 2 b3)))).length) 10 (cw_q (va_up q3 (nt.toInt).toNat (some (52 + (cw_sa (cw_sa h i1003 (.inr (.inl (vp_updL fn1005 (nt.toInt).toNat w9)))) i1007 (.inl (upd fn1017 (nt.toInt).toNat (aj_nar 2 b3)))).length))))) (cw_sa (cw_sa h i1003 (.inr (.inl (vp_updL fn1005 (nt.toInt).toNat w9)))) i1007 (.inl (upd fn1017 (nt.toInt).toNat (aj_nar 2 b3)))).length 3 (.int (Int32.ofInt 0))) 10 5 10 (.inr (.inr (.inr (.inr (va_up q3 (nt.toInt).toNat (some (52 + (cw_sa (cw_sa h i1003 (.inr (.inl (vp_updL fn1005 (nt.toInt).toNat w9)))) i1007 (.inl (upd fn1017 (nt.toInt).toNat (aj_nar 2 b3)))).length))))))) := cw_sf_A a10n
              have f1056 : cw_F (cw_sf (cw_sa ((cw_sa (cw_sa h i1003 (.inr (.inl (vp_updL fn1005 (nt.toInt).toNat w9)))) i1007 (.inl (upd fn1017 (nt.toInt).toNat (aj_nar 2 b3)))) ++ cw_R (cw_sa (cw_sa h i1003 (.inr (.inl (vp_updL fn1005 (nt.toInt).toNat w9)))) i1007 (.inl (upd fn1017 (nt.toInt).toNat (aj_nar 2 b3)))).length) 10 (cw_q (va_up q3 (nt.toInt).toNat (some (52 + (cw_sa (cw_sa h i1003 (.inr (.inl (vp_updL fn1005 (nt.toInt).toNat w9)))) i1007 (.inl (upd fn1017 (nt.toInt).toNat (aj_nar 2 b3)))).length))))) (cw_sa (cw_sa h i1003 (.inr (.inl (vp_updL fn1005 (nt.toInt).toNat w9)))) i1007 (.inl (upd fn1017 (nt.toInt).toNat (aj_nar 2 b3)))).length 3 (.int (Int32.ofInt 0))) (cw_sa (cw_sa h i1003 (.inr (.inl (vp_updL fn1005 (nt.toInt).toNat w9)))) i1007 (.inl (upd fn1017 (nt.toInt).toNat (aj_nar 2 b3)))).length 6 3 (.int (Int32.ofInt 0)) := cw_sf_same f1052
              refine cw_n aj_d92 rfl rfl ?_
              refine cw_g (i := 2) (v := .ref (52 + 10)) htb.1 aj_d92 rfl rfl (by decide) f1054 ?_
              refine cw_n aj_d92 rfl rfl ?_
              refine cw_ldq (i := 10) htb.1 aj_d92 rfl a1055 (a := nt.toInt) rfl (by omega) (by omega) ?_
              rw [hfn]
              show cw_W _ _ _ _ _ _ _ _ _ _ 96 [(4, .int nt), (0, .ref (52 + 2)), (1, .long w9), (3, .int b3)] [.ref (52 + (cw_sa (cw_sa h i1003 (.inr (.inl (vp_updL fn1005 (nt.toInt).toNat w9)))) i1007 (.inl (upd fn1017 (nt.toInt).toNat (aj_nar 2 b3)))).length)]
              refine cw_n aj_d92 rfl rfl ?_
              refine cw_p1 (kind := 1) (by decide) (i := (cw_sa (cw_sa h i1003 (.inr (.inl (vp_updL fn1005 (nt.toInt).toNat w9)))) i1007 (.inl (upd fn1017 (nt.toInt).toNat (aj_nar 2 b3)))).length) (t := 58) (c := 6) (k := 4) (v := .int (Int32.ofInt 0)) (y := (.inl (0, 20000000))) htb aj_d92 rfl rfl hT1051 qn rfl rfl rfl (cw_gw (a := (0 : Int)) rfl (by omega) (by omega)) (by decide) rfl rfl (fun hT1057 => ?_)
              obtain ⟨v1058, f1058, g1058⟩ := cw_tyF (i := (cw_sa (cw_sa h i1003 (.inr (.inl (vp_updL fn1005 (nt.toInt).toNat w9)))) i1007 (.inl (upd fn1017 (nt.toInt).toNat (aj_nar 2 b3)))).length) (t := 58) (c := 6) (k := 4) (y := (.inl (0, 20000000))) hT1051 qn rfl rfl rfl
              obtain ⟨x1058, rfl, b1058⟩ := ak_gi g1058
              dsimp only [ak_win] at b1058
              have f1059 : cw_F (cw_sf (cw_sf (cw_sa ((cw_sa (cw_sa h i1003 (.inr (.inl (vp_updL fn1005 (nt.toInt).toNat w9)))) i1007 (.inl (upd fn1017 (nt.toInt).toNat (aj_nar 2 b3)))) ++ cw_R (cw_sa (cw_sa h i1003 (.inr (.inl (vp_updL fn1005 (nt.toInt).toNat w9)))) i1007 (.inl (upd fn1017 (nt.toInt).toNat (aj_nar 2 b3)))).length) 10 (cw_q (va_up q3 (nt.toInt).toNat (some (52 + (cw_sa (cw_sa h i1003 (.inr (.inl (vp_updL fn1005 (nt.toInt).toNat w9)))) i1007 (.inl (upd fn1017 (nt.toInt).toNat (aj_nar 2 b3)))).length))))) (cw_sa (cw_sa h i1003 (.inr (.inl (vp_updL fn1005 (nt.toInt).toNat w9)))) i1007 (.inl (upd fn1017 (nt.toInt).toNat (aj_nar 2 b3)))).length 3 (.int (Int32.ofInt 0))) (cw_sa (cw_sa h i1003 (.inr (.inl (vp_updL fn1005 (nt.toInt).toNat w9)))) i1007 (.inl (upd fn1017 (nt.toInt).toNat (aj_nar 2 b3)))).length 4 (.int (Int32.ofInt 0))) 2 7 12 (.int nt) := cw_sf_ne f1053 (Or.inr (by decide))
              have f1060 : cw_F (cw_sf (cw_sf (cw_sa ((cw_sa (cw_sa h i1003 (.inr (.inl (vp_updL fn1005 (nt.toInt).toNat w9)))) i1007 (.inl (upd fn1017 (nt.toInt).toNat (aj_nar 2 b3)))) ++ cw_R (cw_sa (cw_sa h i1003 (.inr (.inl (vp_updL fn1005 (nt.toInt).toNat w9)))) i1007 (.inl (upd fn1017 (nt.toInt).toNat (aj_nar 2 b3)))).length) 10 (cw_q (va_up q3 (nt.toInt).toNat (some (52 + (cw_sa (cw_sa h i1003 (.inr (.inl (vp_updL fn1005 (nt.toInt).toNat w9)))) i1007 (.inl (upd fn1017 (nt.toInt).toNat (aj_nar 2 b3)))).length))))) (cw_sa (cw_sa h i1003 (.inr (.inl (vp_updL fn1005 (nt.toInt).toNat w9)))) i1007 (.inl (upd fn1017 (nt.toInt).toNat (aj_nar 2 b3)))).length 3 (.int (Int32.ofInt 0))) (cw_sa (cw_sa h i1003 (.inr (.inl (vp_updL fn1005 (nt.toInt).toNat w9)))) i1007 (.inl (upd fn1017 (nt.toInt).toNat (aj_nar 2 b3)))).length 4 (.int (Int32.ofInt 0))) 2 7 7 (.ref (52 + 10)) := cw_sf_ne f1054 (Or.inr (by decide))
              have f1061 : cw_F (cw_sf (cw_sf (cw_sa ((cw_sa (cw_sa h i1003 (.inr (.inl (vp_updL fn1005 (nt.toInt).toNat w9)))) i1007 (.inl (upd fn1017 (nt.toInt).toNat (aj_nar 2 b3)))) ++ cw_R (cw_sa (cw_sa h i1003 (.inr (.inl (vp_updL fn1005 (nt.toInt).toNat w9)))) i1007 (.inl (upd fn1017 (nt.toInt).toNat (aj_nar 2 b3)))).length) 10 (cw_q (va_up q3 (nt.toInt).toNat (some (52 + (cw_sa (cw_sa h i1003 (.inr (.inl (vp_updL fn1005 (nt.toInt).toNat w9)))) i1007 (.inl (upd fn1017 (nt.toInt).toNat (aj_nar 2 b3)))).length))))) (cw_sa (cw_sa h i1003 (.inr (.inl (vp_updL fn1005 (nt.toInt).toNat w9)))) i1007 (.inl (upd fn1017 (nt.toInt).toNat (aj_nar 2 b3)))).length 3 (.int (Int32.ofInt 0))) (cw_sa (cw_sa h i1003 (.inr (.inl (vp_updL fn1005 (nt.toInt).toNat w9)))) i1007 (.inl (upd fn1017 (nt.toInt).toNat (aj_nar 2 b3)))).length 4 (.int (Int32.ofInt 0))) (cw_sa (cw_sa h i1003 (.inr (.inl (vp_updL fn1005 (nt.toInt).toNat w9)))) i1007 (.inl (upd fn1017 (nt.toInt).toNat (aj_nar 2 b3)))).length 6 3 (.int (Int32.ofInt 0)) := cw_sf_ne f1056 (Or.inr (by decide))
              have a1062 : cw_A (cw_sf (cw_sf (cw_sa ((cw_sa (cw_sa h i1003 (.inr (.inl (vp_updL fn1005 (nt.toInt).toNat w9)))) i1007 (.inl (upd fn1017 (nt.toInt).toNat (aj_nar 2 b3)))) ++ cw_R (cw_sa (cw_sa h i1003 (.inr (.inl (vp_updL fn1005 (nt.toInt).toNat w9)))) i1007 (.inl (upd fn1017 (nt.toInt).toNat (aj_nar 2 b3)))).length) 10 (cw_q (va_up q3 (nt.toInt).toNat (some (52 + (cw_sa (cw_sa h i1003 (.inr (.inl (vp_updL fn1005 (nt.toInt).toNat w9)))) i1007 (.inl (upd fn1017 (nt.toInt).toNat (aj_nar 2 b3)))).length))))) (cw_sa (cw_sa h i1003 (.inr (.inl (vp_updL fn1005 (nt.toInt).toNat w9)))) i1007 (.inl (upd fn1017 (nt.toInt).toNat (aj_nar 2 b3)))).length 3 (.int (Int32.ofInt 0))) (cw_sa (cw_sa h i1003 (.inr (.inl (vp_updL fn1005 (nt.toInt).toNat w9)))) i1007 (.inl (upd fn1017 (nt.toInt).toNat (aj_nar 2 b3)))).length 4 (.int (Int32.ofInt 0))) 10 5 10 (.inr (.inr (.inr (.inr (va_up q3 (nt.toInt).toNat (some (52 + (cw_sa (cw_sa h i1003 (.inr (.inl (vp_updL fn1005 (nt.toInt).toNat w9)))) i1007 (.inl (upd fn1017 (nt.toInt).toNat (aj_nar 2 b3)))).length))))))) := cw_sf_A a1055
              have f1063 : cw_F (cw_sf (cw_sf (cw_sa ((cw_sa (cw_sa h i1003 (.inr (.inl (vp_updL fn1005 (nt.toInt).toNat w9)))) i1007 (.inl (upd fn1017 (nt.toInt).toNat (aj_nar 2 b3)))) ++ cw_R (cw_sa (cw_sa h i1003 (.inr (.inl (vp_updL fn1005 (nt.toInt).toNat w9)))) i1007 (.inl (upd fn1017 (nt.toInt).toNat (aj_nar 2 b3)))).length) 10 (cw_q (va_up q3 (nt.toInt).toNat (some (52 + (cw_sa (cw_sa h i1003 (.inr (.inl (vp_updL fn1005 (nt.toInt).toNat w9)))) i1007 (.inl (upd fn1017 (nt.toInt).toNat (aj_nar 2 b3)))).length))))) (cw_sa (cw_sa h i1003 (.inr (.inl (vp_updL fn1005 (nt.toInt).toNat w9)))) i1007 (.inl (upd fn1017 (nt.toInt).toNat (aj_nar 2 b3)))).length 3 (.int (Int32.ofInt 0))) (cw_sa (cw_sa h i1003 (.inr (.inl (vp_updL fn1005 (nt.toInt).toNat w9)))) i1007 (.inl (upd fn1017 (nt.toInt).toNat (aj_nar 2 b3)))).length 4 (.int (Int32.ofInt 0))) (cw_sa (cw_sa h i1003 (.inr (.inl (vp_updL fn1005 (nt.toInt).toNat w9)))) i1007 (.inl (upd fn1017 (nt.toInt).toNat (aj_nar 2 b3)))).length 6 4 (.int (Int32.ofInt 0)) := cw_sf_same f1058
              refine cw_n aj_d92 rfl rfl ?_
              refine cw_n aj_d92 rfl rfl ?_
              refine cw_g (i := 2) (v := .int nt) htb.1 aj_d92 rfl rfl (by decide) f1059 ?_
              refine cw_n aj_d92 rfl rfl ?_
              refine cw_add aj_d92 rfl (a := nt.toInt) (b := (1 : Int)) rfl rfl (by omega) (by omega) (fun x1064 ex1064 => ?_)
              refine cw_p (i := 2) (t := 59) (c := 7) (k := 12) (v := .int x1064) (y := (.inl (0, 10))) htb aj_d92 rfl rfl hT1057 (cw_s0 hB2 rfl) rfl rfl rfl (cw_gw (a := x1064.toInt) rfl (by omega) (by omega)) (by decide) rfl rfl (fun hT1065 => ?_)
              have f1066 : cw_F (cw_sf (cw_sf (cw_sf (cw_sa ((cw_sa (cw_sa h i1003 (.inr (.inl (vp_updL fn1005 (nt.toInt).toNat w9)))) i1007 (.inl (upd fn1017 (nt.toInt).toNat (aj_nar 2 b3)))) ++ cw_R (cw_sa (cw_sa h i1003 (.inr (.inl (vp_updL fn1005 (nt.toInt).toNat w9)))) i1007 (.inl (upd fn1017 (nt.toInt).toNat (aj_nar 2 b3)))).length) 10 (cw_q (va_up q3 (nt.toInt).toNat (some (52 + (cw_sa (cw_sa h i1003 (.inr (.inl (vp_updL fn1005 (nt.toInt).toNat w9)))) i1007 (.inl (upd fn1017 (nt.toInt).toNat (aj_nar 2 b3)))).length))))) (cw_sa (cw_sa h i1003 (.inr (.inl (vp_updL fn1005 (nt.toInt).toNat w9)))) i1007 (.inl (upd fn1017 (nt.toInt).toNat (aj_nar 2 b3)))).length 3 (.int (Int32.ofInt 0))) (cw_sa (cw_sa h i1003 (.inr (.inl (vp_updL fn1005 (nt.toInt).toNat w9)))) i1007 (.inl (upd fn1017 (nt.toInt).toNat (aj_nar 2 b3)))).length 4 (.int (Int32.ofInt 0))) 2 12 (.int x1064)) 2 7 7 (.ref (52 + 10)) := cw_sf_ne f1060 (Or.inr (by decide))
              have f1067 : cw_F (cw_sf (cw_sf (cw_sf (cw_sa ((cw_sa (cw_sa h i1003 (.inr (.inl (vp_updL fn1005 (nt.toInt).toNat w9)))) i1007 (.inl (upd fn1017 (nt.toInt).toNat (aj_nar 2 b3)))) ++ cw_R (cw_sa (cw_sa h i1003 (.inr (.inl (vp_updL fn1005 (nt.toInt).toNat w9)))) i1007 (.inl (upd fn1017 (nt.toInt).toNat (aj_nar 2 b3)))).length) 10 (cw_q (va_up q3 (nt.toInt).toNat (some (52 + (cw_sa (cw_sa h i1003 (.inr (.inl (vp_updL fn1005 (nt.toInt).toNat w9)))) i1007 (.inl (upd fn1017 (nt.toInt).toNat (aj_nar 2 b3)))).length))))) (cw_sa (cw_sa h i1003 (.inr (.inl (vp_updL fn1005 (nt.toInt).toNat w9)))) i1007 (.inl (upd fn1017 (nt.toInt).toNat (aj_nar 2 b3)))).length 3 (.int (Int32.ofInt 0))) (cw_sa (cw_sa h i1003 (.inr (.inl (vp_updL fn1005 (nt.toInt).toNat w9)))) i1007 (.inl (upd fn1017 (nt.toInt).toNat (aj_nar 2 b3)))).length 4 (.int (Int32.ofInt 0))) 2 12 (.int x1064)) (cw_sa (cw_sa h i1003 (.inr (.inl (vp_updL fn1005 (nt.toInt).toNat w9)))) i1007 (.inl (upd fn1017 (nt.toInt).toNat (aj_nar 2 b3)))).length 6 3 (.int (Int32.ofInt 0)) := cw_sf_ne f1061 (Or.inr (by decide))
              have f1068 : cw_F (cw_sf (cw_sf (cw_sf (cw_sa ((cw_sa (cw_sa h i1003 (.inr (.inl (vp_updL fn1005 (nt.toInt).toNat w9)))) i1007 (.inl (upd fn1017 (nt.toInt).toNat (aj_nar 2 b3)))) ++ cw_R (cw_sa (cw_sa h i1003 (.inr (.inl (vp_updL fn1005 (nt.toInt).toNat w9)))) i1007 (.inl (upd fn1017 (nt.toInt).toNat (aj_nar 2 b3)))).length) 10 (cw_q (va_up q3 (nt.toInt).toNat (some (52 + (cw_sa (cw_sa h i1003 (.inr (.inl (vp_updL fn1005 (nt.toInt).toNat w9)))) i1007 (.inl (upd fn1017 (nt.toInt).toNat (aj_nar 2 b3)))).length))))) (cw_sa (cw_sa h i1003 (.inr (.inl (vp_updL fn1005 (nt.toInt).toNat w9)))) i1007 (.inl (upd fn1017 (nt.toInt).toNat (aj_nar 2 b3)))).length 3 (.int (Int32.ofInt 0))) (cw_sa (cw_sa h i1003 (.inr (.inl (vp_updL fn1005 (nt.toInt).toNat w9)))) i1007 (.inl (upd fn1017 (nt.toInt).toNat (aj_nar 2 b3)))).length 4 (.int (Int32.ofInt 0))) 2 12 (.int x1064)) (cw_sa (cw_sa h i1003 (.inr (.inl (vp_updL fn1005 (nt.toInt).toNat w9)))) i1007 (.inl (upd fn1017 (nt.toInt).toNat (aj_nar 2 b3)))).length 6 4 (.int (Int32.ofInt 0)) := cw_sf_ne f1063 (Or.inr (by decide))
              have a1069 : cw_A (cw_sf (cw_sf (cw_sf (cw_sa ((cw_sa (cw_sa h i1003 (.inr (.inl (vp_updL fn1005 (nt.toInt).toNat w9)))) i1007 (.inl (upd fn1017 (nt.toInt).toNat (aj_nar 2 b3)))) ++ cw_R (cw_sa (cw_sa h i1003 (.inr (.inl (vp_updL fn1005 (nt.toInt).toNat w9)))) i1007 (.inl (upd fn1017 (nt.toInt).toNat (aj_nar 2 b3)))).length) 10 (cw_q (va_up q3 (nt.toInt).toNat (some (52 + (cw_sa (cw_sa h i1003 (.inr (.inl (vp_updL fn1005 (nt.toInt).toNat w9)))) i1007 (.inl (upd fn1017 (nt.toInt).toNat (aj_nar 2 b3)))).length))))) (cw_sa (cw_sa h i1003 (.inr (.inl (vp_updL fn1005 (nt.toInt).toNat w9)))) i1007 (.inl (upd fn1017 (nt.toInt).toNat (aj_nar 2 b3)))).length 3 (.int (Int32.ofInt 0))) (cw_sa (cw_sa h i1003 (.inr (.inl (vp_updL fn1005 (nt.toInt).toNat w9)))) i1007 (.inl (upd fn1017 (nt.toInt).toNat (aj_nar 2 b3)))).length 4 (.int (Int32.ofInt 0))) 2 12 (.int x1064)) 10 5 10 (.inr (.inr (.inr (.inr (va_up q3 (nt.toInt).toNat (some (52 + (cw_sa (cw_sa h i1003 (.inr (.inl (vp_updL fn1005 (nt.toInt).toNat w9)))) i1007 (.inl (upd fn1017 (nt.toInt).toNat (aj_nar 2 b3)))).length))))))) := cw_sf_A a1062
              have f1070 : cw_F (cw_sf (cw_sf (cw_sf (cw_sa ((cw_sa (cw_sa h i1003 (.inr (.inl (vp_updL fn1005 (nt.toInt).toNat w9)))) i1007 (.inl (upd fn1017 (nt.toInt).toNat (aj_nar 2 b3)))) ++ cw_R (cw_sa (cw_sa h i1003 (.inr (.inl (vp_updL fn1005 (nt.toInt).toNat w9)))) i1007 (.inl (upd fn1017 (nt.toInt).toNat (aj_nar 2 b3)))).length) 10 (cw_q (va_up q3 (nt.toInt).toNat (some (52 + (cw_sa (cw_sa h i1003 (.inr (.inl (vp_updL fn1005 (nt.toInt).toNat w9)))) i1007 (.inl (upd fn1017 (nt.toInt).toNat (aj_nar 2 b3)))).length))))) (cw_sa (cw_sa h i1003 (.inr (.inl (vp_updL fn1005 (nt.toInt).toNat w9)))) i1007 (.inl (upd fn1017 (nt.toInt).toNat (aj_nar 2 b3)))).length 3 (.int (Int32.ofInt 0))) (cw_sa (cw_sa h i1003 (.inr (.inl (vp_updL fn1005 (nt.toInt).toNat w9)))) i1007 (.inl (upd fn1017 (nt.toInt).toNat (aj_nar 2 b3)))).length 4 (.int (Int32.ofInt 0))) 2 12 (.int x1064)) 2 7 12 (.int x1064) := cw_sf_same f1059
              refine cw_n aj_d92 rfl rfl ?_
              refine cw_Wr aj_d92 rfl rfl hT1065 ?_ ?_
              · exact ⟨⟨_, rfl⟩, _, cw_CQ_tab (x := 2) (i := (cw_sa (cw_sa h i1003 (.inr (.inl (vp_updL fn1005 (nt.toInt).toNat w9)))) i1007 (.inl (upd fn1017 (nt.toInt).toNat (aj_nar 2 b3)))).length) hT1057 ex1064 (by omega) f1060 ((cw_oa_A (by decide)).mpr a1062) hfn (cw_ok_F f1063 f1061 (by decide) (by decide)) (cw_CQ_row hT1051 (Or.inr rfl) f1058 (by decide) (cw_CQ_row hT2 (Or.inl rfl) f1052 (by decide) Q2))⟩
              · exact cw_gw (s := s) (a := nt.toInt) rfl (by omega) (by omega)
          · have q1010 : nt.toInt ≥ (10 : Int) := aw_t_lt (a := nt.toInt) (b := (10 : Int)) rfl ex1008 q1010
            refine cw_n aj_d92 rfl rfl ?_
            refine cw_Wr aj_d92 rfl rfl hT ?_ ?_
            · exact ⟨⟨[], (List.append_nil _).symm⟩, _, (cw_CQ_eq rfl hQ)⟩
            · exact cw_gw (s := s) (a := -1) rfl (by decide) (by decide)
    · have a10 : cw_A h 22 5 10 (cw_q q3) := (cw_oa_A (by decide)).mp a10
      have ha : (22 : Nat) = 10 ∨ (22 : Nat) = 22 := by decide
      show cw_W _ _ _ _ _ _ _ _ _ _ 0 [(0, .ref (52 + 2)), (1, .long w9), (3, .int b3)] []
      refine cw_n aj_d92 rfl rfl ?_
      refine cw_g (i := 2) (v := .int nt) htb.1 aj_d92 rfl rfl (by decide) f12 ?_
      refine cw_n aj_d92 rfl rfl ?_
      show cw_W _ _ _ _ _ _ _ _ _ _ 6 [(4, .int nt), (0, .ref (52 + 2)), (1, .long w9), (3, .int b3)] []
      refine cw_n aj_d92 rfl rfl ?_
      refine cw_n aj_d92 rfl rfl ?_
      refine cw_g (i := 2) (v := .ref (52 + 22)) htb.1 aj_d92 rfl rfl (by decide) f7 ?_
      refine cw_alen (i := 22) htb.1 aj_d92 rfl a10 (by decide) (by omega) (fun x1071 ex1071 => ?_)
      refine cw_c (tgt := 36) aj_d92 rfl rfl (fun q1072 => ?_) (fun q1072 => ?_)
      · have q1072 : nt.toInt ≥ (10 : Int) := aw_t_ge (a := nt.toInt) (b := (10 : Int)) rfl ex1071 q1072
        refine cw_n aj_d92 rfl rfl ?_
        refine cw_Wr aj_d92 rfl rfl hT ?_ ?_
        · exact ⟨⟨[], (List.append_nil _).symm⟩, _, (cw_CQ_eq rfl hQ)⟩
        · exact cw_gw (s := s) (a := -1) rfl (by decide) (by decide)
      · have q1072 : nt.toInt < (10 : Int) := aw_t_ge (a := nt.toInt) (b := (10 : Int)) rfl ex1071 q1072
        refine cw_n aj_d92 rfl rfl ?_
        refine cw_n aj_d92 rfl rfl ?_
        obtain ⟨v1073, f1073, g1073⟩ := cw_tyF (i := 2) (t := 59) (c := 7) (k := 8) (y := (.inr (some ([73], false)))) hT (cw_s0 hB rfl) rfl rfl rfl
        obtain ⟨i1073, rfl, q1073⟩ := cw_gr g1073 (by decide)
        refine cw_g (i := 2) (v := .ref (52 + i1073)) htb.1 aj_d92 rfl rfl (by decide) f1073 ?_
        obtain ⟨n1075, z1075, a1075, p1075l, p1075r, p1075⟩ := cw_tyA (i := i1073) (t := 73) (kd := 1) (n1 := 10) (n2 := 10) (y := (.inr none)) hT q1073 rfl
        obtain rfl : n1075 = 10 := Nat.le_antisymm p1075r p1075l
        obtain ⟨fn1075, rfl, p1075c⟩ := cw_xl p1075
        refine cw_alen (i := i1073) htb.1 aj_d92 rfl a1075 (by decide) (by omega) (fun x1074 ex1074 => ?_)
        refine cw_c (tgt := 36) aj_d92 rfl rfl (fun q1076 => ?_) (fun q1076 => ?_)
        · have q1076 : nt.toInt ≥ (10 : Int) := aw_t_ge (a := nt.toInt) (b := (10 : Int)) rfl ex1074 q1076
          refine cw_n aj_d92 rfl rfl ?_
          refine cw_Wr aj_d92 rfl rfl hT ?_ ?_
          · exact ⟨⟨[], (List.append_nil _).symm⟩, _, (cw_CQ_eq rfl hQ)⟩
          · exact cw_gw (s := s) (a := -1) rfl (by decide) (by decide)
        · have q1076 : nt.toInt < (10 : Int) := aw_t_ge (a := nt.toInt) (b := (10 : Int)) rfl ex1074 q1076
          refine cw_n aj_d92 rfl rfl ?_
          refine cw_n aj_d92 rfl rfl ?_
          obtain ⟨v1077, f1077, g1077⟩ := cw_tyF (i := 2) (t := 59) (c := 7) (k := 10) (y := (.inr (some ([75], false)))) hT (cw_s0 hB rfl) rfl rfl rfl
          obtain ⟨i1077, rfl, q1077⟩ := cw_gr g1077 (by decide)
          refine cw_g (i := 2) (v := .ref (52 + i1077)) htb.1 aj_d92 rfl rfl (by decide) f1077 ?_
          obtain ⟨n1079, z1079, a1079, p1079l, p1079r, p1079⟩ := cw_tyA (i := i1077) (t := 75) (kd := 2) (n1 := 10) (n2 := 10) (y := (.inl (0, 1))) hT q1077 rfl
          obtain rfl : n1079 = 10 := Nat.le_antisymm p1079r p1079l
          obtain ⟨fn1079, rfl, p1079c⟩ := cw_xi p1079
          refine cw_alen (i := i1077) htb.1 aj_d92 rfl a1079 (by decide) (by omega) (fun x1078 ex1078 => ?_)
          refine cw_c (tgt := 38) aj_d92 rfl rfl (fun q1080 => ?_) (fun q1080 => ?_)
          · have q1080 : nt.toInt < (10 : Int) := aw_t_lt (a := nt.toInt) (b := (10 : Int)) rfl ex1078 q1080
            refine cw_n aj_d92 rfl rfl ?_
            refine cw_g (i := 2) (v := .ref (52 + i1073)) htb.1 aj_d92 rfl rfl (by decide) f1073 ?_
            refine cw_n aj_d92 rfl rfl ?_
            refine cw_n aj_d92 rfl rfl ?_
            refine cw_stl (i := i1073) htb aj_d92 rfl a1075 hT q1073 rfl (by decide) (a := nt.toInt) rfl (by omega) (by omega) (fun hT1081 => ?_)
            have f1082 : cw_F (cw_sa h i1073 (.inr (.inl (vp_updL fn1075 (nt.toInt).toNat w9)))) 2 7 12 (.int nt) := cw_sa_F f12
            have f1083 : cw_F (cw_sa h i1073 (.inr (.inl (vp_updL fn1075 (nt.toInt).toNat w9)))) 2 7 7 (.ref (52 + 22)) := cw_sa_F f7
            have f1084 : cw_F (cw_sa h i1073 (.inr (.inl (vp_updL fn1075 (nt.toInt).toNat w9)))) 2 7 8 (.ref (52 + i1073)) := cw_sa_F f1073
            have f1085 : cw_F (cw_sa h i1073 (.inr (.inl (vp_updL fn1075 (nt.toInt).toNat w9)))) 2 7 10 (.ref (52 + i1077)) := cw_sa_F f1077
            have a1086 : cw_A (cw_sa h i1073 (.inr (.inl (vp_updL fn1075 (nt.toInt).toNat w9)))) i1073 1 10 (.inr (.inl (vp_updL fn1075 (nt.toInt).toNat w9))) := cw_sa_same a1075
            refine cw_n aj_d92 rfl rfl ?_
            refine cw_g (i := 2) (v := .ref (52 + i1077)) htb.1 aj_d92 rfl rfl (by decide) f1085 ?_
            refine cw_n aj_d92 rfl rfl ?_
            refine cw_n aj_d92 rfl rfl ?_
            obtain ⟨n1087, z1087, a1087, p1087l, p1087r, p1087⟩ := cw_tyA (i := i1077) (t := 75) (kd := 2) (n1 := 10) (n2 := 10) (y := (.inl (0, 1))) hT1081 q1077 rfl
            obtain rfl : n1087 = 10 := Nat.le_antisymm p1087r p1087l
            obtain ⟨fn1087, rfl, p1087c⟩ := cw_xi p1087
            refine cw_st (i := i1077) htb aj_d92 (Or.inr (Or.inr (Or.inl ⟨rfl, rfl⟩))) rfl a1087 hT1081 q1077 rfl (by decide) (a := nt.toInt) rfl (by omega) (by omega) (ak_nar_ok (kd := 2) (q := (0, 1)) hb3 (Or.inr (Or.inl rfl))) (fun hT1088 => ?_)
            have f1089 : cw_F (cw_sa (cw_sa h i1073 (.inr (.inl (vp_updL fn1075 (nt.toInt).toNat w9)))) i1077 (.inl (upd fn1087 (nt.toInt).toNat (aj_nar 2 b3)))) 2 7 12 (.int nt) := cw_sa_F f1082
            have f1090 : cw_F (cw_sa (cw_sa h i1073 (.inr (.inl (vp_updL fn1075 (nt.toInt).toNat w9)))) i1077 (.inl (upd fn1087 (nt.toInt).toNat (aj_nar 2 b3)))) 2 7 7 (.ref (52 + 22)) := cw_sa_F f1083
            have f1091 : cw_F (cw_sa (cw_sa h i1073 (.inr (.inl (vp_updL fn1075 (nt.toInt).toNat w9)))) i1077 (.inl (upd fn1087 (nt.toInt).toNat (aj_nar 2 b3)))) 2 7 8 (.ref (52 + i1073)) := cw_sa_F f1084
            have f1092 : cw_F (cw_sa (cw_sa h i1073 (.inr (.inl (vp_updL fn1075 (nt.toInt).toNat w9)))) i1077 (.inl (upd fn1087 (nt.toInt).toNat (aj_nar 2 b3)))) 2 7 10 (.ref (52 + i1077)) := cw_sa_F f1085
            have a1093 : cw_A (cw_sa (cw_sa h i1073 (.inr (.inl (vp_updL fn1075 (nt.toInt).toNat w9)))) i1077 (.inl (upd fn1087 (nt.toInt).toNat (aj_nar 2 b3)))) i1077 2 10 (.inl (upd fn1087 (nt.toInt).toNat (aj_nar 2 b3))) := cw_sa_same a1087
            have a1094 : cw_A (cw_sa (cw_sa h i1073 (.inr (.inl (vp_updL fn1075 (nt.toInt).toNat w9)))) i1077 (.inl (upd fn1087 (nt.toInt).toNat (aj_nar 2 b3)))) 22 5 10 (cw_q q3) := cw_trA ((cw_o_sa a1087 (cw_nsp hB q1077 (by decide))).trans ((cw_o_sa a1075 (cw_nsp hB q1073 (by decide))).trans rfl)) (by decide) a10
            refine cw_n aj_d92 rfl rfl ?_
            refine cw_g (i := 2) (v := .ref (52 + 22)) htb.1 aj_d92 rfl rfl (by decide) f1090 ?_
            refine cw_n aj_d92 rfl rfl ?_
            refine cw_ldq (i := 22) htb.1 aj_d92 rfl a1094 (a := nt.toInt) rfl (by omega) (by omega) ?_
            cases hf : q3 (nt.toInt).toNat with
            | some r =>
              obtain ⟨i, rfl, qi⟩ := cw_refs (T := ak_C1) (t := 72) (n1 := 10) (n2 := 10) hT1088 (cw_s0 hB rfl) rfl a1094 (l := (nt.toInt).toNat) (by omega) hf
              show cw_W _ _ _ _ _ _ _ _ _ _ 61 [(4, .int nt), (0, .ref (52 + 2)), (1, .long w9), (3, .int b3)] [.ref (52 + i)]
              refine cw_n aj_d92 rfl rfl ?_
              refine cw_n aj_d92 rfl rfl ?_
              refine cw_g (i := 2) (v := .ref (52 + 22)) htb.1 aj_d92 rfl rfl (by decide) f1090 ?_
              refine cw_n aj_d92 rfl rfl ?_
              refine cw_ldq (i := 22) htb.1 aj_d92 rfl a1094 (a := nt.toInt) rfl (by omega) (by omega) ?_
              rw [hf]
              show cw_W _ _ _ _ _ _ _ _ _ _ 85 [(4, .int nt), (0, .ref (52 + 2)), (1, .long w9), (3, .int b3)] [.ref (52 + i)]
              refine cw_n aj_d92 rfl rfl ?_
              refine cw_p1 (kind := 1) (by decide) (i := i) (t := 58) (c := 6) (k := 3) (v := .int (Int32.ofInt 0)) (y := (.inl (0, 20000000))) htb aj_d92 rfl rfl hT1088 qi rfl rfl rfl (cw_gw (a := (0 : Int)) rfl (by omega) (by omega)) (by decide) rfl rfl (fun hT1095 => ?_)
              obtain ⟨v1096, f1096, g1096⟩ := cw_tyF (i := i) (t := 58) (c := 6) (k := 3) (y := (.inl (0, 20000000))) hT1088 qi rfl rfl rfl
              obtain ⟨x1096, rfl, b1096⟩ := ak_gi g1096
              dsimp only [ak_win] at b1096
              have f1097 : cw_F (cw_sf (cw_sa (cw_sa h i1073 (.inr (.inl (vp_updL fn1075 (nt.toInt).toNat w9)))) i1077 (.inl (upd fn1087 (nt.toInt).toNat (aj_nar 2 b3)))) i 3 (.int (Int32.ofInt 0))) 2 7 12 (.int nt) := cw_sf_ne f1089 (Or.inr (by decide))
              have f1098 : cw_F (cw_sf (cw_sa (cw_sa h i1073 (.inr (.inl (vp_updL fn1075 (nt.toInt).toNat w9)))) i1077 (.inl (upd fn1087 (nt.toInt).toNat (aj_nar 2 b3)))) i 3 (.int (Int32.ofInt 0))) 2 7 7 (.ref (52 + 22)) := cw_sf_ne f1090 (Or.inr (by decide))
              have f1099 : cw_F (cw_sf (cw_sa (cw_sa h i1073 (.inr (.inl (vp_updL fn1075 (nt.toInt).toNat w9)))) i1077 (.inl (upd fn1087 (nt.toInt).toNat (aj_nar 2 b3)))) i 3 (.int (Int32.ofInt 0))) 2 7 8 (.ref (52 + i1073)) := cw_sf_ne f1091 (Or.inr (by decide))
              have f1100 : cw_F (cw_sf (cw_sa (cw_sa h i1073 (.inr (.inl (vp_updL fn1075 (nt.toInt).toNat w9)))) i1077 (.inl (upd fn1087 (nt.toInt).toNat (aj_nar 2 b3)))) i 3 (.int (Int32.ofInt 0))) 2 7 10 (.ref (52 + i1077)) := cw_sf_ne f1092 (Or.inr (by decide))
              have a1101 : cw_A (cw_sf (cw_sa (cw_sa h i1073 (.inr (.inl (vp_updL fn1075 (nt.toInt).toNat w9)))) i1077 (.inl (upd fn1087 (nt.toInt).toNat (aj_nar 2 b3)))) i 3 (.int (Int32.ofInt 0))) 22 5 10 (.inr (.inr (.inr (.inr q3)))) := cw_sf_A a1094
              have f1102 : cw_F (cw_sf (cw_sa (cw_sa h i1073 (.inr (.inl (vp_updL fn1075 (nt.toInt).toNat w9)))) i1077 (.inl (upd fn1087 (nt.toInt).toNat (aj_nar 2 b3)))) i 3 (.int (Int32.ofInt 0))) i 6 3 (.int (Int32.ofInt 0)) := cw_sf_same f1096
              refine cw_n aj_d92 rfl rfl ?_
              refine cw_g (i := 2) (v := .ref (52 + 22)) htb.1 aj_d92 rfl rfl (by decide) f1098 ?_
              refine cw_n aj_d92 rfl rfl ?_
              refine cw_ldq (i := 22) htb.1 aj_d92 rfl a1101 (a := nt.toInt) rfl (by omega) (by omega) ?_
              rw [hf]
              show cw_W _ _ _ _ _ _ _ _ _ _ 96 [(4, .int nt), (0, .ref (52 + 2)), (1, .long w9), (3, .int b3)] [.ref (52 + i)]
              refine cw_n aj_d92 rfl rfl ?_
              refine cw_p1 (kind := 1) (by decide) (i := i) (t := 58) (c := 6) (k := 4) (v := .int (Int32.ofInt 0)) (y := (.inl (0, 20000000))) htb aj_d92 rfl rfl hT1095 qi rfl rfl rfl (cw_gw (a := (0 : Int)) rfl (by omega) (by omega)) (by decide) rfl rfl (fun hT1103 => ?_)
              obtain ⟨v1104, f1104, g1104⟩ := cw_tyF (i := i) (t := 58) (c := 6) (k := 4) (y := (.inl (0, 20000000))) hT1095 qi rfl rfl rfl
              obtain ⟨x1104, rfl, b1104⟩ := ak_gi g1104
              dsimp only [ak_win] at b1104
              have f1105 : cw_F (cw_sf (cw_sf (cw_sa (cw_sa h i1073 (.inr (.inl (vp_updL fn1075 (nt.toInt).toNat w9)))) i1077 (.inl (upd fn1087 (nt.toInt).toNat (aj_nar 2 b3)))) i 3 (.int (Int32.ofInt 0))) i 4 (.int (Int32.ofInt 0))) 2 7 12 (.int nt) := cw_sf_ne f1097 (Or.inr (by decide))
              have f1106 : cw_F (cw_sf (cw_sf (cw_sa (cw_sa h i1073 (.inr (.inl (vp_updL fn1075 (nt.toInt).toNat w9)))) i1077 (.inl (upd fn1087 (nt.toInt).toNat (aj_nar 2 b3)))) i 3 (.int (Int32.ofInt 0))) i 4 (.int (Int32.ofInt 0))) 2 7 7 (.ref (52 + 22)) := cw_sf_ne f1098 (Or.inr (by decide))
              have f1107 : cw_F (cw_sf (cw_sf (cw_sa (cw_sa h i1073 (.inr (.inl (vp_updL fn1075 (nt.toInt).toNat w9)))) i1077 (.inl (upd fn1087 (nt.toInt).toNat (aj_nar 2 b3)))) i 3 (.int (Int32.ofInt 0))) i 4 (.int (Int32.ofInt 0))) 2 7 8 (.ref (52 + i1073)) := cw_sf_ne f1099 (Or.inr (by decide))
              have f1108 : cw_F (cw_sf (cw_sf (cw_sa (cw_sa h i1073 (.inr (.inl (vp_updL fn1075 (nt.toInt).toNat w9)))) i1077 (.inl (upd fn1087 (nt.toInt).toNat (aj_nar 2 b3)))) i 3 (.int (Int32.ofInt 0))) i 4 (.int (Int32.ofInt 0))) 2 7 10 (.ref (52 + i1077)) := cw_sf_ne f1100 (Or.inr (by decide))
              have f1109 : cw_F (cw_sf (cw_sf (cw_sa (cw_sa h i1073 (.inr (.inl (vp_updL fn1075 (nt.toInt).toNat w9)))) i1077 (.inl (upd fn1087 (nt.toInt).toNat (aj_nar 2 b3)))) i 3 (.int (Int32.ofInt 0))) i 4 (.int (Int32.ofInt 0))) i 6 3 (.int (Int32.ofInt 0)) := cw_sf_ne f1102 (Or.inr (by decide))
              have a1110 : cw_A (cw_sf (cw_sf (cw_sa (cw_sa h i1073 (.inr (.inl (vp_updL fn1075 (nt.toInt).toNat w9)))) i1077 (.inl (upd fn1087 (nt.toInt).toNat (aj_nar 2 b3)))) i 3 (.int (Int32.ofInt 0))) i 4 (.int (Int32.ofInt 0))) 22 5 10 (.inr (.inr (.inr (.inr q3)))) := cw_sf_A a1101
              have f1111 : cw_F (cw_sf (cw_sf (cw_sa (cw_sa h i1073 (.inr (.inl (vp_updL fn1075 (nt.toInt).toNat w9)))) i1077 (.inl (upd fn1087 (nt.toInt).toNat (aj_nar 2 b3)))) i 3 (.int (Int32.ofInt 0))) i 4 (.int (Int32.ofInt 0))) i 6 4 (.int (Int32.ofInt 0)) := cw_sf_same f1104
              refine cw_n aj_d92 rfl rfl ?_
              refine cw_n aj_d92 rfl rfl ?_
              refine cw_g (i := 2) (v := .int nt) htb.1 aj_d92 rfl rfl (by decide) f1105 ?_
              refine cw_n aj_d92 rfl rfl ?_
              refine cw_add aj_d92 rfl (a := nt.toInt) (b := (1 : Int)) rfl rfl (by omega) (by omega) (fun x1112 ex1112 => ?_)
              refine cw_p (i := 2) (t := 59) (c := 7) (k := 12) (v := .int x1112) (y := (.inl (0, 10))) htb aj_d92 rfl rfl hT1103 (cw_s0 hB rfl) rfl rfl rfl (cw_gw (a := x1112.toInt) rfl (by omega) (by omega)) (by decide) rfl rfl (fun hT1113 => ?_)
              have f1114 : cw_F (cw_sf (cw_sf (cw_sf (cw_sa (cw_sa h i1073 (.inr (.inl (vp_updL fn1075 (nt.toInt).toNat w9)))) i1077 (.inl (upd fn1087 (nt.toInt).toNat (aj_nar 2 b3)))) i 3 (.int (Int32.ofInt 0))) i 4 (.int (Int32.ofInt 0))) 2 12 (.int x1112)) 2 7 7 (.ref (52 + 22)) := cw_sf_ne f1106 (Or.inr (by decide))
              have f1115 : cw_F (cw_sf (cw_sf (cw_sf (cw_sa (cw_sa h i1073 (.inr (.inl (vp_updL fn1075 (nt.toInt).toNat w9)))) i1077 (.inl (upd fn1087 (nt.toInt).toNat (aj_nar 2 b3)))) i 3 (.int (Int32.ofInt 0))) i 4 (.int (Int32.ofInt 0))) 2 12 (.int x1112)) 2 7 8 (.ref (52 + i1073)) := cw_sf_ne f1107 (Or.inr (by decide))
              have f1116 : cw_F (cw_sf (cw_sf (cw_sf (cw_sa (cw_sa h i1073 (.inr (.inl (vp_updL fn1075 (nt.toInt).toNat w9)))) i1077 (.inl (upd fn1087 (nt.toInt).toNat (aj_nar 2 b3)))) i 3 (.int (Int32.ofInt 0))) i 4 (.int (Int32.ofInt 0))) 2 12 (.int x1112)) 2 7 10 (.ref (52 + i1077)) := cw_sf_ne f1108 (Or.inr (by decide))
              have f1117 : cw_F (cw_sf (cw_sf (cw_sf (cw_sa (cw_sa h i1073 (.inr (.inl (vp_updL fn1075 (nt.toInt).toNat w9)))) i1077 (.inl (upd fn1087 (nt.toInt).toNat (aj_nar 2 b3)))) i 3 (.int (Int32.ofInt 0))) i 4 (.int (Int32.ofInt 0))) 2 12 (.int x1112)) i 6 3 (.int (Int32.ofInt 0)) := cw_sf_ne f1109 (Or.inr (by decide))
              have f1118 : cw_F (cw_sf (cw_sf (cw_sf (cw_sa (cw_sa h i1073 (.inr (.inl (vp_updL fn1075 (nt.toInt).toNat w9)))) i1077 (.inl (upd fn1087 (nt.toInt).toNat (aj_nar 2 b3)))) i 3 (.int (Int32.ofInt 0))) i 4 (.int (Int32.ofInt 0))) 2 12 (.int x1112)) i 6 4 (.int (Int32.ofInt 0)) := cw_sf_ne f1111 (Or.inr (by decide))
              have a1119 : cw_A (cw_sf (cw_sf (cw_sf (cw_sa (cw_sa h i1073 (.inr (.inl (vp_updL fn1075 (nt.toInt).toNat w9)))) i1077 (.inl (upd fn1087 (nt.toInt).toNat (aj_nar 2 b3)))) i 3 (.int (Int32.ofInt 0))) i 4 (.int (Int32.ofInt 0))) 2 12 (.int x1112)) 22 5 10 (.inr (.inr (.inr (.inr q3)))) := cw_sf_A a1110
              have f1120 : cw_F (cw_sf (cw_sf (cw_sf (cw_sa (cw_sa h i1073 (.inr (.inl (vp_updL fn1075 (nt.toInt).toNat w9)))) i1077 (.inl (upd fn1087 (nt.toInt).toNat (aj_nar 2 b3)))) i 3 (.int (Int32.ofInt 0))) i 4 (.int (Int32.ofInt 0))) 2 12 (.int x1112)) 2 7 12 (.int x1112) := cw_sf_same f1105
              refine cw_n aj_d92 rfl rfl ?_
              refine cw_Wr aj_d92 rfl rfl hT1113 ?_ ?_
              · exact ⟨⟨[], (List.append_nil _).symm⟩, _, cw_CQ_tab (x := 2) (i := i) hT1103 ex1112 (by omega) f1106 ((cw_oa_A (by decide)).mpr a1110) hf (cw_ok_F f1111 f1109 (by decide) (by decide)) (cw_CQ_row hT1095 (Or.inr rfl) f1104 (by decide) (cw_CQ_row hT1088 (Or.inl rfl) f1096 (by decide) (cw_CQ_eq ((cw_o_sa a1087 (cw_nsp hB q1077 (by decide))).trans ((cw_o_sa a1075 (cw_nsp hB q1073 (by decide))).trans rfl)) hQ)))⟩
              · exact cw_gw (s := s) (a := nt.toInt) rfl (by omega) (by omega)
            | none =>
              show cw_W _ _ _ _ _ _ _ _ _ _ 61 [(4, .int nt), (0, .ref (52 + 2)), (1, .long w9), (3, .int b3)] [.null]
              refine cw_n aj_d92 rfl rfl ?_
              refine cw_n aj_d92 rfl rfl ?_
              refine cw_g (i := 2) (v := .ref (52 + 22)) htb.1 aj_d92 rfl rfl (by decide) f1090 ?_
              refine cw_n aj_d92 rfl rfl ?_
              refine cw_newR htb.1 aj_d92 rfl rfl hT1088 rfl rfl rfl rfl rfl (Nat.le_of_ble_eq_true rfl) (by omega) (fun hTn => ?_)
              have qn : (s ++ [58, 94, 95, 96])[(cw_sa (cw_sa h i1073 (.inr (.inl (vp_updL fn1075 (nt.toInt).toNat w9)))) i1077 (.inl (upd fn1087 (nt.toInt).toNat (aj_nar 2 b3)))).length]? = some 58 := by
                rw [hT1088.1, List.getElem?_append_right (Nat.le_refl _), Nat.sub_self]
                rfl
              refine cw_sq htb aj_d92 rfl (q := 22) (cw_A_app a1094) hTn (cw_sapp (cw_s0 hB rfl)) rfl (by decide) (a := nt.toInt) rfl (by omega) (by omega) (i := (cw_sa (cw_sa h i1073 (.inr (.inl (vp_updL fn1075 (nt.toInt).toNat w9)))) i1077 (.inl (upd fn1087 (nt.toInt).toNat (aj_nar 2 b3)))).length) qn ⟨_, by rw [List.getElem?_append_right (Nat.le_refl _), Nat.sub_self]; rfl⟩ (fun hT2 => ?_)
              have Q2 := cw_CQ_new (x := 2) hT1088 ha f1090 a1094 (by omega) hf (cw_CQ_eq ((cw_o_sa a1087 (cw_nsp hB q1077 (by decide))).trans ((cw_o_sa a1075 (cw_nsp hB q1073 (by decide))).trans rfl)) hQ)
              have hB2 := Q2.1.1
              have a10n := cw_sa_same (x' := cw_q (va_up q3 (nt.toInt).toNat (some (52 + (cw_sa (cw_sa h i1073 (.inr (.inl (vp_updL fn1075 (nt.toInt).toNat w9)))) i1077 (.inl (upd fn1087 (nt.toInt).toNat (aj_nar 2 b3)))).length)))) (cw_A_app (X := cw_R (cw_sa (cw_sa h i1073 (.inr (.inl (vp_updL fn1075 (nt.toInt).toNat w9)))) i1077 (.inl (upd fn1087 (nt.toInt).toNat (aj_nar 2 b3)))).length) a1094)
              obtain ⟨-, -, -, -, -, -, -, Z2, -⟩ := id Q2
              obtain ⟨an, q3n, -, f12n, f7m, -, -⟩ := Z2
              have f12n := (cw_fo_F (by decide)).mp f12n
              have f7n : cw_F (cw_sa ((cw_sa (cw_sa h i1073 (.inr (.inl (vp_updL fn1075 (nt.toInt).toNat w9)))) i1077 (.inl (upd fn1087 (nt.toInt).toNat (aj_nar 2 b3)))) ++ cw_R (cw_sa (cw_sa h i1073 (.inr (.inl (vp_updL fn1075 (nt.toInt).toNat w9)))) i1077 (.inl (upd fn1087 (nt.toInt).toNat (aj_nar 2 b3)))).length) 22 (cw_q (va_up q3 (nt.toInt).toNat (some (52 + (cw_sa (cw_sa h i1073 (.inr (.inl (vp_updL fn1075 (nt.toInt).toNat w9)))) i1077 (.inl (upd fn1087 (nt.toInt).toNat (aj_nar 2 b3)))).length))))) 2 7 7 (.ref (52 + 22)) := cw_sa_F (cw_F_app f1090)
              have hfn : (va_up q3 (nt.toInt).toNat (some (52 + (cw_sa (cw_sa h i1073 (.inr (.inl (vp_updL fn1075 (nt.toInt).toNat w9)))) i1077 (.inl (upd fn1087 (nt.toInt).toNat (aj_nar 2 b3)))).length))) (nt.toInt).toNat = some (52 + (cw_sa (cw_sa h i1073 (.inr (.inl (vp_updL fn1075 (nt.toInt).toNat w9)))) i1077 (.inl (upd fn1087 (nt.toInt).toNat (aj_nar 2 b3)))).length) := if_pos rfl
              show cw_W _ _ _ _ _ _ _ _ _ _ 78 [(4, .int nt), (0, .ref (52 + 2)), (1, .long w9), (3, .int b3)] []
              refine cw_n aj_d92 rfl rfl ?_
              refine cw_g (i := 2) (v := .ref (52 + 22)) htb.1 aj_d92 rfl rfl (by decide) f7n ?_
              refine cw_n aj_d92 rfl rfl ?_
              refine cw_ldq (i := 22) htb.1 aj_d92 rfl a10n (a := nt.toInt) rfl (by omega) (by omega) ?_
              rw [hfn]
              show cw_W _ _ _ _ _ _ _ _ _ _ 85 [(4, .int nt), (0, .ref (52 + 2)), (1, .long w9), (3, .int b3)] [.ref (52 + (cw_sa (cw_sa h i1073 (.inr (.inl (vp_updL fn1075 (nt.toInt).toNat w9)))) i1077 (.inl (upd fn1087 (nt.toInt).toNat (aj_nar 2 b3)))).length)]
              refine cw_n aj_d92 rfl rfl ?_
              refine cw_p1 (kind := 1) (by decide) (i := (cw_sa (cw_sa h i1073 (.inr (.inl (vp_updL fn1075 (nt.toInt).toNat w9)))) i1077 (.inl (upd fn1087 (nt.toInt).toNat (aj_nar 2 b3)))).length) (t := 58) (c := 6) (k := 3) (v := .int (Int32.ofInt 0)) (y := (.inl (0, 20000000))) htb aj_d92 rfl rfl hT2 qn rfl rfl rfl (cw_gw (a := (0 : Int)) rfl (by omega) (by omega)) (by decide) rfl rfl (fun hT1121 => ?_)
              obtain ⟨v1122, f1122, g1122⟩ := cw_tyF (i := (cw_sa (cw_sa h i1073 (.inr (.inl (vp_updL fn1075 (nt.toInt).toNat w9)))) i1077 (.inl (upd fn1087 (nt.toInt).toNat (aj_nar 2 b3)))).length) (t := 58) (c := 6) (k := 3) (y := (.inl (0, 20000000))) hT2 qn rfl rfl rfl
              obtain ⟨x1122, rfl, b1122⟩ := ak_gi g1122
              dsimp only [ak_win] at b1122
              have f1123 : cw_F (cw_sf (cw_sa ((cw_sa (cw_sa h i1073 (.inr (.inl (vp_updL fn1075 (nt.toInt).toNat w9)))) i1077 (.inl (upd fn1087 (nt.toInt).toNat (aj_nar 2 b3)))) ++ cw_R (cw_sa (cw_sa h i1073 (.inr (.inl (vp_updL fn1075 (nt.toInt).toNat w9)))) i1077 (.inl (upd fn1087 (nt.toInt).toNat (aj_nar 2 b3)))).length) 22 (cw_q (va_up q3 (nt.toInt).toNat (some (52 + (cw_sa (cw_sa h i1073 (.inr (.inl (vp_updL fn1075 (nt.toInt).toNat w9)))) i1077 (.inl (upd fn1087 (nt.toInt).toNat (aj_nar 2 b3)))).length))))) (cw_sa (cw_sa h i1073 (.inr (.inl (vp_updL fn1075 (nt.toInt).toNat w9)))) i1077 (.inl (upd fn1087 (nt.toInt).toNat (aj_nar 2 b3)))).length 3 (.int (Int32.ofInt 0))) 2 7 12 (.int nt) := cw_sf_ne f12n (Or.inr (by decide))
              have f1124 : cw_F (cw_sf (cw_sa ((cw_sa (cw_sa h i1073 (.inr (.inl (vp_updL fn1075 (nt.toInt).toNat w9)))) i1077 (.inl (upd fn1087 (nt.toInt).toNat (aj_nar 2 b3)))) ++ cw_R (cw_sa (cw_sa h i1073 (.inr (.inl (vp_updL fn1075 (nt.toInt).toNat w9)))) i1077 (.inl (upd fn1087 (nt.toInt).toNat (aj_nar 2 b3)))).length) 22 (cw_q (va_up q3 (nt.toInt).toNat (some (52 + (cw_sa (cw_sa h i1073 (.inr (.inl (vp_updL fn1075 (nt.toInt).toNat w9)))) i1077 (.inl (upd fn1087 (nt.toInt).toNat (aj_nar 2 b3)))).length))))) (cw_sa (cw_sa h i1073 (.inr (.inl (vp_updL fn1075 (nt.toInt).toNat w9)))) i1077 (.inl (upd fn1087 (nt.toInt).toNat (aj_nar 2 b3)))).length 3 (.int (Int32.ofInt 0))) 2 7 7 (.ref (52 + 22)) := cw_sf_ne f7n (Or.inr (by decide))
              have a1125 : cw_A (cw_sf (cw_sa ((cw_sa (cw_sa h i1073 (.inr (.inl (vp_updL fn1075 (nt.toInt).toNat w9)))) i1077 (.inl (upd fn1087 (nt.toInt).toNat (aj_nar 2 b3)))) ++ cw_R (cw_sa (cw_sa h i1073 (.inr (.inl (vp_updL fn1075 (nt.toInt).toNat w9)))) i1077 (.inl (upd fn1087 (nt.toInt).toNat (aj_nar 2 b3)))).length) 22 (cw_q (va_up q3 (nt.toInt).toNat (some (52 + (cw_sa (cw_sa h i1073 (.inr (.inl (vp_updL fn1075 (nt.toInt).toNat w9)))) i1077 (.inl (upd fn1087 (nt.toInt).toNat (aj_nar 2 b3)))).length))))) (cw_sa (cw_sa h i1073 (.inr (.inl (vp_updL fn1075 (nt.toInt).toNat w9)))) i1077 (.inl (upd fn1087 (nt.toInt).toNat (aj_nar 2 b3)))).length 3 (.int (Int32.ofInt 0))) 22 5 10 (.inr (.inr (.inr (.inr (va_up q3 (nt.toInt).toNat (some (52 + (cw_sa (cw_sa h i1073 (.inr (.inl (vp_updL fn1075 (nt.toInt).toNat w9)))) i1077 (.inl (upd fn1087 (nt.toInt).toNat (aj_nar 2 b3)))).length))))))) := cw_sf_A a10n
              have f1126 : cw_F (cw_sf (cw_sa ((cw_sa (cw_sa h i1073 (.inr (.inl (vp_updL fn1075 (nt.toInt).toNat w9)))) i1077 (.inl (upd fn1087 (nt.toInt).toNat (aj_nar 2 b3)))) ++ cw_R (cw_sa (cw_sa h i1073 (.inr (.inl (vp_updL fn1075 (nt.toInt).toNat w9)))) i1077 (.inl (upd fn1087 (nt.toInt).toNat (aj_nar 2 b3)))).length) 22 (cw_q (va_up q3 (nt.toInt).toNat (some (52 + (cw_sa (cw_sa h i1073 (.inr (.inl (vp_updL fn1075 (nt.toInt).toNat w9)))) i1077 (.inl (upd fn1087 (nt.toInt).toNat (aj_nar 2 b3)))).length))))) (cw_sa (cw_sa h i1073 (.inr (.inl (vp_updL fn1075 (nt.toInt).toNat w9)))) i1077 (.inl (upd fn1087 (nt.toInt).toNat (aj_nar 2 b3)))).length 3 (.int (Int32.ofInt 0))) (cw_sa (cw_sa h i1073 (.inr (.inl (vp_updL fn1075 (nt.toInt).toNat w9)))) i1077 (.inl (upd fn1087 (nt.toInt).toNat (aj_nar 2 b3)))).length 6 3 (.int (Int32.ofInt 0)) := cw_sf_same f1122
              refine cw_n aj_d92 rfl rfl ?_
              refine cw_g (i := 2) (v := .ref (52 + 22)) htb.1 aj_d92 rfl rfl (by decide) f1124 ?_
              refine cw_n aj_d92 rfl rfl ?_
              refine cw_ldq (i := 22) htb.1 aj_d92 rfl a1125 (a := nt.toInt) rfl (by omega) (by omega) ?_
              rw [hfn]
              show cw_W _ _ _ _ _ _ _ _ _ _ 96 [(4, .int nt), (0, .ref (52 + 2)), (1, .long w9), (3, .int b3)] [.ref (52 + (cw_sa (cw_sa h i1073 (.inr (.inl (vp_updL fn1075 (nt.toInt).toNat w9)))) i1077 (.inl (upd fn1087 (nt.toInt).toNat (aj_nar 2 b3)))).length)]
              refine cw_n aj_d92 rfl rfl ?_
              refine cw_p1 (kind := 1) (by decide) (i := (cw_sa (cw_sa h i1073 (.inr (.inl (vp_updL fn1075 (nt.toInt).toNat w9)))) i1077 (.inl (upd fn1087 (nt.toInt).toNat (aj_nar 2 b3)))).length) (t := 58) (c := 6) (k := 4) (v := .int (Int32.ofInt 0)) (y := (.inl (0, 20000000))) htb aj_d92 rfl rfl hT1121 qn rfl rfl rfl (cw_gw (a := (0 : Int)) rfl (by omega) (by omega)) (by decide) rfl rfl (fun hT1127 => ?_)
              obtain ⟨v1128, f1128, g1128⟩ := cw_tyF (i := (cw_sa (cw_sa h i1073 (.inr (.inl (vp_updL fn1075 (nt.toInt).toNat w9)))) i1077 (.inl (upd fn1087 (nt.toInt).toNat (aj_nar 2 b3)))).length) (t := 58) (c := 6) (k := 4) (y := (.inl (0, 20000000))) hT1121 qn rfl rfl rfl
              obtain ⟨x1128, rfl, b1128⟩ := ak_gi g1128
              dsimp only [ak_win] at b1128
              have f1129 : cw_F (cw_sf (cw_sf (cw_sa ((cw_sa (cw_sa h i1073 (.inr (.inl (vp_updL fn1075 (nt.toInt).toNat w9)))) i1077 (.inl (upd fn1087 (nt.toInt).toNat (aj_nar 2 b3)))) ++ cw_R (cw_sa (cw_sa h i1073 (.inr (.inl (vp_updL fn1075 (nt.toInt).toNat w9)))) i1077 (.inl (upd fn1087 (nt.toInt).toNat (aj_nar 2 b3)))).length) 22 (cw_q (va_up q3 (nt.toInt).toNat (some (52 + (cw_sa (cw_sa h i1073 (.inr (.inl (vp_updL fn1075 (nt.toInt).toNat w9)))) i1077 (.inl (upd fn1087 (nt.toInt).toNat (aj_nar 2 b3)))).length))))) (cw_sa (cw_sa h i1073 (.inr (.inl (vp_updL fn1075 (nt.toInt).toNat w9)))) i1077 (.inl (upd fn1087 (nt.toInt).toNat (aj_nar 2 b3)))).length 3 (.int (Int32.ofInt 0))) (cw_sa (cw_sa h i1073 (.inr (.inl (vp_updL fn1075 (nt.toInt).toNat w9)))) i1077 (.inl (upd fn1087 (nt.toInt).toNat (aj_nar 2 b3)))).length 4 (.int (Int32.ofInt 0))) 2 7 12 (.int nt) := cw_sf_ne f1123 (Or.inr (by decide))
              have f1130 : cw_F (cw_sf (cw_sf (cw_sa ((cw_sa (cw_sa h i1073 (.inr (.inl (vp_updL fn1075 (nt.toInt).toNat w9)))) i1077 (.inl (upd fn1087 (nt.toInt).toNat (aj_nar 2 b3)))) ++ cw_R (cw_sa (cw_sa h i1073 (.inr (.inl (vp_updL fn1075 (nt.toInt).toNat w9)))) i1077 (.inl (upd fn1087 (nt.toInt).toNat (aj_nar 2 b3)))).length) 22 (cw_q (va_up q3 (nt.toInt).toNat (some (52 + (cw_sa (cw_sa h i1073 (.inr (.inl (vp_updL fn1075 (nt.toInt).toNat w9)))) i1077 (.inl (upd fn1087 (nt.toInt).toNat (aj_nar 2 b3)))).length))))) (cw_sa (cw_sa h i1073 (.inr (.inl (vp_updL fn1075 (nt.toInt).toNat w9)))) i1077 (.inl (upd fn1087 (nt.toInt).toNat (aj_nar 2 b3)))).length 3 (.int (Int32.ofInt 0))) (cw_sa (cw_sa h i1073 (.inr (.inl (vp_updL fn1075 (nt.toInt).toNat w9)))) i1077 (.inl (upd fn1087 (nt.toInt).toNat (aj_nar 2 b3)))).length 4 (.int (Int32.ofInt 0))) 2 7 7 (.ref (52 + 22)) := cw_sf_ne f1124 (Or.inr (by decide))
              have f1131 : cw_F (cw_sf (cw_sf (cw_sa ((cw_sa (cw_sa h i1073 (.inr (.inl (vp_updL fn1075 (nt.toInt).toNat w9)))) i1077 (.inl (upd fn1087 (nt.toInt).toNat (aj_nar 2 b3)))) ++ cw_R (cw_sa (cw_sa h i1073 (.inr (.inl (vp_updL fn1075 (nt.toInt).toNat w9)))) i1077 (.inl (upd fn1087 (nt.toInt).toNat (aj_nar 2 b3)))).length) 22 (cw_q (va_up q3 (nt.toInt).toNat (some (52 + (cw_sa (cw_sa h i1073 (.inr (.inl (vp_updL fn1075 (nt.toInt).toNat w9)))) i1077 (.inl (upd fn1087 (nt.toInt).toNat (aj_nar 2 b3)))).length))))) (cw_sa (cw_sa h i1073 (.inr (.inl (vp_updL fn1075 (nt.toInt).toNat w9)))) i1077 (.inl (upd fn1087 (nt.toInt).toNat (aj_nar 2 b3)))).length 3 (.int (Int32.ofInt 0))) (cw_sa (cw_sa h i1073 (.inr (.inl (vp_updL fn1075 (nt.toInt).toNat w9)))) i1077 (.inl (upd fn1087 (nt.toInt).toNat (aj_nar 2 b3)))).length 4 (.int (Int32.ofInt 0))) (cw_sa (cw_sa h i1073 (.inr (.inl (vp_updL fn1075 (nt.toInt).toNat w9)))) i1077 (.inl (upd fn1087 (nt.toInt).toNat (aj_nar 2 b3)))).length 6 3 (.int (Int32.ofInt 0)) := cw_sf_ne f1126 (Or.inr (by decide))
              have a1132 : cw_A (cw_sf (cw_sf (cw_sa ((cw_sa (cw_sa h i1073 (.inr (.inl (vp_updL fn1075 (nt.toInt).toNat w9)))) i1077 (.inl (upd fn1087 (nt.toInt).toNat (aj_nar 2 b3)))) ++ cw_R (cw_sa (cw_sa h i1073 (.inr (.inl (vp_updL fn1075 (nt.toInt).toNat w9)))) i1077 (.inl (upd fn1087 (nt.toInt).toNat (aj_nar 2 b3)))).length) 22 (cw_q (va_up q3 (nt.toInt).toNat (some (52 + (cw_sa (cw_sa h i1073 (.inr (.inl (vp_updL fn1075 (nt.toInt).toNat w9)))) i1077 (.inl (upd fn1087 (nt.toInt).toNat (aj_nar 2 b3)))).length))))) (cw_sa (cw_sa h i1073 (.inr (.inl (vp_updL fn1075 (nt.toInt).toNat w9)))) i1077 (.inl (upd fn1087 (nt.toInt).toNat (aj_nar 2 b3)))).length 3 (.int (Int32.ofInt 0))) (cw_sa (cw_sa h i1073 (.inr (.inl (vp_updL fn1075 (nt.toInt).toNat w9)))) i1077 (.inl (upd fn1087 (nt.toInt).toNat (aj_nar 2 b3)))).length 4 (.int (Int32.ofInt 0))) 22 5 10 (.inr (.inr (.inr (.inr (va_up q3 (nt.toInt).toNat (some (52 + (cw_sa (cw_sa h i1073 (.inr (.inl (vp_updL fn1075 (nt.toInt).toNat w9)))) i1077 (.inl (upd fn1087 (nt.toInt).toNat (aj_nar 2 b3)))).length))))))) := cw_sf_A a1125
              have f1133 : cw_F (cw_sf (cw_sf (cw_sa ((cw_sa (cw_sa h i1073 (.inr (.inl (vp_updL fn1075 (nt.toInt).toNat w9)))) i1077 (.inl (upd fn1087 (nt.toInt).toNat (aj_nar 2 b3)))) ++ cw_R (cw_sa (cw_sa h i1073 (.inr (.inl (vp_updL fn1075 (nt.toInt).toNat w9)))) i1077 (.inl (upd fn1087 (nt.toInt).toNat (aj_nar 2 b3)))).length) 22 (cw_q (va_up q3 (nt.toInt).toNat (some (52 + (cw_sa (cw_sa h i1073 (.inr (.inl (vp_updL fn1075 (nt.toInt).toNat w9)))) i1077 (.inl (upd fn1087 (nt.toInt).toNat (aj_nar 2 b3)))).length))))) (cw_sa (cw_sa h i1073 (.inr (.inl (vp_updL fn1075 (nt.toInt).toNat w9)))) i1077 (.inl (upd fn1087 (nt.toInt).toNat (aj_nar 2 b3)))).length 3 (.int (Int32.ofInt 0))) (cw_sa (cw_sa h i1073 (.inr (.inl (vp_updL fn1075 (nt.toInt).toNat w9)))) i1077 (.inl (upd fn1087 (nt.toInt).toNat (aj_nar 2 b3)))).length 4 (.int (Int32.ofInt 0))) (cw_sa (cw_sa h i1073 (.inr (.inl (vp_updL fn1075 (nt.toInt).toNat w9)))) i1077 (.inl (upd fn1087 (nt.toInt).toNat (aj_nar 2 b3)))).length 6 4 (.int (Int32.ofInt 0)) := cw_sf_same f1128
              refine cw_n aj_d92 rfl rfl ?_
              refine cw_n aj_d92 rfl rfl ?_
              refine cw_g (i := 2) (v := .int nt) htb.1 aj_d92 rfl rfl (by decide) f1129 ?_
              refine cw_n aj_d92 rfl rfl ?_
              refine cw_add aj_d92 rfl (a := nt.toInt) (b := (1 : Int)) rfl rfl (by omega) (by omega) (fun x1134 ex1134 => ?_)
              refine cw_p (i := 2) (t := 59) (c := 7) (k := 12) (v := .int x1134) (y := (.inl (0, 10))) htb aj_d92 rfl rfl hT1127 (cw_s0 hB2 rfl) rfl rfl rfl (cw_gw (a := x1134.toInt) rfl (by omega) (by omega)) (by decide) rfl rfl (fun hT1135 => ?_)
              have f1136 : cw_F (cw_sf (cw_sf (cw_sf (cw_sa ((cw_sa (cw_sa h i1073 (.inr (.inl (vp_updL fn1075 (nt.toInt).toNat w9)))) i1077 (.inl (upd fn1087 (nt.toInt).toNat (aj_nar 2 b3)))) ++ cw_R (cw_sa (cw_sa h i1073 (.inr (.inl (vp_updL fn1075 (nt.toInt).toNat w9)))) i1077 (.inl (upd fn1087 (nt.toInt).toNat (aj_nar 2 b3)))).length) 22 (cw_q (va_up q3 (nt.toInt).toNat (some (52 + (cw_sa (cw_sa h i1073 (.inr (.inl (vp_updL fn1075 (nt.toInt).toNat w9)))) i1077 (.inl (upd fn1087 (nt.toInt).toNat (aj_nar 2 b3)))).length))))) (cw_sa (cw_sa h i1073 (.inr (.inl (vp_updL fn1075 (nt.toInt).toNat w9)))) i1077 (.inl (upd fn1087 (nt.toInt).toNat (aj_nar 2 b3)))).length 3 (.int (Int32.ofInt 0))) (cw_sa (cw_sa h i1073 (.inr (.inl (vp_updL fn1075 (nt.toInt).toNat w9)))) i1077 (.inl (upd fn1087 (nt.toInt).toNat (aj_nar 2 b3)))).length 4 (.int (Int32.ofInt 0))) 2 12 (.int x1134)) 2 7 7 (.ref (52 + 22)) := cw_sf_ne f1130 (Or.inr (by decide))
              have f1137 : cw_F (cw_sf (cw_sf (cw_sf (cw_sa ((cw_sa (cw_sa h i1073 (.inr (.inl (vp_updL fn1075 (nt.toInt).toNat w9)))) i1077 (.inl (upd fn1087 (nt.toInt).toNat (aj_nar 2 b3)))) ++ cw_R (cw_sa (cw_sa h i1073 (.inr (.inl (vp_updL fn1075 (nt.toInt).toNat w9)))) i1077 (.inl (upd fn1087 (nt.toInt).toNat (aj_nar 2 b3)))).length) 22 (cw_q (va_up q3 (nt.toInt).toNat (some (52 + (cw_sa (cw_sa h i1073 (.inr (.inl (vp_updL fn1075 (nt.toInt).toNat w9)))) i1077 (.inl (upd fn1087 (nt.toInt).toNat (aj_nar 2 b3)))).length))))) (cw_sa (cw_sa h i1073 (.inr (.inl (vp_updL fn1075 (nt.toInt).toNat w9)))) i1077 (.inl (upd fn1087 (nt.toInt).toNat (aj_nar 2 b3)))).length 3 (.int (Int32.ofInt 0))) (cw_sa (cw_sa h i1073 (.inr (.inl (vp_updL fn1075 (nt.toInt).toNat w9)))) i1077 (.inl (upd fn1087 (nt.toInt).toNat (aj_nar 2 b3)))).length 4 (.int (Int32.ofInt 0))) 2 12 (.int x1134)) (cw_sa (cw_sa h i1073 (.inr (.inl (vp_updL fn1075 (nt.toInt).toNat w9)))) i1077 (.inl (upd fn1087 (nt.toInt).toNat (aj_nar 2 b3)))).length 6 3 (.int (Int32.ofInt 0)) := cw_sf_ne f1131 (Or.inr (by decide))
              have f1138 : cw_F (cw_sf (cw_sf (cw_sf (cw_sa ((cw_sa (cw_sa h i1073 (.inr (.inl (vp_updL fn1075 (nt.toInt).toNat w9)))) i1077 (.inl (upd fn1087 (nt.toInt).toNat (aj_nar 2 b3)))) ++ cw_R (cw_sa (cw_sa h i1073 (.inr (.inl (vp_updL fn1075 (nt.toInt).toNat w9)))) i1077 (.inl (upd fn1087 (nt.toInt).toNat (aj_nar 2 b3)))).length) 22 (cw_q (va_up q3 (nt.toInt).toNat (some (52 + (cw_sa (cw_sa h i1073 (.inr (.inl (vp_updL fn1075 (nt.toInt).toNat w9)))) i1077 (.inl (upd fn1087 (nt.toInt).toNat (aj_nar 2 b3)))).length))))) (cw_sa (cw_sa h i1073 (.inr (.inl (vp_updL fn1075 (nt.toInt).toNat w9)))) i1077 (.inl (upd fn1087 (nt.toInt).toNat (aj_nar 2 b3)))).length 3 (.int (Int32.ofInt 0))) (cw_sa (cw_sa h i1073 (.inr (.inl (vp_updL fn1075 (nt.toInt).toNat w9)))) i1077 (.inl (upd fn1087 (nt.toInt).toNat (aj_nar 2 b3)))).length 4 (.int (Int32.ofInt 0))) 2 12 (.int x1134)) (cw_sa (cw_sa h i1073 (.inr (.inl (vp_updL fn1075 (nt.toInt).toNat w9)))) i1077 (.inl (upd fn1087 (nt.toInt).toNat (aj_nar 2 b3)))).length 6 4 (.int (Int32.ofInt 0)) := cw_sf_ne f1133 (Or.inr (by decide))
              have a1139 : cw_A (cw_sf (cw_sf (cw_sf (cw_sa ((cw_sa (cw_sa h i1073 (.inr (.inl (vp_updL fn1075 (nt.toInt).toNat w9)))) i1077 (.inl (upd fn1087 (nt.toInt).toNat (aj_nar 2 b3)))) ++ cw_R (cw_sa (cw_sa h i1073 (.inr (.inl (vp_updL fn1075 (nt.toInt).toNat w9)))) i1077 (.inl (upd fn1087 (nt.toInt).toNat (aj_nar 2 b3)))).length) 22 (cw_q (va_up q3 (nt.toInt).toNat (some (52 + (cw_sa (cw_sa h i1073 (.inr (.inl (vp_updL fn1075 (nt.toInt).toNat w9)))) i1077 (.inl (upd fn1087 (nt.toInt).toNat (aj_nar 2 b3)))).length))))) (cw_sa (cw_sa h i1073 (.inr (.inl (vp_updL fn1075 (nt.toInt).toNat w9)))) i1077 (.inl (upd fn1087 (nt.toInt).toNat (aj_nar 2 b3)))).length 3 (.int (Int32.ofInt 0))) (cw_sa (cw_sa h i1073 (.inr (.inl (vp_updL fn1075 (nt.toInt).toNat w9)))) i1077 (.inl (upd fn1087 (nt.toInt).toNat (aj_nar 2 b3)))).length 4 (.int (Int32.ofInt 0))) 2 12 (.int x1134)) 22 5 10 (.inr (.inr (.inr (.inr (va_up q3 (nt.toInt).toNat (some (52 + (cw_sa (cw_sa h i1073 (.inr (.inl (vp_updL fn1075 (nt.toInt).toNat w9)))) i1077 (.inl (upd fn1087 (nt.toInt).toNat (aj_nar 2 b3)))).length))))))) := cw_sf_A a1132
              have f1140 : cw_F (cw_sf (cw_sf (cw_sf (cw_sa ((cw_sa (cw_sa h i1073 (.inr (.inl (vp_updL fn1075 (nt.toInt).toNat w9)))) i1077 (.inl (upd fn1087 (nt.toInt).toNat (aj_nar 2 b3)))) ++ cw_R (cw_sa (cw_sa h i1073 (.inr (.inl (vp_updL fn1075 (nt.toInt).toNat w9)))) i1077 (.inl (upd fn1087 (nt.toInt).toNat (aj_nar 2 b3)))).length) 22 (cw_q (va_up q3 (nt.toInt).toNat (some (52 + (cw_sa (cw_sa h i1073 (.inr (.inl (vp_updL fn1075 (nt.toInt).toNat w9)))) i1077 (.inl (upd fn1087 (nt.toInt).toNat (aj_nar 2 b3)))).length))))) (cw_sa (cw_sa h i1073 (.inr (.inl (vp_updL fn1075 (nt.toInt).toNat w9)))) i1077 (.inl (upd fn1087 (nt.toInt).toNat (aj_nar 2 b3)))).length 3 (.int (Int32.ofInt 0))) (cw_sa (cw_sa h i1073 (.inr (.inl (vp_updL fn1075 (nt.toInt).toNat w9)))) i1077 (.inl (upd fn1087 (nt.toInt).toNat (aj_nar 2 b3)))).length 4 (.int (Int32.ofInt 0))) 2 12 (.int x1134)) 2 7 12 (.int x1134) := cw_sf_same f1129
              refine cw_n aj_d92 rfl rfl ?_
              refine cw_Wr aj_d92 rfl rfl hT1135 ?_ ?_
              · exact ⟨⟨_, rfl⟩, _, cw_CQ_tab (x := 2) (i := (cw_sa (cw_sa h i1073 (.inr (.inl (vp_updL fn1075 (nt.toInt).toNat w9)))) i1077 (.inl (upd fn1087 (nt.toInt).toNat (aj_nar 2 b3)))).length) hT1127 ex1134 (by omega) f1130 ((cw_oa_A (by decide)).mpr a1132) hfn (cw_ok_F f1133 f1131 (by decide) (by decide)) (cw_CQ_row hT1121 (Or.inr rfl) f1128 (by decide) (cw_CQ_row hT2 (Or.inl rfl) f1122 (by decide) Q2))⟩
              · exact cw_gw (s := s) (a := nt.toInt) rfl (by omega) (by omega)
          · have q1080 : nt.toInt ≥ (10 : Int) := aw_t_lt (a := nt.toInt) (b := (10 : Int)) rfl ex1078 q1080
            refine cw_n aj_d92 rfl rfl ?_
            refine cw_Wr aj_d92 rfl rfl hT ?_ ?_
            · exact ⟨⟨[], (List.append_nil _).symm⟩, _, (cw_CQ_eq rfl hQ)⟩
            · exact cw_gw (s := s) (a := -1) rfl (by decide) (by decide)
  · rcases ha with rfl | rfl
    · have a10 : cw_A h 10 5 10 (cw_q q3) := (cw_oa_A (by decide)).mp a10
      have ha : (10 : Nat) = 10 ∨ (10 : Nat) = 22 := by decide
      show cw_W _ _ _ _ _ _ _ _ _ _ 0 [(0, .ref (52 + 14)), (1, .long w9), (3, .int b3)] []
      refine cw_n aj_d92 rfl rfl ?_
      refine cw_g (i := 14) (v := .int nt) htb.1 aj_d92 rfl rfl (by decide) f12 ?_
      refine cw_n aj_d92 rfl rfl ?_
      show cw_W _ _ _ _ _ _ _ _ _ _ 6 [(4, .int nt), (0, .ref (52 + 14)), (1, .long w9), (3, .int b3)] []
      refine cw_n aj_d92 rfl rfl ?_
      refine cw_n aj_d92 rfl rfl ?_
      refine cw_g (i := 14) (v := .ref (52 + 10)) htb.1 aj_d92 rfl rfl (by decide) f7 ?_
      refine cw_alen (i := 10) htb.1 aj_d92 rfl a10 (by decide) (by omega) (fun x1141 ex1141 => ?_)
      refine cw_c (tgt := 36) aj_d92 rfl rfl (fun q1142 => ?_) (fun q1142 => ?_)
      · have q1142 : nt.toInt ≥ (10 : Int) := aw_t_ge (a := nt.toInt) (b := (10 : Int)) rfl ex1141 q1142
        refine cw_n aj_d92 rfl rfl ?_
        refine cw_Wr aj_d92 rfl rfl hT ?_ ?_
        · exact ⟨⟨[], (List.append_nil _).symm⟩, _, (cw_CQ_eq rfl hQ)⟩
        · exact cw_gw (s := s) (a := -1) rfl (by decide) (by decide)
      · have q1142 : nt.toInt < (10 : Int) := aw_t_ge (a := nt.toInt) (b := (10 : Int)) rfl ex1141 q1142
        refine cw_n aj_d92 rfl rfl ?_
        refine cw_n aj_d92 rfl rfl ?_
        obtain ⟨v1143, f1143, g1143⟩ := cw_tyF (i := 14) (t := 59) (c := 7) (k := 8) (y := (.inr (some ([73], false)))) hT (cw_s0 hB rfl) rfl rfl rfl
        obtain ⟨i1143, rfl, q1143⟩ := cw_gr g1143 (by decide)
        refine cw_g (i := 14) (v := .ref (52 + i1143)) htb.1 aj_d92 rfl rfl (by decide) f1143 ?_
        obtain ⟨n1145, z1145, a1145, p1145l, p1145r, p1145⟩ := cw_tyA (i := i1143) (t := 73) (kd := 1) (n1 := 10) (n2 := 10) (y := (.inr none)) hT q1143 rfl
        obtain rfl : n1145 = 10 := Nat.le_antisymm p1145r p1145l
        obtain ⟨fn1145, rfl, p1145c⟩ := cw_xl p1145
        refine cw_alen (i := i1143) htb.1 aj_d92 rfl a1145 (by decide) (by omega) (fun x1144 ex1144 => ?_)
        refine cw_c (tgt := 36) aj_d92 rfl rfl (fun q1146 => ?_) (fun q1146 => ?_)
        · have q1146 : nt.toInt ≥ (10 : Int) := aw_t_ge (a := nt.toInt) (b := (10 : Int)) rfl ex1144 q1146
          refine cw_n aj_d92 rfl rfl ?_
          refine cw_Wr aj_d92 rfl rfl hT ?_ ?_
          · exact ⟨⟨[], (List.append_nil _).symm⟩, _, (cw_CQ_eq rfl hQ)⟩
          · exact cw_gw (s := s) (a := -1) rfl (by decide) (by decide)
        · have q1146 : nt.toInt < (10 : Int) := aw_t_ge (a := nt.toInt) (b := (10 : Int)) rfl ex1144 q1146
          refine cw_n aj_d92 rfl rfl ?_
          refine cw_n aj_d92 rfl rfl ?_
          obtain ⟨v1147, f1147, g1147⟩ := cw_tyF (i := 14) (t := 59) (c := 7) (k := 10) (y := (.inr (some ([75], false)))) hT (cw_s0 hB rfl) rfl rfl rfl
          obtain ⟨i1147, rfl, q1147⟩ := cw_gr g1147 (by decide)
          refine cw_g (i := 14) (v := .ref (52 + i1147)) htb.1 aj_d92 rfl rfl (by decide) f1147 ?_
          obtain ⟨n1149, z1149, a1149, p1149l, p1149r, p1149⟩ := cw_tyA (i := i1147) (t := 75) (kd := 2) (n1 := 10) (n2 := 10) (y := (.inl (0, 1))) hT q1147 rfl
          obtain rfl : n1149 = 10 := Nat.le_antisymm p1149r p1149l
          obtain ⟨fn1149, rfl, p1149c⟩ := cw_xi p1149
          refine cw_alen (i := i1147) htb.1 aj_d92 rfl a1149 (by decide) (by omega) (fun x1148 ex1148 => ?_)
          refine cw_c (tgt := 38) aj_d92 rfl rfl (fun q1150 => ?_) (fun q1150 => ?_)
          · have q1150 : nt.toInt < (10 : Int) := aw_t_lt (a := nt.toInt) (b := (10 : Int)) rfl ex1148 q1150
            refine cw_n aj_d92 rfl rfl ?_
            refine cw_g (i := 14) (v := .ref (52 + i1143)) htb.1 aj_d92 rfl rfl (by decide) f1143 ?_
            refine cw_n aj_d92 rfl rfl ?_
            refine cw_n aj_d92 rfl rfl ?_
            refine cw_stl (i := i1143) htb aj_d92 rfl a1145 hT q1143 rfl (by decide) (a := nt.toInt) rfl (by omega) (by omega) (fun hT1151 => ?_)
            have f1152 : cw_F (cw_sa h i1143 (.inr (.inl (vp_updL fn1145 (nt.toInt).toNat w9)))) 14 7 12 (.int nt) := cw_sa_F f12
            have f1153 : cw_F (cw_sa h i1143 (.inr (.inl (vp_updL fn1145 (nt.toInt).toNat w9)))) 14 7 7 (.ref (52 + 10)) := cw_sa_F f7
            have f1154 : cw_F (cw_sa h i1143 (.inr (.inl (vp_updL fn1145 (nt.toInt).toNat w9)))) 14 7 8 (.ref (52 + i1143)) := cw_sa_F f1143
            have f1155 : cw_F (cw_sa h i1143 (.inr (.inl (vp_updL fn1145 (nt.toInt).toNat w9)))) 14 7 10 (.ref (52 + i1147)) := cw_sa_F f1147
            have a1156 : cw_A (cw_sa h i1143 (.inr (.inl (vp_updL fn1145 (nt.toInt).toNat w9)))) i1143 1 10 (.inr (.inl (vp_updL fn1145 (nt.toInt).toNat w9))) := cw_sa_same a1145
            refine cw_n aj_d92 rfl rfl ?_
            refine cw_g (i := 14) (v := .ref (52 + i1147)) htb.1 aj_d92 rfl rfl (by decide) f1155 ?_
            refine cw_n aj_d92 rfl rfl ?_
            refine cw_n aj_d92 rfl rfl ?_
            obtain ⟨n1157, z1157, a1157, p1157l, p1157r, p1157⟩ := cw_tyA (i := i1147) (t := 75) (kd := 2) (n1 := 10) (n2 := 10) (y := (.inl (0, 1))) hT1151 q1147 rfl
            obtain rfl : n1157 = 10 := Nat.le_antisymm p1157r p1157l
            obtain ⟨fn1157, rfl, p1157c⟩ := cw_xi p1157
            refine cw_st (i := i1147) htb aj_d92 (Or.inr (Or.inr (Or.inl ⟨rfl, rfl⟩))) rfl a1157 hT1151 q1147 rfl (by decide) (a := nt.toInt) rfl (by omega) (by omega) (ak_nar_ok (kd := 2) (q := (0, 1)) hb3 (Or.inr (Or.inl rfl))) (fun hT1158 => ?_)
            have f1159 : cw_F (cw_sa (cw_sa h i1143 (.inr (.inl (vp_updL fn1145 (nt.toInt).toNat w9)))) i1147 (.inl (upd fn1157 (nt.toInt).toNat (aj_nar 2 b3)))) 14 7 12 (.int nt) := cw_sa_F f1152
            have f1160 : cw_F (cw_sa (cw_sa h i1143 (.inr (.inl (vp_updL fn1145 (nt.toInt).toNat w9)))) i1147 (.inl (upd fn1157 (nt.toInt).toNat (aj_nar 2 b3)))) 14 7 7 (.ref (52 + 10)) := cw_sa_F f1153
            have f1161 : cw_F (cw_sa (cw_sa h i1143 (.inr (.inl (vp_updL fn1145 (nt.toInt).toNat w9)))) i1147 (.inl (upd fn1157 (nt.toInt).toNat (aj_nar 2 b3)))) 14 7 8 (.ref (52 + i1143)) := cw_sa_F f1154
            have f1162 : cw_F (cw_sa (cw_sa h i1143 (.inr (.inl (vp_updL fn1145 (nt.toInt).toNat w9)))) i1147 (.inl (upd fn1157 (nt.toInt).toNat (aj_nar 2 b3)))) 14 7 10 (.ref (52 + i1147)) := cw_sa_F f1155
            have a1163 : cw_A (cw_sa (cw_sa h i1143 (.inr (.inl (vp_updL fn1145 (nt.toInt).toNat w9)))) i1147 (.inl (upd fn1157 (nt.toInt).toNat (aj_nar 2 b3)))) i1147 2 10 (.inl (upd fn1157 (nt.toInt).toNat (aj_nar 2 b3))) := cw_sa_same a1157
            have a1164 : cw_A (cw_sa (cw_sa h i1143 (.inr (.inl (vp_updL fn1145 (nt.toInt).toNat w9)))) i1147 (.inl (upd fn1157 (nt.toInt).toNat (aj_nar 2 b3)))) 10 5 10 (cw_q q3) := cw_trA ((cw_o_sa a1157 (cw_nsp hB q1147 (by decide))).trans ((cw_o_sa a1145 (cw_nsp hB q1143 (by decide))).trans rfl)) (by decide) a10
            refine cw_n aj_d92 rfl rfl ?_
            refine cw_g (i := 14) (v := .ref (52 + 10)) htb.1 aj_d92 rfl rfl (by decide) f1160 ?_
            refine cw_n aj_d92 rfl rfl ?_
            refine cw_ldq (i := 10) htb.1 aj_d92 rfl a1164 (a := nt.toInt) rfl (by omega) (by omega) ?_
            cases hf : q3 (nt.toInt).toNat with
            | some r =>
              obtain ⟨i, rfl, qi⟩ := cw_refs (T := ak_C1) (t := 72) (n1 := 10) (n2 := 10) hT1158 (cw_s0 hB rfl) rfl a1164 (l := (nt.toInt).toNat) (by omega) hf
              show cw_W _ _ _ _ _ _ _ _ _ _ 61 [(4, .int nt), (0, .ref (52 + 14)), (1, .long w9), (3, .int b3)] [.ref (52 + i)]
              refine cw_n aj_d92 rfl rfl ?_
              refine cw_n aj_d92 rfl rfl ?_
              refine cw_g (i := 14) (v := .ref (52 + 10)) htb.1 aj_d92 rfl rfl (by decide) f1160 ?_
              refine cw_n aj_d92 rfl rfl ?_
              refine cw_ldq (i := 10) htb.1 aj_d92 rfl a1164 (a := nt.toInt) rfl (by omega) (by omega) ?_
              rw [hf]
              show cw_W _ _ _ _ _ _ _ _ _ _ 85 [(4, .int nt), (0, .ref (52 + 14)), (1, .long w9), (3, .int b3)] [.ref (52 + i)]
              refine cw_n aj_d92 rfl rfl ?_
              refine cw_p1 (kind := 1) (by decide) (i := i) (t := 58) (c := 6) (k := 3) (v := .int (Int32.ofInt 0)) (y := (.inl (0, 20000000))) htb aj_d92 rfl rfl hT1158 qi rfl rfl rfl (cw_gw (a := (0 : Int)) rfl (by omega) (by omega)) (by decide) rfl rfl (fun hT1165 => ?_)
              obtain ⟨v1166, f1166, g1166⟩ := cw_tyF (i := i) (t := 58) (c := 6) (k := 3) (y := (.inl (0, 20000000))) hT1158 qi rfl rfl rfl
              obtain ⟨x1166, rfl, b1166⟩ := ak_gi g1166
              dsimp only [ak_win] at b1166
              have f1167 : cw_F (cw_sf (cw_sa (cw_sa h i1143 (.inr (.inl (vp_updL fn1145 (nt.toInt).toNat w9)))) i1147 (.inl (upd fn1157 (nt.toInt).toNat (aj_nar 2 b3)))) i 3 (.int (Int32.ofInt 0))) 14 7 12 (.int nt) := cw_sf_ne f1159 (Or.inr (by decide))
              have f1168 : cw_F (cw_sf (cw_sa (cw_sa h i1143 (.inr (.inl (vp_updL fn1145 (nt.toInt).toNat w9)))) i1147 (.inl (upd fn1157 (nt.toInt).toNat (aj_nar 2 b3)))) i 3 (.int (Int32.ofInt 0))) 14 7 7 (.ref (52 + 10)) := cw_sf_ne f1160 (Or.inr (by decide))
              have f1169 : cw_F (cw_sf (cw_sa (cw_sa h i1143 (.inr (.inl (vp_updL fn1145 (nt.toInt).toNat w9)))) i1147 (.inl (upd fn1157 (nt.toInt).toNat (aj_nar 2 b3)))) i 3 (.int (Int32.ofInt 0))) 14 7 8 (.ref (52 + i1143)) := cw_sf_ne f1161 (Or.inr (by decide))
              have f1170 : cw_F (cw_sf (cw_sa (cw_sa h i1143 (.inr (.inl (vp_updL fn1145 (nt.toInt).toNat w9)))) i1147 (.inl (upd fn1157 (nt.toInt).toNat (aj_nar 2 b3)))) i 3 (.int (Int32.ofInt 0))) 14 7 10 (.ref (52 + i1147)) := cw_sf_ne f1162 (Or.inr (by decide))
              have a1171 : cw_A (cw_sf (cw_sa (cw_sa h i1143 (.inr (.inl (vp_updL fn1145 (nt.toInt).toNat w9)))) i1147 (.inl (upd fn1157 (nt.toInt).toNat (aj_nar 2 b3)))) i 3 (.int (Int32.ofInt 0))) 10 5 10 (.inr (.inr (.inr (.inr q3)))) := cw_sf_A a1164
              have f1172 : cw_F (cw_sf (cw_sa (cw_sa h i1143 (.inr (.inl (vp_updL fn1145 (nt.toInt).toNat w9)))) i1147 (.inl (upd fn1157 (nt.toInt).toNat (aj_nar 2 b3)))) i 3 (.int (Int32.ofInt 0))) i 6 3 (.int (Int32.ofInt 0)) := cw_sf_same f1166
              refine cw_n aj_d92 rfl rfl ?_
              refine cw_g (i := 14) (v := .ref (52 + 10)) htb.1 aj_d92 rfl rfl (by decide) f1168 ?_
              refine cw_n aj_d92 rfl rfl ?_
              refine cw_ldq (i := 10) htb.1 aj_d92 rfl a1171 (a := nt.toInt) rfl (by omega) (by omega) ?_
              rw [hf]
              show cw_W _ _ _ _ _ _ _ _ _ _ 96 [(4, .int nt), (0, .ref (52 + 14)), (1, .long w9), (3, .int b3)] [.ref (52 + i)]
              refine cw_n aj_d92 rfl rfl ?_
              refine cw_p1 (kind := 1) (by decide) (i := i) (t := 58) (c := 6) (k := 4) (v := .int (Int32.ofInt 0)) (y := (.inl (0, 20000000))) htb aj_d92 rfl rfl hT1165 qi rfl rfl rfl (cw_gw (a := (0 : Int)) rfl (by omega) (by omega)) (by decide) rfl rfl (fun hT1173 => ?_)
              obtain ⟨v1174, f1174, g1174⟩ := cw_tyF (i := i) (t := 58) (c := 6) (k := 4) (y := (.inl (0, 20000000))) hT1165 qi rfl rfl rfl
              obtain ⟨x1174, rfl, b1174⟩ := ak_gi g1174
              dsimp only [ak_win] at b1174
              have f1175 : cw_F (cw_sf (cw_sf (cw_sa (cw_sa h i1143 (.inr (.inl (vp_updL fn1145 (nt.toInt).toNat w9)))) i1147 (.inl (upd fn1157 (nt.toInt).toNat (aj_nar 2 b3)))) i 3 (.int (Int32.ofInt 0))) i 4 (.int (Int32.ofInt 0))) 14 7 12 (.int nt) := cw_sf_ne f1167 (Or.inr (by decide))
              have f1176 : cw_F (cw_sf (cw_sf (cw_sa (cw_sa h i1143 (.inr (.inl (vp_updL fn1145 (nt.toInt).toNat w9)))) i1147 (.inl (upd fn1157 (nt.toInt).toNat (aj_nar 2 b3)))) i 3 (.int (Int32.ofInt 0))) i 4 (.int (Int32.ofInt 0))) 14 7 7 (.ref (52 + 10)) := cw_sf_ne f1168 (Or.inr (by decide))
              have f1177 : cw_F (cw_sf (cw_sf (cw_sa (cw_sa h i1143 (.inr (.inl (vp_updL fn1145 (nt.toInt).toNat w9)))) i1147 (.inl (upd fn1157 (nt.toInt).toNat (aj_nar 2 b3)))) i 3 (.int (Int32.ofInt 0))) i 4 (.int (Int32.ofInt 0))) 14 7 8 (.ref (52 + i1143)) := cw_sf_ne f1169 (Or.inr (by decide))
              have f1178 : cw_F (cw_sf (cw_sf (cw_sa (cw_sa h i1143 (.inr (.inl (vp_updL fn1145 (nt.toInt).toNat w9)))) i1147 (.inl (upd fn1157 (nt.toInt).toNat (aj_nar 2 b3)))) i 3 (.int (Int32.ofInt 0))) i 4 (.int (Int32.ofInt 0))) 14 7 10 (.ref (52 + i1147)) := cw_sf_ne f1170 (Or.inr (by decide))
              have f1179 : cw_F (cw_sf (cw_sf (cw_sa (cw_sa h i1143 (.inr (.inl (vp_updL fn1145 (nt.toInt).toNat w9)))) i1147 (.inl (upd fn1157 (nt.toInt).toNat (aj_nar 2 b3)))) i 3 (.int (Int32.ofInt 0))) i 4 (.int (Int32.ofInt 0))) i 6 3 (.int (Int32.ofInt 0)) := cw_sf_ne f1172 (Or.inr (by decide))
              have a1180 : cw_A (cw_sf (cw_sf (cw_sa (cw_sa h i1143 (.inr (.inl (vp_updL fn1145 (nt.toInt).toNat w9)))) i1147 (.inl (upd fn1157 (nt.toInt).toNat (aj_nar 2 b3)))) i 3 (.int (Int32.ofInt 0))) i 4 (.int (Int32.ofInt 0))) 10 5 10 (.inr (.inr (.inr (.inr q3)))) := cw_sf_A a1171
              have f1181 : cw_F (cw_sf (cw_sf (cw_sa (cw_sa h i1143 (.inr (.inl (vp_updL fn1145 (nt.toInt).toNat w9)))) i1147 (.inl (upd fn1157 (nt.toInt).toNat (aj_nar 2 b3)))) i 3 (.int (Int32.ofInt 0))) i 4 (.int (Int32.ofInt 0))) i 6 4 (.int (Int32.ofInt 0)) := cw_sf_same f1174
              refine cw_n aj_d92 rfl rfl ?_
              refine cw_n aj_d92 rfl rfl ?_
              refine cw_g (i := 14) (v := .int nt) htb.1 aj_d92 rfl rfl (by decide) f1175 ?_
              refine cw_n aj_d92 rfl rfl ?_
              refine cw_add aj_d92 rfl (a := nt.toInt) (b := (1 : Int)) rfl rfl (by omega) (by omega) (fun x1182 ex1182 => ?_)
              refine cw_p (i := 14) (t := 59) (c := 7) (k := 12) (v := .int x1182) (y := (.inl (0, 10))) htb aj_d92 rfl rfl hT1173 (cw_s0 hB rfl) rfl rfl rfl (cw_gw (a := x1182.toInt) rfl (by omega) (by omega)) (by decide) rfl rfl (fun hT1183 => ?_)
              have f1184 : cw_F (cw_sf (cw_sf (cw_sf (cw_sa (cw_sa h i1143 (.inr (.inl (vp_updL fn1145 (nt.toInt).toNat w9)))) i1147 (.inl (upd fn1157 (nt.toInt).toNat (aj_nar 2 b3)))) i 3 (.int (Int32.ofInt 0))) i 4 (.int (Int32.ofInt 0))) 14 12 (.int x1182)) 14 7 7 (.ref (52 + 10)) := cw_sf_ne f1176 (Or.inr (by decide))
              have f1185 : cw_F (cw_sf (cw_sf (cw_sf (cw_sa (cw_sa h i1143 (.inr (.inl (vp_updL fn1145 (nt.toInt).toNat w9)))) i1147 (.inl (upd fn1157 (nt.toInt).toNat (aj_nar 2 b3)))) i 3 (.int (Int32.ofInt 0))) i 4 (.int (Int32.ofInt 0))) 14 12 (.int x1182)) 14 7 8 (.ref (52 + i1143)) := cw_sf_ne f1177 (Or.inr (by decide))
              have f1186 : cw_F (cw_sf (cw_sf (cw_sf (cw_sa (cw_sa h i1143 (.inr (.inl (vp_updL fn1145 (nt.toInt).toNat w9)))) i1147 (.inl (upd fn1157 (nt.toInt).toNat (aj_nar 2 b3)))) i 3 (.int (Int32.ofInt 0))) i 4 (.int (Int32.ofInt 0))) 14 12 (.int x1182)) 14 7 10 (.ref (52 + i1147)) := cw_sf_ne f1178 (Or.inr (by decide))
              have f1187 : cw_F (cw_sf (cw_sf (cw_sf (cw_sa (cw_sa h i1143 (.inr (.inl (vp_updL fn1145 (nt.toInt).toNat w9)))) i1147 (.inl (upd fn1157 (nt.toInt).toNat (aj_nar 2 b3)))) i 3 (.int (Int32.ofInt 0))) i 4 (.int (Int32.ofInt 0))) 14 12 (.int x1182)) i 6 3 (.int (Int32.ofInt 0)) := cw_sf_ne f1179 (Or.inr (by decide))
              have f1188 : cw_F (cw_sf (cw_sf (cw_sf (cw_sa (cw_sa h i1143 (.inr (.inl (vp_updL fn1145 (nt.toInt).toNat w9)))) i1147 (.inl (upd fn1157 (nt.toInt).toNat (aj_nar 2 b3)))) i 3 (.int (Int32.ofInt 0))) i 4 (.int (Int32.ofInt 0))) 14 12 (.int x1182)) i 6 4 (.int (Int32.ofInt 0)) := cw_sf_ne f1181 (Or.inr (by decide))
              have a1189 : cw_A (cw_sf (cw_sf (cw_sf (cw_sa (cw_sa h i1143 (.inr (.inl (vp_updL fn1145 (nt.toInt).toNat w9)))) i1147 (.inl (upd fn1157 (nt.toInt).toNat (aj_nar 2 b3)))) i 3 (.int (Int32.ofInt 0))) i 4 (.int (Int32.ofInt 0))) 14 12 (.int x1182)) 10 5 10 (.inr (.inr (.inr (.inr q3)))) := cw_sf_A a1180
              have f1190 : cw_F (cw_sf (cw_sf (cw_sf (cw_sa (cw_sa h i1143 (.inr (.inl (vp_updL fn1145 (nt.toInt).toNat w9)))) i1147 (.inl (upd fn1157 (nt.toInt).toNat (aj_nar 2 b3)))) i 3 (.int (Int32.ofInt 0))) i 4 (.int (Int32.ofInt 0))) 14 12 (.int x1182)) 14 7 12 (.int x1182) := cw_sf_same f1175
              refine cw_n aj_d92 rfl rfl ?_
              refine cw_Wr aj_d92 rfl rfl hT1183 ?_ ?_
              · exact ⟨⟨[], (List.append_nil _).symm⟩, _, cw_CQ_tab (x := 14) (i := i) hT1173 ex1182 (by omega) f1176 ((cw_oa_A (by decide)).mpr a1180) hf (cw_ok_F f1181 f1179 (by decide) (by decide)) (cw_CQ_row hT1165 (Or.inr rfl) f1174 (by decide) (cw_CQ_row hT1158 (Or.inl rfl) f1166 (by decide) (cw_CQ_eq ((cw_o_sa a1157 (cw_nsp hB q1147 (by decide))).trans ((cw_o_sa a1145 (cw_nsp hB q1143 (by decide))).trans rfl)) hQ)))⟩
              · exact cw_gw (s := s) (a := nt.toInt) rfl (by omega) (by omega)
            | none =>
              show cw_W _ _ _ _ _ _ _ _ _ _ 61 [(4, .int nt), (0, .ref (52 + 14)), (1, .long w9), (3, .int b3)] [.null]
              refine cw_n aj_d92 rfl rfl ?_
              refine cw_n aj_d92 rfl rfl ?_
              refine cw_g (i := 14) (v := .ref (52 + 10)) htb.1 aj_d92 rfl rfl (by decide) f1160 ?_
              refine cw_n aj_d92 rfl rfl ?_
              refine cw_newR htb.1 aj_d92 rfl rfl hT1158 rfl rfl rfl rfl rfl (Nat.le_of_ble_eq_true rfl) (by omega) (fun hTn => ?_)
              have qn : (s ++ [58, 94, 95, 96])[(cw_sa (cw_sa h i1143 (.inr (.inl (vp_updL fn1145 (nt.toInt).toNat w9)))) i1147 (.inl (upd fn1157 (nt.toInt).toNat (aj_nar 2 b3)))).length]? = some 58 := by
                rw [hT1158.1, List.getElem?_append_right (Nat.le_refl _), Nat.sub_self]
                rfl
              refine cw_sq htb aj_d92 rfl (q := 10) (cw_A_app a1164) hTn (cw_sapp (cw_s0 hB rfl)) rfl (by decide) (a := nt.toInt) rfl (by omega) (by omega) (i := (cw_sa (cw_sa h i1143 (.inr (.inl (vp_updL fn1145 (nt.toInt).toNat w9)))) i1147 (.inl (upd fn1157 (nt.toInt).toNat (aj_nar 2 b3)))).length) qn ⟨_, by rw [List.getElem?_append_right (Nat.le_refl _), Nat.sub_self]; rfl⟩ (fun hT2 => ?_)
              have Q2 := cw_CQ_new (x := 14) hT1158 ha f1160 a1164 (by omega) hf (cw_CQ_eq ((cw_o_sa a1157 (cw_nsp hB q1147 (by decide))).trans ((cw_o_sa a1145 (cw_nsp hB q1143 (by decide))).trans rfl)) hQ)
              have hB2 := Q2.1.1
              have a10n := cw_sa_same (x' := cw_q (va_up q3 (nt.toInt).toNat (some (52 + (cw_sa (cw_sa h i1143 (.inr (.inl (vp_updL fn1145 (nt.toInt).toNat w9)))) i1147 (.inl (upd fn1157 (nt.toInt).toNat (aj_nar 2 b3)))).length)))) (cw_A_app (X := cw_R (cw_sa (cw_sa h i1143 (.inr (.inl (vp_updL fn1145 (nt.toInt).toNat w9)))) i1147 (.inl (upd fn1157 (nt.toInt).toNat (aj_nar 2 b3)))).length) a1164)
              obtain ⟨-, -, -, -, -, -, -, Z2, -⟩ := id Q2
              obtain ⟨an, q3n, -, f12n, f7m, -, -⟩ := Z2
              have f12n := (cw_fo_F (by decide)).mp f12n
              have f7n : cw_F (cw_sa ((cw_sa (cw_sa h i1143 (.inr (.inl (vp_updL fn1145 (nt.toInt).toNat w9)))) i1147 (.inl (upd fn1157 (nt.toInt).toNat (aj_nar 2 b3)))) ++ cw_R (cw_sa (cw_sa h i1143 (.inr (.inl (vp_updL fn1145 (nt.toInt).toNat w9)))) i1147 (.inl (upd fn1157 (nt.toInt).toNat (aj_nar 2 b3)))).length) 10 (cw_q (va_up q3 (nt.toInt).toNat (some (52 + (cw_sa (cw_sa h i1143 (.inr (.inl (vp_updL fn1145 (nt.toInt).toNat w9)))) i1147 (.inl (upd fn1157 (nt.toInt).toNat (aj_nar 2 b3)))).length))))) 14 7 7 (.ref (52 + 10)) := cw_sa_F (cw_F_app f1160)
              have hfn : (va_up q3 (nt.toInt).toNat (some (52 + (cw_sa (cw_sa h i1143 (.inr (.inl (vp_updL fn1145 (nt.toInt).toNat w9)))) i1147 (.inl (upd fn1157 (nt.toInt).toNat (aj_nar 2 b3)))).length))) (nt.toInt).toNat = some (52 + (cw_sa (cw_sa h i1143 (.inr (.inl (vp_updL fn1145 (nt.toInt).toNat w9)))) i1147 (.inl (upd fn1157 (nt.toInt).toNat (aj_nar 2 b3)))).length) := if_pos rfl
              show cw_W _ _ _ _ _ _ _ _ _ _ 78 [(4, .int nt), (0, .ref (52 + 14)), (1, .long w9), (3, .int b3)] []
              refine cw_n aj_d92 rfl rfl ?_
              refine cw_g (i := 14) (v := .ref (52 + 10)) htb.1 aj_d92 rfl rfl (by decide) f7n ?_
              refine cw_n aj_d92 rfl rfl ?_
              refine cw_ldq (i := 10) htb.1 aj_d92 rfl a10n (a := nt.toInt) rfl (by omega) (by omega) ?_
              rw [hfn]
              show cw_W _ _ _ _ _ _ _ _ _ _ 85 [(4, .int nt), (0, .ref (52 + 14)), (1, .long w9), (3, .int b3)] [.ref (52 + (cw_sa (cw_sa h i1143 (.inr (.inl (vp_updL fn1145 (nt.toInt).toNat w9)))) i1147 (.inl (upd fn1157 (nt.toInt).toNat (aj_nar 2 b3)))).length)]
              refine cw_n aj_d92 rfl rfl ?_
              refine cw_p1 (kind := 1) (by decide) (i := (cw_sa (cw_sa h i1143 (.inr (.inl (vp_updL fn1145 (nt.toInt).toNat w9)))) i1147 (.inl (upd fn1157 (nt.toInt).toNat (aj_nar 2 b3)))).length) (t := 58) (c := 6) (k := 3) (v := .int (Int32.ofInt 0)) (y := (.inl (0, 20000000))) htb aj_d92 rfl rfl hT2 qn rfl rfl rfl (cw_gw (a := (0 : Int)) rfl (by omega) (by omega)) (by decide) rfl rfl (fun hT1191 => ?_)
              obtain ⟨v1192, f1192, g1192⟩ := cw_tyF (i := (cw_sa (cw_sa h i1143 (.inr (.inl (vp_updL fn1145 (nt.toInt).toNat w9)))) i1147 (.inl (upd fn1157 (nt.toInt).toNat (aj_nar 2 b3)))).length) (t := 58) (c := 6) (k := 3) (y := (.inl (0, 20000000))) hT2 qn rfl rfl rfl
              obtain ⟨x1192, rfl, b1192⟩ := ak_gi g1192
              dsimp only [ak_win] at b1192
              have f1193 : cw_F (cw_sf (cw_sa ((cw_sa (cw_sa h i1143 (.inr (.inl (vp_updL fn1145 (nt.toInt).toNat w9)))) i1147 (.inl (upd fn1157 (nt.toInt).toNat (aj_nar 2 b3)))) ++ cw_R (cw_sa (cw_sa h i1143 (.inr (.inl (vp_updL fn1145 (nt.toInt).toNat w9)))) i1147 (.inl (upd fn1157 (nt.toInt).toNat (aj_nar 2 b3)))).length) 10 (cw_q (va_up q3 (nt.toInt).toNat (some (52 + (cw_sa (cw_sa h i1143 (.inr (.inl (vp_updL fn1145 (nt.toInt).toNat w9)))) i1147 (.inl (upd fn1157 (nt.toInt).toNat (aj_nar 2 b3)))).length))))) (cw_sa (cw_sa h i1143 (.inr (.inl (vp_updL fn1145 (nt.toInt).toNat w9)))) i1147 (.inl (upd fn1157 (nt.toInt).toNat (aj_nar 2 b3)))).length 3 (.int (Int32.ofInt 0))) 14 7 12 (.int nt) := cw_sf_ne f12n (Or.inr (by decide))
              have f1194 : cw_F (cw_sf (cw_sa ((cw_sa (cw_sa h i1143 (.inr (.inl (vp_updL fn1145 (nt.toInt).toNat w9)))) i1147 (.inl (upd fn1157 (nt.toInt).toNat (aj_nar 2 b3)))) ++ cw_R (cw_sa (cw_sa h i1143 (.inr (.inl (vp_updL fn1145 (nt.toInt).toNat w9)))) i1147 (.inl (upd fn1157 (nt.toInt).toNat (aj_nar 2 b3)))).length) 10 (cw_q (va_up q3 (nt.toInt).toNat (some (52 + (cw_sa (cw_sa h i1143 (.inr (.inl (vp_updL fn1145 (nt.toInt).toNat w9)))) i1147 (.inl (upd fn1157 (nt.toInt).toNat (aj_nar 2 b3)))).length))))) (cw_sa (cw_sa h i1143 (.inr (.inl (vp_updL fn1145 (nt.toInt).toNat w9)))) i1147 (.inl (upd fn1157 (nt.toInt).toNat (aj_nar 2 b3)))).length 3 (.int (Int32.ofInt 0))) 14 7 7 (.ref (52 + 10)) := cw_sf_ne f7n (Or.inr (by decide))
              have a1195 : cw_A (cw_sf (cw_sa ((cw_sa (cw_sa h i1143 (.inr (.inl (vp_updL fn1145 (nt.toInt).toNat w9)))) i1147 (.inl (upd fn1157 (nt.toInt).toNat (aj_nar 2 b3)))) ++ cw_R (cw_sa (cw_sa h i1143 (.inr (.inl (vp_updL fn1145 (nt.toInt).toNat w9)))) i1147 (.inl (upd fn1157 (nt.toInt).toNat (aj_nar 2 b3)))).length) 10 (cw_q (va_up q3 (nt.toInt).toNat (some (52 + (cw_sa (cw_sa h i1143 (.inr (.inl (vp_updL fn1145 (nt.toInt).toNat w9)))) i1147 (.inl (upd fn1157 (nt.toInt).toNat (aj_nar 2 b3)))).length))))) (cw_sa (cw_sa h i1143 (.inr (.inl (vp_updL fn1145 (nt.toInt).toNat w9)))) i1147 (.inl (upd fn1157 (nt.toInt).toNat (aj_nar 2 b3)))).length 3 (.int (Int32.ofInt 0))) 10 5 10 (.inr (.inr (.inr (.inr (va_up q3 (nt.toInt).toNat (some (52 + (cw_sa (cw_sa h i1143 (.inr (.inl (vp_updL fn1145 (nt.toInt).toNat w9)))) i1147 (.inl (upd fn1157 (nt.toInt).toNat (aj_nar 2 b3)))).length))))))) := cw_sf_A a10n
              have f1196 : cw_F (cw_sf (cw_sa ((cw_sa (cw_sa h i1143 (.inr (.inl (vp_updL fn1145 (nt.toInt).toNat w9)))) i1147 (.inl (upd fn1157 (nt.toInt).toNat (aj_nar 2 b3)))) ++ cw_R (cw_sa (cw_sa h i1143 (.inr (.inl (vp_updL fn1145 (nt.toInt).toNat w9)))) i1147 (.inl (upd fn1157 (nt.toInt).toNat (aj_nar 2 b3)))).length) 10 (cw_q (va_up q3 (nt.toInt).toNat (some (52 + (cw_sa (cw_sa h i1143 (.inr (.inl (vp_updL fn1145 (nt.toInt).toNat w9)))) i1147 (.inl (upd fn1157 (nt.toInt).toNat (aj_nar 2 b3)))).length))))) (cw_sa (cw_sa h i1143 (.inr (.inl (vp_updL fn1145 (nt.toInt).toNat w9)))) i1147 (.inl (upd fn1157 (nt.toInt).toNat (aj_nar 2 b3)))).length 3 (.int (Int32.ofInt 0))) (cw_sa (cw_sa h i1143 (.inr (.inl (vp_updL fn1145 (nt.toInt).toNat w9)))) i1147 (.inl (upd fn1157 (nt.toInt).toNat (aj_nar 2 b3)))).length 6 3 (.int (Int32.ofInt 0)) := cw_sf_same f1192
              refine cw_n aj_d92 rfl rfl ?_
              refine cw_g (i := 14) (v := .ref (52 + 10)) htb.1 aj_d92 rfl rfl (by decide) f1194 ?_
              refine cw_n aj_d92 rfl rfl ?_
              refine cw_ldq (i := 10) htb.1 aj_d92 rfl a1195 (a := nt.toInt) rfl (by omega) (by omega) ?_
              rw [hfn]
              show cw_W _ _ _ _ _ _ _ _ _ _ 96 [(4, .int nt), (0, .ref (52 + 14)), (1, .long w9), (3, .int b3)] [.ref (52 + (cw_sa (cw_sa h i1143 (.inr (.inl (vp_updL fn1145 (nt.toInt).toNat w9)))) i1147 (.inl (upd fn1157 (nt.toInt).toNat (aj_nar 2 b3)))).length)]
              refine cw_n aj_d92 rfl rfl ?_
              refine cw_p1 (kind := 1) (by decide) (i := (cw_sa (cw_sa h i1143 (.inr (.inl (vp_updL fn1145 (nt.toInt).toNat w9)))) i1147 (.inl (upd fn1157 (nt.toInt).toNat (aj_nar 2 b3)))).length) (t := 58) (c := 6) (k := 4) (v := .int (Int32.ofInt 0)) (y := (.inl (0, 20000000))) htb aj_d92 rfl rfl hT1191 qn rfl rfl rfl (cw_gw (a := (0 : Int)) rfl (by omega) (by omega)) (by decide) rfl rfl (fun hT1197 => ?_)
              obtain ⟨v1198, f1198, g1198⟩ := cw_tyF (i := (cw_sa (cw_sa h i1143 (.inr (.inl (vp_updL fn1145 (nt.toInt).toNat w9)))) i1147 (.inl (upd fn1157 (nt.toInt).toNat (aj_nar 2 b3)))).length) (t := 58) (c := 6) (k := 4) (y := (.inl (0, 20000000))) hT1191 qn rfl rfl rfl
              obtain ⟨x1198, rfl, b1198⟩ := ak_gi g1198
              dsimp only [ak_win] at b1198
              have f1199 : cw_F (cw_sf (cw_sf (cw_sa ((cw_sa (cw_sa h i1143 (.inr (.inl (vp_updL fn1145 (nt.toInt).toNat w9)))) i1147 (.inl (upd fn1157 (nt.toInt).toNat (aj_nar 2 b3)))) ++ cw_R (cw_sa (cw_sa h i1143 (.inr (.inl (vp_updL fn1145 (nt.toInt).toNat w9)))) i1147 (.inl (upd fn1157 (nt.toInt).toNat (aj_nar 2 b3)))).length) 10 (cw_q (va_up q3 (nt.toInt).toNat (some (52 + (cw_sa (cw_sa h i1143 (.inr (.inl (vp_updL fn1145 (nt.toInt).toNat w9)))) i1147 (.inl (upd fn1157 (nt.toInt).toNat (aj_nar 2 b3)))).length))))) (cw_sa (cw_sa h i1143 (.inr (.inl (vp_updL fn1145 (nt.toInt).toNat w9)))) i1147 (.inl (upd fn1157 (nt.toInt).toNat (aj_nar 2 b3)))).length 3 (.int (Int32.ofInt 0))) (cw_sa (cw_sa h i1143 (.inr (.inl (vp_updL fn1145 (nt.toInt).toNat w9)))) i1147 (.inl (upd fn1157 (nt.toInt).toNat (aj_nar 2 b3)))).length 4 (.int (Int32.ofInt 0))) 14 7 12 (.int nt) := cw_sf_ne f1193 (Or.inr (by decide))
              have f1200 : cw_F (cw_sf (cw_sf (cw_sa ((cw_sa (cw_sa h i1143 (.inr (.inl (vp_updL fn1145 (nt.toInt).toNat w9)))) i1147 (.inl (upd fn1157 (nt.toInt).toNat (aj_nar 2 b3)))) ++ cw_R (cw_sa (cw_sa h i1143 (.inr (.inl (vp_updL fn1145 (nt.toInt).toNat w9)))) i1147 (.inl (upd fn1157 (nt.toInt).toNat (aj_nar 2 b3)))).length) 10 (cw_q (va_up q3 (nt.toInt).toNat (some (52 + (cw_sa (cw_sa h i1143 (.inr (.inl (vp_updL fn1145 (nt.toInt).toNat w9)))) i1147 (.inl (upd fn1157 (nt.toInt).toNat (aj_nar 2 b3)))).length))))) (cw_sa (cw_sa h i1143 (.inr (.inl (vp_updL fn1145 (nt.toInt).toNat w9)))) i1147 (.inl (upd fn1157 (nt.toInt).toNat (aj_nar 2 b3)))).length 3 (.int (Int32.ofInt 0))) (cw_sa (cw_sa h i1143 (.inr (.inl (vp_updL fn1145 (nt.toInt).toNat w9)))) i1147 (.inl (upd fn1157 (nt.toInt).toNat (aj_nar 2 b3)))).length 4 (.int (Int32.ofInt 0))) 14 7 7 (.ref (52 + 10)) := cw_sf_ne f1194 (Or.inr (by decide))
              have f1201 : cw_F (cw_sf (cw_sf (cw_sa ((cw_sa (cw_sa h i1143 (.inr (.inl (vp_updL fn1145 (nt.toInt).toNat w9)))) i1147 (.inl (upd fn1157 (nt.toInt).toNat (aj_nar 2 b3)))) ++ cw_R (cw_sa (cw_sa h i1143 (.inr (.inl (vp_updL fn1145 (nt.toInt).toNat w9)))) i1147 (.inl (upd fn1157 (nt.toInt).toNat (aj_nar 2 b3)))).length) 10 (cw_q (va_up q3 (nt.toInt).toNat (some (52 + (cw_sa (cw_sa h i1143 (.inr (.inl (vp_updL fn1145 (nt.toInt).toNat w9)))) i1147 (.inl (upd fn1157 (nt.toInt).toNat (aj_nar 2 b3)))).length))))) (cw_sa (cw_sa h i1143 (.inr (.inl (vp_updL fn1145 (nt.toInt).toNat w9)))) i1147 (.inl (upd fn1157 (nt.toInt).toNat (aj_nar 2 b3)))).length 3 (.int (Int32.ofInt 0))) (cw_sa (cw_sa h i1143 (.inr (.inl (vp_updL fn1145 (nt.toInt).toNat w9)))) i1147 (.inl (upd fn1157 (nt.toInt).toNat (aj_nar 2 b3)))).length 4 (.int (Int32.ofInt 0))) (cw_sa (cw_sa h i1143 (.inr (.inl (vp_updL fn1145 (nt.toInt).toNat w9)))) i1147 (.inl (upd fn1157 (nt.toInt).toNat (aj_nar 2 b3)))).length 6 3 (.int (Int32.ofInt 0)) := cw_sf_ne f1196 (Or.inr (by decide))
              have a1202 : cw_A (cw_sf (cw_sf (cw_sa ((cw_sa (cw_sa h i1143 (.inr (.inl (vp_updL fn1145 (nt.toInt).toNat w9)))) i1147 (.inl (upd fn1157 (nt.toInt).toNat (aj_nar 2 b3)))) ++ cw_R (cw_sa (cw_sa h i1143 (.inr (.inl (vp_updL fn1145 (nt.toInt).toNat w9)))) i1147 (.inl (upd fn1157 (nt.toInt).toNat (aj_nar 2 b3)))).length) 10 (cw_q (va_up q3 (nt.toInt).toNat (some (52 + (cw_sa (cw_sa h i1143 (.inr (.inl (vp_updL fn1145 (nt.toInt).toNat w9)))) i1147 (.inl (upd fn1157 (nt.toInt).toNat (aj_nar 2 b3)))).length))))) (cw_sa (cw_sa h i1143 (.inr (.inl (vp_updL fn1145 (nt.toInt).toNat w9)))) i1147 (.inl (upd fn1157 (nt.toInt).toNat (aj_nar 2 b3)))).length 3 (.int (Int32.ofInt 0))) (cw_sa (cw_sa h i1143 (.inr (.inl (vp_updL fn1145 (nt.toInt).toNat w9)))) i1147 (.inl (upd fn1157 (nt.toInt).toNat (aj_nar 2 b3)))).length 4 (.int (Int32.ofInt 0))) 10 5 10 (.inr (.inr (.inr (.inr (va_up q3 (nt.toInt).toNat (some (52 + (cw_sa (cw_sa h i1143 (.inr (.inl (vp_updL fn1145 (nt.toInt).toNat w9)))) i1147 (.inl (upd fn1157 (nt.toInt).toNat (aj_nar 2 b3)))).length))))))) := cw_sf_A a1195
              have f1203 : cw_F (cw_sf (cw_sf (cw_sa ((cw_sa (cw_sa h i1143 (.inr (.inl (vp_updL fn1145 (nt.toInt).toNat w9)))) i1147 (.inl (upd fn1157 (nt.toInt).toNat (aj_nar 2 b3)))) ++ cw_R (cw_sa (cw_sa h i1143 (.inr (.inl (vp_updL fn1145 (nt.toInt).toNat w9)))) i1147 (.inl (upd fn1157 (nt.toInt).toNat (aj_nar 2 b3)))).length) 10 (cw_q (va_up q3 (nt.toInt).toNat (some (52 + (cw_sa (cw_sa h i1143 (.inr (.inl (vp_updL fn1145 (nt.toInt).toNat w9)))) i1147 (.inl (upd fn1157 (nt.toInt).toNat (aj_nar 2 b3)))).length))))) (cw_sa (cw_sa h i1143 (.inr (.inl (vp_updL fn1145 (nt.toInt).toNat w9)))) i1147 (.inl (upd fn1157 (nt.toInt).toNat (aj_nar 2 b3)))).length 3 (.int (Int32.ofInt 0))) (cw_sa (cw_sa h i1143 (.inr (.inl (vp_updL fn1145 (nt.toInt).toNat w9)))) i1147 (.inl (upd fn1157 (nt.toInt).toNat (aj_nar 2 b3)))).length 4 (.int (Int32.ofInt 0))) (cw_sa (cw_sa h i1143 (.inr (.inl (vp_updL fn1145 (nt.toInt).toNat w9)))) i1147 (.inl (upd fn1157 (nt.toInt).toNat (aj_nar 2 b3)))).length 6 4 (.int (Int32.ofInt 0)) := cw_sf_same f1198
              refine cw_n aj_d92 rfl rfl ?_
              refine cw_n aj_d92 rfl rfl ?_
              refine cw_g (i := 14) (v := .int nt) htb.1 aj_d92 rfl rfl (by decide) f1199 ?_
              refine cw_n aj_d92 rfl rfl ?_
              refine cw_add aj_d92 rfl (a := nt.toInt) (b := (1 : Int)) rfl rfl (by omega) (by omega) (fun x1204 ex1204 => ?_)
              refine cw_p (i := 14) (t := 59) (c := 7) (k := 12) (v := .int x1204) (y := (.inl (0, 10))) htb aj_d92 rfl rfl hT1197 (cw_s0 hB2 rfl) rfl rfl rfl (cw_gw (a := x1204.toInt) rfl (by omega) (by omega)) (by decide) rfl rfl (fun hT1205 => ?_)
              have f1206 : cw_F (cw_sf (cw_sf (cw_sf (cw_sa ((cw_sa (cw_sa h i1143 (.inr (.inl (vp_updL fn1145 (nt.toInt).toNat w9)))) i1147 (.inl (upd fn1157 (nt.toInt).toNat (aj_nar 2 b3)))) ++ cw_R (cw_sa (cw_sa h i1143 (.inr (.inl (vp_updL fn1145 (nt.toInt).toNat w9)))) i1147 (.inl (upd fn1157 (nt.toInt).toNat (aj_nar 2 b3)))).length) 10 (cw_q (va_up q3 (nt.toInt).toNat (some (52 + (cw_sa (cw_sa h i1143 (.inr (.inl (vp_updL fn1145 (nt.toInt).toNat w9)))) i1147 (.inl (upd fn1157 (nt.toInt).toNat (aj_nar 2 b3)))).length))))) (cw_sa (cw_sa h i1143 (.inr (.inl (vp_updL fn1145 (nt.toInt).toNat w9)))) i1147 (.inl (upd fn1157 (nt.toInt).toNat (aj_nar 2 b3)))).length 3 (.int (Int32.ofInt 0))) (cw_sa (cw_sa h i1143 (.inr (.inl (vp_updL fn1145 (nt.toInt).toNat w9)))) i1147 (.inl (upd fn1157 (nt.toInt).toNat (aj_nar 2 b3)))).length 4 (.int (Int32.ofInt 0))) 14 12 (.int x1204)) 14 7 7 (.ref (52 + 10)) := cw_sf_ne f1200 (Or.inr (by decide))
              have f1207 : cw_F (cw_sf (cw_sf (cw_sf (cw_sa ((cw_sa (cw_sa h i1143 (.inr (.inl (vp_updL fn1145 (nt.toInt).toNat w9)))) i1147 (.inl (upd fn1157 (nt.toInt).toNat (aj_nar 2 b3)))) ++ cw_R (cw_sa (cw_sa h i1143 (.inr (.inl (vp_updL fn1145 (nt.toInt).toNat w9)))) i1147 (.inl (upd fn1157 (nt.toInt).toNat (aj_nar 2 b3)))).length) 10 (cw_q (va_up q3 (nt.toInt).toNat (some (52 + (cw_sa (cw_sa h i1143 (.inr (.inl (vp_updL fn1145 (nt.toInt).toNat w9)))) i1147 (.inl (upd fn1157 (nt.toInt).toNat (aj_nar 2 b3)))).length))))) (cw_sa (cw_sa h i1143 (.inr (.inl (vp_updL fn1145 (nt.toInt).toNat w9)))) i1147 (.inl (upd fn1157 (nt.toInt).toNat (aj_nar 2 b3)))).length 3 (.int (Int32.ofInt 0))) (cw_sa (cw_sa h i1143 (.inr (.inl (vp_updL fn1145 (nt.toInt).toNat w9)))) i1147 (.inl (upd fn1157 (nt.toInt).toNat (aj_nar 2 b3)))).length 4 (.int (Int32.ofInt 0))) 14 12 (.int x1204)) (cw_sa (cw_sa h i1143 (.inr (.inl (vp_updL fn1145 (nt.toInt).toNat w9)))) i1147 (.inl (upd fn1157 (nt.toInt).toNat (aj_nar 2 b3)))).length 6 3 (.int (Int32.ofInt 0)) := cw_sf_ne f1201 (Or.inr (by decide))
              have f1208 : cw_F (cw_sf (cw_sf (cw_sf (cw_sa ((cw_sa (cw_sa h i1143 (.inr (.inl (vp_updL fn1145 (nt.toInt).toNat w9)))) i1147 (.inl (upd fn1157 (nt.toInt).toNat (aj_nar 2 b3)))) ++ cw_R (cw_sa (cw_sa h i1143 (.inr (.inl (vp_updL fn1145 (nt.toInt).toNat w9)))) i1147 (.inl (upd fn1157 (nt.toInt).toNat (aj_nar 2 b3)))).length) 10 (cw_q (va_up q3 (nt.toInt).toNat (some (52 + (cw_sa (cw_sa h i1143 (.inr (.inl (vp_updL fn1145 (nt.toInt).toNat w9)))) i1147 (.inl (upd fn1157 (nt.toInt).toNat (aj_nar 2 b3)))).length))))) (cw_sa (cw_sa h i1143 (.inr (.inl (vp_updL fn1145 (nt.toInt).toNat w9)))) i1147 (.inl (upd fn1157 (nt.toInt).toNat (aj_nar 2 b3)))).length 3 (.int (Int32.ofInt 0))) (cw_sa (cw_sa h i1143 (.inr (.inl (vp_updL fn1145 (nt.toInt).toNat w9)))) i1147 (.inl (upd fn1157 (nt.toInt).toNat (aj_nar 2 b3)))).length 4 (.int (Int32.ofInt 0))) 14 12 (.int x1204)) (cw_sa (cw_sa h i1143 (.inr (.inl (vp_updL fn1145 (nt.toInt).toNat w9)))) i1147 (.inl (upd fn1157 (nt.toInt).toNat (aj_nar 2 b3)))).length 6 4 (.int (Int32.ofInt 0)) := cw_sf_ne f1203 (Or.inr (by decide))
              have a1209 : cw_A (cw_sf (cw_sf (cw_sf (cw_sa ((cw_sa (cw_sa h i1143 (.inr (.inl (vp_updL fn1145 (nt.toInt).toNat w9)))) i1147 (.inl (upd fn1157 (nt.toInt).toNat (aj_nar 2 b3)))) ++ cw_R (cw_sa (cw_sa h i1143 (.inr (.inl (vp_updL fn1145 (nt.toInt).toNat w9)))) i1147 (.inl (upd fn1157 (nt.toInt).toNat (aj_nar 2 b3)))).length) 10 (cw_q (va_up q3 (nt.toInt).toNat (some (52 + (cw_sa (cw_sa h i1143 (.inr (.inl (vp_updL fn1145 (nt.toInt).toNat w9)))) i1147 (.inl (upd fn1157 (nt.toInt).toNat (aj_nar 2 b3)))).length))))) (cw_sa (cw_sa h i1143 (.inr (.inl (vp_updL fn1145 (nt.toInt).toNat w9)))) i1147 (.inl (upd fn1157 (nt.toInt).toNat (aj_nar 2 b3)))).length 3 (.int (Int32.ofInt 0))) (cw_sa (cw_sa h i1143 (.inr (.inl (vp_updL fn1145 (nt.toInt).toNat w9)))) i1147 (.inl (upd fn1157 (nt.toInt).toNat (aj_nar 2 b3)))).length 4 (.int (Int32.ofInt 0))) 14 12 (.int x1204)) 10 5 10 (.inr (.inr (.inr (.inr (va_up q3 (nt.toInt).toNat (some (52 + (cw_sa (cw_sa h i1143 (.inr (.inl (vp_updL fn1145 (nt.toInt).toNat w9)))) i1147 (.inl (upd fn1157 (nt.toInt).toNat (aj_nar 2 b3)))).length))))))) := cw_sf_A a1202
              have f1210 : cw_F (cw_sf (cw_sf (cw_sf (cw_sa ((cw_sa (cw_sa h i1143 (.inr (.inl (vp_updL fn1145 (nt.toInt).toNat w9)))) i1147 (.inl (upd fn1157 (nt.toInt).toNat (aj_nar 2 b3)))) ++ cw_R (cw_sa (cw_sa h i1143 (.inr (.inl (vp_updL fn1145 (nt.toInt).toNat w9)))) i1147 (.inl (upd fn1157 (nt.toInt).toNat (aj_nar 2 b3)))).length) 10 (cw_q (va_up q3 (nt.toInt).toNat (some (52 + (cw_sa (cw_sa h i1143 (.inr (.inl (vp_updL fn1145 (nt.toInt).toNat w9)))) i1147 (.inl (upd fn1157 (nt.toInt).toNat (aj_nar 2 b3)))).length))))) (cw_sa (cw_sa h i1143 (.inr (.inl (vp_updL fn1145 (nt.toInt).toNat w9)))) i1147 (.inl (upd fn1157 (nt.toInt).toNat (aj_nar 2 b3)))).length 3 (.int (Int32.ofInt 0))) (cw_sa (cw_sa h i1143 (.inr (.inl (vp_updL fn1145 (nt.toInt).toNat w9)))) i1147 (.inl (upd fn1157 (nt.toInt).toNat (aj_nar 2 b3)))).length 4 (.int (Int32.ofInt 0))) 14 12 (.int x1204)) 14 7 12 (.int x1204) := cw_sf_same f1199
              refine cw_n aj_d92 rfl rfl ?_
              refine cw_Wr aj_d92 rfl rfl hT1205 ?_ ?_
              · exact ⟨⟨_, rfl⟩, _, cw_CQ_tab (x := 14) (i := (cw_sa (cw_sa h i1143 (.inr (.inl (vp_updL fn1145 (nt.toInt).toNat w9)))) i1147 (.inl (upd fn1157 (nt.toInt).toNat (aj_nar 2 b3)))).length) hT1197 ex1204 (by omega) f1200 ((cw_oa_A (by decide)).mpr a1202) hfn (cw_ok_F f1203 f1201 (by decide) (by decide)) (cw_CQ_row hT1191 (Or.inr rfl) f1198 (by decide) (cw_CQ_row hT2 (Or.inl rfl) f1192 (by decide) Q2))⟩
              · exact cw_gw (s := s) (a := nt.toInt) rfl (by omega) (by omega)
          · have q1150 : nt.toInt ≥ (10 : Int) := aw_t_lt (a := nt.toInt) (b := (10 : Int)) rfl ex1148 q1150
            refine cw_n aj_d92 rfl rfl ?_
            refine cw_Wr aj_d92 rfl rfl hT ?_ ?_
            · exact ⟨⟨[], (List.append_nil _).symm⟩, _, (cw_CQ_eq rfl hQ)⟩
            · exact cw_gw (s := s) (a := -1) rfl (by decide) (by decide)
    · have a10 : cw_A h 22 5 10 (cw_q q3) := (cw_oa_A (by decide)).mp a10
      have ha : (22 : Nat) = 10 ∨ (22 : Nat) = 22 := by decide
      show cw_W _ _ _ _ _ _ _ _ _ _ 0 [(0, .ref (52 + 14)), (1, .long w9), (3, .int b3)] []
      refine cw_n aj_d92 rfl rfl ?_
      refine cw_g (i := 14) (v := .int nt) htb.1 aj_d92 rfl rfl (by decide) f12 ?_
      refine cw_n aj_d92 rfl rfl ?_
      show cw_W _ _ _ _ _ _ _ _ _ _ 6 [(4, .int nt), (0, .ref (52 + 14)), (1, .long w9), (3, .int b3)] []
      refine cw_n aj_d92 rfl rfl ?_
      refine cw_n aj_d92 rfl rfl ?_
      refine cw_g (i := 14) (v := .ref (52 + 22)) htb.1 aj_d92 rfl rfl (by decide) f7 ?_
      refine cw_alen (i := 22) htb.1 aj_d92 rfl a10 (by decide) (by omega) (fun x1211 ex1211 => ?_)
      refine cw_c (tgt := 36) aj_d92 rfl rfl (fun q1212 => ?_) (fun q1212 => ?_)
      · have q1212 : nt.toInt ≥ (10 : Int) := aw_t_ge (a := nt.toInt) (b := (10 : Int)) rfl ex1211 q1212
        refine cw_n aj_d92 rfl rfl ?_
        refine cw_Wr aj_d92 rfl rfl hT ?_ ?_
        · exact ⟨⟨[], (List.append_nil _).symm⟩, _, (cw_CQ_eq rfl hQ)⟩
        · exact cw_gw (s := s) (a := -1) rfl (by decide) (by decide)
      · have q1212 : nt.toInt < (10 : Int) := aw_t_ge (a := nt.toInt) (b := (10 : Int)) rfl ex1211 q1212
        refine cw_n aj_d92 rfl rfl ?_
        refine cw_n aj_d92 rfl rfl ?_
        obtain ⟨v1213, f1213, g1213⟩ := cw_tyF (i := 14) (t := 59) (c := 7) (k := 8) (y := (.inr (some ([73], false)))) hT (cw_s0 hB rfl) rfl rfl rfl
        obtain ⟨i1213, rfl, q1213⟩ := cw_gr g1213 (by decide)
        refine cw_g (i := 14) (v := .ref (52 + i1213)) htb.1 aj_d92 rfl rfl (by decide) f1213 ?_
        obtain ⟨n1215, z1215, a1215, p1215l, p1215r, p1215⟩ := cw_tyA (i := i1213) (t := 73) (kd := 1) (n1 := 10) (n2 := 10) (y := (.inr none)) hT q1213 rfl
        obtain rfl : n1215 = 10 := Nat.le_antisymm p1215r p1215l
        obtain ⟨fn1215, rfl, p1215c⟩ := cw_xl p1215
        refine cw_alen (i := i1213) htb.1 aj_d92 rfl a1215 (by decide) (by omega) (fun x1214 ex1214 => ?_)
        refine cw_c (tgt := 36) aj_d92 rfl rfl (fun q1216 => ?_) (fun q1216 => ?_)
        · have q1216 : nt.toInt ≥ (10 : Int) := aw_t_ge (a := nt.toInt) (b := (10 : Int)) rfl ex1214 q1216
          refine cw_n aj_d92 rfl rfl ?_
          refine cw_Wr aj_d92 rfl rfl hT ?_ ?_
          · exact ⟨⟨[], (List.append_nil _).symm⟩, _, (cw_CQ_eq rfl hQ)⟩
          · exact cw_gw (s := s) (a := -1) rfl (by decide) (by decide)
        · have q1216 : nt.toInt < (10 : Int) := aw_t_ge (a := nt.toInt) (b := (10 : Int)) rfl ex1214 q1216
          refine cw_n aj_d92 rfl rfl ?_
          refine cw_n aj_d92 rfl rfl ?_
          obtain ⟨v1217, f1217, g1217⟩ := cw_tyF (i := 14) (t := 59) (c := 7) (k := 10) (y := (.inr (some ([75], false)))) hT (cw_s0 hB rfl) rfl rfl rfl
          obtain ⟨i1217, rfl, q1217⟩ := cw_gr g1217 (by decide)
          refine cw_g (i := 14) (v := .ref (52 + i1217)) htb.1 aj_d92 rfl rfl (by decide) f1217 ?_
          obtain ⟨n1219, z1219, a1219, p1219l, p1219r, p1219⟩ := cw_tyA (i := i1217) (t := 75) (kd := 2) (n1 := 10) (n2 := 10) (y := (.inl (0, 1))) hT q1217 rfl
          obtain rfl : n1219 = 10 := Nat.le_antisymm p1219r p1219l
          obtain ⟨fn1219, rfl, p1219c⟩ := cw_xi p1219
          refine cw_alen (i := i1217) htb.1 aj_d92 rfl a1219 (by decide) (by omega) (fun x1218 ex1218 => ?_)
          refine cw_c (tgt := 38) aj_d92 rfl rfl (fun q1220 => ?_) (fun q1220 => ?_)
          · have q1220 : nt.toInt < (10 : Int) := aw_t_lt (a := nt.toInt) (b := (10 : Int)) rfl ex1218 q1220
            refine cw_n aj_d92 rfl rfl ?_
            refine cw_g (i := 14) (v := .ref (52 + i1213)) htb.1 aj_d92 rfl rfl (by decide) f1213 ?_
            refine cw_n aj_d92 rfl rfl ?_
            refine cw_n aj_d92 rfl rfl ?_
            refine cw_stl (i := i1213) htb aj_d92 rfl a1215 hT q1213 rfl (by decide) (a := nt.toInt) rfl (by omega) (by omega) (fun hT1221 => ?_)
            have f1222 : cw_F (cw_sa h i1213 (.inr (.inl (vp_updL fn1215 (nt.toInt).toNat w9)))) 14 7 12 (.int nt) := cw_sa_F f12
            have f1223 : cw_F (cw_sa h i1213 (.inr (.inl (vp_updL fn1215 (nt.toInt).toNat w9)))) 14 7 7 (.ref (52 + 22)) := cw_sa_F f7
            have f1224 : cw_F (cw_sa h i1213 (.inr (.inl (vp_updL fn1215 (nt.toInt).toNat w9)))) 14 7 8 (.ref (52 + i1213)) := cw_sa_F f1213
            have f1225 : cw_F (cw_sa h i1213 (.inr (.inl (vp_updL fn1215 (nt.toInt).toNat w9)))) 14 7 10 (.ref (52 + i1217)) := cw_sa_F f1217
            have a1226 : cw_A (cw_sa h i1213 (.inr (.inl (vp_updL fn1215 (nt.toInt).toNat w9)))) i1213 1 10 (.inr (.inl (vp_updL fn1215 (nt.toInt).toNat w9))) := cw_sa_same a1215
            refine cw_n aj_d92 rfl rfl ?_
            refine cw_g (i := 14) (v := .ref (52 + i1217)) htb.1 aj_d92 rfl rfl (by decide) f1225 ?_
            refine cw_n aj_d92 rfl rfl ?_
            refine cw_n aj_d92 rfl rfl ?_
            obtain ⟨n1227, z1227, a1227, p1227l, p1227r, p1227⟩ := cw_tyA (i := i1217) (t := 75) (kd := 2) (n1 := 10) (n2 := 10) (y := (.inl (0, 1))) hT1221 q1217 rfl
            obtain rfl : n1227 = 10 := Nat.le_antisymm p1227r p1227l
            obtain ⟨fn1227, rfl, p1227c⟩ := cw_xi p1227
            refine cw_st (i := i1217) htb aj_d92 (Or.inr (Or.inr (Or.inl ⟨rfl, rfl⟩))) rfl a1227 hT1221 q1217 rfl (by decide) (a := nt.toInt) rfl (by omega) (by omega) (ak_nar_ok (kd := 2) (q := (0, 1)) hb3 (Or.inr (Or.inl rfl))) (fun hT1228 => ?_)
            have f1229 : cw_F (cw_sa (cw_sa h i1213 (.inr (.inl (vp_updL fn1215 (nt.toInt).toNat w9)))) i1217 (.inl (upd fn1227 (nt.toInt).toNat (aj_nar 2 b3)))) 14 7 12 (.int nt) := cw_sa_F f1222
            have f1230 : cw_F (cw_sa (cw_sa h i1213 (.inr (.inl (vp_updL fn1215 (nt.toInt).toNat w9)))) i1217 (.inl (upd fn1227 (nt.toInt).toNat (aj_nar 2 b3)))) 14 7 7 (.ref (52 + 22)) := cw_sa_F f1223
            have f1231 : cw_F (cw_sa (cw_sa h i1213 (.inr (.inl (vp_updL fn1215 (nt.toInt).toNat w9)))) i1217 (.inl (upd fn1227 (nt.toInt).toNat (aj_nar 2 b3)))) 14 7 8 (.ref (52 + i1213)) := cw_sa_F f1224
            have f1232 : cw_F (cw_sa (cw_sa h i1213 (.inr (.inl (vp_updL fn1215 (nt.toInt).toNat w9)))) i1217 (.inl (upd fn1227 (nt.toInt).toNat (aj_nar 2 b3)))) 14 7 10 (.ref (52 + i1217)) := cw_sa_F f1225
            have a1233 : cw_A (cw_sa (cw_sa h i1213 (.inr (.inl (vp_updL fn1215 (nt.toInt).toNat w9)))) i1217 (.inl (upd fn1227 (nt.toInt).toNat (aj_nar 2 b3)))) i1217 2 10 (.inl (upd fn1227 (nt.toInt).toNat (aj_nar 2 b3))) := cw_sa_same a1227
            have a1234 : cw_A (cw_sa (cw_sa h i1213 (.inr (.inl (vp_updL fn1215 (nt.toInt).toNat w9)))) i1217 (.inl (upd fn1227 (nt.toInt).toNat (aj_nar 2 b3)))) 22 5 10 (cw_q q3) := cw_trA ((cw_o_sa a1227 (cw_nsp hB q1217 (by decide))).trans ((cw_o_sa a1215 (cw_nsp hB q1213 (by decide))).trans rfl)) (by decide) a10
            refine cw_n aj_d92 rfl rfl ?_
            refine cw_g (i := 14) (v := .ref (52 + 22)) htb.1 aj_d92 rfl rfl (by decide) f1230 ?_
            refine cw_n aj_d92 rfl rfl ?_
            refine cw_ldq (i := 22) htb.1 aj_d92 rfl a1234 (a := nt.toInt) rfl (by omega) (by omega) ?_
            cases hf : q3 (nt.toInt).toNat with
            | some r =>
              obtain ⟨i, rfl, qi⟩ := cw_refs (T := ak_C1) (t := 72) (n1 := 10) (n2 := 10) hT1228 (cw_s0 hB rfl) rfl a1234 (l := (nt.toInt).toNat) (by omega) hf
              show cw_W _ _ _ _ _ _ _ _ _ _ 61 [(4, .int nt), (0, .ref (52 + 14)), (1, .long w9), (3, .int b3)] [.ref (52 + i)]
              refine cw_n aj_d92 rfl rfl ?_
              refine cw_n aj_d92 rfl rfl ?_
              refine cw_g (i := 14) (v := .ref (52 + 22)) htb.1 aj_d92 rfl rfl (by decide) f1230 ?_
              refine cw_n aj_d92 rfl rfl ?_
              refine cw_ldq (i := 22) htb.1 aj_d92 rfl a1234 (a := nt.toInt) rfl (by omega) (by omega) ?_
              rw [hf]
              show cw_W _ _ _ _ _ _ _ _ _ _ 85 [(4, .int nt), (0, .ref (52 + 14)), (1, .long w9), (3, .int b3)] [.ref (52 + i)]
              refine cw_n aj_d92 rfl rfl ?_
              refine cw_p1 (kind := 1) (by decide) (i := i) (t := 58) (c := 6) (k := 3) (v := .int (Int32.ofInt 0)) (y := (.inl (0, 20000000))) htb aj_d92 rfl rfl hT1228 qi rfl rfl rfl (cw_gw (a := (0 : Int)) rfl (by omega) (by omega)) (by decide) rfl rfl (fun hT1235 => ?_)
              obtain ⟨v1236, f1236, g1236⟩ := cw_tyF (i := i) (t := 58) (c := 6) (k := 3) (y := (.inl (0, 20000000))) hT1228 qi rfl rfl rfl
              obtain ⟨x1236, rfl, b1236⟩ := ak_gi g1236
              dsimp only [ak_win] at b1236
              have f1237 : cw_F (cw_sf (cw_sa (cw_sa h i1213 (.inr (.inl (vp_updL fn1215 (nt.toInt).toNat w9)))) i1217 (.inl (upd fn1227 (nt.toInt).toNat (aj_nar 2 b3)))) i 3 (.int (Int32.ofInt 0))) 14 7 12 (.int nt) := cw_sf_ne f1229 (Or.inr (by decide))
              have f1238 : cw_F (cw_sf (cw_sa (cw_sa h i1213 (.inr (.inl (vp_updL fn1215 (nt.toInt).toNat w9)))) i1217 (.inl (upd fn1227 (nt.toInt).toNat (aj_nar 2 b3)))) i 3 (.int (Int32.ofInt 0))) 14 7 7 (.ref (52 + 22)) := cw_sf_ne f1230 (Or.inr (by decide))
              have f1239 : cw_F (cw_sf (cw_sa (cw_sa h i1213 (.inr (.inl (vp_updL fn1215 (nt.toInt).toNat w9)))) i1217 (.inl (upd fn1227 (nt.toInt).toNat (aj_nar 2 b3)))) i 3 (.int (Int32.ofInt 0))) 14 7 8 (.ref (52 + i1213)) := cw_sf_ne f1231 (Or.inr (by decide))
              have f1240 : cw_F (cw_sf (cw_sa (cw_sa h i1213 (.inr (.inl (vp_updL fn1215 (nt.toInt).toNat w9)))) i1217 (.inl (upd fn1227 (nt.toInt).toNat (aj_nar 2 b3)))) i 3 (.int (Int32.ofInt 0))) 14 7 10 (.ref (52 + i1217)) := cw_sf_ne f1232 (Or.inr (by decide))
              have a1241 : cw_A (cw_sf (cw_sa (cw_sa h i1213 (.inr (.inl (vp_updL fn1215 (nt.toInt).toNat w9)))) i1217 (.inl (upd fn1227 (nt.toInt).toNat (aj_nar 2 b3)))) i 3 (.int (Int32.ofInt 0))) 22 5 10 (.inr (.inr (.inr (.inr q3)))) := cw_sf_A a1234
              have f1242 : cw_F (cw_sf (cw_sa (cw_sa h i1213 (.inr (.inl (vp_updL fn1215 (nt.toInt).toNat w9)))) i1217 (.inl (upd fn1227 (nt.toInt).toNat (aj_nar 2 b3)))) i 3 (.int (Int32.ofInt 0))) i 6 3 (.int (Int32.ofInt 0)) := cw_sf_same f1236
              refine cw_n aj_d92 rfl rfl ?_
              refine cw_g (i := 14) (v := .ref (52 + 22)) htb.1 aj_d92 rfl rfl (by decide) f1238 ?_
              refine cw_n aj_d92 rfl rfl ?_
              refine cw_ldq (i := 22) htb.1 aj_d92 rfl a1241 (a := nt.toInt) rfl (by omega) (by omega) ?_
              rw [hf]
              show cw_W _ _ _ _ _ _ _ _ _ _ 96 [(4, .int nt), (0, .ref (52 + 14)), (1, .long w9), (3, .int b3)] [.ref (52 + i)]
              refine cw_n aj_d92 rfl rfl ?_
              refine cw_p1 (kind := 1) (by decide) (i := i) (t := 58) (c := 6) (k := 4) (v := .int (Int32.ofInt 0)) (y := (.inl (0, 20000000))) htb aj_d92 rfl rfl hT1235 qi rfl rfl rfl (cw_gw (a := (0 : Int)) rfl (by omega) (by omega)) (by decide) rfl rfl (fun hT1243 => ?_)
              obtain ⟨v1244, f1244, g1244⟩ := cw_tyF (i := i) (t := 58) (c := 6) (k := 4) (y := (.inl (0, 20000000))) hT1235 qi rfl rfl rfl
              obtain ⟨x1244, rfl, b1244⟩ := ak_gi g1244
              dsimp only [ak_win] at b1244
              have f1245 : cw_F (cw_sf (cw_sf (cw_sa (cw_sa h i1213 (.inr (.inl (vp_updL fn1215 (nt.toInt).toNat w9)))) i1217 (.inl (upd fn1227 (nt.toInt).toNat (aj_nar 2 b3)))) i 3 (.int (Int32.ofInt 0))) i 4 (.int (Int32.ofInt 0))) 14 7 12 (.int nt) := cw_sf_ne f1237 (Or.inr (by decide))
              have f1246 : cw_F (cw_sf (cw_sf (cw_sa (cw_sa h i1213 (.inr (.inl (vp_updL fn1215 (nt.toInt).toNat w9)))) i1217 (.inl (upd fn1227 (nt.toInt).toNat (aj_nar 2 b3)))) i 3 (.int (Int32.ofInt 0))) i 4 (.int (Int32.ofInt 0))) 14 7 7 (.ref (52 + 22)) := cw_sf_ne f1238 (Or.inr (by decide))
              have f1247 : cw_F (cw_sf (cw_sf (cw_sa (cw_sa h i1213 (.inr (.inl (vp_updL fn1215 (nt.toInt).toNat w9)))) i1217 (.inl (upd fn1227 (nt.toInt).toNat (aj_nar 2 b3)))) i 3 (.int (Int32.ofInt 0))) i 4 (.int (Int32.ofInt 0))) 14 7 8 (.ref (52 + i1213)) := cw_sf_ne f1239 (Or.inr (by decide))
              have f1248 : cw_F (cw_sf (cw_sf (cw_sa (cw_sa h i1213 (.inr (.inl (vp_updL fn1215 (nt.toInt).toNat w9)))) i1217 (.inl (upd fn1227 (nt.toInt).toNat (aj_nar 2 b3)))) i 3 (.int (Int32.ofInt 0))) i 4 (.int (Int32.ofInt 0))) 14 7 10 (.ref (52 + i1217)) := cw_sf_ne f1240 (Or.inr (by decide))
              have f1249 : cw_F (cw_sf (cw_sf (cw_sa (cw_sa h i1213 (.inr (.inl (vp_updL fn1215 (nt.toInt).toNat w9)))) i1217 (.inl (upd fn1227 (nt.toInt).toNat (aj_nar 2 b3)))) i 3 (.int (Int32.ofInt 0))) i 4 (.int (Int32.ofInt 0))) i 6 3 (.int (Int32.ofInt 0)) := cw_sf_ne f1242 (Or.inr (by decide))
              have a1250 : cw_A (cw_sf (cw_sf (cw_sa (cw_sa h i1213 (.inr (.inl (vp_updL fn1215 (nt.toInt).toNat w9)))) i1217 (.inl (upd fn1227 (nt.toInt).toNat (aj_nar 2 b3)))) i 3 (.int (Int32.ofInt 0))) i 4 (.int (Int32.ofInt 0))) 22 5 10 (.inr (.inr (.inr (.inr q3)))) := cw_sf_A a1241
              have f1251 : cw_F (cw_sf (cw_sf (cw_sa (cw_sa h i1213 (.inr (.inl (vp_updL fn1215 (nt.toInt).toNat w9)))) i1217 (.inl (upd fn1227 (nt.toInt).toNat (aj_nar 2 b3)))) i 3 (.int (Int32.ofInt 0))) i 4 (.int (Int32.ofInt 0))) i 6 4 (.int (Int32.ofInt 0)) := cw_sf_same f1244
              refine cw_n aj_d92 rfl rfl ?_
              refine cw_n aj_d92 rfl rfl ?_
              refine cw_g (i := 14) (v := .int nt) htb.1 aj_d92 rfl rfl (by decide) f1245 ?_
              refine cw_n aj_d92 rfl rfl ?_
              refine cw_add aj_d92 rfl (a := nt.toInt) (b := (1 : Int)) rfl rfl (by omega) (by omega) (fun x1252 ex1252 => ?_)
              refine cw_p (i := 14) (t := 59) (c := 7) (k := 12) (v := .int x1252) (y := (.inl (0, 10))) htb aj_d92 rfl rfl hT1243 (cw_s0 hB rfl) rfl rfl rfl (cw_gw (a := x1252.toInt) rfl (by omega) (by omega)) (by decide) rfl rfl (fun hT1253 => ?_)
              have f1254 : cw_F (cw_sf (cw_sf (cw_sf (cw_sa (cw_sa h i1213 (.inr (.inl (vp_updL fn1215 (nt.toInt).toNat w9)))) i1217 (.inl (upd fn1227 (nt.toInt).toNat (aj_nar 2 b3)))) i 3 (.int (Int32.ofInt 0))) i 4 (.int (Int32.ofInt 0))) 14 12 (.int x1252)) 14 7 7 (.ref (52 + 22)) := cw_sf_ne f1246 (Or.inr (by decide))
              have f1255 : cw_F (cw_sf (cw_sf (cw_sf (cw_sa (cw_sa h i1213 (.inr (.inl (vp_updL fn1215 (nt.toInt).toNat w9)))) i1217 (.inl (upd fn1227 (nt.toInt).toNat (aj_nar 2 b3)))) i 3 (.int (Int32.ofInt 0))) i 4 (.int (Int32.ofInt 0))) 14 12 (.int x1252)) 14 7 8 (.ref (52 + i1213)) := cw_sf_ne f1247 (Or.inr (by decide))
              have f1256 : cw_F (cw_sf (cw_sf (cw_sf (cw_sa (cw_sa h i1213 (.inr (.inl (vp_updL fn1215 (nt.toInt).toNat w9)))) i1217 (.inl (upd fn1227 (nt.toInt).toNat (aj_nar 2 b3)))) i 3 (.int (Int32.ofInt 0))) i 4 (.int (Int32.ofInt 0))) 14 12 (.int x1252)) 14 7 10 (.ref (52 + i1217)) := cw_sf_ne f1248 (Or.inr (by decide))
              have f1257 : cw_F (cw_sf (cw_sf (cw_sf (cw_sa (cw_sa h i1213 (.inr (.inl (vp_updL fn1215 (nt.toInt).toNat w9)))) i1217 (.inl (upd fn1227 (nt.toInt).toNat (aj_nar 2 b3)))) i 3 (.int (Int32.ofInt 0))) i 4 (.int (Int32.ofInt 0))) 14 12 (.int x1252)) i 6 3 (.int (Int32.ofInt 0)) := cw_sf_ne f1249 (Or.inr (by decide))
              have f1258 : cw_F (cw_sf (cw_sf (cw_sf (cw_sa (cw_sa h i1213 (.inr (.inl (vp_updL fn1215 (nt.toInt).toNat w9)))) i1217 (.inl (upd fn1227 (nt.toInt).toNat (aj_nar 2 b3)))) i 3 (.int (Int32.ofInt 0))) i 4 (.int (Int32.ofInt 0))) 14 12 (.int x1252)) i 6 4 (.int (Int32.ofInt 0)) := cw_sf_ne f1251 (Or.inr (by decide))
              have a1259 : cw_A (cw_sf (cw_sf (cw_sf (cw_sa (cw_sa h i1213 (.inr (.inl (vp_updL fn1215 (nt.toInt).toNat w9)))) i1217 (.inl (upd fn1227 (nt.toInt).toNat (aj_nar 2 b3)))) i 3 (.int (Int32.ofInt 0))) i 4 (.int (Int32.ofInt 0))) 14 12 (.int x1252)) 22 5 10 (.inr (.inr (.inr (.inr q3)))) := cw_sf_A a1250
              have f1260 : cw_F (cw_sf (cw_sf (cw_sf (cw_sa (cw_sa h i1213 (.inr (.inl (vp_updL fn1215 (nt.toInt).toNat w9)))) i1217 (.inl (upd fn1227 (nt.toInt).toNat (aj_nar 2 b3)))) i 3 (.int (Int32.ofInt 0))) i 4 (.int (Int32.ofInt 0))) 14 12 (.int x1252)) 14 7 12 (.int x1252) := cw_sf_same f1245
              refine cw_n aj_d92 rfl rfl ?_
              refine cw_Wr aj_d92 rfl rfl hT1253 ?_ ?_
              · exact ⟨⟨[], (List.append_nil _).symm⟩, _, cw_CQ_tab (x := 14) (i := i) hT1243 ex1252 (by omega) f1246 ((cw_oa_A (by decide)).mpr a1250) hf (cw_ok_F f1251 f1249 (by decide) (by decide)) (cw_CQ_row hT1235 (Or.inr rfl) f1244 (by decide) (cw_CQ_row hT1228 (Or.inl rfl) f1236 (by decide) (cw_CQ_eq ((cw_o_sa a1227 (cw_nsp hB q1217 (by decide))).trans ((cw_o_sa a1215 (cw_nsp hB q1213 (by decide))).trans rfl)) hQ)))⟩
              · exact cw_gw (s := s) (a := nt.toInt) rfl (by omega) (by omega)
            | none =>
              show cw_W _ _ _ _ _ _ _ _ _ _ 61 [(4, .int nt), (0, .ref (52 + 14)), (1, .long w9), (3, .int b3)] [.null]
              refine cw_n aj_d92 rfl rfl ?_
              refine cw_n aj_d92 rfl rfl ?_
              refine cw_g (i := 14) (v := .ref (52 + 22)) htb.1 aj_d92 rfl rfl (by decide) f1230 ?_
              refine cw_n aj_d92 rfl rfl ?_
              refine cw_newR htb.1 aj_d92 rfl rfl hT1228 rfl rfl rfl rfl rfl (Nat.le_of_ble_eq_true rfl) (by omega) (fun hTn => ?_)
              have qn : (s ++ [58, 94, 95, 96])[(cw_sa (cw_sa h i1213 (.inr (.inl (vp_updL fn1215 (nt.toInt).toNat w9)))) i1217 (.inl (upd fn1227 (nt.toInt).toNat (aj_nar 2 b3)))).length]? = some 58 := by
                rw [hT1228.1, List.getElem?_append_right (Nat.le_refl _), Nat.sub_self]
                rfl
              refine cw_sq htb aj_d92 rfl (q := 22) (cw_A_app a1234) hTn (cw_sapp (cw_s0 hB rfl)) rfl (by decide) (a := nt.toInt) rfl (by omega) (by omega) (i := (cw_sa (cw_sa h i1213 (.inr (.inl (vp_updL fn1215 (nt.toInt).toNat w9)))) i1217 (.inl (upd fn1227 (nt.toInt).toNat (aj_nar 2 b3)))).length) qn ⟨_, by rw [List.getElem?_append_right (Nat.le_refl _), Nat.sub_self]; rfl⟩ (fun hT2 => ?_)
              have Q2 := cw_CQ_new (x := 14) hT1228 ha f1230 a1234 (by omega) hf (cw_CQ_eq ((cw_o_sa a1227 (cw_nsp hB q1217 (by decide))).trans ((cw_o_sa a1215 (cw_nsp hB q1213 (by decide))).trans rfl)) hQ)
              have hB2 := Q2.1.1
              have a10n := cw_sa_same (x' := cw_q (va_up q3 (nt.toInt).toNat (some (52 + (cw_sa (cw_sa h i1213 (.inr (.inl (vp_updL fn1215 (nt.toInt).toNat w9)))) i1217 (.inl (upd fn1227 (nt.toInt).toNat (aj_nar 2 b3)))).length)))) (cw_A_app (X := cw_R (cw_sa (cw_sa h i1213 (.inr (.inl (vp_updL fn1215 (nt.toInt).toNat w9)))) i1217 (.inl (upd fn1227 (nt.toInt).toNat (aj_nar 2 b3)))).length) a1234)
              obtain ⟨-, -, -, -, -, -, -, Z2, -⟩ := id Q2
              obtain ⟨an, q3n, -, f12n, f7m, -, -⟩ := Z2
              have f12n := (cw_fo_F (by decide)).mp f12n
              have f7n : cw_F (cw_sa ((cw_sa (cw_sa h i1213 (.inr (.inl (vp_updL fn1215 (nt.toInt).toNat w9)))) i1217 (.inl (upd fn1227 (nt.toInt).toNat (aj_nar 2 b3)))) ++ cw_R (cw_sa (cw_sa h i1213 (.inr (.inl (vp_updL fn1215 (nt.toInt).toNat w9)))) i1217 (.inl (upd fn1227 (nt.toInt).toNat (aj_nar 2 b3)))).length) 22 (cw_q (va_up q3 (nt.toInt).toNat (some (52 + (cw_sa (cw_sa h i1213 (.inr (.inl (vp_updL fn1215 (nt.toInt).toNat w9)))) i1217 (.inl (upd fn1227 (nt.toInt).toNat (aj_nar 2 b3)))).length))))) 14 7 7 (.ref (52 + 22)) := cw_sa_F (cw_F_app f1230)
              have hfn : (va_up q3 (nt.toInt).toNat (some (52 + (cw_sa (cw_sa h i1213 (.inr (.inl (vp_updL fn1215 (nt.toInt).toNat w9)))) i1217 (.inl (upd fn1227 (nt.toInt).toNat (aj_nar 2 b3)))).length))) (nt.toInt).toNat = some (52 + (cw_sa (cw_sa h i1213 (.inr (.inl (vp_updL fn1215 (nt.toInt).toNat w9)))) i1217 (.inl (upd fn1227 (nt.toInt).toNat (aj_nar 2 b3)))).length) := if_pos rfl
              show cw_W _ _ _ _ _ _ _ _ _ _ 78 [(4, .int nt), (0, .ref (52 + 14)), (1, .long w9), (3, .int b3)] []
              refine cw_n aj_d92 rfl rfl ?_
              refine cw_g (i := 14) (v := .ref (52 + 22)) htb.1 aj_d92 rfl rfl (by decide) f7n ?_
              refine cw_n aj_d92 rfl rfl ?_
              refine cw_ldq (i := 22) htb.1 aj_d92 rfl a10n (a := nt.toInt) rfl (by omega) (by omega) ?_
              rw [hfn]
              show cw_W _ _ _ _ _ _ _ _ _ _ 85 [(4, .int nt), (0, .ref (52 + 14)), (1, .long w9), (3, .int b3)] [.ref (52 + (cw_sa (cw_sa h i1213 (.inr (.inl (vp_updL fn1215 (nt.toInt).toNat w9)))) i1217 (.inl (upd fn1227 (nt.toInt).toNat (aj_nar 2 b3)))).length)]
              refine cw_n aj_d92 rfl rfl ?_
              refine cw_p1 (kind := 1) (by decide) (i := (cw_sa (cw_sa h i1213 (.inr (.inl (vp_updL fn1215 (nt.toInt).toNat w9)))) i1217 (.inl (upd fn1227 (nt.toInt).toNat (aj_nar 2 b3)))).length) (t := 58) (c := 6) (k := 3) (v := .int (Int32.ofInt 0)) (y := (.inl (0, 20000000))) htb aj_d92 rfl rfl hT2 qn rfl rfl rfl (cw_gw (a := (0 : Int)) rfl (by omega) (by omega)) (by decide) rfl rfl (fun hT1261 => ?_)
              obtain ⟨v1262, f1262, g1262⟩ := cw_tyF (i := (cw_sa (cw_sa h i1213 (.inr (.inl (vp_updL fn1215 (nt.toInt).toNat w9)))) i1217 (.inl (upd fn1227 (nt.toInt).toNat (aj_nar 2 b3)))).length) (t := 58) (c := 6) (k := 3) (y := (.inl (0, 20000000))) hT2 qn rfl rfl rfl
              obtain ⟨x1262, rfl, b1262⟩ := ak_gi g1262
              dsimp only [ak_win] at b1262
              have f1263 : cw_F (cw_sf (cw_sa ((cw_sa (cw_sa h i1213 (.inr (.inl (vp_updL fn1215 (nt.toInt).toNat w9)))) i1217 (.inl (upd fn1227 (nt.toInt).toNat (aj_nar 2 b3)))) ++ cw_R (cw_sa (cw_sa h i1213 (.inr (.inl (vp_updL fn1215 (nt.toInt).toNat w9)))) i1217 (.inl (upd fn1227 (nt.toInt).toNat (aj_nar 2 b3)))).length) 22 (cw_q (va_up q3 (nt.toInt).toNat (some (52 + (cw_sa (cw_sa h i1213 (.inr (.inl (vp_updL fn1215 (nt.toInt).toNat w9)))) i1217 (.inl (upd fn1227 (nt.toInt).toNat (aj_nar 2 b3)))).length))))) (cw_sa (cw_sa h i1213 (.inr (.inl (vp_updL fn1215 (nt.toInt).toNat w9)))) i1217 (.inl (upd fn1227 (nt.toInt).toNat (aj_nar 2 b3)))).length 3 (.int (Int32.ofInt 0))) 14 7 12 (.int nt) := cw_sf_ne f12n (Or.inr (by decide))
              have f1264 : cw_F (cw_sf (cw_sa ((cw_sa (cw_sa h i1213 (.inr (.inl (vp_updL fn1215 (nt.toInt).toNat w9)))) i1217 (.inl (upd fn1227 (nt.toInt).toNat (aj_nar 2 b3)))) ++ cw_R (cw_sa (cw_sa h i1213 (.inr (.inl (vp_updL fn1215 (nt.toInt).toNat w9)))) i1217 (.inl (upd fn1227 (nt.toInt).toNat (aj_nar 2 b3)))).length) 22 (cw_q (va_up q3 (nt.toInt).toNat (some (52 + (cw_sa (cw_sa h i1213 (.inr (.inl (vp_updL fn1215 (nt.toInt).toNat w9)))) i1217 (.inl (upd fn1227 (nt.toInt).toNat (aj_nar 2 b3)))).length))))) (cw_sa (cw_sa h i1213 (.inr (.inl (vp_updL fn1215 (nt.toInt).toNat w9)))) i1217 (.inl (upd fn1227 (nt.toInt).toNat (aj_nar 2 b3)))).length 3 (.int (Int32.ofInt 0))) 14 7 7 (.ref (52 + 22)) := cw_sf_ne f7n (Or.inr (by decide))
              have a1265 : cw_A (cw_sf (cw_sa ((cw_sa (cw_sa h i1213 (.inr (.inl (vp_updL fn1215 (nt.toInt).toNat w9)))) i1217 (.inl (upd fn1227 (nt.toInt).toNat (aj_nar 2 b3)))) ++ cw_R (cw_sa (cw_sa h i1213 (.inr (.inl (vp_updL fn1215 (nt.toInt).toNat w9)))) i1217 (.inl (upd fn1227 (nt.toInt).toNat (aj_nar 2 b3)))).length) 22 (cw_q (va_up q3 (nt.toInt).toNat (some (52 + (cw_sa (cw_sa h i1213 (.inr (.inl (vp_updL fn1215 (nt.toInt).toNat w9)))) i1217 (.inl (upd fn1227 (nt.toInt).toNat (aj_nar 2 b3)))).length))))) (cw_sa (cw_sa h i1213 (.inr (.inl (vp_updL fn1215 (nt.toInt).toNat w9)))) i1217 (.inl (upd fn1227 (nt.toInt).toNat (aj_nar 2 b3)))).length 3 (.int (Int32.ofInt 0))) 22 5 10 (.inr (.inr (.inr (.inr (va_up q3 (nt.toInt).toNat (some (52 + (cw_sa (cw_sa h i1213 (.inr (.inl (vp_updL fn1215 (nt.toInt).toNat w9)))) i1217 (.inl (upd fn1227 (nt.toInt).toNat (aj_nar 2 b3)))).length))))))) := cw_sf_A a10n
              have f1266 : cw_F (cw_sf (cw_sa ((cw_sa (cw_sa h i1213 (.inr (.inl (vp_updL fn1215 (nt.toInt).toNat w9)))) i1217 (.inl (upd fn1227 (nt.toInt).toNat (aj_nar 2 b3)))) ++ cw_R (cw_sa (cw_sa h i1213 (.inr (.inl (vp_updL fn1215 (nt.toInt).toNat w9)))) i1217 (.inl (upd fn1227 (nt.toInt).toNat (aj_nar 2 b3)))).length) 22 (cw_q (va_up q3 (nt.toInt).toNat (some (52 + (cw_sa (cw_sa h i1213 (.inr (.inl (vp_updL fn1215 (nt.toInt).toNat w9)))) i1217 (.inl (upd fn1227 (nt.toInt).toNat (aj_nar 2 b3)))).length))))) (cw_sa (cw_sa h i1213 (.inr (.inl (vp_updL fn1215 (nt.toInt).toNat w9)))) i1217 (.inl (upd fn1227 (nt.toInt).toNat (aj_nar 2 b3)))).length 3 (.int (Int32.ofInt 0))) (cw_sa (cw_sa h i1213 (.inr (.inl (vp_updL fn1215 (nt.toInt).toNat w9)))) i1217 (.inl (upd fn1227 (nt.toInt).toNat (aj_nar 2 b3)))).length 6 3 (.int (Int32.ofInt 0)) := cw_sf_same f1262
              refine cw_n aj_d92 rfl rfl ?_
              refine cw_g (i := 14) (v := .ref (52 + 22)) htb.1 aj_d92 rfl rfl (by decide) f1264 ?_
              refine cw_n aj_d92 rfl rfl ?_
              refine cw_ldq (i := 22) htb.1 aj_d92 rfl a1265 (a := nt.toInt) rfl (by omega) (by omega) ?_
              rw [hfn]
              show cw_W _ _ _ _ _ _ _ _ _ _ 96 [(4, .int nt), (0, .ref (52 + 14)), (1, .long w9), (3, .int b3)] [.ref (52 + (cw_sa (cw_sa h i1213 (.inr (.inl (vp_updL fn1215 (nt.toInt).toNat w9)))) i1217 (.inl (upd fn1227 (nt.toInt).toNat (aj_nar 2 b3)))).length)]
              refine cw_n aj_d92 rfl rfl ?_
              refine cw_p1 (kind := 1) (by decide) (i := (cw_sa (cw_sa h i1213 (.inr (.inl (vp_updL fn1215 (nt.toInt).toNat w9)))) i1217 (.inl (upd fn1227 (nt.toInt).toNat (aj_nar 2 b3)))).length) (t := 58) (c := 6) (k := 4) (v := .int (Int32.ofInt 0)) (y := (.inl (0, 20000000))) htb aj_d92 rfl rfl hT1261 qn rfl rfl rfl (cw_gw (a := (0 : Int)) rfl (by omega) (by omega)) (by decide) rfl rfl (fun hT1267 => ?_)
              obtain ⟨v1268, f1268, g1268⟩ := cw_tyF (i := (cw_sa (cw_sa h i1213 (.inr (.inl (vp_updL fn1215 (nt.toInt).toNat w9)))) i1217 (.inl (upd fn1227 (nt.toInt).toNat (aj_nar 2 b3)))).length) (t := 58) (c := 6) (k := 4) (y := (.inl (0, 20000000))) hT1261 qn rfl rfl rfl
              obtain ⟨x1268, rfl, b1268⟩ := ak_gi g1268
              dsimp only [ak_win] at b1268
              have f1269 : cw_F (cw_sf (cw_sf (cw_sa ((cw_sa (cw_sa h i1213 (.inr (.inl (vp_updL fn1215 (nt.toInt).toNat w9)))) i1217 (.inl (upd fn1227 (nt.toInt).toNat (aj_nar 2 b3)))) ++ cw_R (cw_sa (cw_sa h i1213 (.inr (.inl (vp_updL fn1215 (nt.toInt).toNat w9)))) i1217 (.inl (upd fn1227 (nt.toInt).toNat (aj_nar 2 b3)))).length) 22 (cw_q (va_up q3 (nt.toInt).toNat (some (52 + (cw_sa (cw_sa h i1213 (.inr (.inl (vp_updL fn1215 (nt.toInt).toNat w9)))) i1217 (.inl (upd fn1227 (nt.toInt).toNat (aj_nar 2 b3)))).length))))) (cw_sa (cw_sa h i1213 (.inr (.inl (vp_updL fn1215 (nt.toInt).toNat w9)))) i1217 (.inl (upd fn1227 (nt.toInt).toNat (aj_nar 2 b3)))).length 3 (.int (Int32.ofInt 0))) (cw_sa (cw_sa h i1213 (.inr (.inl (vp_updL fn1215 (nt.toInt).toNat w9)))) i1217 (.inl (upd fn1227 (nt.toInt).toNat (aj_nar 2 b3)))).length 4 (.int (Int32.ofInt 0))) 14 7 12 (.int nt) := cw_sf_ne f1263 (Or.inr (by decide))
              have f1270 : cw_F (cw_sf (cw_sf (cw_sa ((cw_sa (cw_sa h i1213 (.inr (.inl (vp_updL fn1215 (nt.toInt).toNat w9)))) i1217 (.inl (upd fn1227 (nt.toInt).toNat (aj_nar 2 b3)))) ++ cw_R (cw_sa (cw_sa h i1213 (.inr (.inl (vp_updL fn1215 (nt.toInt).toNat w9)))) i1217 (.inl (upd fn1227 (nt.toInt).toNat (aj_nar 2 b3)))).length) 22 (cw_q (va_up q3 (nt.toInt).toNat (some (52 + (cw_sa (cw_sa h i1213 (.inr (.inl (vp_updL fn1215 (nt.toInt).toNat w9)))) i1217 (.inl (upd fn1227 (nt.toInt).toNat (aj_nar 2 b3)))).length))))) (cw_sa (cw_sa h i1213 (.inr (.inl (vp_updL fn1215 (nt.toInt).toNat w9)))) i1217 (.inl (upd fn1227 (nt.toInt).toNat (aj_nar 2 b3)))).length 3 (.int (Int32.ofInt 0))) (cw_sa (cw_sa h i1213 (.inr (.inl (vp_updL fn1215 (nt.toInt).toNat w9)))) i1217 (.inl (upd fn1227 (nt.toInt).toNat (aj_nar 2 b3)))).length 4 (.int (Int32.ofInt 0))) 14 7 7 (.ref (52 + 22)) := cw_sf_ne f1264 (Or.inr (by decide))
              have f1271 : cw_F (cw_sf (cw_sf (cw_sa ((cw_sa (cw_sa h i1213 (.inr (.inl (vp_updL fn1215 (nt.toInt).toNat w9)))) i1217 (.inl (upd fn1227 (nt.toInt).toNat (aj_nar 2 b3)))) ++ cw_R (cw_sa (cw_sa h i1213 (.inr (.inl (vp_updL fn1215 (nt.toInt).toNat w9)))) i1217 (.inl (upd fn1227 (nt.toInt).toNat (aj_nar 2 b3)))).length) 22 (cw_q (va_up q3 (nt.toInt).toNat (some (52 + (cw_sa (cw_sa h i1213 (.inr (.inl (vp_updL fn1215 (nt.toInt).toNat w9)))) i1217 (.inl (upd fn1227 (nt.toInt).toNat (aj_nar 2 b3)))).length))))) (cw_sa (cw_sa h i1213 (.inr (.inl (vp_updL fn1215 (nt.toInt).toNat w9)))) i1217 (.inl (upd fn1227 (nt.toInt).toNat (aj_nar 2 b3)))).length 3 (.int (Int32.ofInt 0))) (cw_sa (cw_sa h i1213 (.inr (.inl (vp_updL fn1215 (nt.toInt).toNat w9)))) i1217 (.inl (upd fn1227 (nt.toInt).toNat (aj_nar 2 b3)))).length 4 (.int (Int32.ofInt 0))) (cw_sa (cw_sa h i1213 (.inr (.inl (vp_updL fn1215 (nt.toInt).toNat w9)))) i1217 (.inl (upd fn1227 (nt.toInt).toNat (aj_nar 2 b3)))).length 6 3 (.int (Int32.ofInt 0)) := cw_sf_ne f1266 (Or.inr (by decide))
              have a1272 : cw_A (cw_sf (cw_sf (cw_sa ((cw_sa (cw_sa h i1213 (.inr (.inl (vp_updL fn1215 (nt.toInt).toNat w9)))) i1217 (.inl (upd fn1227 (nt.toInt).toNat (aj_nar 2 b3)))) ++ cw_R (cw_sa (cw_sa h i1213 (.inr (.inl (vp_updL fn1215 (nt.toInt).toNat w9)))) i1217 (.inl (upd fn1227 (nt.toInt).toNat (aj_nar 2 b3)))).length) 22 (cw_q (va_up q3 (nt.toInt).toNat (some (52 + (cw_sa (cw_sa h i1213 (.inr (.inl (vp_updL fn1215 (nt.toInt).toNat w9)))) i1217 (.inl (upd fn1227 (nt.toInt).toNat (aj_nar 2 b3)))).length))))) (cw_sa (cw_sa h i1213 (.inr (.inl (vp_updL fn1215 (nt.toInt).toNat w9)))) i1217 (.inl (upd fn1227 (nt.toInt).toNat (aj_nar 2 b3)))).length 3 (.int (Int32.ofInt 0))) (cw_sa (cw_sa h i1213 (.inr (.inl (vp_updL fn1215 (nt.toInt).toNat w9)))) i1217 (.inl (upd fn1227 (nt.toInt).toNat (aj_nar 2 b3)))).length 4 (.int (Int32.ofInt 0))) 22 5 10 (.inr (.inr (.inr (.inr (va_up q3 (nt.toInt).toNat (some (52 + (cw_sa (cw_sa h i1213 (.inr (.inl (vp_updL fn1215 (nt.toInt).toNat w9)))) i1217 (.inl (upd fn1227 (nt.toInt).toNat (aj_nar 2 b3)))).length))))))) := cw_sf_A a1265
              have f1273 : cw_F (cw_sf (cw_sf (cw_sa ((cw_sa (cw_sa h i1213 (.inr (.inl (vp_updL fn1215 (nt.toInt).toNat w9)))) i1217 (.inl (upd fn1227 (nt.toInt).toNat (aj_nar 2 b3)))) ++ cw_R (cw_sa (cw_sa h i1213 (.inr (.inl (vp_updL fn1215 (nt.toInt).toNat w9)))) i1217 (.inl (upd fn1227 (nt.toInt).toNat (aj_nar 2 b3)))).length) 22 (cw_q (va_up q3 (nt.toInt).toNat (some (52 + (cw_sa (cw_sa h i1213 (.inr (.inl (vp_updL fn1215 (nt.toInt).toNat w9)))) i1217 (.inl (upd fn1227 (nt.toInt).toNat (aj_nar 2 b3)))).length))))) (cw_sa (cw_sa h i1213 (.inr (.inl (vp_updL fn1215 (nt.toInt).toNat w9)))) i1217 (.inl (upd fn1227 (nt.toInt).toNat (aj_nar 2 b3)))).length 3 (.int (Int32.ofInt 0))) (cw_sa (cw_sa h i1213 (.inr (.inl (vp_updL fn1215 (nt.toInt).toNat w9)))) i1217 (.inl (upd fn1227 (nt.toInt).toNat (aj_nar 2 b3)))).length 4 (.int (Int32.ofInt 0))) (cw_sa (cw_sa h i1213 (.inr (.inl (vp_updL fn1215 (nt.toInt).toNat w9)))) i1217 (.inl (upd fn1227 (nt.toInt).toNat (aj_nar 2 b3)))).length 6 4 (.int (Int32.ofInt 0)) := cw_sf_same f1268
              refine cw_n aj_d92 rfl rfl ?_
              refine cw_n aj_d92 rfl rfl ?_
              refine cw_g (i := 14) (v := .int nt) htb.1 aj_d92 rfl rfl (by decide) f1269 ?_
              refine cw_n aj_d92 rfl rfl ?_
              refine cw_add aj_d92 rfl (a := nt.toInt) (b := (1 : Int)) rfl rfl (by omega) (by omega) (fun x1274 ex1274 => ?_)
              refine cw_p (i := 14) (t := 59) (c := 7) (k := 12) (v := .int x1274) (y := (.inl (0, 10))) htb aj_d92 rfl rfl hT1267 (cw_s0 hB2 rfl) rfl rfl rfl (cw_gw (a := x1274.toInt) rfl (by omega) (by omega)) (by decide) rfl rfl (fun hT1275 => ?_)
              have f1276 : cw_F (cw_sf (cw_sf (cw_sf (cw_sa ((cw_sa (cw_sa h i1213 (.inr (.inl (vp_updL fn1215 (nt.toInt).toNat w9)))) i1217 (.inl (upd fn1227 (nt.toInt).toNat (aj_nar 2 b3)))) ++ cw_R (cw_sa (cw_sa h i1213 (.inr (.inl (vp_updL fn1215 (nt.toInt).toNat w9)))) i1217 (.inl (upd fn1227 (nt.toInt).toNat (aj_nar 2 b3)))).length) 22 (cw_q (va_up q3 (nt.toInt).toNat (some (52 + (cw_sa (cw_sa h i1213 (.inr (.inl (vp_updL fn1215 (nt.toInt).toNat w9)))) i1217 (.inl (upd fn1227 (nt.toInt).toNat (aj_nar 2 b3)))).length))))) (cw_sa (cw_sa h i1213 (.inr (.inl (vp_updL fn1215 (nt.toInt).toNat w9)))) i1217 (.inl (upd fn1227 (nt.toInt).toNat (aj_nar 2 b3)))).length 3 (.int (Int32.ofInt 0))) (cw_sa (cw_sa h i1213 (.inr (.inl (vp_updL fn1215 (nt.toInt).toNat w9)))) i1217 (.inl (upd fn1227 (nt.toInt).toNat (aj_nar 2 b3)))).length 4 (.int (Int32.ofInt 0))) 14 12 (.int x1274)) 14 7 7 (.ref (52 + 22)) := cw_sf_ne f1270 (Or.inr (by decide))
              have f1277 : cw_F (cw_sf (cw_sf (cw_sf (cw_sa ((cw_sa (cw_sa h i1213 (.inr (.inl (vp_updL fn1215 (nt.toInt).toNat w9)))) i1217 (.inl (upd fn1227 (nt.toInt).toNat (aj_nar 2 b3)))) ++ cw_R (cw_sa (cw_sa h i1213 (.inr (.inl (vp_updL fn1215 (nt.toInt).toNat w9)))) i1217 (.inl (upd fn1227 (nt.toInt).toNat (aj_nar 2 b3)))).length) 22 (cw_q (va_up q3 (nt.toInt).toNat (some (52 + (cw_sa (cw_sa h i1213 (.inr (.inl (vp_updL fn1215 (nt.toInt).toNat w9)))) i1217 (.inl (upd fn1227 (nt.toInt).toNat (aj_nar 2 b3)))).length))))) (cw_sa (cw_sa h i1213 (.inr (.inl (vp_updL fn1215 (nt.toInt).toNat w9)))) i1217 (.inl (upd fn1227 (nt.toInt).toNat (aj_nar 2 b3)))).length 3 (.int (Int32.ofInt 0))) (cw_sa (cw_sa h i1213 (.inr (.inl (vp_updL fn1215 (nt.toInt).toNat w9)))) i1217 (.inl (upd fn1227 (nt.toInt).toNat (aj_nar 2 b3)))).length 4 (.int (Int32.ofInt 0))) 14 12 (.int x1274)) (cw_sa (cw_sa h i1213 (.inr (.inl (vp_updL fn1215 (nt.toInt).toNat w9)))) i1217 (.inl (upd fn1227 (nt.toInt).toNat (aj_nar 2 b3)))).length 6 3 (.int (Int32.ofInt 0)) := cw_sf_ne f1271 (Or.inr (by decide))
              have f1278 : cw_F (cw_sf (cw_sf (cw_sf (cw_sa ((cw_sa (cw_sa h i1213 (.inr (.inl (vp_updL fn1215 (nt.toInt).toNat w9)))) i1217 (.inl (upd fn1227 (nt.toInt).toNat (aj_nar 2 b3)))) ++ cw_R (cw_sa (cw_sa h i1213 (.inr (.inl (vp_updL fn1215 (nt.toInt).toNat w9)))) i1217 (.inl (upd fn1227 (nt.toInt).toNat (aj_nar 2 b3)))).length) 22 (cw_q (va_up q3 (nt.toInt).toNat (some (52 + (cw_sa (cw_sa h i1213 (.inr (.inl (vp_updL fn1215 (nt.toInt).toNat w9)))) i1217 (.inl (upd fn1227 (nt.toInt).toNat (aj_nar 2 b3)))).length))))) (cw_sa (cw_sa h i1213 (.inr (.inl (vp_updL fn1215 (nt.toInt).toNat w9)))) i1217 (.inl (upd fn1227 (nt.toInt).toNat (aj_nar 2 b3)))).length 3 (.int (Int32.ofInt 0))) (cw_sa (cw_sa h i1213 (.inr (.inl (vp_updL fn1215 (nt.toInt).toNat w9)))) i1217 (.inl (upd fn1227 (nt.toInt).toNat (aj_nar 2 b3)))).length 4 (.int (Int32.ofInt 0))) 14 12 (.int x1274)) (cw_sa (cw_sa h i1213 (.inr (.inl (vp_updL fn1215 (nt.toInt).toNat w9)))) i1217 (.inl (upd fn1227 (nt.toInt).toNat (aj_nar 2 b3)))).length 6 4 (.int (Int32.ofInt 0)) := cw_sf_ne f1273 (Or.inr (by decide))
              have a1279 : cw_A (cw_sf (cw_sf (cw_sf (cw_sa ((cw_sa (cw_sa h i1213 (.inr (.inl (vp_updL fn1215 (nt.toInt).toNat w9)))) i1217 (.inl (upd fn1227 (nt.toInt).toNat (aj_nar 2 b3)))) ++ cw_R (cw_sa (cw_sa h i1213 (.inr (.inl (vp_updL fn1215 (nt.toInt).toNat w9)))) i1217 (.inl (upd fn1227 (nt.toInt).toNat (aj_nar 2 b3)))).length) 22 (cw_q (va_up q3 (nt.toInt).toNat (some (52 + (cw_sa (cw_sa h i1213 (.inr (.inl (vp_updL fn1215 (nt.toInt).toNat w9)))) i1217 (.inl (upd fn1227 (nt.toInt).toNat (aj_nar 2 b3)))).length))))) (cw_sa (cw_sa h i1213 (.inr (.inl (vp_updL fn1215 (nt.toInt).toNat w9)))) i1217 (.inl (upd fn1227 (nt.toInt).toNat (aj_nar 2 b3)))).length 3 (.int (Int32.ofInt 0))) (cw_sa (cw_sa h i1213 (.inr (.inl (vp_updL fn1215 (nt.toInt).toNat w9)))) i1217 (.inl (upd fn1227 (nt.toInt).toNat (aj_nar 2 b3)))).length 4 (.int (Int32.ofInt 0))) 14 12 (.int x1274)) 22 5 10 (.inr (.inr (.inr (.inr (va_up q3 (nt.toInt).toNat (some (52 + (cw_sa (cw_sa h i1213 (.inr (.inl (vp_updL fn1215 (nt.toInt).toNat w9)))) i1217 (.inl (upd fn1227 (nt.toInt).toNat (aj_nar 2 b3)))).length))))))) := cw_sf_A a1272
              have f1280 : cw_F (cw_sf (cw_sf (cw_sf (cw_sa ((cw_sa (cw_sa h i1213 (.inr (.inl (vp_updL fn1215 (nt.toInt).toNat w9)))) i1217 (.inl (upd fn1227 (nt.toInt).toNat (aj_nar 2 b3)))) ++ cw_R (cw_sa (cw_sa h i1213 (.inr (.inl (vp_updL fn1215 (nt.toInt).toNat w9)))) i1217 (.inl (upd fn1227 (nt.toInt).toNat (aj_nar 2 b3)))).length) 22 (cw_q (va_up q3 (nt.toInt).toNat (some (52 + (cw_sa (cw_sa h i1213 (.inr (.inl (vp_updL fn1215 (nt.toInt).toNat w9)))) i1217 (.inl (upd fn1227 (nt.toInt).toNat (aj_nar 2 b3)))).length))))) (cw_sa (cw_sa h i1213 (.inr (.inl (vp_updL fn1215 (nt.toInt).toNat w9)))) i1217 (.inl (upd fn1227 (nt.toInt).toNat (aj_nar 2 b3)))).length 3 (.int (Int32.ofInt 0))) (cw_sa (cw_sa h i1213 (.inr (.inl (vp_updL fn1215 (nt.toInt).toNat w9)))) i1217 (.inl (upd fn1227 (nt.toInt).toNat (aj_nar 2 b3)))).length 4 (.int (Int32.ofInt 0))) 14 12 (.int x1274)) 14 7 12 (.int x1274) := cw_sf_same f1269
              refine cw_n aj_d92 rfl rfl ?_
              refine cw_Wr aj_d92 rfl rfl hT1275 ?_ ?_
              · exact ⟨⟨_, rfl⟩, _, cw_CQ_tab (x := 14) (i := (cw_sa (cw_sa h i1213 (.inr (.inl (vp_updL fn1215 (nt.toInt).toNat w9)))) i1217 (.inl (upd fn1227 (nt.toInt).toNat (aj_nar 2 b3)))).length) hT1267 ex1274 (by omega) f1270 ((cw_oa_A (by decide)).mpr a1272) hfn (cw_ok_F f1273 f1271 (by decide) (by decide)) (cw_CQ_row hT1261 (Or.inr rfl) f1268 (by decide) (cw_CQ_row hT2 (Or.inl rfl) f1262 (by decide) Q2))⟩
              · exact cw_gw (s := s) (a := nt.toInt) rfl (by omega) (by omega)
          · have q1220 : nt.toInt ≥ (10 : Int) := aw_t_lt (a := nt.toInt) (b := (10 : Int)) rfl ex1218 q1220
            refine cw_n aj_d92 rfl rfl ?_
            refine cw_Wr aj_d92 rfl rfl hT ?_ ?_
            · exact ⟨⟨[], (List.append_nil _).symm⟩, _, (cw_CQ_eq rfl hQ)⟩
            · exact cw_gw (s := s) (a := -1) rfl (by decide) (by decide)
end CW84
