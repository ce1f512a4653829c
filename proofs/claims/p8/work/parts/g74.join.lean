/-! * BY HAND (printed by wip/p2/cwalk/g74.py) -/
section CW74B
variable {T : ak_TT} {Φ : List Nat → Option Value → aj_H → Prop} {tb : aj_T} {d : Nat} {mm : aj_M} {con : ak_Con} {s : List Nat} {h : aj_H} {kc ks pc : Nat} {lv : aj_V} {st rest : List Value} {ct : List (Nat × Instr × Nat)} {i c k t : Nat} {v : Value}
theorem cw_p1 {kind : Nat} (hk2 : kind < 2) (htb : ak_tbOK T tb) (hct : aj_ctOK ct mm.2.1) {idx : Nat} (hd : aj_ct ct pc = some (.putfield idx, 3)) (hlk : aj_link mm.2.2.2.2.2.1 idx = some (kind, c, k, 0)) (hT : ak_Ty T s h) (hs : s[i]? = some t) (ht : T.1[t]? = some (.inl c)) {fa : List ak_A} (hfa : T.2.1[c]? = some fa) {y : ak_A} (hy : fa[k]? = some y) (hv : ak_gam s y v) (hM : (c, k) ∈ con.2.2.2.1.2) {q : aj_C} (hq : aj_cls[c]? = some q) (hf : aj_fit (q.2.2.2 k) v = true) (kk : ak_Ty T s (cw_sf h i k v) → cw_W T Φ tb d mm con s (cw_sf h i k v) kc ks (pc + 3) lv rest) : cw_W T Φ tb d mm con s h kc ks pc lv (v :: .ref (52 + i) :: rest) := by
  obtain ⟨w, ⟨fs, f1, f2⟩, -⟩ := cw_tyF (k := k) hT hs ht hfa hy
  have e := cw_sf_eq (k := k) (v := v) f1
  obtain ⟨g1, -, g3, -⟩ := ak_seto (T := (T.1, T.2.1, [], [])) (SP := fun _ _ => True) (M := con.2.2.2.1) (cw_Tn htb) hT trivial cw_SPt f1 hs ht hfa hy hv hM (fun z => by cases z)
  have kk := kk (by rw [e]; exact g1)
  rw [e] at kk
  refine cw_Wn hct hd ?_ g3 kk
  have ho : aj_obj tb h (52 + i) = some (c, fs) := by
    unfold aj_obj
    rw [htb.1, if_neg (by omega), Nat.add_sub_cancel_left, f1]
  unfold aj_step aj_putf
  dsimp only
  rw [if_pos rfl, hlk, ho]
  dsimp only
  rw [hq]
  dsimp only
  rw [if_pos ⟨hk2, rfl, (List.getElem?_eq_some_iff.mp f2).1, hf, Or.inl rfl⟩, htb.1, Nat.add_sub_cancel_left]
  rfl
end CW74B
section CW74
variable {Φ : List Nat → Option Value → aj_H → Prop} {tb : aj_T} {s : List Nat} {h h' h0 : aj_H} {d : Nat} {i j p : Nat} {b b' b2 : Int} {o o' o2 : cw_O} {v w : Int32}
abbrev cw_EJ : Nat → Nat → Nat → Prop := fun a c k => c = 6 ∨ (c = 4 ∧ k ≠ 4) ∨ (a = 43 ∧ c = 9 ∧ k = 5)
theorem cw_mulb {a b : Int} (ha : 0 ≤ a ∧ a ≤ 46000) (hb : 0 ≤ b ∧ b ≤ 46000) : -2147483648 ≤ a * b ∧ a * b ≤ 2147483647 ∧ 0 ≤ a * b := by
  have h1 := Int.mul_nonneg ha.1 hb.1
  have h2 : a * b ≤ 46000 * 46000 := Int.mul_le_mul ha.2 hb.2 hb.1 (by decide)
  omega
theorem cw_mul1 {a c l : Int} (h1 : a + 1 ≤ l) (h2 : 0 ≤ c) (h3 : l * c ≤ 30) : a * c + c ≤ 30 := by
  have h4 : (a + 1) * c ≤ l * c := Int.mul_le_mul_of_nonneg_right h1 h2
  rw [Int.add_mul, Int.one_mul] at h4
  omega
theorem cw_jn_in {d : Nat} (hd : 4 ≤ d) (htb : ak_tbOK ak_CW tb) (qi : s[i]? = some 58) (qj : s[j]? = some 58) (qp : s[p]? = some 58) (hip : i ≠ p) (hjp : j ≠ p) {x3 m l0 hr : Int32} (hlr : 0 ≤ l0.toInt ∧ l0.toInt ≤ 46000 ∧ 0 ≤ hr.toInt ∧ hr.toInt ≤ 46000) {x5 : Int32} {y0 : Int} (h5 : 0 ≤ x5.toInt ∧ x5.toInt < l0.toInt) (hy0 : 0 ≤ y0 ∧ y0 + hr.toInt ≤ 30) : ∀ (n : Nat) {h : aj_H} {lv : aj_V} {kc ks : Nat} {x6 y : Int32} (hT : ak_Ty ak_CW s h) (hI : cw_I cw_XB s h) (hK : cw_kp (cw_Eh p) cw_E0 (cw_o h0) (cw_o h)) (fp : cw_F h p 6 4 (.int y)) (fi : cw_F h i 6 4 (.int l0)) (fj : cw_F h j 6 4 (.int hr)) (fs : cw_F h 43 9 5 (.ref (52 + p))) (hl0 : aj_lv lv 0 = some (.ref (52 + 43))) (hl1 : aj_lv lv 1 = some (.ref (52 + i))) (hl2 : aj_lv lv 2 = some (.ref (52 + j))) (hl3 : aj_lv lv 3 = some (.int x3)) (hl4 : aj_lv lv 4 = some (.int m)) (hl5 : aj_lv lv 5 = some (.int x5)) (hl6 : aj_lv lv 6 = some (.int x6)) (hy : y.toInt = y0 + x6.toInt) (h6 : 0 ≤ x6.toInt ∧ x6.toInt ≤ hr.toInt) (hn : hr.toInt - x6.toInt ≤ n) (kk : ∀ {h : aj_H} {lv : aj_V} {kc ks : Nat} {y : Int32}, ak_Ty ak_CW s h → cw_I cw_XB s h → cw_kp (cw_Eh p) cw_E0 (cw_o h0) (cw_o h) → cw_F h p 6 4 (.int y) → y.toInt = y0 + hr.toInt → aj_lv lv 0 = some (.ref (52 + 43)) → aj_lv lv 1 = some (.ref (52 + i)) → aj_lv lv 2 = some (.ref (52 + j)) → aj_lv lv 3 = some (.int x3) → aj_lv lv 4 = some (.int m) → aj_lv lv 5 = some (.int x5) → cw_W ak_CW Φ tb d aj_m115 (cw_nW 115 none) s h kc ks 83 lv []), cw_W ak_CW Φ tb d aj_m115 (cw_nW 115 none) s h kc ks 56 lv [] := by
  intro n
  induction n with
  | zero =>
    intro h lv kc ks x6 y hT hI hK fp fi fj fs hl0 hl1 hl2 hl3 hl4 hl5 hl6 hy h6 hn kk
    have hB := hI.1
    refine cw_l0 aj_d115 rfl rfl hl6 ?_
    refine cw_l2 aj_d115 rfl rfl hl2 ?_
    refine cw_g (i := j) (v := .int hr) htb.1 aj_d115 rfl rfl (by decide) fj ?_
    refine cw_c (tgt := 83) aj_d115 rfl rfl (fun q1001 => ?_) (fun q1001 => ?_)
    · have q1001 : x6.toInt ≥ hr.toInt := aw_t_ge (a := x6.toInt) (b := hr.toInt) rfl rfl q1001
      exact kk hT hI hK fp (by omega) hl0 hl1 hl2 hl3 hl4 hl5
    · have q1001 : x6.toInt < hr.toInt := aw_t_ge (a := x6.toInt) (b := hr.toInt) rfl rfl q1001
      exfalso
      omega
  | succ n ih =>
    intro h lv kc ks x6 y hT hI hK fp fi fj fs hl0 hl1 hl2 hl3 hl4 hl5 hl6 hy h6 hn kk
    have hB := hI.1
    refine cw_l0 aj_d115 rfl rfl hl6 ?_
    refine cw_l2 aj_d115 rfl rfl hl2 ?_
    refine cw_g (i := j) (v := .int hr) htb.1 aj_d115 rfl rfl (by decide) fj ?_
    refine cw_c (tgt := 83) aj_d115 rfl rfl (fun q1002 => ?_) (fun q1002 => ?_)
    · have q1002 : x6.toInt ≥ hr.toInt := aw_t_ge (a := x6.toInt) (b := hr.toInt) rfl rfl q1002
      exact kk hT hI hK fp (by omega) hl0 hl1 hl2 hl3 hl4 hl5
    · have q1002 : x6.toInt < hr.toInt := aw_t_ge (a := x6.toInt) (b := hr.toInt) rfl rfl q1002
      refine cw_l2 aj_d115 rfl rfl hl0 ?_
      refine cw_l2 aj_d115 rfl rfl hl1 ?_
      refine cw_l0 aj_d115 rfl rfl hl5 ?_
      refine cw_l2 aj_d115 rfl rfl hl2 ?_
      refine cw_l0 aj_d115 rfl rfl hl6 ?_
      refine cw_l0 aj_d115 rfl rfl hl4 ?_
      refine cw_k0 (i := 43) (t := 61) (con' := cw_nW 118 none) aj_d115 htb hT rfl rfl [_, _, _, _, _] rfl rfl (cw_s0 hB rfl) rfl (Nat.le_of_ble_eq_true rfl) ⟨by decide, by decide⟩ (cw_joinRow htb hT hI (by omega) (row := x5) (oth := x6) (m := m) qi qj qp fs fp (by omega) (by omega) (by omega)) ?_
      rintro rjr1003 hjr1003 hTjr1003 ⟨rfl, Ijr1003, kjr1003, yjr1003, eyjr1003, fjr1003⟩ hRjr1003
      show cw_W _ _ _ _ _ _ _ _ _ _ 77 lv []
      refine cw_inc aj_d115 rfl hl6 (a := x6.toInt) rfl (by omega) (by omega) (by decide) (by decide) (fun x1004 ex1004 => ?_)
      obtain ⟨lv1005, elv1005⟩ : ∃ l, l = aj_set1 lv 6 (.int x1004) := ⟨_, rfl⟩
      rw [← elv1005]
      have hlv1005_0 : aj_lv lv1005 0 = some (.ref (52 + 43)) := cw_e1 elv1005 hl0 (by decide) (Or.inl (by decide))
      have hlv1005_1 : aj_lv lv1005 1 = some (.ref (52 + i)) := cw_e1 elv1005 hl1 (by decide) (Or.inl (by decide))
      have hlv1005_2 : aj_lv lv1005 2 = some (.ref (52 + j)) := cw_e1 elv1005 hl2 (by decide) (Or.inl (by decide))
      have hlv1005_3 : aj_lv lv1005 3 = some (.int x3) := cw_e1 elv1005 hl3 (by decide) (Or.inl (by decide))
      have hlv1005_4 : aj_lv lv1005 4 = some (.int m) := cw_e1 elv1005 hl4 (by decide) (Or.inl (by decide))
      have hlv1005_5 : aj_lv lv1005 5 = some (.int x5) := cw_e1 elv1005 hl5 (by decide) (Or.inr rfl)
      have hlv1005_6 : aj_lv lv1005 6 = some (.int x1004) := by rw [elv1005]; exact ak_set1_eq _ _ _
      show cw_W _ _ _ _ _ _ _ _ _ _ 80 lv1005 []
      refine cw_n aj_d115 rfl rfl ?_
      exact ih hTjr1003 Ijr1003 (cw_kp_tr hK kjr1003) fjr1003 (cw_kp_F kjr1003 (fun z => hip z.1) (by decide) fi) (cw_kp_F kjr1003 (fun z => hjp z.1) (by decide) fj) (cw_kp_F kjr1003 (fun z => absurd z.2.1 (by decide)) (by decide) fs) hlv1005_0 hlv1005_1 hlv1005_2 hlv1005_3 hlv1005_4 hlv1005_5 hlv1005_6 (by omega) (by omega) (by omega) kk
theorem cw_jn_out {d : Nat} (hd : 4 ≤ d) (htb : ak_tbOK ak_CW tb) (qi : s[i]? = some 58) (qj : s[j]? = some 58) (qp : s[p]? = some 58) (hip : i ≠ p) (hjp : j ≠ p) {x3 m l0 hr : Int32} (hlr : 0 ≤ l0.toInt ∧ l0.toInt ≤ 46000 ∧ 0 ≤ hr.toInt ∧ hr.toInt ≤ 46000) (hm : l0.toInt * hr.toInt ≤ 30) (fi0 : cw_F h0 i 6 4 (.int l0)) (fj0 : cw_F h0 j 6 4 (.int hr)) (fs0 : cw_F h0 43 9 5 (.ref (52 + p))) : ∀ (n : Nat) {h : aj_H} {lv : aj_V} {kc ks : Nat} {x5 y : Int32} (hT : ak_Ty ak_CW s h) (hI : cw_I cw_XB s h) (hK : cw_kp (cw_Eh p) cw_E0 (cw_o h0) (cw_o h)) (fp : cw_F h p 6 4 (.int y)) (fi : cw_F h i 6 4 (.int l0)) (fj : cw_F h j 6 4 (.int hr)) (fs : cw_F h 43 9 5 (.ref (52 + p))) (hl0 : aj_lv lv 0 = some (.ref (52 + 43))) (hl1 : aj_lv lv 1 = some (.ref (52 + i))) (hl2 : aj_lv lv 2 = some (.ref (52 + j))) (hl3 : aj_lv lv 3 = some (.int x3)) (hl4 : aj_lv lv 4 = some (.int m)) (hl5 : aj_lv lv 5 = some (.int x5)) (hy : y.toInt = x5.toInt * hr.toInt) (h5 : 0 ≤ x5.toInt ∧ x5.toInt ≤ l0.toInt) (hn : l0.toInt - x5.toInt ≤ n) (kk : ∀ {h : aj_H} {lv : aj_V} {kc ks : Nat} {y : Int32}, ak_Ty ak_CW s h → cw_I cw_XB s h → cw_kp (cw_Eh p) cw_E0 (cw_o h0) (cw_o h) → cw_F h p 6 4 (.int y) → y.toInt ≤ 30 → aj_lv lv 0 = some (.ref (52 + 43)) → aj_lv lv 1 = some (.ref (52 + i)) → aj_lv lv 2 = some (.ref (52 + j)) → aj_lv lv 3 = some (.int x3) → aj_lv lv 4 = some (.int m) → cw_W ak_CW Φ tb d aj_m115 (cw_nW 115 none) s h kc ks 89 lv []), cw_W ak_CW Φ tb d aj_m115 (cw_nW 115 none) s h kc ks 44 lv [] := by
  intro n
  induction n with
  | zero =>
    intro h lv kc ks x5 y hT hI hK fp fi fj fs hl0 hl1 hl2 hl3 hl4 hl5 hy h5 hn kk
    have hB := hI.1
    refine cw_l0 aj_d115 rfl rfl hl5 ?_
    refine cw_l2 aj_d115 rfl rfl hl1 ?_
    refine cw_g (i := i) (v := .int l0) htb.1 aj_d115 rfl rfl (by decide) fi ?_
    refine cw_c (tgt := 89) aj_d115 rfl rfl (fun q1006 => ?_) (fun q1006 => ?_)
    · have q1006 : x5.toInt ≥ l0.toInt := aw_t_ge (a := x5.toInt) (b := l0.toInt) rfl rfl q1006
      have hm1 : y.toInt ≤ 30 := by
        rw [hy]
        exact Int.le_trans (Int.mul_le_mul_of_nonneg_right h5.2 hlr.2.2.1) hm
      exact kk hT hI hK fp hm1 hl0 hl1 hl2 hl3 hl4
    · have q1006 : x5.toInt < l0.toInt := aw_t_ge (a := x5.toInt) (b := l0.toInt) rfl rfl q1006
      exfalso
      omega
  | succ n ih =>
    intro h lv kc ks x5 y hT hI hK fp fi fj fs hl0 hl1 hl2 hl3 hl4 hl5 hy h5 hn kk
    have hB := hI.1
    refine cw_l0 aj_d115 rfl rfl hl5 ?_
    refine cw_l2 aj_d115 rfl rfl hl1 ?_
    refine cw_g (i := i) (v := .int l0) htb.1 aj_d115 rfl rfl (by decide) fi ?_
    refine cw_c (tgt := 89) aj_d115 rfl rfl (fun q1007 => ?_) (fun q1007 => ?_)
    · have q1007 : x5.toInt ≥ l0.toInt := aw_t_ge (a := x5.toInt) (b := l0.toInt) rfl rfl q1007
      have hm1 : y.toInt ≤ 30 := by
        rw [hy]
        exact Int.le_trans (Int.mul_le_mul_of_nonneg_right h5.2 hlr.2.2.1) hm
      exact kk hT hI hK fp hm1 hl0 hl1 hl2 hl3 hl4
    · have q1007 : x5.toInt < l0.toInt := aw_t_ge (a := x5.toInt) (b := l0.toInt) rfl rfl q1007
      refine cw_n aj_d115 rfl rfl ?_
      refine cw_t0 (j := 6) aj_d115 rfl (by decide) rfl ?_
      obtain ⟨lv1008, elv1008⟩ : ∃ l, l = aj_set1 lv 6 (.int (Int32.ofInt 0)) := ⟨_, rfl⟩
      rw [← elv1008]
      have hlv1008_0 : aj_lv lv1008 0 = some (.ref (52 + 43)) := cw_e1 elv1008 hl0 (by decide) (Or.inl (by decide))
      have hlv1008_1 : aj_lv lv1008 1 = some (.ref (52 + i)) := cw_e1 elv1008 hl1 (by decide) (Or.inl (by decide))
      have hlv1008_2 : aj_lv lv1008 2 = some (.ref (52 + j)) := cw_e1 elv1008 hl2 (by decide) (Or.inl (by decide))
      have hlv1008_3 : aj_lv lv1008 3 = some (.int x3) := cw_e1 elv1008 hl3 (by decide) (Or.inl (by decide))
      have hlv1008_4 : aj_lv lv1008 4 = some (.int m) := cw_e1 elv1008 hl4 (by decide) (Or.inl (by decide))
      have hlv1008_5 : aj_lv lv1008 5 = some (.int x5) := cw_e1 elv1008 hl5 (by decide) (Or.inr rfl)
      have hlv1008_6 : aj_lv lv1008 6 = some (.int (Int32.ofInt 0)) := by rw [elv1008]; exact ak_set1_eq _ _ _
      show cw_W _ _ _ _ _ _ _ _ _ _ 56 lv1008 []
      have hm1 : y.toInt + hr.toInt ≤ 30 := by
        rw [hy]
        exact cw_mul1 (l := l0.toInt) (by omega) hlr.2.2.1 hm
      have hm0 : 0 ≤ y.toInt := by
        rw [hy]
        exact Int.mul_nonneg h5.1 hlr.2.2.1
      refine cw_jn_in (h0 := h0) (by omega) htb qi qj qp hip hjp hlr (y0 := y.toInt) (by omega) ⟨hm0, hm1⟩ 46000 hT hI hK fp fi fj fs hlv1008_0 hlv1008_1 hlv1008_2 hlv1008_3 hlv1008_4 hlv1008_5 hlv1008_6 (by rw [show (Int32.ofInt 0).toInt = 0 from rfl]; omega) ⟨by decide, hlr.2.2.1⟩ (by rw [show (Int32.ofInt 0).toInt = 0 from rfl]; omega) ?_
      rintro h1 lv1 kc1 ks1 y1 hT1 I1 k1 f1 ey1 g0 g1 g2 g3 g4 g5
      refine cw_inc aj_d115 rfl g5 (a := x5.toInt) rfl (by omega) (by omega) (by decide) (by decide) (fun x5' ex5 => ?_)
      refine cw_n aj_d115 rfl rfl ?_
      show cw_W _ _ _ _ _ _ _ _ _ _ 44 _ []
      have kz := fun {c k : Nat} {a : Nat} {v : Value} (hs : (c, k) ∈ ak_spFC) (hn : ¬ cw_Eh p a c k) (q : cw_F h0 a c k v) => cw_kp_F k1 hn hs q
      exact ih hT1 I1 k1 f1 (kz (by decide) (fun z => hip z.1) fi0) (kz (by decide) (fun z => hjp z.1) fj0) (kz (by decide) (fun z => absurd z.2.1 (by decide)) fs0) (cw_e1 rfl g0 (by decide) (Or.inl (by decide))) (cw_e1 rfl g1 (by decide) (Or.inl (by decide))) (cw_e1 rfl g2 (by decide) (Or.inl (by decide))) (cw_e1 rfl g3 (by decide) (Or.inl (by decide))) (cw_e1 rfl g4 (by decide) (Or.inr rfl)) (ak_set1_eq _ _ _) (by rw [ey1, hy, ex5, Int.add_mul, Int.one_mul]) (by omega) (by omega) kk
/-- * -/
theorem cw_join (htb : ak_tbOK ak_CW tb) (hT : ak_Ty ak_CW s h) (hI : cw_I cw_XB s h) (hd : 5 ≤ d) {x3 dp : Int32} (hb : 30 ≤ b ∧ b ≤ 46000) (hip : i ≠ p) (hjp : j ≠ p) (qi : s[i]? = some 58) (qj : s[j]? = some 58) (qp : s[p]? = some 58) (hx : 0 ≤ x3.toInt ∧ x3.toInt ≤ 2499) (hdp : 1 ≤ dp.toInt ∧ dp.toInt ≤ 20) (fd : cw_F h 43 9 4 (.int dp)) (fs : cw_F h 43 9 5 (.ref (52 + p))) (hsk : cw_sk (cw_o h) (dp.toInt - 1).toNat (52 + i)) (oki : cw_ok b (cw_o h) i) (okj : cw_ok b (cw_o h) j) : cw_K ak_CW (fun s' r h' => s' = s ∧ r = none ∧ cw_I cw_XB s h' ∧ cw_kp cw_EJ (fun a => a = 49) (cw_o h) (cw_o h') ∧ cw_sy b (b + 7) (cw_o h) (cw_o h') ∧ (∀ l r, l ≠ (dp.toInt - 1).toNat → cw_sk (cw_o h) l r → cw_sk (cw_o h') l r) ∧ ∃ r, cw_sk (cw_o h') (dp.toInt - 1).toNat (52 + r) ∧ cw_ok (b + 7) (cw_o h') r) tb d (cw_nW 115 none) [.ref (52 + 43), .ref (52 + i), .ref (52 + j), .int x3] s h := by
  obtain ⟨d, rfl⟩ : ∃ e, d = e + 1 := ⟨d - 1, by omega⟩
  have hB := hI.1
  have pos : ∀ a v, s[a]? = some 58 → cw_F h a 6 4 (.int v) → 0 ≤ v.toInt := by
    intro a v qa fa
    obtain ⟨v', f', g'⟩ := cw_tyF (i := a) (t := 58) (c := 6) (k := 4) (y := .inl (0, 20000000)) hT qa rfl rfl rfl
    cases (cw_F_u f' fa).2
    obtain ⟨x, e, hx⟩ := ak_gi g'
    cases e
    exact hx.1
  have pos3 : ∀ a v, s[a]? = some 58 → cw_F h a 6 3 (.int v) → 0 ≤ v.toInt := by
    intro a v qa fa
    obtain ⟨v', f', g'⟩ := cw_tyF (i := a) (t := 58) (c := 6) (k := 3) (y := .inl (0, 20000000)) hT qa rfl rfl rfl
    cases (cw_F_u f' fa).2
    obtain ⟨x, e, hx⟩ := ak_gi g'
    cases e
    exact hx.1
  obtain ⟨l0, wl, fi, fwl, bl0, bwl⟩ := id oki
  obtain ⟨hr, wr, fj, fwr, bhr, bwr⟩ := id okj
  have fi := (cw_fo_F (h := h) (by decide)).mp fi
  have fwl := (cw_fo_F (h := h) (by decide)).mp fwl
  have fj := (cw_fo_F (h := h) (by decide)).mp fj
  have fwr := (cw_fo_F (h := h) (by decide)).mp fwr
  have p1 := pos _ _ qi fi
  have p2 := pos _ _ qj fj
  have p3 := pos3 _ _ qi fwl
  have p4 := pos3 _ _ qj fwr
  have hm := cw_mulb (a := l0.toInt) (b := hr.toInt) (by omega) (by omega)
  refine cw_m (con := cw_nW 115 none) aj_m115_at (Nat.le_of_ble_eq_true rfl) ?_
  show cw_W _ _ _ _ _ _ _ _ _ _ 0 [(0, .ref (52 + 43)), (1, .ref (52 + i)), (2, .ref (52 + j)), (3, .int x3)] []
  obtain ⟨lv, elv⟩ : ∃ l : aj_V, l = [(0, .ref (52 + 43)), (1, .ref (52 + i)), (2, .ref (52 + j)), (3, .int x3)] := ⟨_, rfl⟩
  rw [← elv]
  have hl0 : aj_lv lv 0 = some (.ref (52 + 43)) := by rw [elv]; rfl
  have hl1 : aj_lv lv 1 = some (.ref (52 + i)) := by rw [elv]; rfl
  have hl2 : aj_lv lv 2 = some (.ref (52 + j)) := by rw [elv]; rfl
  have hl3 : aj_lv lv 3 = some (.int x3) := by rw [elv]; rfl
  refine cw_l2 aj_d115 rfl rfl hl1 ?_
  refine cw_g (i := i) (v := .int l0) htb.1 aj_d115 rfl rfl (by decide) fi ?_
  refine cw_l2 aj_d115 rfl rfl hl2 ?_
  refine cw_g (i := j) (v := .int hr) htb.1 aj_d115 rfl rfl (by decide) fj ?_
  refine cw_mul aj_d115 rfl (a := l0.toInt) (b := hr.toInt) rfl rfl hm.1 hm.2.1 (fun z8 ez8 => ?_)
  refine cw_n aj_d115 rfl rfl ?_
  refine cw_c (tgt := 20) aj_d115 rfl rfl (fun q1009 => ?_) (fun q1009 => ?_)
  · have q1009 : z8.toInt ≤ (30 : Int) := aw_t_le (a := z8.toInt) (b := (30 : Int)) rfl rfl q1009
    refine cw_l2 aj_d115 rfl rfl hl0 ?_
    obtain ⟨v1010, f1010, g1010⟩ := cw_tyF (i := 43) (t := 61) (c := 9) (k := 1) (y := (.inr (some ([56], false)))) hT (cw_s0 hB rfl) rfl rfl rfl
    obtain rfl := cw_gu (i := 30) hB g1010 (by decide) (by decide) (by decide)
    refine cw_g (i := 43) (v := .ref (52 + 30)) htb.1 aj_d115 rfl rfl (by decide) f1010 ?_
    refine cw_l0 aj_d115 rfl rfl hl3 ?_
    refine cw_k0 (i := 30) (t := 56) (con' := ap_c40) aj_d115 htb hT rfl rfl [_] rfl rfl (cw_s0 hB rfl) rfl (Nat.le_of_ble_eq_true rfl) ⟨by decide, by decide⟩ (cw_a1 (by omega) (ap_W_40 htb (cw_SP1c _ _ rfl rfl) cw_hK) hT hB rfl ⟨(cw_gR (cw_s0 hB rfl) (by decide) (by decide)), (cw_full _), trivial⟩) ?_
    rintro ru1011 h1011 hT1011 ho1011 hRu1011
    have f1012 : cw_F h1011 i 6 4 (.int l0) := cw_trF ho1011 (by decide) fi
    have f1013 : cw_F h1011 j 6 4 (.int hr) := cw_trF ho1011 (by decide) fj
    have f1014 : cw_F h1011 43 9 5 (.ref (52 + p)) := cw_trF ho1011 (by decide) fs
    have f1015 : cw_F h1011 i 6 3 (.int wl) := cw_trF ho1011 (by decide) fwl
    have f1016 : cw_F h1011 j 6 3 (.int wr) := cw_trF ho1011 (by decide) fwr
    have f1017 : cw_F h1011 43 9 4 (.int dp) := cw_trF ho1011 (by decide) fd
    obtain ⟨x1018, rfl, bx1018⟩ := cw_rI hRu1011
    show cw_W _ _ _ _ _ _ _ _ _ _ 28 lv [.int x1018]
    refine cw_t0 (j := 4) aj_d115 rfl (by decide) rfl ?_
    obtain ⟨lv1019, elv1019⟩ : ∃ l, l = aj_set1 lv 4 (.int x1018) := ⟨_, rfl⟩
    rw [← elv1019]
    have hlv1019_0 : aj_lv lv1019 0 = some (.ref (52 + 43)) := cw_e1 elv1019 hl0 (by decide) (Or.inl (by decide))
    have hlv1019_1 : aj_lv lv1019 1 = some (.ref (52 + i)) := cw_e1 elv1019 hl1 (by decide) (Or.inl (by decide))
    have hlv1019_2 : aj_lv lv1019 2 = some (.ref (52 + j)) := cw_e1 elv1019 hl2 (by decide) (Or.inl (by decide))
    have hlv1019_3 : aj_lv lv1019 3 = some (.int x3) := cw_e1 elv1019 hl3 (by decide) (Or.inr rfl)
    have hlv1019_4 : aj_lv lv1019 4 = some (.int x1018) := by rw [elv1019]; exact ak_set1_eq _ _ _
    show cw_W _ _ _ _ _ _ _ _ _ _ 30 lv1019 []
    refine cw_l2 aj_d115 rfl rfl hlv1019_0 ?_
    refine cw_g (i := 43) (v := .ref (52 + p)) htb.1 aj_d115 rfl rfl (by decide) f1014 ?_
    refine cw_l2 aj_d115 rfl rfl hlv1019_1 ?_
    refine cw_g (i := i) (v := .int wl) htb.1 aj_d115 rfl rfl (by decide) f1015 ?_
    refine cw_k0 (i := p) (t := 58) (con' := cw_nW 116 none) aj_d115 htb hT1011 rfl rfl [_] rfl rfl qp rfl (Nat.le_of_ble_eq_true rfl) ⟨by decide, by decide⟩ (cw_clear htb hT1011 (cw_I_eq (ho1011.trans rfl) hI) (by omega) (x := wl) (by omega) qp) ?_
    rintro rc hc hTc ⟨rfl, Ic, kc0, zc, ezc, fpc, fpw⟩ hRc
    have kcc := cw_kp_tr (cw_kp_eq (ho1011.trans rfl)) kc0
    have fic : cw_F hc i 6 4 (.int l0) := cw_kp_F kcc (fun z => hip z.1) (by decide) fi
    have fjc : cw_F hc j 6 4 (.int hr) := cw_kp_F kcc (fun z => hjp z.1) (by decide) fj
    have fwlc : cw_F hc i 6 3 (.int wl) := cw_kp_F kcc (fun z => hip z.1) (by decide) fwl
    have fwrc : cw_F hc j 6 3 (.int wr) := cw_kp_F kcc (fun z => hjp z.1) (by decide) fwr
    have fsc : cw_F hc 43 9 5 (.ref (52 + p)) := cw_kp_F kcc (fun z => absurd z.2 (by decide)) (by decide) fs
    have fdc : cw_F hc 43 9 4 (.int dp) := cw_kp_F kcc (fun z => absurd z.2 (by decide)) (by decide) fd
    show cw_W _ _ _ _ _ _ _ _ _ _ 41 lv1019 []
    refine cw_n aj_d115 rfl rfl ?_
    refine cw_t0 (j := 5) aj_d115 rfl (by decide) rfl ?_
    obtain ⟨lv1020, elv1020⟩ : ∃ l, l = aj_set1 lv1019 5 (.int (Int32.ofInt 0)) := ⟨_, rfl⟩
    rw [← elv1020]
    have hlv1020_4 : aj_lv lv1020 4 = some (.int x1018) := cw_e1 elv1020 hlv1019_4 (by decide) (Or.inr rfl)
    have hlv1020_0 : aj_lv lv1020 0 = some (.ref (52 + 43)) := cw_e1 elv1020 hlv1019_0 (by decide) (Or.inl (by decide))
    have hlv1020_1 : aj_lv lv1020 1 = some (.ref (52 + i)) := cw_e1 elv1020 hlv1019_1 (by decide) (Or.inl (by decide))
    have hlv1020_2 : aj_lv lv1020 2 = some (.ref (52 + j)) := cw_e1 elv1020 hlv1019_2 (by decide) (Or.inl (by decide))
    have hlv1020_3 : aj_lv lv1020 3 = some (.int x3) := cw_e1 elv1020 hlv1019_3 (by decide) (Or.inl (by decide))
    have hlv1020_5 : aj_lv lv1020 5 = some (.int (Int32.ofInt 0)) := by rw [elv1020]; exact ak_set1_eq _ _ _
    show cw_W _ _ _ _ _ _ _ _ _ _ 44 lv1020 []
    refine cw_jn_out (h0 := hc) (by omega) htb qi qj qp hip hjp (by omega) (by omega) fic fjc fsc 46000 hTc Ic cw_kp_rf fpc fic fjc fsc hlv1020_0 hlv1020_1 hlv1020_2 hlv1020_3 hlv1020_4 hlv1020_5 (by rw [ezc, show (Int32.ofInt 0).toInt = 0 from rfl, Int.zero_mul]) ⟨by decide, by rw [show (Int32.ofInt 0).toInt = 0 from rfl]; omega⟩ (by rw [show (Int32.ofInt 0).toInt = 0 from rfl]; omega) ?_
    rintro h1 lv1 kc1 ks1 y1 hT1 I1 k1 fp1 ey1 g0 g1 g2 g3 g4
    have fi1 : cw_F h1 i 6 4 (.int l0) := cw_kp_F k1 (fun z => hip z.1) (by decide) fic
    have fj1 : cw_F h1 j 6 4 (.int hr) := cw_kp_F k1 (fun z => hjp z.1) (by decide) fjc
    have fwl1 : cw_F h1 i 6 3 (.int wl) := cw_kp_F k1 (fun z => hip z.1) (by decide) fwlc
    have fwr1 : cw_F h1 j 6 3 (.int wr) := cw_kp_F k1 (fun z => hjp z.1) (by decide) fwrc
    have fs1 : cw_F h1 43 9 5 (.ref (52 + p)) := cw_kp_F k1 (fun z => absurd z.2.1 (by decide)) (by decide) fsc
    have fd1 : cw_F h1 43 9 4 (.int dp) := cw_kp_F k1 (fun z => absurd z.2.1 (by decide)) (by decide) fdc
    have fpw1 : cw_F h1 p 6 3 (.int wl) := cw_kp_F k1 (fun z => absurd z.2.2 (by decide)) (by decide) fpw
    refine cw_l2 aj_d115 rfl rfl g0 ?_
    refine cw_g (i := 43) (v := .ref (52 + p)) htb.1 aj_d115 rfl rfl (by decide) fs1 ?_
    refine cw_l2 aj_d115 rfl rfl g1 ?_
    refine cw_g (i := i) (v := .int wl) htb.1 aj_d115 rfl rfl (by decide) fwl1 ?_
    refine cw_l2 aj_d115 rfl rfl g2 ?_
    refine cw_l2 aj_d115 rfl rfl g1 ?_
    refine cw_g (i := i) (v := .int wl) htb.1 aj_d115 rfl rfl (by decide) fwl1 ?_
    refine cw_l0 aj_d115 rfl rfl g4 ?_
    refine cw_k0 (i := j) (t := 58) (con' := cw_nW 119 (some (.inl (0, 20000000)))) aj_d115 htb hT1 rfl rfl [_, _] rfl rfl qj rfl (Nat.le_of_ble_eq_true rfl) ⟨by decide, by decide⟩ (cw_newC htb hT1 I1 (by omega) (a := wl) (m := x1018) qj fwr1 (by omega)) ?_
    rintro rn hn hTn ⟨ehn, nc, rfl, nc0, nc1, nc8⟩ -
    obtain rfl := ehn.symm
    show cw_W _ _ _ _ _ _ _ _ _ _ 107 lv1 [.int nc, .int wl, .ref (52 + p)]
    refine cw_add aj_d115 rfl (a := wl.toInt) (b := nc.toInt) rfl rfl (by omega) (by omega) (fun x1021 ex1021 => ?_)
    refine cw_p1 (kind := 1) (by decide) (i := p) (t := 58) (c := 6) (k := 3) (v := .int x1021) (y := (.inl (0, 20000000))) htb aj_d115 rfl rfl hTn qp rfl rfl rfl (cw_gw (a := x1021.toInt) rfl (by omega) (by omega)) (by decide) rfl rfl (fun hT1022 => ?_)
    have f1023 : cw_F (cw_sf h1 p 3 (.int x1021)) i 6 4 (.int l0) := cw_sf_ne fi1 (Or.inr (by decide))
    have f1024 : cw_F (cw_sf h1 p 3 (.int x1021)) j 6 4 (.int hr) := cw_sf_ne fj1 (Or.inr (by decide))
    have f1025 : cw_F (cw_sf h1 p 3 (.int x1021)) 43 9 5 (.ref (52 + p)) := cw_sf_ne fs1 (Or.inr (by decide))
    have f1026 : cw_F (cw_sf h1 p 3 (.int x1021)) 43 9 4 (.int dp) := cw_sf_ne fd1 (Or.inr (by decide))
    have f1027 : cw_F (cw_sf h1 p 3 (.int x1021)) p 6 4 (.int y1) := cw_sf_ne fp1 (Or.inr (by decide))
    have f1028 : cw_F (cw_sf h1 p 3 (.int x1021)) p 6 3 (.int x1021) := cw_sf_same fpw1
    refine cw_l2 aj_d115 rfl rfl g0 ?_
    have I2 := cw_I_sfX hTn I1 fpw1 (Or.inl rfl) (y := x1021) (by omega)
    have k2 : cw_kp (cw_Ei p) cw_E0 (cw_o h) (cw_o (cw_sf h1 p 3 (.int x1021))) := cw_kp_tr kcc (cw_kp_tr (cw_Ehi k1) (cw_kp_sf fpw1 ⟨rfl, rfl⟩))
    refine cw_k0 (i := 43) (t := 61) (con' := cw_nW 120 none) aj_d115 htb hT1022 rfl rfl [] rfl rfl (cw_s0 hB rfl) rfl (Nat.le_of_ble_eq_true rfl) ⟨by decide, by decide⟩ (cw_useS (b := b + 7) htb hT1022 I2 (by omega) (dp := dp) hdp qi qp f1026 f1025 (cw_sk_kp k2 (fun z => z) hsk)) ?_
    rintro ru hu hTu ⟨rfl, Iu, ku, sk1, sk2, su, -⟩ hRu
    have okp : cw_ok (b + 7) (cw_o (cw_sf h1 p 3 (.int x1021))) p := cw_ok_F f1027 f1028 (by omega) (by omega)
    have gg2 : cw_sy b (b + 7) (cw_o h) (cw_o (cw_sf h1 p 3 (.int x1021))) := fun a q => cw_sy_kp k2 okp a (cw_ok_mono (by omega) q)
    show cw_W _ _ _ _ _ _ _ _ _ _ 115 lv1 []
    refine cw_Wr aj_d115 rfl rfl hTu ?_ ?_
    · exact ⟨rfl, rfl, Iu, cw_kp_tr (cw_kp_sub k2 (fun _ _ _ z => Or.inl z.2) (fun _ z => z.elim)) (cw_kp_sub ku (fun _ _ _ z => Or.inr (Or.inr z)) (fun _ z => z)), cw_sy_tr gg2 su, fun l r hl hk => sk2 l r hl (cw_sk_kp k2 (fun z => z) hk), p, sk1, su p okp⟩
    · trivial
  · have q1009 : z8.toInt > (30 : Int) := aw_t_le (a := z8.toInt) (b := (30 : Int)) rfl rfl q1009
    refine cw_l2 aj_d115 rfl rfl hl0 ?_
    refine cw_l0 aj_d115 rfl rfl hl3 ?_
    refine cw_k0 (i := 43) (t := 61) (con' := cw_nW 107 none) aj_d115 htb hT rfl rfl [_] rfl rfl (cw_s0 hB rfl) rfl (Nat.le_of_ble_eq_true rfl) ⟨by decide, by decide⟩ (cw_fullT htb hT hI (by omega) (x := x3) hx) ?_
    rintro rf hf hTf ⟨rfl, If, kf⟩ hRf
    show cw_W _ _ _ _ _ _ _ _ _ _ 19 lv []
    refine cw_Wr aj_d115 rfl rfl hTf ?_ ?_
    · exact ⟨rfl, rfl, If, cw_kp_sub kf (fun _ _ _ z => Or.inr (Or.inl z)) (fun _ z => z.elim), fun a q => cw_ok_mono (by omega) (cw_sy_n (b := b) kf (fun _ _ z => absurd z.1 (by decide)) a q), fun l r _ hk => cw_sk_kp kf (fun z => z) hk, i, cw_sk_kp kf (fun z => z) hsk, cw_ok_mono (by omega) (cw_sy_n (b := b) kf (fun _ _ z => absurd z.1 (by decide)) i oki)⟩
    · trivial
end CW74
