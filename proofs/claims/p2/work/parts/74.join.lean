/-! * BY HAND (printed by wip/p2/cwalk/g74.py) -/
section CW74
variable {Φ : List Nat → Option Value → aj_H → Prop} {tb : aj_T} {s : List Nat} {h h' h0 : aj_H} {d : Nat} {i j p : Nat} {b b' b2 : Int} {o o' o2 : cw_O} {v w : Int32}
abbrev cw_EJ : Nat → Nat → Nat → Prop := fun a c k => c = 6 ∨ c = 4 ∨ (a = 43 ∧ c = 9 ∧ k = 5)
theorem cw_mulb {a b : Int} (ha : 0 ≤ a ∧ a ≤ 46000) (hb : 0 ≤ b ∧ b ≤ 46000) : -2147483648 ≤ a * b ∧ a * b ≤ 2147483647 ∧ 0 ≤ a * b := by
  have h1 := Int.mul_nonneg ha.1 hb.1
  have h2 : a * b ≤ 46000 * 46000 := Int.mul_le_mul ha.2 hb.2 hb.1 (by decide)
  omega
theorem cw_mul1 {a c l : Int} (h1 : a + 1 ≤ l) (h2 : 0 ≤ c) (h3 : l * c ≤ 30) : a * c + c ≤ 30 := by
  have h4 : (a + 1) * c ≤ l * c := Int.mul_le_mul_of_nonneg_right h1 h2
  rw [Int.add_mul, Int.one_mul] at h4
  omega
theorem cw_jn_in {d : Nat} (hd : 4 ≤ d) (htb : ak_tbOK ak_CW tb) (qi : s[i]? = some 58) (qj : s[j]? = some 58) (qp : s[p]? = some 58) (hip : i ≠ p) (hjp : j ≠ p) {x3 m l0 hr : Int32} (hlr : 0 ≤ l0.toInt ∧ l0.toInt ≤ 46000 ∧ 0 ≤ hr.toInt ∧ hr.toInt ≤ 46000) {x5 : Int32} {y0 : Int} (h5 : 0 ≤ x5.toInt ∧ x5.toInt < l0.toInt) (hy0 : 0 ≤ y0 ∧ y0 + hr.toInt ≤ 30) : ∀ (n : Nat) {h : aj_H} {lv : aj_V} {kc ks : Nat} {x6 y : Int32} (hT : ak_Ty ak_CW s h) (hI : cw_I cw_XB s h) (hK : cw_kp (cw_Eh p) cw_E0 (cw_o h0) (cw_o h)) (fp : cw_F h p 6 4 (.int y)) (fi : cw_F h i 6 4 (.int l0)) (fj : cw_F h j 6 4 (.int hr)) (fs : cw_F h 43 9 5 (.ref (52 + p))) (hl0 : aj_lv lv 0 = some (.ref (52 + 43))) (hl1 : aj_lv lv 1 = some (.ref (52 + i))) (hl2 : aj_lv lv 2 = some (.ref (52 + j))) (hl3 : aj_lv lv 3 = some (.int x3)) (hl4 : aj_lv lv 4 = some (.int m)) (hl5 : aj_lv lv 5 = some (.int x5)) (hl6 : aj_lv lv 6 = some (.int x6)) (hy : y.toInt = y0 + x6.toInt) (h6 : 0 ≤ x6.toInt ∧ x6.toInt ≤ hr.toInt) (hn : hr.toInt - x6.toInt ≤ n) (kk : ∀ {h : aj_H} {lv : aj_V} {kc ks : Nat} {y : Int32}, ak_Ty ak_CW s h → cw_I cw_XB s h → cw_kp (cw_Eh p) cw_E0 (cw_o h0) (cw_o h) → cw_F h p 6 4 (.int y) → y.toInt = y0 + hr.toInt → aj_lv lv 0 = some (.ref (52 + 43)) → aj_lv lv 1 = some (.ref (52 + i)) → aj_lv lv 2 = some (.ref (52 + j)) → aj_lv lv 3 = some (.int x3) → aj_lv lv 4 = some (.int m) → aj_lv lv 5 = some (.int x5) → cw_W ak_CW Φ tb d aj_m115 (cw_nW 115 none) s h kc ks 83 lv []), cw_W ak_CW Φ tb d aj_m115 (cw_nW 115 none) s h kc ks 56 lv [] := by
  intro n
  induction n with
  | zero =>
    intro h lv kc ks x6 y hT hI hK fp fi fj fs hl0 hl1 hl2 hl3 hl4 hl5 hl6 hy h6 hn kk
    have hB := hI.1
    refine cw_l0 aj_d115 rfl rfl hl6 ?_
    refine cw_l2 aj_d115 rfl rfl hl2 ?_
    refine cw_g (i := j) (v := .int hr) htb.1 aj_d115 rfl rfl (by decide) fj ?_
    refine cw_c (tgt := 83) aj_d115 rfl rfl (fun q1 => ?_) (fun q1 => ?_)
    · have q1 : x6.toInt ≥ hr.toInt := aw_t_ge (a := x6.toInt) (b := hr.toInt) rfl rfl q1
      exact kk hT hI hK fp (by omega) hl0 hl1 hl2 hl3 hl4 hl5
    · have q1 : x6.toInt < hr.toInt := aw_t_ge (a := x6.toInt) (b := hr.toInt) rfl rfl q1
      exfalso
      omega
  | succ n ih =>
    intro h lv kc ks x6 y hT hI hK fp fi fj fs hl0 hl1 hl2 hl3 hl4 hl5 hl6 hy h6 hn kk
    have hB := hI.1
    refine cw_l0 aj_d115 rfl rfl hl6 ?_
    refine cw_l2 aj_d115 rfl rfl hl2 ?_
    refine cw_g (i := j) (v := .int hr) htb.1 aj_d115 rfl rfl (by decide) fj ?_
    refine cw_c (tgt := 83) aj_d115 rfl rfl (fun q2 => ?_) (fun q2 => ?_)
    · have q2 : x6.toInt ≥ hr.toInt := aw_t_ge (a := x6.toInt) (b := hr.toInt) rfl rfl q2
      exact kk hT hI hK fp (by omega) hl0 hl1 hl2 hl3 hl4 hl5
    · have q2 : x6.toInt < hr.toInt := aw_t_ge (a := x6.toInt) (b := hr.toInt) rfl rfl q2
      refine cw_l2 aj_d115 rfl rfl hl0 ?_
      refine cw_l2 aj_d115 rfl rfl hl1 ?_
      refine cw_l0 aj_d115 rfl rfl hl5 ?_
      refine cw_l2 aj_d115 rfl rfl hl2 ?_
      refine cw_l0 aj_d115 rfl rfl hl6 ?_
      refine cw_l0 aj_d115 rfl rfl hl4 ?_
      refine cw_k0 (i := 43) (t := 61) (con' := cw_nW 118 none) aj_d115 htb hT rfl rfl [_, _, _, _, _] rfl rfl (cw_s0 hB rfl) rfl (Nat.le_of_ble_eq_true rfl) ⟨by decide, by decide⟩ (cw_joinRow htb hT hI (by omega) (row := x5) (oth := x6) (m := m) qi qj qp fs fp (by omega) (by omega) (by omega)) ?_
      rintro rjr3 hjr3 hTjr3 ⟨rfl, Ijr3, kjr3, yjr3, eyjr3, fjr3⟩ hRjr3
      show cw_W _ _ _ _ _ _ _ _ _ _ 77 lv []
      refine cw_inc aj_d115 rfl hl6 (a := x6.toInt) rfl (by omega) (by omega) (by decide) (by decide) (fun x4 ex4 => ?_)
      obtain ⟨lv5, elv5⟩ : ∃ l, l = aj_set1 lv 6 (.int x4) := ⟨_, rfl⟩
      rw [← elv5]
      have hlv5_0 : aj_lv lv5 0 = some (.ref (52 + 43)) := cw_e1 elv5 hl0 (by decide) (Or.inl (by decide))
      have hlv5_1 : aj_lv lv5 1 = some (.ref (52 + i)) := cw_e1 elv5 hl1 (by decide) (Or.inl (by decide))
      have hlv5_2 : aj_lv lv5 2 = some (.ref (52 + j)) := cw_e1 elv5 hl2 (by decide) (Or.inl (by decide))
      have hlv5_3 : aj_lv lv5 3 = some (.int x3) := cw_e1 elv5 hl3 (by decide) (Or.inl (by decide))
      have hlv5_4 : aj_lv lv5 4 = some (.int m) := cw_e1 elv5 hl4 (by decide) (Or.inl (by decide))
      have hlv5_5 : aj_lv lv5 5 = some (.int x5) := cw_e1 elv5 hl5 (by decide) (Or.inr rfl)
      have hlv5_6 : aj_lv lv5 6 = some (.int x4) := by rw [elv5]; exact ak_set1_eq _ _ _
      show cw_W _ _ _ _ _ _ _ _ _ _ 80 lv5 []
      refine cw_n aj_d115 rfl rfl ?_
      exact ih hTjr3 Ijr3 (cw_kp_tr hK kjr3) fjr3 (cw_kp_F kjr3 (fun z => hip z.1) (by decide) fi) (cw_kp_F kjr3 (fun z => hjp z.1) (by decide) fj) (cw_kp_F kjr3 (fun z => absurd z.2.1 (by decide)) (by decide) fs) hlv5_0 hlv5_1 hlv5_2 hlv5_3 hlv5_4 hlv5_5 hlv5_6 (by omega) (by omega) (by omega) kk
theorem cw_jn_out {d : Nat} (hd : 4 ≤ d) (htb : ak_tbOK ak_CW tb) (qi : s[i]? = some 58) (qj : s[j]? = some 58) (qp : s[p]? = some 58) (hip : i ≠ p) (hjp : j ≠ p) {x3 m l0 hr : Int32} (hlr : 0 ≤ l0.toInt ∧ l0.toInt ≤ 46000 ∧ 0 ≤ hr.toInt ∧ hr.toInt ≤ 46000) (hm : l0.toInt * hr.toInt ≤ 30) (fi0 : cw_F h0 i 6 4 (.int l0)) (fj0 : cw_F h0 j 6 4 (.int hr)) (fs0 : cw_F h0 43 9 5 (.ref (52 + p))) : ∀ (n : Nat) {h : aj_H} {lv : aj_V} {kc ks : Nat} {x5 y : Int32} (hT : ak_Ty ak_CW s h) (hI : cw_I cw_XB s h) (hK : cw_kp (cw_Eh p) cw_E0 (cw_o h0) (cw_o h)) (fp : cw_F h p 6 4 (.int y)) (fi : cw_F h i 6 4 (.int l0)) (fj : cw_F h j 6 4 (.int hr)) (fs : cw_F h 43 9 5 (.ref (52 + p))) (hl0 : aj_lv lv 0 = some (.ref (52 + 43))) (hl1 : aj_lv lv 1 = some (.ref (52 + i))) (hl2 : aj_lv lv 2 = some (.ref (52 + j))) (hl3 : aj_lv lv 3 = some (.int x3)) (hl4 : aj_lv lv 4 = some (.int m)) (hl5 : aj_lv lv 5 = some (.int x5)) (hy : y.toInt = x5.toInt * hr.toInt) (h5 : 0 ≤ x5.toInt ∧ x5.toInt ≤ l0.toInt) (hn : l0.toInt - x5.toInt ≤ n) (kk : ∀ {h : aj_H} {lv : aj_V} {kc ks : Nat} {y : Int32}, ak_Ty ak_CW s h → cw_I cw_XB s h → cw_kp (cw_Eh p) cw_E0 (cw_o h0) (cw_o h) → cw_F h p 6 4 (.int y) → y.toInt ≤ 30 → aj_lv lv 0 = some (.ref (52 + 43)) → aj_lv lv 1 = some (.ref (52 + i)) → aj_lv lv 2 = some (.ref (52 + j)) → aj_lv lv 3 = some (.int x3) → aj_lv lv 4 = some (.int m) → cw_W ak_CW Φ tb d aj_m115 (cw_nW 115 none) s h kc ks 89 lv []), cw_W ak_CW Φ tb d aj_m115 (cw_nW 115 none) s h kc ks 44 lv [] := by
  intro n
  induction n with
  | zero =>
    intro h lv kc ks x5 y hT hI hK fp fi fj fs hl0 hl1 hl2 hl3 hl4 hl5 hy h5 hn kk
    have hB := hI.1
    refine cw_l0 aj_d115 rfl rfl hl5 ?_
    refine cw_l2 aj_d115 rfl rfl hl1 ?_
    refine cw_g (i := i) (v := .int l0) htb.1 aj_d115 rfl rfl (by decide) fi ?_
    refine cw_c (tgt := 89) aj_d115 rfl rfl (fun q6 => ?_) (fun q6 => ?_)
    · have q6 : x5.toInt ≥ l0.toInt := aw_t_ge (a := x5.toInt) (b := l0.toInt) rfl rfl q6
      have hm1 : y.toInt ≤ 30 := by
        rw [hy]
        exact Int.le_trans (Int.mul_le_mul_of_nonneg_right h5.2 hlr.2.2.1) hm
      exact kk hT hI hK fp hm1 hl0 hl1 hl2 hl3 hl4
    · have q6 : x5.toInt < l0.toInt := aw_t_ge (a := x5.toInt) (b := l0.toInt) rfl rfl q6
      exfalso
      omega
  | succ n ih =>
    intro h lv kc ks x5 y hT hI hK fp fi fj fs hl0 hl1 hl2 hl3 hl4 hl5 hy h5 hn kk
    have hB := hI.1
    refine cw_l0 aj_d115 rfl rfl hl5 ?_
    refine cw_l2 aj_d115 rfl rfl hl1 ?_
    refine cw_g (i := i) (v := .int l0) htb.1 aj_d115 rfl rfl (by decide) fi ?_
    refine cw_c (tgt := 89) aj_d115 rfl rfl (fun q7 => ?_) (fun q7 => ?_)
    · have q7 : x5.toInt ≥ l0.toInt := aw_t_ge (a := x5.toInt) (b := l0.toInt) rfl rfl q7
      have hm1 : y.toInt ≤ 30 := by
        rw [hy]
        exact Int.le_trans (Int.mul_le_mul_of_nonneg_right h5.2 hlr.2.2.1) hm
      exact kk hT hI hK fp hm1 hl0 hl1 hl2 hl3 hl4
    · have q7 : x5.toInt < l0.toInt := aw_t_ge (a := x5.toInt) (b := l0.toInt) rfl rfl q7
      refine cw_n aj_d115 rfl rfl ?_
      refine cw_t0 (j := 6) aj_d115 rfl (by decide) rfl ?_
      obtain ⟨lv8, elv8⟩ : ∃ l, l = aj_set1 lv 6 (.int (Int32.ofInt 0)) := ⟨_, rfl⟩
      rw [← elv8]
      have hlv8_0 : aj_lv lv8 0 = some (.ref (52 + 43)) := cw_e1 elv8 hl0 (by decide) (Or.inl (by decide))
      have hlv8_1 : aj_lv lv8 1 = some (.ref (52 + i)) := cw_e1 elv8 hl1 (by decide) (Or.inl (by decide))
      have hlv8_2 : aj_lv lv8 2 = some (.ref (52 + j)) := cw_e1 elv8 hl2 (by decide) (Or.inl (by decide))
      have hlv8_3 : aj_lv lv8 3 = some (.int x3) := cw_e1 elv8 hl3 (by decide) (Or.inl (by decide))
      have hlv8_4 : aj_lv lv8 4 = some (.int m) := cw_e1 elv8 hl4 (by decide) (Or.inl (by decide))
      have hlv8_5 : aj_lv lv8 5 = some (.int x5) := cw_e1 elv8 hl5 (by decide) (Or.inr rfl)
      have hlv8_6 : aj_lv lv8 6 = some (.int (Int32.ofInt 0)) := by rw [elv8]; exact ak_set1_eq _ _ _
      show cw_W _ _ _ _ _ _ _ _ _ _ 56 lv8 []
      have hm1 : y.toInt + hr.toInt ≤ 30 := by
        rw [hy]
        exact cw_mul1 (l := l0.toInt) (by omega) hlr.2.2.1 hm
      have hm0 : 0 ≤ y.toInt := by
        rw [hy]
        exact Int.mul_nonneg h5.1 hlr.2.2.1
      refine cw_jn_in (h0 := h0) (by omega) htb qi qj qp hip hjp hlr (y0 := y.toInt) (by omega) ⟨hm0, hm1⟩ 46000 hT hI hK fp fi fj fs hlv8_0 hlv8_1 hlv8_2 hlv8_3 hlv8_4 hlv8_5 hlv8_6 (by rw [show (Int32.ofInt 0).toInt = 0 from rfl]; omega) ⟨by decide, hlr.2.2.1⟩ (by rw [show (Int32.ofInt 0).toInt = 0 from rfl]; omega) ?_
      rintro h1 lv1 kc1 ks1 y1 hT1 I1 k1 f1 ey1 g0 g1 g2 g3 g4 g5
      refine cw_inc aj_d115 rfl g5 (a := x5.toInt) rfl (by omega) (by omega) (by decide) (by decide) (fun x5' ex5 => ?_)
      refine cw_n aj_d115 rfl rfl ?_
      show cw_W _ _ _ _ _ _ _ _ _ _ 44 _ []
      have kz := fun {c k : Nat} {a : Nat} {v : Value} (hs : (c, k) ∈ ak_spFC) (hn : ¬ cw_Eh p a c k) (q : cw_F h0 a c k v) => cw_kp_F k1 hn hs q
      exact ih hT1 I1 k1 f1 (kz (by decide) (fun z => hip z.1) fi0) (kz (by decide) (fun z => hjp z.1) fj0) (kz (by decide) (fun z => absurd z.2.1 (by decide)) fs0) (cw_e1 rfl g0 (by decide) (Or.inl (by decide))) (cw_e1 rfl g1 (by decide) (Or.inl (by decide))) (cw_e1 rfl g2 (by decide) (Or.inl (by decide))) (cw_e1 rfl g3 (by decide) (Or.inl (by decide))) (cw_e1 rfl g4 (by decide) (Or.inr rfl)) (ak_set1_eq _ _ _) (by rw [ey1, hy, ex5, Int.add_mul, Int.one_mul]) (by omega) (by omega) kk
/-- * -/
theorem cw_join (htb : ak_tbOK ak_CW tb) (hT : ak_Ty ak_CW s h) (hI : cw_I cw_XB s h) (hd : 5 ≤ d) {x3 dp : Int32} (hb : 30 ≤ b ∧ b ≤ 46000) (hip : i ≠ p) (hjp : j ≠ p) (qi : s[i]? = some 58) (qj : s[j]? = some 58) (qp : s[p]? = some 58) (hx : 0 ≤ x3.toInt ∧ x3.toInt ≤ 2499) (hdp : 1 ≤ dp.toInt ∧ dp.toInt ≤ 20) (fd : cw_F h 43 9 4 (.int dp)) (fs : cw_F h 43 9 5 (.ref (52 + p))) (hsk : cw_sk (cw_o h) (dp.toInt - 1).toNat (52 + i)) (oki : cw_ok b (cw_o h) i) (okj : cw_ok b (cw_o h) j) : cw_K ak_CW (fun s' r h' => s' = s ∧ r = none ∧ cw_I cw_XB s h' ∧ cw_kp cw_EJ (fun a => a = 49) (cw_o h) (cw_o h') ∧ cw_sy b (b + 7) (cw_o h) (cw_o h') ∧ (∀ l r, l ≠ (dp.toInt - 1).toNat → cw_sk (cw_o h) l r → cw_sk (cw_o h') l r) ∧ ∃ r, cw_sk (cw_o h') (dp.toInt - 1).toNat (52 + r) ∧ cw_ok (b + 7) (cw_o h') r) tb d (cw_nW 115 none) [.ref (52 + 43), .ref (52 + i), .ref (52 + j), .int x3] s h := by
  obtain ⟨d, rfl⟩ : ∃ e, d = e + 1 := ⟨d - 1, by omega⟩
  have hB := hI.1
  have pos : ∀ a v, s[a]? = some 58 → cw_F h a 6 4 (.int v) → 0 ≤ v.toInt := by
    intro a v qa fa
    obtain ⟨v', f', g'⟩ := cw_tyF (i := a) (t := 58) (c := 6) (k := 4) (y := .inl (0, 20000000)) hT qa rfl rfl rfl
    cases (cw_F_u f' fa).2
    obtain ⟨x, e, hx⟩ := ak_gi g'
    cases e
    exact hx.1
  have pos3 : ∀ a v, s[a]? = some 58 → cw_F h a 6 3 (.int v) → 0 ≤ v.toInt := by
    intro a v qa fa
    obtain ⟨v', f', g'⟩ := cw_tyF (i := a) (t := 58) (c := 6) (k := 3) (y := .inl (0, 20000000)) hT qa rfl rfl rfl
    cases (cw_F_u f' fa).2
    obtain ⟨x, e, hx⟩ := ak_gi g'
    cases e
    exact hx.1
  obtain ⟨l0, wl, fi, fwl, bl0, bwl⟩ := id oki
  obtain ⟨hr, wr, fj, fwr, bhr, bwr⟩ := id okj
  have fi := (cw_fo_F (h := h) (by decide)).mp fi
  have fwl := (cw_fo_F (h := h) (by decide)).mp fwl
  have fj := (cw_fo_F (h := h) (by decide)).mp fj
  have fwr := (cw_fo_F (h := h) (by decide)).mp fwr
  have p1 := pos _ _ qi fi
  have p2 := pos _ _ qj fj
  have p3 := pos3 _ _ qi fwl
  have p4 := pos3 _ _ qj fwr
  have hm := cw_mulb (a := l0.toInt) (b := hr.toInt) (by omega) (by omega)
  refine cw_m (con := cw_nW 115 none) aj_m115_at (Nat.le_of_ble_eq_true rfl) ?_
  show cw_W _ _ _ _ _ _ _ _ _ _ 0 [(0, .ref (52 + 43)), (1, .ref (52 + i)), (2, .ref (52 + j)), (3, .int x3)] []
  obtain ⟨lv, elv⟩ : ∃ l : aj_V, l = [(0, .ref (52 + 43)), (1, .ref (52 + i)), (2, .ref (52 + j)), (3, .int x3)] := ⟨_, rfl⟩
  rw [← elv]
  have hl0 : aj_lv lv 0 = some (.ref (52 + 43)) := by rw [elv]; rfl
  have hl1 : aj_lv lv 1 = some (.ref (52 + i)) := by rw [elv]; rfl
  have hl2 : aj_lv lv 2 = some (.ref (52 + j)) := by rw [elv]; rfl
  have hl3 : aj_lv lv 3 = some (.int x3) := by rw [elv]; rfl
  refine cw_l2 aj_d115 rfl rfl hl1 ?_
  refine cw_g (i := i) (v := .int l0) htb.1 aj_d115 rfl rfl (by decide) fi ?_
  refine cw_l2 aj_d115 rfl rfl hl2 ?_
  refine cw_g (i := j) (v := .int hr) htb.1 aj_d115 rfl rfl (by decide) fj ?_
  refine cw_mul aj_d115 rfl (a := l0.toInt) (b := hr.toInt) rfl rfl hm.1 hm.2.1 (fun z8 ez8 => ?_)
  refine cw_n aj_d115 rfl rfl ?_
  refine cw_c (tgt := 20) aj_d115 rfl rfl (fun q9 => ?_) (fun q9 => ?_)
  · have q9 : z8.toInt ≤ (30 : Int) := aw_t_le (a := z8.toInt) (b := (30 : Int)) rfl rfl q9
    refine cw_l2 aj_d115 rfl rfl hl0 ?_
    obtain ⟨v10, f10, g10⟩ := cw_tyF (i := 43) (t := 61) (c := 9) (k := 1) (y := (.inr (some ([56], false)))) hT (cw_s0 hB rfl) rfl rfl rfl
    obtain rfl := cw_gu (i := 30) hB g10 (by decide) (by decide) (by decide)
    refine cw_g (i := 43) (v := .ref (52 + 30)) htb.1 aj_d115 rfl rfl (by decide) f10 ?_
    refine cw_l0 aj_d115 rfl rfl hl3 ?_
    refine cw_k0 (i := 30) (t := 56) (con' := ap_c40) aj_d115 htb hT rfl rfl [_] rfl rfl (cw_s0 hB rfl) rfl (Nat.le_of_ble_eq_true rfl) ⟨by decide, by decide⟩ (cw_a1 (by omega) (ap_W_40 htb (cw_SP1c _ _ rfl rfl) cw_hK) hT hB rfl ⟨(cw_gR (cw_s0 hB rfl) (by decide) (by decide)), (cw_full _), trivial⟩) ?_
    rintro ru11 h11 hT11 ho11 hRu11
    have f12 : cw_F h11 i 6 4 (.int l0) := cw_trF ho11 (by decide) fi
    have f13 : cw_F h11 j 6 4 (.int hr) := cw_trF ho11 (by decide) fj
    have f14 : cw_F h11 43 9 5 (.ref (52 + p)) := cw_trF ho11 (by decide) fs
    have f15 : cw_F h11 i 6 3 (.int wl) := cw_trF ho11 (by decide) fwl
    have f16 : cw_F h11 j 6 3 (.int wr) := cw_trF ho11 (by decide) fwr
    have f17 : cw_F h11 43 9 4 (.int dp) := cw_trF ho11 (by decide) fd
    obtain ⟨x18, rfl, bx18⟩ := cw_rI hRu11
    show cw_W _ _ _ _ _ _ _ _ _ _ 28 lv [.int x18]
    refine cw_t0 (j := 4) aj_d115 rfl (by decide) rfl ?_
    obtain ⟨lv19, elv19⟩ : ∃ l, l = aj_set1 lv 4 (.int x18) := ⟨_, rfl⟩
    rw [← elv19]
    have hlv19_0 : aj_lv lv19 0 = some (.ref (52 + 43)) := cw_e1 elv19 hl0 (by decide) (Or.inl (by decide))
    have hlv19_1 : aj_lv lv19 1 = some (.ref (52 + i)) := cw_e1 elv19 hl1 (by decide) (Or.inl (by decide))
    have hlv19_2 : aj_lv lv19 2 = some (.ref (52 + j)) := cw_e1 elv19 hl2 (by decide) (Or.inl (by decide))
    have hlv19_3 : aj_lv lv19 3 = some (.int x3) := cw_e1 elv19 hl3 (by decide) (Or.inr rfl)
    have hlv19_4 : aj_lv lv19 4 = some (.int x18) := by rw [elv19]; exact ak_set1_eq _ _ _
    show cw_W _ _ _ _ _ _ _ _ _ _ 30 lv19 []
    refine cw_l2 aj_d115 rfl rfl hlv19_0 ?_
    refine cw_g (i := 43) (v := .ref (52 + p)) htb.1 aj_d115 rfl rfl (by decide) f14 ?_
    refine cw_l2 aj_d115 rfl rfl hlv19_1 ?_
    refine cw_g (i := i) (v := .int wl) htb.1 aj_d115 rfl rfl (by decide) f15 ?_
    refine cw_k0 (i := p) (t := 58) (con' := cw_nW 116 none) aj_d115 htb hT11 rfl rfl [_] rfl rfl qp rfl (Nat.le_of_ble_eq_true rfl) ⟨by decide, by decide⟩ (cw_clear htb hT11 (cw_I_eq (ho11.trans rfl) hI) (by omega) (x := wl) (by omega) qp) ?_
    rintro rc hc hTc ⟨rfl, Ic, kc0, zc, ezc, fpc, fpw⟩ hRc
    have kcc := cw_kp_tr (cw_kp_eq (ho11.trans rfl)) kc0
    have fic : cw_F hc i 6 4 (.int l0) := cw_kp_F kcc (fun z => hip z.1) (by decide) fi
    have fjc : cw_F hc j 6 4 (.int hr) := cw_kp_F kcc (fun z => hjp z.1) (by decide) fj
    have fwlc : cw_F hc i 6 3 (.int wl) := cw_kp_F kcc (fun z => hip z.1) (by decide) fwl
    have fwrc : cw_F hc j 6 3 (.int wr) := cw_kp_F kcc (fun z => hjp z.1) (by decide) fwr
    have fsc : cw_F hc 43 9 5 (.ref (52 + p)) := cw_kp_F kcc (fun z => absurd z.2 (by decide)) (by decide) fs
    have fdc : cw_F hc 43 9 4 (.int dp) := cw_kp_F kcc (fun z => absurd z.2 (by decide)) (by decide) fd
    show cw_W _ _ _ _ _ _ _ _ _ _ 41 lv19 []
    refine cw_n aj_d115 rfl rfl ?_
    refine cw_t0 (j := 5) aj_d115 rfl (by decide) rfl ?_
    obtain ⟨lv20, elv20⟩ : ∃ l, l = aj_set1 lv19 5 (.int (Int32.ofInt 0)) := ⟨_, rfl⟩
    rw [← elv20]
    have hlv20_4 : aj_lv lv20 4 = some (.int x18) := cw_e1 elv20 hlv19_4 (by decide) (Or.inr rfl)
    have hlv20_0 : aj_lv lv20 0 = some (.ref (52 + 43)) := cw_e1 elv20 hlv19_0 (by decide) (Or.inl (by decide))
    have hlv20_1 : aj_lv lv20 1 = some (.ref (52 + i)) := cw_e1 elv20 hlv19_1 (by decide) (Or.inl (by decide))
    have hlv20_2 : aj_lv lv20 2 = some (.ref (52 + j)) := cw_e1 elv20 hlv19_2 (by decide) (Or.inl (by decide))
    have hlv20_3 : aj_lv lv20 3 = some (.int x3) := cw_e1 elv20 hlv19_3 (by decide) (Or.inl (by decide))
    have hlv20_5 : aj_lv lv20 5 = some (.int (Int32.ofInt 0)) := by rw [elv20]; exact ak_set1_eq _ _ _
    show cw_W _ _ _ _ _ _ _ _ _ _ 44 lv20 []
    refine cw_jn_out (h0 := hc) (by omega) htb qi qj qp hip hjp (by omega) (by omega) fic fjc fsc 46000 hTc Ic cw_kp_rf fpc fic fjc fsc hlv20_0 hlv20_1 hlv20_2 hlv20_3 hlv20_4 hlv20_5 (by rw [ezc, show (Int32.ofInt 0).toInt = 0 from rfl, Int.zero_mul]) ⟨by decide, by rw [show (Int32.ofInt 0).toInt = 0 from rfl]; omega⟩ (by rw [show (Int32.ofInt 0).toInt = 0 from rfl]; omega) ?_
    rintro h1 lv1 kc1 ks1 y1 hT1 I1 k1 fp1 ey1 g0 g1 g2 g3 g4
    have fi1 : cw_F h1 i 6 4 (.int l0) := cw_kp_F k1 (fun z => hip z.1) (by decide) fic
    have fj1 : cw_F h1 j 6 4 (.int hr) := cw_kp_F k1 (fun z => hjp z.1) (by decide) fjc
    have fwl1 : cw_F h1 i 6 3 (.int wl) := cw_kp_F k1 (fun z => hip z.1) (by decide) fwlc
    have fwr1 : cw_F h1 j 6 3 (.int wr) := cw_kp_F k1 (fun z => hjp z.1) (by decide) fwrc
    have fs1 : cw_F h1 43 9 5 (.ref (52 + p)) := cw_kp_F k1 (fun z => absurd z.2.1 (by decide)) (by decide) fsc
    have fd1 : cw_F h1 43 9 4 (.int dp) := cw_kp_F k1 (fun z => absurd z.2.1 (by decide)) (by decide) fdc
    have fpw1 : cw_F h1 p 6 3 (.int wl) := cw_kp_F k1 (fun z => absurd z.2.2 (by decide)) (by decide) fpw
    refine cw_l2 aj_d115 rfl rfl g0 ?_
    refine cw_g (i := 43) (v := .ref (52 + p)) htb.1 aj_d115 rfl rfl (by decide) fs1 ?_
    refine cw_l2 aj_d115 rfl rfl g1 ?_
    refine cw_g (i := i) (v := .int wl) htb.1 aj_d115 rfl rfl (by decide) fwl1 ?_
    refine cw_l2 aj_d115 rfl rfl g2 ?_
    refine cw_l2 aj_d115 rfl rfl g1 ?_
    refine cw_g (i := i) (v := .int wl) htb.1 aj_d115 rfl rfl (by decide) fwl1 ?_
    refine cw_l0 aj_d115 rfl rfl g4 ?_
    refine cw_k0 (i := j) (t := 58) (con' := cw_nW 119 (some (.inl (0, 20000000)))) aj_d115 htb hT1 rfl rfl [_, _] rfl rfl qj rfl (Nat.le_of_ble_eq_true rfl) ⟨by decide, by decide⟩ (cw_newC htb hT1 I1 (by omega) (a := wl) (m := x18) qj fwr1 (by omega)) ?_
    rintro _ _ hTn ⟨rfl, nc, rfl, nc0, nc1, nc8⟩ _
    show cw_W _ _ _ _ _ _ _ _ _ _ 107 lv1 [.int nc, .int wl, .ref (52 + p)]
    refine cw_add aj_d115 rfl (a := wl.toInt) (b := nc.toInt) rfl rfl (by omega) (by omega) (fun x21 ex21 => ?_)
    refine cw_p (i := p) (t := 58) (c := 6) (k := 3) (v := .int x21) (y := (.inl (0, 20000000))) htb aj_d115 rfl rfl hTn qp rfl rfl rfl (cw_gw (a := x21.toInt) rfl (by omega) (by omega)) (by decide) rfl rfl (fun hT22 => ?_)
    have f23 : cw_F (cw_sf h1 p 3 (.int x21)) i 6 4 (.int l0) := cw_sf_ne fi1 (Or.inr (by decide))
    have f24 : cw_F (cw_sf h1 p 3 (.int x21)) j 6 4 (.int hr) := cw_sf_ne fj1 (Or.inr (by decide))
    have f25 : cw_F (cw_sf h1 p 3 (.int x21)) 43 9 5 (.ref (52 + p)) := cw_sf_ne fs1 (Or.inr (by decide))
    have f26 : cw_F (cw_sf h1 p 3 (.int x21)) 43 9 4 (.int dp) := cw_sf_ne fd1 (Or.inr (by decide))
    have f27 : cw_F (cw_sf h1 p 3 (.int x21)) p 6 4 (.int y1) := cw_sf_ne fp1 (Or.inr (by decide))
    have f28 : cw_F (cw_sf h1 p 3 (.int x21)) p 6 3 (.int x21) := cw_sf_same fpw1
    refine cw_l2 aj_d115 rfl rfl g0 ?_
    have I2 := cw_I_sfX hTn I1 fpw1 (Or.inl rfl) (y := x21) (by omega)
    have k2 : cw_kp (cw_Ei p) cw_E0 (cw_o h) (cw_o (cw_sf h1 p 3 (.int x21))) := cw_kp_tr kcc (cw_kp_tr (cw_Ehi k1) (cw_kp_sf fpw1 ⟨rfl, rfl⟩))
    refine cw_k0 (i := 43) (t := 61) (con' := cw_nW 120 none) aj_d115 htb hT22 rfl rfl [] rfl rfl (cw_s0 hB rfl) rfl (Nat.le_of_ble_eq_true rfl) ⟨by decide, by decide⟩ (cw_useS (b := b + 7) htb hT22 I2 (by omega) (dp := dp) hdp qi qp f26 f25 (cw_sk_kp k2 (fun z => z) hsk)) ?_
    rintro ru hu hTu ⟨rfl, Iu, ku, sk1, sk2, su, -⟩ hRu
    have okp : cw_ok (b + 7) (cw_o (cw_sf h1 p 3 (.int x21))) p := cw_ok_F f27 f28 (by omega) (by omega)
    have gg2 : cw_sy b (b + 7) (cw_o h) (cw_o (cw_sf h1 p 3 (.int x21))) := fun a q => cw_sy_kp k2 okp a (cw_ok_mono (by omega) q)
    show cw_W _ _ _ _ _ _ _ _ _ _ 115 lv1 []
    refine cw_Wr aj_d115 rfl rfl hTu ?_ ?_
    · exact ⟨rfl, rfl, Iu, cw_kp_tr (cw_kp_sub k2 (fun _ _ _ z => Or.inl z.2) (fun _ z => z.elim)) (cw_kp_sub ku (fun _ _ _ z => Or.inr (Or.inr z)) (fun _ z => z)), cw_sy_tr gg2 su, fun l r hl hk => sk2 l r hl (cw_sk_kp k2 (fun z => z) hk), p, sk1, su p okp⟩
    · trivial
  · have q9 : z8.toInt > (30 : Int) := aw_t_le (a := z8.toInt) (b := (30 : Int)) rfl rfl q9
    refine cw_l2 aj_d115 rfl rfl hl0 ?_
    refine cw_l0 aj_d115 rfl rfl hl3 ?_
    refine cw_k0 (i := 43) (t := 61) (con' := cw_nW 107 none) aj_d115 htb hT rfl rfl [_] rfl rfl (cw_s0 hB rfl) rfl (Nat.le_of_ble_eq_true rfl) ⟨by decide, by decide⟩ (cw_fullT htb hT hI (by omega) (x := x3) hx) ?_
    rintro rf hf hTf ⟨rfl, If, kf⟩ hRf
    show cw_W _ _ _ _ _ _ _ _ _ _ 19 lv []
    refine cw_Wr aj_d115 rfl rfl hTf ?_ ?_
    · exact ⟨rfl, rfl, If, cw_kp_sub kf (fun _ _ _ z => Or.inr (Or.inl z)) (fun _ z => z.elim), fun a q => cw_ok_mono (by omega) (cw_sy_n (b := b) kf (fun _ _ z => absurd z (by decide)) a q), fun l r _ hk => cw_sk_kp kf (fun z => z) hk, i, cw_sk_kp kf (fun z => z) hsk, cw_ok_mono (by omega) (cw_sy_n (b := b) kf (fun _ _ z => absurd z (by decide)) i oki)⟩
    · trivial
end CW74
