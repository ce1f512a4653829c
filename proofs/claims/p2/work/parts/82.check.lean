/-! THE CHECK, BY HAND (printed by wip/p2/cwalk/g82.py) -/
abbrev cw_nC (m : Nat) (r : Option ak_A) : ak_Con := (m, [], r, ([65, 66, 67, 72, 73, 74, 75, 82, 86, 87, 88], [(0, 2), (0, 5), (0, 7), (0, 8), (4, 5), (4, 6), (6, 3), (6, 4), (7, 11), (7, 12), (7, 13)]), [], [], [], 0, 0, [], [], [])
section CW82
variable {T : ak_TT} {Φ : List Nat → Option Value → aj_H → Prop} {tb : aj_T} {con : ak_Con} {d : Nat} {s s' s2 s0 : List Nat} {h h' h2 h0 : aj_H} {i j p q x c k l l' : Nat} {b b' b2 : Int} {o o' o2 o0 : cw_O} {EF : Nat → Nat → Nat → Prop} {EA : Nat → Prop} {n nt n0 iv y y' v w : Int32} {f g g0 : Nat → Int32} {B : Prop}
def cw_bado (o : cw_O) : Prop := ∃ m : Int32, m.toInt ≠ 0 ∧ cw_fo o 30 4 5 (.int m)
abbrev cw_E4 : Nat → Nat → Nat → Prop := fun _ c k => c = 4 ∧ k ≠ 4
/-- while a check goes on: what fails alone -/
def cw_SPk (s0 : List Nat) (o0 : cw_O) : List Nat → aj_H → Prop := fun s h => cw_B s ∧ (cw_IO cw_XB s (cw_o h) ∧ (s = s0 ∧ (cw_kp cw_E4 cw_E0 o0 (cw_o h) ∧ (cw_bado o0 → cw_bado (cw_o h)))))
theorem cw_SPkc {T : ak_TT} (hT1 : T.2.2.1 = ak_spTC) (hT2 : T.2.2.2 = ak_spFC) : ak_SPc T (cw_SPk s0 o0) := cw_SPI (I := fun s o => cw_IO cw_XB s o ∧ (s = s0 ∧ (cw_kp cw_E4 cw_E0 o0 o ∧ (cw_bado o0 → cw_bado o)))) hT1 hT2
theorem cw_SPk_I (hS : cw_SPk s0 o0 s h) : cw_I cw_XB s h := ⟨hS.1, hS.2.1⟩
theorem cw_SPk_eq (ho : cw_o h' = cw_o h) (hS : cw_SPk s0 o0 s h) : cw_SPk s0 o0 s h' := ⟨hS.1, by rw [ho]; exact hS.2⟩
theorem cw_H1k (htb : ak_tbOK ak_C1 tb) : ap_H1 (cw_SPk s0 o0) cw_kap tb := by
  unfold ap_H1 ap_hl1
  refine List.forall_mem_cons.mpr ⟨?_, List.forall_mem_cons.mpr ⟨?_, List.forall_mem_cons.mpr ⟨?_, fun _ h => nomatch h⟩⟩⟩
  · refine cw_CT rfl (fun d hd s h as hT hS hA _ => ?_)
    have hI := cw_SPk_I hS
    obtain ⟨v1, as, rfl, g1, hA⟩ := cw_gAc hA
    obtain ⟨v2, as, rfl, g2, hA⟩ := cw_gAc hA
    obtain ⟨v3, as, rfl, g3, hA⟩ := cw_gAc hA
    cases cw_gAn hA
    obtain rfl := cw_gu (i := 30) hI.1 g1 (by decide) (by decide) (by decide)
    obtain ⟨m, rfl, hm⟩ := ak_gi g2
    obtain ⟨p, rfl, -⟩ := ak_gi g3
    obtain ⟨w1, f1, k1⟩ := cw_tyF (i := 30) (t := 56) (c := 4) (k := 5) (y := .inl (-2147483648, 2147483647)) hT (cw_s0 hI.1 rfl) rfl rfl rfl
    obtain ⟨q1, rfl, -⟩ := ak_gi k1
    obtain ⟨w2, f2, k2⟩ := cw_tyF (i := 30) (t := 56) (c := 4) (k := 6) (y := .inl (-2147483648, 2147483647)) hT (cw_s0 hI.1 rfl) rfl rfl rfl
    obtain ⟨q2, rfl, -⟩ := ak_gi k2
    refine cw_mono (fun s' r h' hh => ?_) (cw_fail1 htb hT hI.1 hd m p)
    obtain ⟨es, -, hh⟩ := hh
    obtain rfl := es.symm
    have hm1 : m.toInt ≠ 0 := by have := hm.1; omega
    have I' := cw_failI f1 f2 hm1 hh hI
    refine ⟨I'.1, I'.2, hS.2.2.1, ?_⟩
    rcases hh with rfl | rfl
    · exact hS.2.2.2
    · exact ⟨cw_kp_tr hS.2.2.2.1 (cw_kp_tr (cw_kp_sf f1 ⟨rfl, by decide⟩) (cw_kp_sf (cw_sf_ne f2 (Or.inr (by decide))) ⟨rfl, by decide⟩)), fun _ => ⟨m, hm1, (cw_fo_F (by decide)).mpr (cw_sf_ne (cw_sf_same f1) (Or.inr (by decide)))⟩⟩
  · refine cw_CT rfl (fun d hd s h as hT hS hA _ => ?_)
    have hI := cw_SPk_I hS
    obtain ⟨v0, as, rfl, q0, hA⟩ := cw_gAc hA
    obtain ⟨v1, as, rfl, q1, hA⟩ := cw_gAc hA
    obtain ⟨v2, as, rfl, q2, hA⟩ := cw_gAc hA
    cases cw_gAn hA
    obtain rfl := cw_gu (i := 39) hI.1 q0 (by decide) (by decide) (by decide)
    obtain ⟨a1, rfl, ha1⟩ := ak_gi q1
    obtain ⟨a2, rfl⟩ := cw_gl q2
    refine cw_mono (fun s' r h' hh => ?_) (cw_addCol htb hT hI.1 hd a1 a2)
    obtain ⟨es, ho⟩ := hh
    obtain rfl := es.symm
    exact cw_SPk_eq ho hS
  · refine cw_CT rfl (fun d hd s h as hT hS hA _ => ?_)
    have hI := cw_SPk_I hS
    obtain ⟨v1, as, rfl, q1, hA⟩ := cw_gAc hA
    obtain ⟨v2, as, rfl, q2, hA⟩ := cw_gAc hA
    cases cw_gAn hA
    obtain rfl := cw_gu (i := 26) hI.1 q1 (by decide) (by decide) (by decide)
    obtain ⟨m, rfl, hm⟩ := ak_gi q2
    obtain ⟨fw, w1, w2⟩ := hI.2.1
    refine cw_mono (fun s' r h' hh => ?_) (cw_intAt htb hT hI.1 hd m hm ((cw_oa_A (by decide)).mp w1) w2)
    obtain ⟨es, eh⟩ := hh
    obtain rfl := es.symm
    obtain rfl := eh.symm
    exact hS
theorem cw_a2 {k : Nat} (hd : k ≤ d) (hC : ak_CT T (cw_SPk s (cw_o h)) cw_kap tb k con) {as : List Value} (hT : ak_Ty T s h) (hI : cw_I cw_XB s h) (hQ : con.2.2.2.2.1 = []) (hA : ak_gA s con.2.1 as) : cw_K T (fun s' _ h' => s' = s ∧ cw_I cw_XB s' h' ∧ cw_kp cw_E4 cw_E0 (cw_o h) (cw_o h') ∧ (cw_bado (cw_o h) → cw_bado (cw_o h'))) tb d con as s h := by
  refine cw_mono (fun s' r h' hh => ?_) (cw_of (SP := cw_SPk s (cw_o h)) hd hC hT ⟨hI.1, hI.2, rfl, cw_kp_rf, id⟩ hA (by rw [hQ]; exact cw_q0))
  have z := hh.1
  exact ⟨z.2.2.1, ⟨z.1, z.2.1⟩, z.2.2.2⟩
theorem cw_sta_kp (h0 : cw_sta iv y h h') : cw_kp (fun _ _ _ => False) (fun a => a = 34) (cw_o h) (cw_o h') := by
  obtain ⟨e, q, -⟩ := h0
  refine ⟨fun i c k v _ z => ?_, fun i z hi e2 => ?_⟩
  · obtain ⟨h1, h2⟩ := cw_fo_sp z
    exact (cw_fo_F h1).mpr (q _ _ _ _ h2)
  · rw [(e i (fun z => hi (List.mem_singleton.mp z))).2]
    exact e2
theorem cw_sta_I (hT : ak_Ty ak_C1 s h) (hI : cw_I cw_XB s h) (h0 : cw_sta iv y h h') : cw_I cw_XB s h' := by
  have k5 := cw_sta_kp h0
  refine ⟨hI.1, cw_wds_kp k5 (by decide) hI.2.1, cw_dis_kp k5 (by decide) id hI.2.2.1, cw_gd_kp (T := ak_C1) rfl rfl hT hI.1 k5 (by decide) ⟨id, id⟩ hI.2.2.2.1, fun i hi q hq => ?_, cw_rm_kp k5 (fun j hj z => by omega) ⟨id, id⟩ hI.2.2.2.2.2⟩
  rw [(h0.1 i (fun z => by have := List.mem_singleton.mp z; omega)).1] at hq
  exact hI.2.2.2.2.1 i hi q hq
theorem cw_I_c0 {T : ak_TT} (h1 : T.1 = ak_ti) (h4 : T.2.1[4]? = ak_ft0[4]?) {X : Option Nat} (hT : ak_Ty T s h) (hI : cw_I X s h) {v w : Value} (fd : cw_F h 39 0 k v) : cw_I X s (cw_sf h 39 k w) ∧ cw_kp (fun a c k' => a = 39 ∧ c = 0 ∧ k' = k) (fun _ => False) (cw_o h) (cw_o (cw_sf h 39 k w)) := by
  have k5 : cw_kp (fun a c k' => a = 39 ∧ c = 0 ∧ k' = k) (fun _ => False) (cw_o h) (cw_o (cw_sf h 39 k w)) := cw_kp_sf fd ⟨rfl, rfl, rfl⟩
  exact ⟨⟨hI.1, cw_wds_kp k5 id hI.2.1, cw_dis_kp k5 id (fun z => by omega) hI.2.2.1, cw_gd_kp (T := T) h1 h4 hT hI.1 k5 id ⟨fun z => by omega, fun z => by omega⟩ hI.2.2.2.1, cw_H_sfo hI.2.2.2.2.1 fd (by decide), cw_rm_kp k5 (fun _ _ z => z) ⟨fun z => by omega, fun z => by omega⟩ hI.2.2.2.2.2⟩, k5⟩
/-- where a check stands -/
def cw_CQ (x : Nat) (n : Int32) (f : Nat → Int32) (iv : Int32) (g0 : Nat → Int32) (n0 : Int32) (B : Prop) (y nt : Int32) (g : Nat → Int32) (s : List Nat) (h : aj_H) : Prop := cw_I cw_XB s h ∧ s[x]? = some 59 ∧ cw_F h 39 0 2 (.ref (52 + x)) ∧ cw_A h 31 0 2500 (.inl f) ∧ cw_A h 34 0 2500 (.inl g) ∧ cw_F h 30 4 4 (.int n) ∧ cw_F h 39 0 5 (.int y) ∧ cw_Z x nt 30 (cw_o h) ∧ n0.toInt ≤ nt.toInt ∧ (∀ j : Nat, (j : Int) ≠ iv.toInt → g j = g0 j) ∧ (B → cw_bado (cw_o h))
theorem cw_CQ_eq (ho : cw_o h' = cw_o h) (hQ : cw_CQ x n f iv g0 n0 B y nt g s h) : cw_CQ x n f iv g0 n0 B y nt g s h' := by
  obtain ⟨q1, q2, q3, q4, q5, q6, q7, q8, q9, q10, q11⟩ := hQ
  refine ⟨cw_I_eq ho q1, q2, cw_trF ho (by decide) q3, cw_trA ho (by decide) q4, cw_trA ho (by decide) q5, cw_trF ho (by decide) q6, cw_trF ho (by decide) q7, ?_, q9, q10, fun z => ?_⟩
  · rw [ho]
    exact q8
  · rw [ho]
    exact q11 z
theorem cw_CQ_f (I' : cw_I cw_XB s h') (k' : cw_kp cw_E4 cw_E0 (cw_o h) (cw_o h')) (m' : cw_bado (cw_o h) → cw_bado (cw_o h')) (hQ : cw_CQ x n f iv g0 n0 B y nt g s h) : cw_CQ x n f iv g0 n0 B y nt g s h' := by
  obtain ⟨q1, q2, q3, q4, q5, q6, q7, q8, q9, q10, q11⟩ := hQ
  exact ⟨I', q2, cw_kp_F k' (by decide) (by decide) q3, cw_kp_A k' id (by decide) q4, cw_kp_A k' id (by decide) q5, cw_kp_F k' (by decide) (by decide) q6, cw_kp_F k' (by decide) (by decide) q7, cw_Z_kp k' (fun z => absurd z.1 (by decide)) (fun z => absurd z.1 (by decide)) id (cw_sy_n k' (fun _ _ z => absurd z.1 (by decide))) q8, q9, q10, fun z => m' (q11 z)⟩
theorem cw_CQ_set (hx : x = 2 ∨ x = 14) (hi : 0 ≤ iv.toInt ∧ iv.toInt ≤ 2499) (hT : ak_Ty ak_C1 s h) (h0 : cw_sta iv v h h') (hQ : cw_CQ x n f iv g0 n0 B y nt g s h) : ∃ g', cw_CQ x n f iv g0 n0 B y nt g' s h' ∧ g' iv.toInt.toNat = v := by
  obtain ⟨q1, q2, q3, q4, q5, q6, q7, q8, q9, q10, q11⟩ := hQ
  have k' := cw_sta_kp h0
  have I' := cw_sta_I hT q1 h0
  obtain ⟨e, q, ga, g', a1, a2, a3, a4⟩ := h0
  obtain ⟨-, -, e5⟩ := cw_A_u q5 a1
  cases e5
  refine ⟨g', ⟨I', q2, q _ _ _ _ q3, cw_kp_A k' (by decide) (by decide) q4, a2, q _ _ _ _ q6, q _ _ _ _ q7, cw_Z_kp k' id id (fun z => by omega) (cw_sy_n k' (fun _ _ z => z)) q8, q9, fun j hj => by rw [a3 j hj]; exact q10 j hj, fun z => ?_⟩, a4 hi.1 (by omega)⟩
  obtain ⟨m, hm, hf⟩ := q11 z
  exact ⟨m, hm, k'.1 _ _ _ _ id hf⟩
theorem cw_CQ_dep (hT : ak_Ty ak_C1 s h) (hQ : cw_CQ x n f iv g0 n0 B y nt g s h) (y' : Int32) : cw_CQ x n f iv g0 n0 B y' nt g s (cw_sf h 39 5 (.int y')) := by
  obtain ⟨q1, q2, q3, q4, q5, q6, q7, q8, q9, q10, q11⟩ := hQ
  obtain ⟨I', k'⟩ := cw_I_c0 (T := ak_C1) (w := .int y') rfl rfl hT q1 q7
  refine ⟨I', q2, cw_kp_F k' (by decide) (by decide) q3, cw_kp_A k' id (by decide) q4, cw_kp_A k' id (by decide) q5, cw_kp_F k' (by decide) (by decide) q6, cw_sf_same q7, cw_Z_kp k' (fun z => absurd z.2.1 (by decide)) (fun z => absurd z.2.1 (by decide)) id (cw_sy_n k' (fun _ _ z => absurd z.2.1 (by decide))) q8, q9, q10, fun z => ?_⟩
  obtain ⟨m, hm, hf⟩ := q11 z
  exact ⟨m, hm, k'.1 _ _ _ _ (fun z => absurd z.2.1 (by decide)) hf⟩
/-- the rows of a table -/
theorem cw_rowsO1 (htb : ak_tbOK ak_C1 tb) (hT : ak_Ty ak_C1 s h) (hB : cw_B s) (hd : 1 ≤ d) {q : Nat} (hq : q = 2 ∨ q = 14) {x nt : Int32} (hZ : cw_Z q nt b (cw_o h)) : cw_K ak_C1 (fun s' r h' => s' = s ∧ h' = h ∧ ((¬ (0 ≤ x.toInt ∧ x.toInt < nt.toInt) ∧ r = some .null) ∨ (0 ≤ x.toInt ∧ x.toInt < nt.toInt) ∧ ∃ i, r = some (.ref (52 + i)) ∧ s[i]? = some 58 ∧ cw_ok b (cw_o h) i)) tb d (cw_nC 63 (some (.inr (some ([58], true))))) [.ref (52 + q), .int x] s h := by
  obtain ⟨d, rfl⟩ : ∃ e, d = e + 1 := ⟨d - 1, by omega⟩
  obtain ⟨q3, f12, f7, a10, hZ⟩ := hZ
  have f12 := (cw_fo_F (h := h) (by decide)).mp f12
  have f7 := (cw_fo_F (h := h) (by decide)).mp f7
  refine cw_m (con := cw_nC 63 (some (.inr (some ([58], true))))) aj_m63_at (Nat.le_of_ble_eq_true rfl) ?_
  rcases hq with rfl | rfl
  · have a10 : cw_A h 10 5 10 (cw_q q3) := (cw_oa_A (by decide)).mp a10
    have f7 : cw_F h 2 7 7 (.ref (52 + 10)) := f7
    obtain ⟨v', f', g'⟩ := cw_tyF (i := 2) (t := 59) (c := 7) (k := 12) (y := .inl (0, 10)) hT (cw_s0 hB rfl) rfl rfl rfl
    cases (cw_F_u f' f12).2
    obtain ⟨x', e, hx'⟩ := ak_gi g'
    cases e
    dsimp only [ak_win] at hx'
    show cw_W _ _ _ _ _ _ _ _ _ _ 0 [(0, .ref (52 + 2)), (1, .int x)] []
    refine cw_n aj_d63 rfl rfl ?_
    refine cw_z (tgt := 30) aj_d63 rfl rfl (fun q1001 => ?_) (fun q1001 => ?_)
    · have q1001 : x.toInt < (0 : Int) := aw_t_lt (a := x.toInt) (b := (0 : Int)) rfl rfl q1001
      refine cw_n aj_d63 rfl rfl ?_
      refine cw_Wr aj_d63 rfl rfl hT ?_ ?_
      · exact ⟨rfl, rfl, Or.inl ⟨by omega, rfl⟩⟩
      · exact rfl
    · have q1001 : x.toInt ≥ (0 : Int) := aw_t_lt (a := x.toInt) (b := (0 : Int)) rfl rfl q1001
      refine cw_n aj_d63 rfl rfl ?_
      refine cw_n aj_d63 rfl rfl ?_
      refine cw_g (i := 2) (v := .int nt) htb.1 aj_d63 rfl rfl (by decide) f12 ?_
      refine cw_c (tgt := 30) aj_d63 rfl rfl (fun q1002 => ?_) (fun q1002 => ?_)
      · have q1002 : x.toInt ≥ nt.toInt := aw_t_ge (a := x.toInt) (b := nt.toInt) rfl rfl q1002
        refine cw_n aj_d63 rfl rfl ?_
        refine cw_Wr aj_d63 rfl rfl hT ?_ ?_
        · exact ⟨rfl, rfl, Or.inl ⟨by omega, rfl⟩⟩
        · exact rfl
      · have q1002 : x.toInt < nt.toInt := aw_t_ge (a := x.toInt) (b := nt.toInt) rfl rfl q1002
        refine cw_n aj_d63 rfl rfl ?_
        refine cw_n aj_d63 rfl rfl ?_
        refine cw_g (i := 2) (v := .ref (52 + 10)) htb.1 aj_d63 rfl rfl (by decide) f7 ?_
        refine cw_alen (i := 10) htb.1 aj_d63 rfl a10 (by decide) (by omega) (fun x1003 ex1003 => ?_)
        refine cw_c (tgt := 30) aj_d63 rfl rfl (fun q1004 => ?_) (fun q1004 => ?_)
        · have q1004 : x.toInt ≥ (10 : Int) := aw_t_ge (a := x.toInt) (b := (10 : Int)) rfl ex1003 q1004
          refine cw_n aj_d63 rfl rfl ?_
          refine cw_Wr aj_d63 rfl rfl hT ?_ ?_
          · exact ⟨rfl, rfl, Or.inl ⟨by omega, rfl⟩⟩
          · exact rfl
        · have q1004 : x.toInt < (10 : Int) := aw_t_ge (a := x.toInt) (b := (10 : Int)) rfl ex1003 q1004
          refine cw_n aj_d63 rfl rfl ?_
          refine cw_g (i := 2) (v := .ref (52 + 10)) htb.1 aj_d63 rfl rfl (by decide) f7 ?_
          refine cw_n aj_d63 rfl rfl ?_
          refine cw_ldq (i := 10) htb.1 aj_d63 rfl a10 (a := x.toInt) rfl (by omega) (by omega) ?_
          have hxn : x.toInt.toNat < nt.toInt.toNat := by omega
          obtain ⟨i, hi, oki⟩ := hZ _ hxn
          obtain ⟨i', ei, qi⟩ := cw_refs (T := ak_C1) (t := 72) (n1 := 10) (n2 := 10) hT (cw_s0 hB rfl) rfl a10 (l := x.toInt.toNat) (by omega) hi
          obtain rfl : i = i' := by omega
          rw [hi]
          show cw_W _ _ _ _ _ _ _ _ _ _ 27 [(0, .ref (52 + 2)), (1, .int x)] [.ref (52 + i)]
          refine cw_n aj_d63 rfl rfl ?_
          refine cw_Wr aj_d63 rfl rfl hT ?_ ?_
          · exact ⟨rfl, rfl, Or.inr ⟨⟨by omega, by omega⟩, i, rfl, qi, oki⟩⟩
          · exact cw_gR qi (by decide) (by decide)
  · have a10 : cw_A h 22 5 10 (cw_q q3) := (cw_oa_A (by decide)).mp a10
    have f7 : cw_F h 14 7 7 (.ref (52 + 22)) := f7
    obtain ⟨v', f', g'⟩ := cw_tyF (i := 14) (t := 59) (c := 7) (k := 12) (y := .inl (0, 10)) hT (cw_s0 hB rfl) rfl rfl rfl
    cases (cw_F_u f' f12).2
    obtain ⟨x', e, hx'⟩ := ak_gi g'
    cases e
    dsimp only [ak_win] at hx'
    show cw_W _ _ _ _ _ _ _ _ _ _ 0 [(0, .ref (52 + 14)), (1, .int x)] []
    refine cw_n aj_d63 rfl rfl ?_
    refine cw_z (tgt := 30) aj_d63 rfl rfl (fun q1005 => ?_) (fun q1005 => ?_)
    · have q1005 : x.toInt < (0 : Int) := aw_t_lt (a := x.toInt) (b := (0 : Int)) rfl rfl q1005
      refine cw_n aj_d63 rfl rfl ?_
      refine cw_Wr aj_d63 rfl rfl hT ?_ ?_
      · exact ⟨rfl, rfl, Or.inl ⟨by omega, rfl⟩⟩
      · exact rfl
    · have q1005 : x.toInt ≥ (0 : Int) := aw_t_lt (a := x.toInt) (b := (0 : Int)) rfl rfl q1005
      refine cw_n aj_d63 rfl rfl ?_
      refine cw_n aj_d63 rfl rfl ?_
      refine cw_g (i := 14) (v := .int nt) htb.1 aj_d63 rfl rfl (by decide) f12 ?_
      refine cw_c (tgt := 30) aj_d63 rfl rfl (fun q1006 => ?_) (fun q1006 => ?_)
      · have q1006 : x.toInt ≥ nt.toInt := aw_t_ge (a := x.toInt) (b := nt.toInt) rfl rfl q1006
        refine cw_n aj_d63 rfl rfl ?_
        refine cw_Wr aj_d63 rfl rfl hT ?_ ?_
        · exact ⟨rfl, rfl, Or.inl ⟨by omega, rfl⟩⟩
        · exact rfl
      · have q1006 : x.toInt < nt.toInt := aw_t_ge (a := x.toInt) (b := nt.toInt) rfl rfl q1006
        refine cw_n aj_d63 rfl rfl ?_
        refine cw_n aj_d63 rfl rfl ?_
        refine cw_g (i := 14) (v := .ref (52 + 22)) htb.1 aj_d63 rfl rfl (by decide) f7 ?_
        refine cw_alen (i := 22) htb.1 aj_d63 rfl a10 (by decide) (by omega) (fun x1007 ex1007 => ?_)
        refine cw_c (tgt := 30) aj_d63 rfl rfl (fun q1008 => ?_) (fun q1008 => ?_)
        · have q1008 : x.toInt ≥ (10 : Int) := aw_t_ge (a := x.toInt) (b := (10 : Int)) rfl ex1007 q1008
          refine cw_n aj_d63 rfl rfl ?_
          refine cw_Wr aj_d63 rfl rfl hT ?_ ?_
          · exact ⟨rfl, rfl, Or.inl ⟨by omega, rfl⟩⟩
          · exact rfl
        · have q1008 : x.toInt < (10 : Int) := aw_t_ge (a := x.toInt) (b := (10 : Int)) rfl ex1007 q1008
          refine cw_n aj_d63 rfl rfl ?_
          refine cw_g (i := 14) (v := .ref (52 + 22)) htb.1 aj_d63 rfl rfl (by decide) f7 ?_
          refine cw_n aj_d63 rfl rfl ?_
          refine cw_ldq (i := 22) htb.1 aj_d63 rfl a10 (a := x.toInt) rfl (by omega) (by omega) ?_
          have hxn : x.toInt.toNat < nt.toInt.toNat := by omega
          obtain ⟨i, hi, oki⟩ := hZ _ hxn
          obtain ⟨i', ei, qi⟩ := cw_refs (T := ak_C1) (t := 72) (n1 := 10) (n2 := 10) hT (cw_s0 hB rfl) rfl a10 (l := x.toInt.toNat) (by omega) hi
          obtain rfl : i = i' := by omega
          rw [hi]
          show cw_W _ _ _ _ _ _ _ _ _ _ 27 [(0, .ref (52 + 14)), (1, .int x)] [.ref (52 + i)]
          refine cw_n aj_d63 rfl rfl ?_
          refine cw_Wr aj_d63 rfl rfl hT ?_ ?_
          · exact ⟨rfl, rfl, Or.inr ⟨⟨by omega, by omega⟩, i, rfl, qi, oki⟩⟩
          · exact cw_gR qi (by decide) (by decide)
theorem cw_keepN (htb : ak_tbOK ak_C1 tb) (hT : ak_Ty ak_C1 s h) (hd : 3 ≤ d)  (hx : x = 2 ∨ x = 14) (hi : 0 ≤ iv.toInt ∧ iv.toInt ≤ 2499) (hy : -2600 ≤ y.toInt ∧ y.toInt ≤ 2600) (hQ : cw_CQ x n f iv g0 n0 B y nt g s h) : cw_K ak_C1 (fun s' r h' => s' = s ∧ ∃ (y' nt' : Int32) (g' : Nat → Int32), cw_CQ x n f iv g0 n0 B y' nt' g' s' h' ∧ y'.toInt = y.toInt) tb d (cw_nC 78 none) [.ref (52 + 39), .int iv, .int v] s h := by
  obtain ⟨d, rfl⟩ : ∃ e, d = e + 1 := ⟨d - 1, by omega⟩
  obtain ⟨Ih, qx, f2, a31, a34, f4, f5, Zh, nh, gh, bh⟩ := id hQ
  have hB := Ih.1
  refine cw_m (con := cw_nC 78 none) aj_m78_at (Nat.le_of_ble_eq_true rfl) ?_
  show cw_W _ _ _ _ _ _ _ _ _ _ 0 [(0, .ref (52 + 39)), (1, .int iv), (2, .int v)] []
  refine cw_n aj_d78 rfl rfl ?_
  refine cw_z (tgt := 10) aj_d78 rfl rfl (fun q1009 => ?_) (fun q1009 => ?_)
  · have q1009 : v.toInt ≥ (0 : Int) := aw_t_ge (a := v.toInt) (b := (0 : Int)) rfl rfl q1009
    refine cw_n aj_d78 rfl rfl ?_
    obtain ⟨v1010, f1010, g1010⟩ := cw_tyF (i := 39) (t := 52) (c := 0) (k := 1) (y := (.inr (some ([56], false)))) hT (cw_s0 hB rfl) rfl rfl rfl
    obtain rfl := cw_gu (i := 30) hB g1010 (by decide) (by decide) (by decide)
    refine cw_g (i := 39) (v := .ref (52 + 30)) htb.1 aj_d78 rfl rfl (by decide) f1010 ?_
    refine cw_n aj_d78 rfl rfl ?_
    refine cw_n aj_d78 rfl rfl ?_
    refine cw_k0 (i := 30) (t := 56) (con' := ap_c41) aj_d78 htb hT rfl rfl [_, _] rfl rfl (cw_s0 hB rfl) rfl (Nat.le_of_ble_eq_true rfl) ⟨by decide, by decide⟩ (cw_setA1 htb hT hB (by omega) iv v) ?_
    rintro ru1011 h1011 hT1011 tu1011 hRu1011
    obtain rfl := cw_rN hRu1011
    obtain ⟨gu1011, Qu1011, vu1011⟩ := cw_CQ_set hx hi hT tu1011 hQ
    have Q1012 := Qu1011
    obtain ⟨Iq1012, qq1012, f2q1012, a31q1012, a34q1012, f4q1012, f5q1012, Zq1012, nq1012, gq1012, bq1012⟩ := id Q1012
    show cw_W _ _ _ _ _ _ _ _ _ _ 19 [(0, .ref (52 + 39)), (1, .int iv), (2, .int v)] []
    refine cw_Wr aj_d78 rfl rfl hT1011 ?_ ?_
    · exact ⟨rfl, _, _, _, Q1012, rfl⟩
    · trivial
  · have q1009 : v.toInt < (0 : Int) := aw_t_ge (a := v.toInt) (b := (0 : Int)) rfl rfl q1009
    refine cw_n aj_d78 rfl rfl ?_
    refine cw_n aj_d78 rfl rfl ?_
    refine cw_n aj_d78 rfl rfl ?_
    refine cw_k0 (i := 39) (t := 52) (con' := ap_c64) aj_d78 htb hT rfl rfl [_, _] rfl rfl (cw_s0 hB rfl) rfl (Nat.le_of_ble_eq_true rfl) ⟨by decide, by decide⟩ (cw_a2 (by omega) (ap_1_64 htb (cw_SPkc rfl rfl) cw_hK (cw_H1k htb)) hT Ih rfl ⟨(cw_gR (cw_s0 hB rfl) (by decide) (by decide)), (cw_gw (a := (4 : Int)) rfl (by omega) (by omega)), (cw_gw (a := iv.toInt) rfl (by omega) (by omega)), trivial⟩) ?_
    rintro ru1013 h1013 hT1013 ⟨Iu1013, ku1013, mu1013⟩ hRu1013
    obtain rfl := cw_rN hRu1013
    have Q1014 := cw_CQ_f Iu1013 ku1013 mu1013 hQ
    obtain ⟨Iq1014, qq1014, f2q1014, a31q1014, a34q1014, f4q1014, f5q1014, Zq1014, nq1014, gq1014, bq1014⟩ := id Q1014
    show cw_W _ _ _ _ _ _ _ _ _ _ 10 [(0, .ref (52 + 39)), (1, .int iv), (2, .int v)] []
    refine cw_n aj_d78 rfl rfl ?_
    obtain ⟨v1015, f1015, g1015⟩ := cw_tyF (i := 39) (t := 52) (c := 0) (k := 1) (y := (.inr (some ([56], false)))) hT1013 (cw_s0 hB rfl) rfl rfl rfl
    obtain rfl := cw_gu (i := 30) hB g1015 (by decide) (by decide) (by decide)
    refine cw_g (i := 39) (v := .ref (52 + 30)) htb.1 aj_d78 rfl rfl (by decide) f1015 ?_
    refine cw_n aj_d78 rfl rfl ?_
    refine cw_n aj_d78 rfl rfl ?_
    refine cw_k0 (i := 30) (t := 56) (con' := ap_c41) aj_d78 htb hT1013 rfl rfl [_, _] rfl rfl (cw_s0 hB rfl) rfl (Nat.le_of_ble_eq_true rfl) ⟨by decide, by decide⟩ (cw_setA1 htb hT1013 hB (by omega) iv v) ?_
    rintro ru1016 h1016 hT1016 tu1016 hRu1016
    obtain rfl := cw_rN hRu1016
    obtain ⟨gu1016, Qu1016, vu1016⟩ := cw_CQ_set hx hi hT1013 tu1016 Q1014
    have Q1017 := Qu1016
    obtain ⟨Iq1017, qq1017, f2q1017, a31q1017, a34q1017, f4q1017, f5q1017, Zq1017, nq1017, gq1017, bq1017⟩ := id Q1017
    show cw_W _ _ _ _ _ _ _ _ _ _ 19 [(0, .ref (52 + 39)), (1, .int iv), (2, .int v)] []
    refine cw_Wr aj_d78 rfl rfl hT1016 ?_ ?_
    · exact ⟨rfl, _, _, _, Q1017, rfl⟩
    · trivial
theorem cw_ct200 (htb : ak_tbOK ak_C1 tb) (hT : ak_Ty ak_C1 s h) (hd : 4 ≤ d)  (hx : x = 2 ∨ x = 14) (hi : 0 ≤ iv.toInt ∧ iv.toInt ≤ 2499) (hy : -2600 ≤ y.toInt ∧ y.toInt ≤ 2600) (hQ : cw_CQ x n f iv g0 n0 B y nt g s h) : cw_K ak_C1 (fun s' r h' => s' = s ∧ ∃ (y' nt' : Int32) (g' : Nat → Int32), cw_CQ x n f iv g0 n0 B y' nt' g' s' h' ∧ y'.toInt = y.toInt) tb d (cw_nC 81 none) [.ref (52 + 39), .int 200, .int iv] s h := by
  obtain ⟨d, rfl⟩ : ∃ e, d = e + 1 := ⟨d - 1, by omega⟩
  obtain ⟨Ih, qx, f2, a31, a34, f4, f5, Zh, nh, gh, bh⟩ := id hQ
  have hB := Ih.1
  refine cw_m (con := cw_nC 81 none) aj_m81_at (Nat.le_of_ble_eq_true rfl) ?_
  show cw_W _ _ _ _ _ _ _ _ _ _ 0 [(0, .ref (52 + 39)), (1, .int 200), (2, .int iv)] []
  refine cw_n aj_d81 rfl rfl ?_
  refine cw_tsw (tgt := 32) (a := (200 : Int)) aj_d81 rfl rfl ⟨by decide, by decide⟩ rfl rfl ?_
  refine cw_n aj_d81 rfl rfl ?_
  obtain ⟨v1018, f1018, g1018⟩ := cw_tyF (i := 39) (t := 52) (c := 0) (k := 1) (y := (.inr (some ([56], false)))) hT (cw_s0 hB rfl) rfl rfl rfl
  obtain rfl := cw_gu (i := 30) hB g1018 (by decide) (by decide) (by decide)
  refine cw_g (i := 39) (v := .ref (52 + 30)) htb.1 aj_d81 rfl rfl (by decide) f1018 ?_
  refine cw_n aj_d81 rfl rfl ?_
  refine cw_n aj_d81 rfl rfl ?_
  refine cw_n aj_d81 rfl rfl ?_
  refine cw_k0 (i := 39) (t := 52) (con' := ap_c82) aj_d81 htb hT rfl rfl [_] rfl rfl (cw_s0 hB rfl) rfl (Nat.le_of_ble_eq_true rfl) ⟨by decide, by decide⟩ (cw_a2 (by omega) (ap_1_82 htb (cw_SPkc rfl rfl) cw_hK (cw_H1k htb)) hT Ih rfl ⟨(cw_gR (cw_s0 hB rfl) (by decide) (by decide)), (cw_gw (a := iv.toInt) rfl (by omega) (by omega)), trivial⟩) ?_
  rintro ru1019 h1019 hT1019 ⟨Iu1019, ku1019, mu1019⟩ hRu1019
  obtain ⟨x1020, rfl, bx1020⟩ := cw_rI hRu1019
  have Q1021 := cw_CQ_f Iu1019 ku1019 mu1019 hQ
  obtain ⟨Iq1021, qq1021, f2q1021, a31q1021, a34q1021, f4q1021, f5q1021, Zq1021, nq1021, gq1021, bq1021⟩ := id Q1021
  show cw_W _ _ _ _ _ _ _ _ _ _ 42 [(0, .ref (52 + 39)), (1, .int 200), (2, .int iv)] [.int x1020, .int iv, .ref (52 + 30)]
  refine cw_k0 (i := 30) (t := 56) (con' := ap_c41) aj_d81 htb hT1019 rfl rfl [_, _] rfl rfl (cw_s0 hB rfl) rfl (Nat.le_of_ble_eq_true rfl) ⟨by decide, by decide⟩ (cw_setA1 htb hT1019 hB (by omega) iv x1020) ?_
  rintro ru1022 h1022 hT1022 tu1022 hRu1022
  obtain rfl := cw_rN hRu1022
  obtain ⟨gu1022, Qu1022, vu1022⟩ := cw_CQ_set hx hi hT1019 tu1022 Q1021
  have Q1023 := Qu1022
  obtain ⟨Iq1023, qq1023, f2q1023, a31q1023, a34q1023, f4q1023, f5q1023, Zq1023, nq1023, gq1023, bq1023⟩ := id Q1023
  show cw_W _ _ _ _ _ _ _ _ _ _ 45 [(0, .ref (52 + 39)), (1, .int 200), (2, .int iv)] []
  refine cw_n aj_d81 rfl rfl ?_
  refine cw_Wr aj_d81 rfl rfl hT1022 ?_ ?_
  · exact ⟨rfl, _, _, _, Q1023, by omega⟩
  · trivial
theorem cw_ct201 (htb : ak_tbOK ak_C1 tb) (hT : ak_Ty ak_C1 s h) (hd : 4 ≤ d)  (hx : x = 2 ∨ x = 14) (hi : 0 ≤ iv.toInt ∧ iv.toInt ≤ 2499) (hy : -2600 ≤ y.toInt ∧ y.toInt ≤ 2600) (hQ : cw_CQ x n f iv g0 n0 B y nt g s h) : cw_K ak_C1 (fun s' r h' => s' = s ∧ ∃ (y' nt' : Int32) (g' : Nat → Int32), cw_CQ x n f iv g0 n0 B y' nt' g' s' h' ∧ y'.toInt = y.toInt) tb d (cw_nC 81 none) [.ref (52 + 39), .int 201, .int iv] s h := by
  obtain ⟨d, rfl⟩ : ∃ e, d = e + 1 := ⟨d - 1, by omega⟩
  obtain ⟨Ih, qx, f2, a31, a34, f4, f5, Zh, nh, gh, bh⟩ := id hQ
  have hB := Ih.1
  refine cw_m (con := cw_nC 81 none) aj_m81_at (Nat.le_of_ble_eq_true rfl) ?_
  show cw_W _ _ _ _ _ _ _ _ _ _ 0 [(0, .ref (52 + 39)), (1, .int 201), (2, .int iv)] []
  refine cw_n aj_d81 rfl rfl ?_
  refine cw_tsw (tgt := 48) (a := (201 : Int)) aj_d81 rfl rfl ⟨by decide, by decide⟩ rfl rfl ?_
  refine cw_n aj_d81 rfl rfl ?_
  refine cw_n aj_d81 rfl rfl ?_
  refine cw_n aj_d81 rfl rfl ?_
  refine cw_g (i := 39) (v := .ref (52 + x)) htb.1 aj_d81 rfl rfl (by decide) f2 ?_
  refine cw_n aj_d81 rfl rfl ?_
  refine cw_n aj_d81 rfl rfl ?_
  refine cw_k0 (i := 39) (t := 52) (con' := ap_c60) aj_d81 htb hT rfl rfl [_] rfl rfl (cw_s0 hB rfl) rfl (Nat.le_of_ble_eq_true rfl) ⟨by decide, by decide⟩ (cw_a1 (by omega) (ap_1_60 htb (cw_SP1c _ _ rfl rfl) cw_hK) hT hB rfl ⟨(cw_gR (cw_s0 hB rfl) (by decide) (by decide)), (cw_gw (a := iv.toInt) rfl (by omega) (by omega)), trivial⟩) ?_
  rintro ru1024 h1024 hT1024 ho1024 hRu1024
  have f1025 : cw_F h1024 39 0 2 (.ref (52 + x)) := cw_trF ho1024 (by decide) f2
  have f1026 : cw_F h1024 39 0 5 (.int y) := cw_trF ho1024 (by decide) f5
  have f1027 : cw_F h1024 30 4 4 (.int n) := cw_trF ho1024 (by decide) f4
  have a1028 : cw_A h1024 31 0 2500 (.inl f) := cw_trA ho1024 (by decide) a31
  have a1029 : cw_A h1024 34 0 2500 (.inl g) := cw_trA ho1024 (by decide) a34
  obtain ⟨y1030, rfl⟩ := cw_rL hRu1024
  show cw_W _ _ _ _ _ _ _ _ _ _ 59 [(0, .ref (52 + 39)), (1, .int 201), (2, .int iv)] [.long y1030, .ref (52 + x), .int iv, .ref (52 + 39)]
  refine cw_k0 (i := x) (t := 59) (con' := ap_c84) aj_d81 htb hT1024 rfl rfl [_] rfl rfl qx rfl (Nat.le_of_ble_eq_true rfl) ⟨by decide, by decide⟩ (cw_a1 (by omega) (ap_1_84 htb (cw_SP1c _ _ rfl rfl) cw_hK) hT1024 hB rfl ⟨(cw_gR qx (by decide) (by decide)), trivial, trivial⟩) ?_
  rintro ru1031 h1031 hT1031 ho1031 hRu1031
  have f1032 : cw_F h1031 39 0 2 (.ref (52 + x)) := cw_trF ho1031 (by decide) f1025
  have f1033 : cw_F h1031 39 0 5 (.int y) := cw_trF ho1031 (by decide) f1026
  have f1034 : cw_F h1031 30 4 4 (.int n) := cw_trF ho1031 (by decide) f1027
  have a1035 : cw_A h1031 31 0 2500 (.inl f) := cw_trA ho1031 (by decide) a1028
  have a1036 : cw_A h1031 34 0 2500 (.inl g) := cw_trA ho1031 (by decide) a1029
  obtain ⟨x1037, rfl, bx1037⟩ := cw_rI hRu1031
  show cw_W _ _ _ _ _ _ _ _ _ _ 62 [(0, .ref (52 + 39)), (1, .int 201), (2, .int iv)] [.int x1037, .int iv, .ref (52 + 39)]
  refine cw_k0 (i := 39) (t := 52) (con' := cw_nC 78 none) aj_d81 htb hT1031 rfl rfl [_, _] rfl rfl (cw_s0 hB rfl) rfl (Nat.le_of_ble_eq_true rfl) ⟨by decide, by decide⟩ (cw_keepN htb hT1031 (by omega) (v := x1037) hx hi ⟨by omega, by omega⟩ (cw_CQ_eq (ho1031.trans (ho1024.trans rfl)) hQ)) ?_
  rintro ru1038 h1038 hT1038 ⟨yu1038, nu1038, gu1038, Qu1038, eu1038⟩ hRu1038
  obtain rfl := cw_rN hRu1038
  have Q1039 := Qu1038
  obtain ⟨Iq1039, qq1039, f2q1039, a31q1039, a34q1039, f4q1039, f5q1039, Zq1039, nq1039, gq1039, bq1039⟩ := id Q1039
  show cw_W _ _ _ _ _ _ _ _ _ _ 65 [(0, .ref (52 + 39)), (1, .int 201), (2, .int iv)] []
  refine cw_n aj_d81 rfl rfl ?_
  refine cw_Wr aj_d81 rfl rfl hT1038 ?_ ?_
  · exact ⟨rfl, _, _, _, Q1039, by omega⟩
  · trivial
theorem cw_ct202 (htb : ak_tbOK ak_C1 tb) (hT : ak_Ty ak_C1 s h) (hd : 4 ≤ d)  (hx : x = 2 ∨ x = 14) (hi : 0 ≤ iv.toInt ∧ iv.toInt ≤ 2499) (hy : -2600 ≤ y.toInt ∧ y.toInt ≤ 2600) (hQ : cw_CQ x n f iv g0 n0 B y nt g s h) : cw_K ak_C1 (fun s' r h' => s' = s ∧ ∃ (y' nt' : Int32) (g' : Nat → Int32), cw_CQ x n f iv g0 n0 B y' nt' g' s' h' ∧ y'.toInt = y.toInt) tb d (cw_nC 81 none) [.ref (52 + 39), .int 202, .int iv] s h := by
  obtain ⟨d, rfl⟩ : ∃ e, d = e + 1 := ⟨d - 1, by omega⟩
  obtain ⟨Ih, qx, f2, a31, a34, f4, f5, Zh, nh, gh, bh⟩ := id hQ
  have hB := Ih.1
  refine cw_m (con := cw_nC 81 none) aj_m81_at (Nat.le_of_ble_eq_true rfl) ?_
  show cw_W _ _ _ _ _ _ _ _ _ _ 0 [(0, .ref (52 + 39)), (1, .int 202), (2, .int iv)] []
  refine cw_n aj_d81 rfl rfl ?_
  refine cw_tsw (tgt := 68) (a := (202 : Int)) aj_d81 rfl rfl ⟨by decide, by decide⟩ rfl rfl ?_
  refine cw_n aj_d81 rfl rfl ?_
  refine cw_n aj_d81 rfl rfl ?_
  refine cw_n aj_d81 rfl rfl ?_
  refine cw_n aj_d81 rfl rfl ?_
  refine cw_g (i := 39) (v := .int y) htb.1 aj_d81 rfl rfl (by decide) f5 ?_
  refine cw_n aj_d81 rfl rfl ?_
  refine cw_sub aj_d81 rfl (a := y.toInt) (b := (1 : Int)) rfl rfl (by omega) (by omega) (fun x1040 ex1040 => ?_)
  refine cw_n aj_d81 rfl rfl ?_
  refine cw_n aj_d81 rfl rfl ?_
  refine cw_k0 (i := 39) (t := 52) (con' := ap_c60) aj_d81 htb hT rfl rfl [_] rfl rfl (cw_s0 hB rfl) rfl (Nat.le_of_ble_eq_true rfl) ⟨by decide, by decide⟩ (cw_a1 (by omega) (ap_1_60 htb (cw_SP1c _ _ rfl rfl) cw_hK) hT hB rfl ⟨(cw_gR (cw_s0 hB rfl) (by decide) (by decide)), (cw_gw (a := iv.toInt) rfl (by omega) (by omega)), trivial⟩) ?_
  rintro ru1041 h1041 hT1041 ho1041 hRu1041
  have f1042 : cw_F h1041 39 0 2 (.ref (52 + x)) := cw_trF ho1041 (by decide) f2
  have f1043 : cw_F h1041 39 0 5 (.int y) := cw_trF ho1041 (by decide) f5
  have f1044 : cw_F h1041 30 4 4 (.int n) := cw_trF ho1041 (by decide) f4
  have a1045 : cw_A h1041 31 0 2500 (.inl f) := cw_trA ho1041 (by decide) a31
  have a1046 : cw_A h1041 34 0 2500 (.inl g) := cw_trA ho1041 (by decide) a34
  obtain ⟨y1047, rfl⟩ := cw_rL hRu1041
  show cw_W _ _ _ _ _ _ _ _ _ _ 82 [(0, .ref (52 + 39)), (1, .int 202), (2, .int iv)] [.long y1047, .int x1040, .ref (52 + 39), .int iv, .ref (52 + 39)]
  refine cw_k0 (i := 39) (t := 52) (con' := ap_c74) aj_d81 htb hT1041 rfl rfl [_, _] rfl rfl (cw_s0 hB rfl) rfl (Nat.le_of_ble_eq_true rfl) ⟨by decide, by decide⟩ (cw_a1 (by omega) (ap_1_74 htb (cw_SP1c _ _ rfl rfl) cw_hK) hT1041 hB rfl ⟨(cw_gR (cw_s0 hB rfl) (by decide) (by decide)), (cw_gw (a := x1040.toInt) rfl (by omega) (by omega)), trivial, trivial⟩) ?_
  rintro ru1048 h1048 hT1048 ho1048 hRu1048
  have f1049 : cw_F h1048 39 0 2 (.ref (52 + x)) := cw_trF ho1048 (by decide) f1042
  have f1050 : cw_F h1048 39 0 5 (.int y) := cw_trF ho1048 (by decide) f1043
  have f1051 : cw_F h1048 30 4 4 (.int n) := cw_trF ho1048 (by decide) f1044
  have a1052 : cw_A h1048 31 0 2500 (.inl f) := cw_trA ho1048 (by decide) a1045
  have a1053 : cw_A h1048 34 0 2500 (.inl g) := cw_trA ho1048 (by decide) a1046
  obtain ⟨x1054, rfl, bx1054⟩ := cw_rI hRu1048
  show cw_W _ _ _ _ _ _ _ _ _ _ 85 [(0, .ref (52 + 39)), (1, .int 202), (2, .int iv)] [.int x1054, .int iv, .ref (52 + 39)]
  refine cw_k0 (i := 39) (t := 52) (con' := cw_nC 78 none) aj_d81 htb hT1048 rfl rfl [_, _] rfl rfl (cw_s0 hB rfl) rfl (Nat.le_of_ble_eq_true rfl) ⟨by decide, by decide⟩ (cw_keepN htb hT1048 (by omega) (v := x1054) hx hi ⟨by omega, by omega⟩ (cw_CQ_eq (ho1048.trans (ho1041.trans rfl)) hQ)) ?_
  rintro ru1055 h1055 hT1055 ⟨yu1055, nu1055, gu1055, Qu1055, eu1055⟩ hRu1055
  obtain rfl := cw_rN hRu1055
  have Q1056 := Qu1055
  obtain ⟨Iq1056, qq1056, f2q1056, a31q1056, a34q1056, f4q1056, f5q1056, Zq1056, nq1056, gq1056, bq1056⟩ := id Q1056
  show cw_W _ _ _ _ _ _ _ _ _ _ 88 [(0, .ref (52 + 39)), (1, .int 202), (2, .int iv)] []
  refine cw_n aj_d81 rfl rfl ?_
  refine cw_Wr aj_d81 rfl rfl hT1055 ?_ ?_
  · exact ⟨rfl, _, _, _, Q1056, by omega⟩
  · trivial
theorem cw_ct203 (htb : ak_tbOK ak_C1 tb) (hT : ak_Ty ak_C1 s h) (hd : 4 ≤ d)  (hx : x = 2 ∨ x = 14) (hi : 0 ≤ iv.toInt ∧ iv.toInt ≤ 2499) (hy : -2600 ≤ y.toInt ∧ y.toInt ≤ 2600) (hQ : cw_CQ x n f iv g0 n0 B y nt g s h) : cw_K ak_C1 (fun s' r h' => s' = s ∧ ∃ (y' nt' : Int32) (g' : Nat → Int32), cw_CQ x n f iv g0 n0 B y' nt' g' s' h' ∧ y'.toInt = y.toInt) tb d (cw_nC 81 none) [.ref (52 + 39), .int 203, .int iv] s h := by
  obtain ⟨d, rfl⟩ : ∃ e, d = e + 1 := ⟨d - 1, by omega⟩
  obtain ⟨Ih, qx, f2, a31, a34, f4, f5, Zh, nh, gh, bh⟩ := id hQ
  have hB := Ih.1
  refine cw_m (con := cw_nC 81 none) aj_m81_at (Nat.le_of_ble_eq_true rfl) ?_
  show cw_W _ _ _ _ _ _ _ _ _ _ 0 [(0, .ref (52 + 39)), (1, .int 203), (2, .int iv)] []
  refine cw_n aj_d81 rfl rfl ?_
  refine cw_tsw (tgt := 91) (a := (203 : Int)) aj_d81 rfl rfl ⟨by decide, by decide⟩ rfl rfl ?_
  refine cw_n aj_d81 rfl rfl ?_
  obtain ⟨v1057, f1057, g1057⟩ := cw_tyF (i := 39) (t := 52) (c := 0) (k := 1) (y := (.inr (some ([56], false)))) hT (cw_s0 hB rfl) rfl rfl rfl
  obtain rfl := cw_gu (i := 30) hB g1057 (by decide) (by decide) (by decide)
  refine cw_g (i := 39) (v := .ref (52 + 30)) htb.1 aj_d81 rfl rfl (by decide) f1057 ?_
  refine cw_n aj_d81 rfl rfl ?_
  refine cw_n aj_d81 rfl rfl ?_
  obtain ⟨v1058, f1058, g1058⟩ := cw_tyF (i := 39) (t := 52) (c := 0) (k := 0) (y := (.inr (some ([60], false)))) hT (cw_s0 hB rfl) rfl rfl rfl
  obtain rfl := cw_gu (i := 26) hB g1058 (by decide) (by decide) (by decide)
  refine cw_g (i := 39) (v := .ref (52 + 26)) htb.1 aj_d81 rfl rfl (by decide) f1058 ?_
  refine cw_n aj_d81 rfl rfl ?_
  refine cw_g (i := 39) (v := .ref (52 + 30)) htb.1 aj_d81 rfl rfl (by decide) f1057 ?_
  refine cw_n aj_d81 rfl rfl ?_
  refine cw_k0 (i := 30) (t := 56) (con' := ap_c61) aj_d81 htb hT rfl rfl [_] rfl rfl (cw_s0 hB rfl) rfl (Nat.le_of_ble_eq_true rfl) ⟨by decide, by decide⟩ (cw_a1 (by omega) (ap_1_61 htb (cw_SP1c _ _ rfl rfl) cw_hK) hT hB rfl ⟨(cw_gR (cw_s0 hB rfl) (by decide) (by decide)), (cw_gw (a := iv.toInt) rfl (by omega) (by omega)), trivial⟩) ?_
  rintro ru1059 h1059 hT1059 ho1059 hRu1059
  have f1060 : cw_F h1059 39 0 2 (.ref (52 + x)) := cw_trF ho1059 (by decide) f2
  have f1061 : cw_F h1059 39 0 5 (.int y) := cw_trF ho1059 (by decide) f5
  have f1062 : cw_F h1059 30 4 4 (.int n) := cw_trF ho1059 (by decide) f4
  have a1063 : cw_A h1059 31 0 2500 (.inl f) := cw_trA ho1059 (by decide) a31
  have a1064 : cw_A h1059 34 0 2500 (.inl g) := cw_trA ho1059 (by decide) a34
  obtain ⟨x1065, rfl, bx1065⟩ := cw_rI hRu1059
  show cw_W _ _ _ _ _ _ _ _ _ _ 108 [(0, .ref (52 + 39)), (1, .int 203), (2, .int iv)] [.int x1065, .ref (52 + 26), .int iv, .ref (52 + 30)]
  refine cw_k0 (i := 26) (t := 60) (con' := ap_c46) aj_d81 htb hT1059 rfl rfl [_] rfl rfl (cw_s0 hB rfl) rfl (Nat.le_of_ble_eq_true rfl) ⟨by decide, by decide⟩ (cw_a1 (by omega) (ap_1_46 htb (cw_SP1c _ _ rfl rfl) cw_hK) hT1059 hB rfl ⟨(cw_gR (cw_s0 hB rfl) (by decide) (by decide)), (cw_gw (a := x1065.toInt) rfl (by omega) (by omega)), trivial⟩) ?_
  rintro ru1066 h1066 hT1066 ho1066 hRu1066
  have f1067 : cw_F h1066 39 0 2 (.ref (52 + x)) := cw_trF ho1066 (by decide) f1060
  have f1068 : cw_F h1066 39 0 5 (.int y) := cw_trF ho1066 (by decide) f1061
  have f1069 : cw_F h1066 30 4 4 (.int n) := cw_trF ho1066 (by decide) f1062
  have a1070 : cw_A h1066 31 0 2500 (.inl f) := cw_trA ho1066 (by decide) a1063
  have a1071 : cw_A h1066 34 0 2500 (.inl g) := cw_trA ho1066 (by decide) a1064
  obtain ⟨x1072, rfl, bx1072⟩ := cw_rI hRu1066
  show cw_W _ _ _ _ _ _ _ _ _ _ 111 [(0, .ref (52 + 39)), (1, .int 203), (2, .int iv)] [.int x1072, .int iv, .ref (52 + 30)]
  refine cw_k0 (i := 30) (t := 56) (con' := ap_c41) aj_d81 htb hT1066 rfl rfl [_, _] rfl rfl (cw_s0 hB rfl) rfl (Nat.le_of_ble_eq_true rfl) ⟨by decide, by decide⟩ (cw_setA1 htb hT1066 hB (by omega) iv x1072) ?_
  rintro ru1073 h1073 hT1073 tu1073 hRu1073
  obtain rfl := cw_rN hRu1073
  obtain ⟨gu1073, Qu1073, vu1073⟩ := cw_CQ_set hx hi hT1066 tu1073 (cw_CQ_eq (ho1066.trans (ho1059.trans rfl)) hQ)
  have Q1074 := Qu1073
  obtain ⟨Iq1074, qq1074, f2q1074, a31q1074, a34q1074, f4q1074, f5q1074, Zq1074, nq1074, gq1074, bq1074⟩ := id Q1074
  show cw_W _ _ _ _ _ _ _ _ _ _ 114 [(0, .ref (52 + 39)), (1, .int 203), (2, .int iv)] []
  refine cw_n aj_d81 rfl rfl ?_
  refine cw_Wr aj_d81 rfl rfl hT1073 ?_ ?_
  · exact ⟨rfl, _, _, _, Q1074, by omega⟩
  · trivial
theorem cw_ct0 (htb : ak_tbOK ak_C1 tb) (hT : ak_Ty ak_C1 s h) (hd : 4 ≤ d) (hv : v.toInt < 200 ∨ 204 ≤ v.toInt) (hx : x = 2 ∨ x = 14) (hi : 0 ≤ iv.toInt ∧ iv.toInt ≤ 2499) (hy : -2600 ≤ y.toInt ∧ y.toInt ≤ 2600) (hQ : cw_CQ x n f iv g0 n0 B y nt g s h) : cw_K ak_C1 (fun s' r h' => s' = s ∧ ∃ (y' nt' : Int32) (g' : Nat → Int32), cw_CQ x n f iv g0 n0 B y' nt' g' s' h' ∧ y'.toInt = y.toInt) tb d (cw_nC 81 none) [.ref (52 + 39), .int v, .int iv] s h := by
  obtain ⟨d, rfl⟩ : ∃ e, d = e + 1 := ⟨d - 1, by omega⟩
  obtain ⟨Ih, qx, f2, a31, a34, f4, f5, Zh, nh, gh, bh⟩ := id hQ
  have hB := Ih.1
  refine cw_m (con := cw_nC 81 none) aj_m81_at (Nat.le_of_ble_eq_true rfl) ?_
  show cw_W _ _ _ _ _ _ _ _ _ _ 0 [(0, .ref (52 + 39)), (1, .int v), (2, .int iv)] []
  refine cw_n aj_d81 rfl rfl ?_
  refine cw_tsd (tgt := 117) (a := v.toInt) aj_d81 rfl rfl (by omega) rfl ?_
  refine cw_Wr aj_d81 rfl rfl hT ?_ ?_
  · exact ⟨rfl, _, _, _, hQ, by omega⟩
  · trivial
theorem cw_cpick (htb : ak_tbOK ak_C1 tb) (hT : ak_Ty ak_C1 s h) (hd : 3 ≤ d)  (hx : x = 2 ∨ x = 14) (hi : 0 ≤ iv.toInt ∧ iv.toInt ≤ 2499) (hy : -2600 ≤ y.toInt ∧ y.toInt ≤ 2600) (hQ : cw_CQ x n f iv g0 n0 B y nt g s h) : cw_K ak_C1 (fun s' r h' => s' = s ∧ ∃ (y' nt' : Int32) (g' : Nat → Int32), cw_CQ x n f iv g0 n0 B y' nt' g' s' h' ∧ y'.toInt = y.toInt) tb d (cw_nC 75 none) [.ref (52 + 39), .int iv] s h := by
  obtain ⟨d, rfl⟩ : ∃ e, d = e + 1 := ⟨d - 1, by omega⟩
  obtain ⟨Ih, qx, f2, a31, a34, f4, f5, Zh, nh, gh, bh⟩ := id hQ
  have hB := Ih.1
  refine cw_m (con := cw_nC 75 none) aj_m75_at (Nat.le_of_ble_eq_true rfl) ?_
  show cw_W _ _ _ _ _ _ _ _ _ _ 0 [(0, .ref (52 + 39)), (1, .int iv)] []
  refine cw_n aj_d75 rfl rfl ?_
  refine cw_n aj_d75 rfl rfl ?_
  refine cw_k0 (i := 39) (t := 52) (con' := ap_c60) aj_d75 htb hT rfl rfl [_] rfl rfl (cw_s0 hB rfl) rfl (Nat.le_of_ble_eq_true rfl) ⟨by decide, by decide⟩ (cw_a1 (by omega) (ap_1_60 htb (cw_SP1c _ _ rfl rfl) cw_hK) hT hB rfl ⟨(cw_gR (cw_s0 hB rfl) (by decide) (by decide)), (cw_gw (a := iv.toInt) rfl (by omega) (by omega)), trivial⟩) ?_
  rintro ru1075 h1075 hT1075 ho1075 hRu1075
  have f1076 : cw_F h1075 39 0 2 (.ref (52 + x)) := cw_trF ho1075 (by decide) f2
  have f1077 : cw_F h1075 39 0 5 (.int y) := cw_trF ho1075 (by decide) f5
  have f1078 : cw_F h1075 30 4 4 (.int n) := cw_trF ho1075 (by decide) f4
  have a1079 : cw_A h1075 31 0 2500 (.inl f) := cw_trA ho1075 (by decide) a31
  have a1080 : cw_A h1075 34 0 2500 (.inl g) := cw_trA ho1075 (by decide) a34
  obtain ⟨y1081, rfl⟩ := cw_rL hRu1075
  show cw_W _ _ _ _ _ _ _ _ _ _ 5 [(0, .ref (52 + 39)), (1, .int iv)] [.long y1081]
  refine cw_n aj_d75 rfl rfl ?_
  show cw_W _ _ _ _ _ _ _ _ _ _ 6 [(2, .long y1081), (0, .ref (52 + 39)), (1, .int iv)] []
  refine cw_n aj_d75 rfl rfl ?_
  refine cw_n aj_d75 rfl rfl ?_
  refine cw_g (i := 39) (v := .int y) htb.1 aj_d75 rfl rfl (by decide) f1077 ?_
  refine cw_n aj_d75 rfl rfl ?_
  refine cw_sub aj_d75 rfl (a := y.toInt) (b := (1 : Int)) rfl rfl (by omega) (by omega) (fun x1082 ex1082 => ?_)
  refine cw_n aj_d75 rfl rfl ?_
  refine cw_k0 (i := 39) (t := 52) (con' := ap_c74) aj_d75 htb hT1075 rfl rfl [_, _] rfl rfl (cw_s0 hB rfl) rfl (Nat.le_of_ble_eq_true rfl) ⟨by decide, by decide⟩ (cw_a1 (by omega) (ap_1_74 htb (cw_SP1c _ _ rfl rfl) cw_hK) hT1075 hB rfl ⟨(cw_gR (cw_s0 hB rfl) (by decide) (by decide)), (cw_gw (a := x1082.toInt) rfl (by omega) (by omega)), trivial, trivial⟩) ?_
  rintro ru1083 h1083 hT1083 ho1083 hRu1083
  have f1084 : cw_F h1083 39 0 2 (.ref (52 + x)) := cw_trF ho1083 (by decide) f1076
  have f1085 : cw_F h1083 39 0 5 (.int y) := cw_trF ho1083 (by decide) f1077
  have f1086 : cw_F h1083 30 4 4 (.int n) := cw_trF ho1083 (by decide) f1078
  have a1087 : cw_A h1083 31 0 2500 (.inl f) := cw_trA ho1083 (by decide) a1079
  have a1088 : cw_A h1083 34 0 2500 (.inl g) := cw_trA ho1083 (by decide) a1080
  obtain ⟨x1089, rfl, bx1089⟩ := cw_rI hRu1083
  show cw_W _ _ _ _ _ _ _ _ _ _ 17 [(2, .long y1081), (0, .ref (52 + 39)), (1, .int iv)] [.int x1089]
  refine cw_n aj_d75 rfl rfl ?_
  show cw_W _ _ _ _ _ _ _ _ _ _ 19 [(4, .int x1089), (2, .long y1081), (0, .ref (52 + 39)), (1, .int iv)] []
  refine cw_n aj_d75 rfl rfl ?_
  refine cw_z (tgt := 33) aj_d75 rfl rfl (fun q1090 => ?_) (fun q1090 => ?_)
  · have q1090 : x1089.toInt ≥ (0 : Int) := aw_t_ge (a := x1089.toInt) (b := (0 : Int)) rfl rfl q1090
    refine cw_n aj_d75 rfl rfl ?_
    refine cw_n aj_d75 rfl rfl ?_
    refine cw_k0 (i := 39) (t := 52) (con' := ap_c76) aj_d75 htb hT1083 rfl rfl [_] rfl rfl (cw_s0 hB rfl) rfl (Nat.le_of_ble_eq_true rfl) ⟨by decide, by decide⟩ (cw_a1 (by omega) (ap_1_76 htb (cw_SP1c _ _ rfl rfl) cw_hK) hT1083 hB rfl ⟨(cw_gR (cw_s0 hB rfl) (by decide) (by decide)), trivial, trivial⟩) ?_
    rintro ru1091 h1091 hT1091 ho1091 hRu1091
    have f1092 : cw_F h1091 39 0 2 (.ref (52 + x)) := cw_trF ho1091 (by decide) f1084
    have f1093 : cw_F h1091 39 0 5 (.int y) := cw_trF ho1091 (by decide) f1085
    have f1094 : cw_F h1091 30 4 4 (.int n) := cw_trF ho1091 (by decide) f1086
    have a1095 : cw_A h1091 31 0 2500 (.inl f) := cw_trA ho1091 (by decide) a1087
    have a1096 : cw_A h1091 34 0 2500 (.inl g) := cw_trA ho1091 (by decide) a1088
    obtain ⟨x1097, rfl, bx1097⟩ := cw_rI hRu1091
    show cw_W _ _ _ _ _ _ _ _ _ _ 38 [(4, .int x1089), (2, .long y1081), (0, .ref (52 + 39)), (1, .int iv)] [.int x1097]
    refine cw_z (tgt := 50) aj_d75 rfl rfl (fun q1098 => ?_) (fun q1098 => ?_)
    · have q1098 : x1097.toInt = (0 : Int) := aw_t_eq (a := x1097.toInt) (b := (0 : Int)) rfl rfl q1098
      refine cw_n aj_d75 rfl rfl ?_
      obtain ⟨v1099, f1099, g1099⟩ := cw_tyF (i := 39) (t := 52) (c := 0) (k := 7) (y := (.inl (0, 6))) hT1091 (cw_s0 hB rfl) rfl rfl rfl
      obtain ⟨x1099, rfl, b1099⟩ := ak_gi g1099
      dsimp only [ak_win] at b1099
      refine cw_g (i := 39) (v := .int x1099) htb.1 aj_d75 rfl rfl (by decide) f1099 ?_
      refine cw_n aj_d75 rfl rfl ?_
      obtain ⟨v1100, f1100, g1100⟩ := cw_tyF (i := 39) (t := 52) (c := 0) (k := 6) (y := (.inr (some ([88], false)))) hT1091 (cw_s0 hB rfl) rfl rfl rfl
      obtain rfl := cw_gu (i := 42) hB g1100 (by decide) (by decide) (by decide)
      refine cw_g (i := 39) (v := .ref (52 + 42)) htb.1 aj_d75 rfl rfl (by decide) f1100 ?_
      obtain ⟨n1102, z1102, a1102, p1102l, p1102r, p1102⟩ := cw_tyA (i := 42) (t := 88) (kd := 1) (n1 := 6) (n2 := 6) (y := (.inr none)) hT1091 (cw_s0 hB rfl) rfl
      obtain rfl : n1102 = 6 := Nat.le_antisymm p1102r p1102l
      obtain ⟨fn1102, rfl, p1102c⟩ := cw_xl p1102
      refine cw_alen (i := 42) htb.1 aj_d75 rfl a1102 (by decide) (by omega) (fun x1101 ex1101 => ?_)
      refine cw_c (tgt := 82) aj_d75 rfl rfl (fun q1103 => ?_) (fun q1103 => ?_)
      · have q1103 : x1099.toInt ≥ (6 : Int) := aw_t_ge (a := x1099.toInt) (b := (6 : Int)) rfl ex1101 q1103
        refine cw_n aj_d75 rfl rfl ?_
        obtain ⟨v1104, f1104, g1104⟩ := cw_tyF (i := 39) (t := 52) (c := 0) (k := 1) (y := (.inr (some ([56], false)))) hT1091 (cw_s0 hB rfl) rfl rfl rfl
        obtain rfl := cw_gu (i := 30) hB g1104 (by decide) (by decide) (by decide)
        refine cw_g (i := 39) (v := .ref (52 + 30)) htb.1 aj_d75 rfl rfl (by decide) f1104 ?_
        refine cw_n aj_d75 rfl rfl ?_
        refine cw_n aj_d75 rfl rfl ?_
        refine cw_k0 (i := 30) (t := 56) (con' := ap_c41) aj_d75 htb hT1091 rfl rfl [_, _] rfl rfl (cw_s0 hB rfl) rfl (Nat.le_of_ble_eq_true rfl) ⟨by decide, by decide⟩ (cw_setA1 htb hT1091 hB (by omega) iv x1089) ?_
        rintro ru1105 h1105 hT1105 tu1105 hRu1105
        obtain rfl := cw_rN hRu1105
        obtain ⟨gu1105, Qu1105, vu1105⟩ := cw_CQ_set hx hi hT1091 tu1105 (cw_CQ_eq (ho1091.trans (ho1083.trans (ho1075.trans rfl))) hQ)
        have Q1106 := Qu1105
        obtain ⟨Iq1106, qq1106, f2q1106, a31q1106, a34q1106, f4q1106, f5q1106, Zq1106, nq1106, gq1106, bq1106⟩ := id Q1106
        show cw_W _ _ _ _ _ _ _ _ _ _ 92 [(4, .int x1089), (2, .long y1081), (0, .ref (52 + 39)), (1, .int iv)] []
        refine cw_Wr aj_d75 rfl rfl hT1105 ?_ ?_
        · exact ⟨rfl, _, _, _, Q1106, by omega⟩
        · trivial
      · have q1103 : x1099.toInt < (6 : Int) := aw_t_ge (a := x1099.toInt) (b := (6 : Int)) rfl ex1101 q1103
        refine cw_n aj_d75 rfl rfl ?_
        refine cw_g (i := 39) (v := .ref (52 + 42)) htb.1 aj_d75 rfl rfl (by decide) f1100 ?_
        refine cw_n aj_d75 rfl rfl ?_
        refine cw_g (i := 39) (v := .int x1099) htb.1 aj_d75 rfl rfl (by decide) f1099 ?_
        refine cw_n aj_d75 rfl rfl ?_
        refine cw_stl (i := 42) htb aj_d75 rfl a1102 hT1091 (cw_s0 hB rfl) rfl (by decide) (a := x1099.toInt) rfl (by omega) (by omega) (fun hT1107 => ?_)
        have f1108 : cw_F (cw_sa h1091 42 (.inr (.inl (vp_updL fn1102 (x1099.toInt).toNat y1081)))) 39 0 2 (.ref (52 + x)) := cw_sa_F f1092
        have f1109 : cw_F (cw_sa h1091 42 (.inr (.inl (vp_updL fn1102 (x1099.toInt).toNat y1081)))) 39 0 5 (.int y) := cw_sa_F f1093
        have f1110 : cw_F (cw_sa h1091 42 (.inr (.inl (vp_updL fn1102 (x1099.toInt).toNat y1081)))) 30 4 4 (.int n) := cw_sa_F f1094
        have f1111 : cw_F (cw_sa h1091 42 (.inr (.inl (vp_updL fn1102 (x1099.toInt).toNat y1081)))) 39 0 7 (.int x1099) := cw_sa_F f1099
        have f1112 : cw_F (cw_sa h1091 42 (.inr (.inl (vp_updL fn1102 (x1099.toInt).toNat y1081)))) 39 0 6 (.ref (52 + 42)) := cw_sa_F f1100
        have a1113 : cw_A (cw_sa h1091 42 (.inr (.inl (vp_updL fn1102 (x1099.toInt).toNat y1081)))) 31 0 2500 (.inl f) := cw_sa_ne a1095 (by decide)
        have a1114 : cw_A (cw_sa h1091 42 (.inr (.inl (vp_updL fn1102 (x1099.toInt).toNat y1081)))) 34 0 2500 (.inl g) := cw_sa_ne a1096 (by decide)
        have a1115 : cw_A (cw_sa h1091 42 (.inr (.inl (vp_updL fn1102 (x1099.toInt).toNat y1081)))) 42 1 6 (.inr (.inl (vp_updL fn1102 (x1099.toInt).toNat y1081))) := cw_sa_same a1102
        refine cw_n aj_d75 rfl rfl ?_
        refine cw_n aj_d75 rfl rfl ?_
        refine cw_g (i := 39) (v := .int x1099) htb.1 aj_d75 rfl rfl (by decide) f1111 ?_
        refine cw_n aj_d75 rfl rfl ?_
        refine cw_add aj_d75 rfl (a := x1099.toInt) (b := (1 : Int)) rfl rfl (by omega) (by omega) (fun x1116 ex1116 => ?_)
        refine cw_p (i := 39) (t := 52) (c := 0) (k := 7) (v := .int x1116) (y := (.inl (0, 6))) htb aj_d75 rfl rfl hT1107 (cw_s0 hB rfl) rfl rfl rfl (cw_gw (a := x1116.toInt) rfl (by omega) (by omega)) (by decide) rfl rfl (fun hT1117 => ?_)
        have f1118 : cw_F (cw_sf (cw_sa h1091 42 (.inr (.inl (vp_updL fn1102 (x1099.toInt).toNat y1081)))) 39 7 (.int x1116)) 39 0 2 (.ref (52 + x)) := cw_sf_ne f1108 (Or.inr (by decide))
        have f1119 : cw_F (cw_sf (cw_sa h1091 42 (.inr (.inl (vp_updL fn1102 (x1099.toInt).toNat y1081)))) 39 7 (.int x1116)) 39 0 5 (.int y) := cw_sf_ne f1109 (Or.inr (by decide))
        have f1120 : cw_F (cw_sf (cw_sa h1091 42 (.inr (.inl (vp_updL fn1102 (x1099.toInt).toNat y1081)))) 39 7 (.int x1116)) 30 4 4 (.int n) := cw_sf_ne f1110 (Or.inr (by decide))
        have f1121 : cw_F (cw_sf (cw_sa h1091 42 (.inr (.inl (vp_updL fn1102 (x1099.toInt).toNat y1081)))) 39 7 (.int x1116)) 39 0 6 (.ref (52 + 42)) := cw_sf_ne f1112 (Or.inr (by decide))
        have a1122 : cw_A (cw_sf (cw_sa h1091 42 (.inr (.inl (vp_updL fn1102 (x1099.toInt).toNat y1081)))) 39 7 (.int x1116)) 31 0 2500 (.inl f) := cw_sf_A a1113
        have a1123 : cw_A (cw_sf (cw_sa h1091 42 (.inr (.inl (vp_updL fn1102 (x1099.toInt).toNat y1081)))) 39 7 (.int x1116)) 34 0 2500 (.inl g) := cw_sf_A a1114
        have a1124 : cw_A (cw_sf (cw_sa h1091 42 (.inr (.inl (vp_updL fn1102 (x1099.toInt).toNat y1081)))) 39 7 (.int x1116)) 42 1 6 (.inr (.inl (vp_updL fn1102 (x1099.toInt).toNat y1081))) := cw_sf_A a1115
        have f1125 : cw_F (cw_sf (cw_sa h1091 42 (.inr (.inl (vp_updL fn1102 (x1099.toInt).toNat y1081)))) 39 7 (.int x1116)) 39 0 7 (.int x1116) := cw_sf_same f1111
        refine cw_n aj_d75 rfl rfl ?_
        obtain ⟨v1126, f1126, g1126⟩ := cw_tyF (i := 39) (t := 52) (c := 0) (k := 1) (y := (.inr (some ([56], false)))) hT1117 (cw_s0 hB rfl) rfl rfl rfl
        obtain rfl := cw_gu (i := 30) hB g1126 (by decide) (by decide) (by decide)
        refine cw_g (i := 39) (v := .ref (52 + 30)) htb.1 aj_d75 rfl rfl (by decide) f1126 ?_
        refine cw_n aj_d75 rfl rfl ?_
        refine cw_n aj_d75 rfl rfl ?_
        refine cw_k0 (i := 30) (t := 56) (con' := ap_c41) aj_d75 htb hT1117 rfl rfl [_, _] rfl rfl (cw_s0 hB rfl) rfl (Nat.le_of_ble_eq_true rfl) ⟨by decide, by decide⟩ (cw_setA1 htb hT1117 hB (by omega) iv x1089) ?_
        rintro ru1127 h1127 hT1127 tu1127 hRu1127
        obtain rfl := cw_rN hRu1127
        obtain ⟨gu1127, Qu1127, vu1127⟩ := cw_CQ_set hx hi hT1117 tu1127 (cw_CQ_eq ((cw_o_sf f1111 (by decide)).trans ((cw_o_sa a1102 (by decide)).trans (ho1091.trans (ho1083.trans (ho1075.trans rfl))))) hQ)
        have Q1128 := Qu1127
        obtain ⟨Iq1128, qq1128, f2q1128, a31q1128, a34q1128, f4q1128, f5q1128, Zq1128, nq1128, gq1128, bq1128⟩ := id Q1128
        show cw_W _ _ _ _ _ _ _ _ _ _ 92 [(4, .int x1089), (2, .long y1081), (0, .ref (52 + 39)), (1, .int iv)] []
        refine cw_Wr aj_d75 rfl rfl hT1127 ?_ ?_
        · exact ⟨rfl, _, _, _, Q1128, by omega⟩
        · trivial
    · have q1098 : x1097.toInt ≠ (0 : Int) := aw_t_eq (a := x1097.toInt) (b := (0 : Int)) rfl rfl q1098
      refine cw_n aj_d75 rfl rfl ?_
      refine cw_n aj_d75 rfl rfl ?_
      refine cw_n aj_d75 rfl rfl ?_
      refine cw_k0 (i := 39) (t := 52) (con' := ap_c64) aj_d75 htb hT1091 rfl rfl [_, _] rfl rfl (cw_s0 hB rfl) rfl (Nat.le_of_ble_eq_true rfl) ⟨by decide, by decide⟩ (cw_a2 (by omega) (ap_1_64 htb (cw_SPkc rfl rfl) cw_hK (cw_H1k htb)) hT1091 (cw_I_eq (ho1091.trans (ho1083.trans (ho1075.trans rfl))) Ih) rfl ⟨(cw_gR (cw_s0 hB rfl) (by decide) (by decide)), (cw_gw (a := (3 : Int)) rfl (by omega) (by omega)), (cw_gw (a := iv.toInt) rfl (by omega) (by omega)), trivial⟩) ?_
      rintro ru1129 h1129 hT1129 ⟨Iu1129, ku1129, mu1129⟩ hRu1129
      obtain rfl := cw_rN hRu1129
      have Q1130 := cw_CQ_f Iu1129 ku1129 mu1129 (cw_CQ_eq (ho1091.trans (ho1083.trans (ho1075.trans rfl))) hQ)
      obtain ⟨Iq1130, qq1130, f2q1130, a31q1130, a34q1130, f4q1130, f5q1130, Zq1130, nq1130, gq1130, bq1130⟩ := id Q1130
      show cw_W _ _ _ _ _ _ _ _ _ _ 47 [(4, .int x1089), (2, .long y1081), (0, .ref (52 + 39)), (1, .int iv)] []
      refine cw_n aj_d75 rfl rfl ?_
      refine cw_n aj_d75 rfl rfl ?_
      obtain ⟨v1131, f1131, g1131⟩ := cw_tyF (i := 39) (t := 52) (c := 0) (k := 1) (y := (.inr (some ([56], false)))) hT1129 (cw_s0 hB rfl) rfl rfl rfl
      obtain rfl := cw_gu (i := 30) hB g1131 (by decide) (by decide) (by decide)
      refine cw_g (i := 39) (v := .ref (52 + 30)) htb.1 aj_d75 rfl rfl (by decide) f1131 ?_
      refine cw_n aj_d75 rfl rfl ?_
      refine cw_n aj_d75 rfl rfl ?_
      refine cw_k0 (i := 30) (t := 56) (con' := ap_c41) aj_d75 htb hT1129 rfl rfl [_, _] rfl rfl (cw_s0 hB rfl) rfl (Nat.le_of_ble_eq_true rfl) ⟨by decide, by decide⟩ (cw_setA1 htb hT1129 hB (by omega) iv x1089) ?_
      rintro ru1132 h1132 hT1132 tu1132 hRu1132
      obtain rfl := cw_rN hRu1132
      obtain ⟨gu1132, Qu1132, vu1132⟩ := cw_CQ_set hx hi hT1129 tu1132 Q1130
      have Q1133 := Qu1132
      obtain ⟨Iq1133, qq1133, f2q1133, a31q1133, a34q1133, f4q1133, f5q1133, Zq1133, nq1133, gq1133, bq1133⟩ := id Q1133
      show cw_W _ _ _ _ _ _ _ _ _ _ 92 [(4, .int x1089), (2, .long y1081), (0, .ref (52 + 39)), (1, .int iv)] []
      refine cw_Wr aj_d75 rfl rfl hT1132 ?_ ?_
      · exact ⟨rfl, _, _, _, Q1133, by omega⟩
      · trivial
  · have q1090 : x1089.toInt < (0 : Int) := aw_t_ge (a := x1089.toInt) (b := (0 : Int)) rfl rfl q1090
    refine cw_n aj_d75 rfl rfl ?_
    refine cw_n aj_d75 rfl rfl ?_
    refine cw_n aj_d75 rfl rfl ?_
    refine cw_k0 (i := 39) (t := 52) (con' := ap_c64) aj_d75 htb hT1083 rfl rfl [_, _] rfl rfl (cw_s0 hB rfl) rfl (Nat.le_of_ble_eq_true rfl) ⟨by decide, by decide⟩ (cw_a2 (by omega) (ap_1_64 htb (cw_SPkc rfl rfl) cw_hK (cw_H1k htb)) hT1083 (cw_I_eq (ho1083.trans (ho1075.trans rfl)) Ih) rfl ⟨(cw_gR (cw_s0 hB rfl) (by decide) (by decide)), (cw_gw (a := (4 : Int)) rfl (by omega) (by omega)), (cw_gw (a := iv.toInt) rfl (by omega) (by omega)), trivial⟩) ?_
    rintro ru1134 h1134 hT1134 ⟨Iu1134, ku1134, mu1134⟩ hRu1134
    obtain rfl := cw_rN hRu1134
    have Q1135 := cw_CQ_f Iu1134 ku1134 mu1134 (cw_CQ_eq (ho1083.trans (ho1075.trans rfl)) hQ)
    obtain ⟨Iq1135, qq1135, f2q1135, a31q1135, a34q1135, f4q1135, f5q1135, Zq1135, nq1135, gq1135, bq1135⟩ := id Q1135
    show cw_W _ _ _ _ _ _ _ _ _ _ 30 [(4, .int x1089), (2, .long y1081), (0, .ref (52 + 39)), (1, .int iv)] []
    refine cw_n aj_d75 rfl rfl ?_
    refine cw_n aj_d75 rfl rfl ?_
    obtain ⟨v1136, f1136, g1136⟩ := cw_tyF (i := 39) (t := 52) (c := 0) (k := 1) (y := (.inr (some ([56], false)))) hT1134 (cw_s0 hB rfl) rfl rfl rfl
    obtain rfl := cw_gu (i := 30) hB g1136 (by decide) (by decide) (by decide)
    refine cw_g (i := 39) (v := .ref (52 + 30)) htb.1 aj_d75 rfl rfl (by decide) f1136 ?_
    refine cw_n aj_d75 rfl rfl ?_
    refine cw_n aj_d75 rfl rfl ?_
    refine cw_k0 (i := 30) (t := 56) (con' := ap_c41) aj_d75 htb hT1134 rfl rfl [_, _] rfl rfl (cw_s0 hB rfl) rfl (Nat.le_of_ble_eq_true rfl) ⟨by decide, by decide⟩ (cw_setA1 htb hT1134 hB (by omega) iv x1089) ?_
    rintro ru1137 h1137 hT1137 tu1137 hRu1137
    obtain rfl := cw_rN hRu1137
    obtain ⟨gu1137, Qu1137, vu1137⟩ := cw_CQ_set hx hi hT1134 tu1137 Q1135
    have Q1138 := Qu1137
    obtain ⟨Iq1138, qq1138, f2q1138, a31q1138, a34q1138, f4q1138, f5q1138, Zq1138, nq1138, gq1138, bq1138⟩ := id Q1138
    show cw_W _ _ _ _ _ _ _ _ _ _ 92 [(4, .int x1089), (2, .long y1081), (0, .ref (52 + 39)), (1, .int iv)] []
    refine cw_Wr aj_d75 rfl rfl hT1137 ?_ ?_
    · exact ⟨rfl, _, _, _, Q1138, by omega⟩
    · trivial
end CW82
