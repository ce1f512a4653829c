/-! THE CHECK, BY HAND (printed by wip/p2/cwalk/g82.py) -/
abbrev cw_nC (m : Nat) (r : Option ak_A) : ak_Con := (m, [], r, ([65, 66, 67, 72, 73, 74, 75, 82, 86, 87, 88], [(0, 2), (0, 5), (0, 7), (0, 8), (4, 5), (4, 6), (6, 3), (6, 4), (7, 11), (7, 12), (7, 13)]), [], [], [], 0, 0, [], [], [])
section CW82
variable {T : ak_TT} {Φ : List Nat → Option Value → aj_H → Prop} {tb : aj_T} {con : ak_Con} {d : Nat} {s s' s2 s0 : List Nat} {h h' h2 h0 : aj_H} {i j p q x c k l l' : Nat} {b b' b2 : Int} {o o' o2 o0 : cw_O} {EF : Nat → Nat → Nat → Prop} {EA : Nat → Prop} {n nt n0 iv y y' v w : Int32} {f g g0 : Nat → Int32} {B N : Prop} {bb : Int}
def cw_bado (o : cw_O) : Prop := ∃ m : Int32, m.toInt ≠ 0 ∧ cw_fo o 30 4 5 (.int m)
abbrev cw_E4 : Nat → Nat → Nat → Prop := fun _ c k => c = 4 ∧ k ≠ 4
/-- while a check goes on: what fails alone -/
def cw_SPk (s0 : List Nat) (o0 : cw_O) : List Nat → aj_H → Prop := fun s h => cw_B s ∧ (cw_IO cw_XB s (cw_o h) ∧ (s = s0 ∧ (cw_kp cw_E4 cw_E0 o0 (cw_o h) ∧ (cw_bado o0 → cw_bado (cw_o h)))))
theorem cw_SPkc {T : ak_TT} (hT1 : T.2.2.1 = ak_spTC) (hT2 : T.2.2.2 = ak_spFC) : ak_SPc T (cw_SPk s0 o0) := cw_SPI (I := fun s o => cw_IO cw_XB s o ∧ (s = s0 ∧ (cw_kp cw_E4 cw_E0 o0 o ∧ (cw_bado o0 → cw_bado o)))) hT1 hT2
theorem cw_SPk_I (hS : cw_SPk s0 o0 s h) : cw_I cw_XB s h := ⟨hS.1, hS.2.1⟩
theorem cw_SPk_eq (ho : cw_o h' = cw_o h) (hS : cw_SPk s0 o0 s h) : cw_SPk s0 o0 s h' := ⟨hS.1, by rw [ho]; exact hS.2⟩
theorem cw_H1k (htb : ak_tbOK ak_C1 tb) : ap_H1 (cw_SPk s0 o0) cw_kap tb := by
  unfold ap_H1 ap_hl1
  refine List.forall_mem_cons.mpr ⟨?_, List.forall_mem_cons.mpr ⟨?_, List.forall_mem_cons.mpr ⟨?_, fun _ h => nomatch h⟩⟩⟩
  · refine cw_CT rfl (fun d hd s h as hT hS hA _ => ?_)
    have hI := cw_SPk_I hS
    obtain ⟨v1, as, rfl, g1, hA⟩ := cw_gAc hA
    obtain ⟨v2, as, rfl, g2, hA⟩ := cw_gAc hA
    obtain ⟨v3, as, rfl, g3, hA⟩ := cw_gAc hA
    cases cw_gAn hA
    obtain rfl := cw_gu (i := 30) hI.1 g1 (by decide) (by decide) (by decide)
    obtain ⟨m, rfl, hm⟩ := ak_gi g2
    obtain ⟨p, rfl, -⟩ := ak_gi g3
    obtain ⟨w1, f1, k1⟩ := cw_tyF (i := 30) (t := 56) (c := 4) (k := 5) (y := .inl (-2147483648, 2147483647)) hT (cw_s0 hI.1 rfl) rfl rfl rfl
    obtain ⟨q1, rfl, -⟩ := ak_gi k1
    obtain ⟨w2, f2, k2⟩ := cw_tyF (i := 30) (t := 56) (c := 4) (k := 6) (y := .inl (-2147483648, 2147483647)) hT (cw_s0 hI.1 rfl) rfl rfl rfl
    obtain ⟨q2, rfl, -⟩ := ak_gi k2
    refine cw_mono (fun s' r h' hh => ?_) (cw_fail1 htb hT hI.1 hd m p)
    obtain ⟨es, -, hh⟩ := hh
    obtain rfl := es.symm
    have hm1 : m.toInt ≠ 0 := by have := hm.1; omega
    have I' := cw_failI f1 f2 hm1 hh hI
    refine ⟨I'.1, I'.2, hS.2.2.1, ?_⟩
    rcases hh with rfl | rfl
    · exact hS.2.2.2
    · exact ⟨cw_kp_tr hS.2.2.2.1 (cw_kp_tr (cw_kp_sf f1 ⟨rfl, by decide⟩) (cw_kp_sf (cw_sf_ne f2 (Or.inr (by decide))) ⟨rfl, by decide⟩)), fun _ => ⟨m, hm1, (cw_fo_F (by decide)).mpr (cw_sf_ne (cw_sf_same f1) (Or.inr (by decide)))⟩⟩
  · refine cw_CT rfl (fun d hd s h as hT hS hA _ => ?_)
    have hI := cw_SPk_I hS
    obtain ⟨v0, as, rfl, q0, hA⟩ := cw_gAc hA
    obtain ⟨v1, as, rfl, q1, hA⟩ := cw_gAc hA
    obtain ⟨v2, as, rfl, q2, hA⟩ := cw_gAc hA
    cases cw_gAn hA
    obtain rfl := cw_gu (i := 39) hI.1 q0 (by decide) (by decide) (by decide)
    obtain ⟨a1, rfl, ha1⟩ := ak_gi q1
    obtain ⟨a2, rfl⟩ := cw_gl q2
    refine cw_mono (fun s' r h' hh => ?_) (cw_addCol htb hT hI.1 hd a1 a2)
    obtain ⟨es, ho⟩ := hh
    obtain rfl := es.symm
    exact cw_SPk_eq ho hS
  · refine cw_CT rfl (fun d hd s h as hT hS hA _ => ?_)
    have hI := cw_SPk_I hS
    obtain ⟨v1, as, rfl, q1, hA⟩ := cw_gAc hA
    obtain ⟨v2, as, rfl, q2, hA⟩ := cw_gAc hA
    cases cw_gAn hA
    obtain rfl := cw_gu (i := 26) hI.1 q1 (by decide) (by decide) (by decide)
    obtain ⟨m, rfl, hm⟩ := ak_gi q2
    obtain ⟨fw, w1, w2⟩ := hI.2.1
    refine cw_mono (fun s' r h' hh => ?_) (cw_intAt htb hT hI.1 hd m hm ((cw_oa_A (by decide)).mp w1) w2)
    obtain ⟨es, eh⟩ := hh
    obtain rfl := es.symm
    obtain rfl := eh.symm
    exact hS
theorem cw_a2 {k : Nat} (hd : k ≤ d) (hC : ak_CT T (cw_SPk s (cw_o h)) cw_kap tb k con) {as : List Value} (hT : ak_Ty T s h) (hI : cw_I cw_XB s h) (hQ : con.2.2.2.2.1 = []) (hA : ak_gA s con.2.1 as) : cw_K T (fun s' _ h' => s' = s ∧ cw_I cw_XB s' h' ∧ cw_kp cw_E4 cw_E0 (cw_o h) (cw_o h') ∧ (cw_bado (cw_o h) → cw_bado (cw_o h'))) tb d con as s h := by
  refine cw_mono (fun s' r h' hh => ?_) (cw_of (SP := cw_SPk s (cw_o h)) hd hC hT ⟨hI.1, hI.2, rfl, cw_kp_rf, id⟩ hA (by rw [hQ]; exact cw_q0))
  have z := hh.1
  exact ⟨z.2.2.1, ⟨z.1, z.2.1⟩, z.2.2.2⟩
theorem cw_sta_kp (h0 : cw_sta iv y h h') : cw_kp (fun _ _ _ => False) (fun a => a = 34) (cw_o h) (cw_o h') := by
  obtain ⟨e, q, -⟩ := h0
  refine ⟨fun i c k v _ z => ?_, fun i z hi e2 => ?_⟩
  · obtain ⟨h1, h2⟩ := cw_fo_sp z
    exact (cw_fo_F h1).mpr (q _ _ _ _ h2)
  · rw [(e i (fun z => hi (List.mem_singleton.mp z))).2]
    exact e2
theorem cw_sta_I (hT : ak_Ty ak_C1 s h) (hI : cw_I cw_XB s h) (h0 : cw_sta iv y h h') : cw_I cw_XB s h' := by
  have k5 := cw_sta_kp h0
  refine ⟨hI.1, cw_wds_kp k5 (by decide) hI.2.1, cw_dis_kp k5 (by decide) id hI.2.2.1, cw_gd_kp (T := ak_C1) rfl rfl hT hI.1 k5 (by decide) ⟨id, id⟩ hI.2.2.2.1, fun i hi q hq => ?_, cw_rm_kp k5 (fun j hj z => by omega) ⟨id, id⟩ hI.2.2.2.2.2⟩
  rw [(h0.1 i (fun z => by have := List.mem_singleton.mp z; omega)).1] at hq
  exact hI.2.2.2.2.1 i hi q hq
theorem cw_I_c0 {T : ak_TT} (h1 : T.1 = ak_ti) (h4 : T.2.1[4]? = ak_ft0[4]?) {X : Option Nat} (hT : ak_Ty T s h) (hI : cw_I X s h) {v w : Value} (fd : cw_F h 39 0 k v) : cw_I X s (cw_sf h 39 k w) ∧ cw_kp (fun a c k' => a = 39 ∧ c = 0 ∧ k' = k) (fun _ => False) (cw_o h) (cw_o (cw_sf h 39 k w)) := by
  have k5 : cw_kp (fun a c k' => a = 39 ∧ c = 0 ∧ k' = k) (fun _ => False) (cw_o h) (cw_o (cw_sf h 39 k w)) := cw_kp_sf fd ⟨rfl, rfl, rfl⟩
  exact ⟨⟨hI.1, cw_wds_kp k5 id hI.2.1, cw_dis_kp k5 id (fun z => by omega) hI.2.2.1, cw_gd_kp (T := T) h1 h4 hT hI.1 k5 id ⟨fun z => by omega, fun z => by omega⟩ hI.2.2.2.1, cw_H_sfo hI.2.2.2.2.1 fd (by decide), cw_rm_kp k5 (fun _ _ z => z) ⟨fun z => by omega, fun z => by omega⟩ hI.2.2.2.2.2⟩, k5⟩
/-- where a check stands -/
def cw_CQ (N : Prop) (bb : Int) (x : Nat) (n : Int32) (f : Nat → Int32) (iv : Int32) (g0 : Nat → Int32) (n0 : Int32) (B : Prop) (y nt : Int32) (g : Nat → Int32) (s : List Nat) (h : aj_H) : Prop := cw_I cw_XB s h ∧ s[x]? = some 59 ∧ cw_F h 39 0 2 (.ref (52 + x)) ∧ cw_A h 31 0 2500 (.inl f) ∧ cw_A h 34 0 2500 (.inl g) ∧ cw_F h 30 4 4 (.int n) ∧ cw_F h 39 0 5 (.int y) ∧ cw_Z N x nt bb (cw_o h) ∧ n0.toInt ≤ nt.toInt ∧ (∀ j : Nat, (j : Int) ≠ iv.toInt → g j = g0 j) ∧ (B → cw_bado (cw_o h))
theorem cw_CQ_eq (ho : cw_o h' = cw_o h) (hQ : cw_CQ N bb x n f iv g0 n0 B y nt g s h) : cw_CQ N bb x n f iv g0 n0 B y nt g s h' := by
  obtain ⟨q1, q2, q3, q4, q5, q6, q7, q8, q9, q10, q11⟩ := hQ
  refine ⟨cw_I_eq ho q1, q2, cw_trF ho (by decide) q3, cw_trA ho (by decide) q4, cw_trA ho (by decide) q5, cw_trF ho (by decide) q6, cw_trF ho (by decide) q7, ?_, q9, q10, fun z => ?_⟩
  · rw [ho]
    exact q8
  · rw [ho]
    exact q11 z
theorem cw_CQ_f (I' : cw_I cw_XB s h') (k' : cw_kp cw_E4 cw_E0 (cw_o h) (cw_o h')) (m' : cw_bado (cw_o h) → cw_bado (cw_o h')) (hQ : cw_CQ N bb x n f iv g0 n0 B y nt g s h) : cw_CQ N bb x n f iv g0 n0 B y nt g s h' := by
  obtain ⟨q1, q2, q3, q4, q5, q6, q7, q8, q9, q10, q11⟩ := hQ
  exact ⟨I', q2, cw_kp_F k' (by decide) (by decide) q3, cw_kp_A k' id (by decide) q4, cw_kp_A k' id (by decide) q5, cw_kp_F k' (by decide) (by decide) q6, cw_kp_F k' (by decide) (by decide) q7, cw_Z_kp k' (fun z => absurd z.1 (by decide)) (fun z => absurd z.1 (by decide)) (fun _ _ => id) (cw_sy_n k' (fun _ _ z => absurd z.1 (by decide))) q8, q9, q10, fun z => m' (q11 z)⟩
theorem cw_CQ_set (hx : x = 2 ∨ x = 14) (hi : 0 ≤ iv.toInt ∧ iv.toInt ≤ 2499) (hT : ak_Ty ak_C1 s h) (h0 : cw_sta iv v h h') (hQ : cw_CQ N bb x n f iv g0 n0 B y nt g s h) : ∃ g', cw_CQ N bb x n f iv g0 n0 B y nt g' s h' ∧ g' iv.toInt.toNat = v := by
  obtain ⟨q1, q2, q3, q4, q5, q6, q7, q8, q9, q10, q11⟩ := hQ
  have k' := cw_sta_kp h0
  have I' := cw_sta_I hT q1 h0
  obtain ⟨e, q, ga, g', a1, a2, a3, a4⟩ := h0
  obtain ⟨-, -, e5⟩ := cw_A_u q5 a1
  cases e5
  refine ⟨g', ⟨I', q2, q _ _ _ _ q3, cw_kp_A k' (by decide) (by decide) q4, a2, q _ _ _ _ q6, q _ _ _ _ q7, cw_Z_kp k' id id (fun a ha z => by omega) (cw_sy_n k' (fun _ _ z => z)) q8, q9, fun j hj => by rw [a3 j hj]; exact q10 j hj, fun z => ?_⟩, a4 hi.1 (by omega)⟩
  obtain ⟨m, hm, hf⟩ := q11 z
  exact ⟨m, hm, k'.1 _ _ _ _ id hf⟩
theorem cw_CQ_dep (hT : ak_Ty ak_C1 s h) (hQ : cw_CQ N bb x n f iv g0 n0 B y nt g s h) (y' : Int32) : cw_CQ N bb x n f iv g0 n0 B y' nt g s (cw_sf h 39 5 (.int y')) := by
  obtain ⟨q1, q2, q3, q4, q5, q6, q7, q8, q9, q10, q11⟩ := hQ
  obtain ⟨I', k'⟩ := cw_I_c0 (T := ak_C1) (w := .int y') rfl rfl hT q1 q7
  refine ⟨I', q2, cw_kp_F k' (by decide) (by decide) q3, cw_kp_A k' id (by decide) q4, cw_kp_A k' id (by decide) q5, cw_kp_F k' (by decide) (by decide) q6, cw_sf_same q7, cw_Z_kp k' (fun z => absurd z.2.1 (by decide)) (fun z => absurd z.2.1 (by decide)) (fun _ _ => id) (cw_sy_n k' (fun _ _ z => absurd z.2.1 (by decide))) q8, q9, q10, fun z => ?_⟩
  obtain ⟨m, hm, hf⟩ := q11 z
  exact ⟨m, hm, k'.1 _ _ _ _ (fun z => absurd z.2.1 (by decide)) hf⟩
/-- the rows of a table -/
theorem cw_rowsO1 {N : Prop} (htb : ak_tbOK ak_C1 tb) (hT : ak_Ty ak_C1 s h) (hB : cw_B s) (hd : 1 ≤ d) {q : Nat} (hq : q = 2 ∨ q = 14) {x nt : Int32} (hZ : cw_Z N q nt b (cw_o h)) : cw_K ak_C1 (fun s' r h' => s' = s ∧ h' = h ∧ (((¬ (0 ≤ x.toInt ∧ x.toInt < nt.toInt) ∨ N) ∧ r = some .null) ∨ (0 ≤ x.toInt ∧ x.toInt < nt.toInt) ∧ ∃ i, r = some (.ref (52 + i)) ∧ s[i]? = some 58 ∧ cw_ok b (cw_o h) i)) tb d (cw_nC 63 (some (.inr (some ([58], true))))) [.ref (52 + q), .int x] s h := by
  obtain ⟨d, rfl⟩ : ∃ e, d = e + 1 := ⟨d - 1, by omega⟩
  obtain ⟨a, q3, ⟨ha, -⟩, f12, f7, a10, hZ⟩ := hZ
  have f12 := (cw_fo_F (h := h) (by decide)).mp f12
  have f7 := (cw_fo_F (h := h) (by decide)).mp f7
  refine cw_m (con := cw_nC 63 (some (.inr (some ([58], true))))) aj_m63_at (Nat.le_of_ble_eq_true rfl) ?_
  rcases hq with rfl | rfl
  · rcases ha with rfl | rfl
    · have a10 : cw_A h 10 5 10 (cw_q q3) := (cw_oa_A (by decide)).mp a10
      have f7 : cw_F h 2 7 7 (.ref (52 + 10)) := f7
      obtain ⟨v', f', g'⟩ := cw_tyF (i := 2) (t := 59) (c := 7) (k := 12) (y := .inl (0, 10)) hT (cw_s0 hB rfl) rfl rfl rfl
      cases (cw_F_u f' f12).2
      obtain ⟨x', e, hx'⟩ := ak_gi g'
      cases e
      dsimp only [ak_win] at hx'
      show cw_W _ _ _ _ _ _ _ _ _ _ 0 [(0, .ref (52 + 2)), (1, .int x)] []
      refine cw_n aj_d63 rfl rfl ?_
      refine cw_z (tgt := 30) aj_d63 rfl rfl (fun q1001 => ?_) (fun q1001 => ?_)
      · have q1001 : x.toInt < (0 : Int) := aw_t_lt (a := x.toInt) (b := (0 : Int)) rfl rfl q1001
        refine cw_n aj_d63 rfl rfl ?_
        refine cw_Wr aj_d63 rfl rfl hT ?_ ?_
        · exact ⟨rfl, rfl, Or.inl ⟨Or.inl (by omega), rfl⟩⟩
        · exact rfl
      · have q1001 : x.toInt ≥ (0 : Int) := aw_t_lt (a := x.toInt) (b := (0 : Int)) rfl rfl q1001
        refine cw_n aj_d63 rfl rfl ?_
        refine cw_n aj_d63 rfl rfl ?_
        refine cw_g (i := 2) (v := .int nt) htb.1 aj_d63 rfl rfl (by decide) f12 ?_
        refine cw_c (tgt := 30) aj_d63 rfl rfl (fun q1002 => ?_) (fun q1002 => ?_)
        · have q1002 : x.toInt ≥ nt.toInt := aw_t_ge (a := x.toInt) (b := nt.toInt) rfl rfl q1002
          refine cw_n aj_d63 rfl rfl ?_
          refine cw_Wr aj_d63 rfl rfl hT ?_ ?_
          · exact ⟨rfl, rfl, Or.inl ⟨Or.inl (by omega), rfl⟩⟩
          · exact rfl
        · have q1002 : x.toInt < nt.toInt := aw_t_ge (a := x.toInt) (b := nt.toInt) rfl rfl q1002
          refine cw_n aj_d63 rfl rfl ?_
          refine cw_n aj_d63 rfl rfl ?_
          refine cw_g (i := 2) (v := .ref (52 + 10)) htb.1 aj_d63 rfl rfl (by decide) f7 ?_
          refine cw_alen (i := 10) htb.1 aj_d63 rfl a10 (by decide) (by omega) (fun x1003 ex1003 => ?_)
          refine cw_c (tgt := 30) aj_d63 rfl rfl (fun q1004 => ?_) (fun q1004 => ?_)
          · have q1004 : x.toInt ≥ (10 : Int) := aw_t_ge (a := x.toInt) (b := (10 : Int)) rfl ex1003 q1004
            refine cw_n aj_d63 rfl rfl ?_
            refine cw_Wr aj_d63 rfl rfl hT ?_ ?_
            · exact ⟨rfl, rfl, Or.inl ⟨Or.inl (by omega), rfl⟩⟩
            · exact rfl
          · have q1004 : x.toInt < (10 : Int) := aw_t_ge (a := x.toInt) (b := (10 : Int)) rfl ex1003 q1004
            refine cw_n aj_d63 rfl rfl ?_
            refine cw_g (i := 2) (v := .ref (52 + 10)) htb.1 aj_d63 rfl rfl (by decide) f7 ?_
            refine cw_n aj_d63 rfl rfl ?_
            refine cw_ldq (i := 10) htb.1 aj_d63 rfl a10 (a := x.toInt) rfl (by omega) (by omega) ?_
            have hxn : x.toInt.toNat < nt.toInt.toNat := by omega
            rcases hZ _ hxn with ⟨hN, hi⟩ | ⟨i, hi, oki⟩
            · rw [hi]
              show cw_W _ _ _ _ _ _ _ _ _ _ 27 [(0, .ref (52 + 2)), (1, .int x)] [.null]
              refine cw_n aj_d63 rfl rfl ?_
              refine cw_Wr aj_d63 rfl rfl hT ?_ ?_
              · exact ⟨rfl, rfl, Or.inl ⟨Or.inr hN, rfl⟩⟩
              · exact rfl
            · obtain ⟨i', ei, qi⟩ := cw_refs (T := ak_C1) (t := 72) (n1 := 10) (n2 := 10) hT (cw_s0 hB rfl) rfl a10 (l := x.toInt.toNat) (by omega) hi
              obtain rfl : i = i' := by omega
              rw [hi]
              show cw_W _ _ _ _ _ _ _ _ _ _ 27 [(0, .ref (52 + 2)), (1, .int x)] [.ref (52 + i)]
              refine cw_n aj_d63 rfl rfl ?_
              refine cw_Wr aj_d63 rfl rfl hT ?_ ?_
              · exact ⟨rfl, rfl, Or.inr ⟨⟨by omega, by omega⟩, i, rfl, qi, oki⟩⟩
              · exact cw_gR qi (by decide) (by decide)
    · have a10 : cw_A h 22 5 10 (cw_q q3) := (cw_oa_A (by decide)).mp a10
      have f7 : cw_F h 2 7 7 (.ref (52 + 22)) := f7
      obtain ⟨v', f', g'⟩ := cw_tyF (i := 2) (t := 59) (c := 7) (k := 12) (y := .inl (0, 10)) hT (cw_s0 hB rfl) rfl rfl rfl
      cases (cw_F_u f' f12).2
      obtain ⟨x', e, hx'⟩ := ak_gi g'
      cases e
      dsimp only [ak_win] at hx'
      show cw_W _ _ _ _ _ _ _ _ _ _ 0 [(0, .ref (52 + 2)), (1, .int x)] []
      refine cw_n aj_d63 rfl rfl ?_
      refine cw_z (tgt := 30) aj_d63 rfl rfl (fun q1005 => ?_) (fun q1005 => ?_)
      · have q1005 : x.toInt < (0 : Int) := aw_t_lt (a := x.toInt) (b := (0 : Int)) rfl rfl q1005
        refine cw_n aj_d63 rfl rfl ?_
        refine cw_Wr aj_d63 rfl rfl hT ?_ ?_
        · exact ⟨rfl, rfl, Or.inl ⟨Or.inl (by omega), rfl⟩⟩
        · exact rfl
      · have q1005 : x.toInt ≥ (0 : Int) := aw_t_lt (a := x.toInt) (b := (0 : Int)) rfl rfl q1005
        refine cw_n aj_d63 rfl rfl ?_
        refine cw_n aj_d63 rfl rfl ?_
        refine cw_g (i := 2) (v := .int nt) htb.1 aj_d63 rfl rfl (by decide) f12 ?_
        refine cw_c (tgt := 30) aj_d63 rfl rfl (fun q1006 => ?_) (fun q1006 => ?_)
        · have q1006 : x.toInt ≥ nt.toInt := aw_t_ge (a := x.toInt) (b := nt.toInt) rfl rfl q1006
          refine cw_n aj_d63 rfl rfl ?_
          refine cw_Wr aj_d63 rfl rfl hT ?_ ?_
          · exact ⟨rfl, rfl, Or.inl ⟨Or.inl (by omega), rfl⟩⟩
          · exact rfl
        · have q1006 : x.toInt < nt.toInt := aw_t_ge (a := x.toInt) (b := nt.toInt) rfl rfl q1006
          refine cw_n aj_d63 rfl rfl ?_
          refine cw_n aj_d63 rfl rfl ?_
          refine cw_g (i := 2) (v := .ref (52 + 22)) htb.1 aj_d63 rfl rfl (by decide) f7 ?_
          refine cw_alen (i := 22) htb.1 aj_d63 rfl a10 (by decide) (by omega) (fun x1007 ex1007 => ?_)
          refine cw_c (tgt := 30) aj_d63 rfl rfl (fun q1008 => ?_) (fun q1008 => ?_)
          · have q1008 : x.toInt ≥ (10 : Int) := aw_t_ge (a := x.toInt) (b := (10 : Int)) rfl ex1007 q1008
            refine cw_n aj_d63 rfl rfl ?_
            refine cw_Wr aj_d63 rfl rfl hT ?_ ?_
            · exact ⟨rfl, rfl, Or.inl ⟨Or.inl (by omega), rfl⟩⟩
            · exact rfl
          · have q1008 : x.toInt < (10 : Int) := aw_t_ge (a := x.toInt) (b := (10 : Int)) rfl ex1007 q1008
            refine cw_n aj_d63 rfl rfl ?_
            refine cw_g (i := 2) (v := .ref (52 + 22)) htb.1 aj_d63 rfl rfl (by decide) f7 ?_
            refine cw_n aj_d63 rfl rfl ?_
            refine cw_ldq (i := 22) htb.1 aj_d63 rfl a10 (a := x.toInt) rfl (by omega) (by omega) ?_
            have hxn : x.toInt.toNat < nt.toInt.toNat := by omega
            rcases hZ _ hxn with ⟨hN, hi⟩ | ⟨i, hi, oki⟩
            · rw [hi]
              show cw_W _ _ _ _ _ _ _ _ _ _ 27 [(0, .ref (52 + 2)), (1, .int x)] [.null]
              refine cw_n aj_d63 rfl rfl ?_
              refine cw_Wr aj_d63 rfl rfl hT ?_ ?_
              · exact ⟨rfl, rfl, Or.inl ⟨Or.inr hN, rfl⟩⟩
              · exact rfl
            · obtain ⟨i', ei, qi⟩ := cw_refs (T := ak_C1) (t := 72) (n1 := 10) (n2 := 10) hT (cw_s0 hB rfl) rfl a10 (l := x.toInt.toNat) (by omega) hi
              obtain rfl : i = i' := by omega
              rw [hi]
              show cw_W _ _ _ _ _ _ _ _ _ _ 27 [(0, .ref (52 + 2)), (1, .int x)] [.ref (52 + i)]
              refine cw_n aj_d63 rfl rfl ?_
              refine cw_Wr aj_d63 rfl rfl hT ?_ ?_
              · exact ⟨rfl, rfl, Or.inr ⟨⟨by omega, by omega⟩, i, rfl, qi, oki⟩⟩
              · exact cw_gR qi (by decide) (by decide)
  · rcases ha with rfl | rfl
    · have a10 : cw_A h 10 5 10 (cw_q q3) := (cw_oa_A (by decide)).mp a10
      have f7 : cw_F h 14 7 7 (.ref (52 + 10)) := f7
      obtain ⟨v', f', g'⟩ := cw_tyF (i := 14) (t := 59) (c := 7) (k := 12) (y := .inl (0, 10)) hT (cw_s0 hB rfl) rfl rfl rfl
      cases (cw_F_u f' f12).2
      obtain ⟨x', e, hx'⟩ := ak_gi g'
      cases e
      dsimp only [ak_win] at hx'
      show cw_W _ _ _ _ _ _ _ _ _ _ 0 [(0, .ref (52 + 14)), (1, .int x)] []
      refine cw_n aj_d63 rfl rfl ?_
      refine cw_z (tgt := 30) aj_d63 rfl rfl (fun q1009 => ?_) (fun q1009 => ?_)
      · have q1009 : x.toInt < (0 : Int) := aw_t_lt (a := x.toInt) (b := (0 : Int)) rfl rfl q1009
        refine cw_n aj_d63 rfl rfl ?_
        refine cw_Wr aj_d63 rfl rfl hT ?_ ?_
        · exact ⟨rfl, rfl, Or.inl ⟨Or.inl (by omega), rfl⟩⟩
        · exact rfl
      · have q1009 : x.toInt ≥ (0 : Int) := aw_t_lt (a := x.toInt) (b := (0 : Int)) rfl rfl q1009
        refine cw_n aj_d63 rfl rfl ?_
        refine cw_n aj_d63 rfl rfl ?_
        refine cw_g (i := 14) (v := .int nt) htb.1 aj_d63 rfl rfl (by decide) f12 ?_
        refine cw_c (tgt := 30) aj_d63 rfl rfl (fun q1010 => ?_) (fun q1010 => ?_)
        · have q1010 : x.toInt ≥ nt.toInt := aw_t_ge (a := x.toInt) (b := nt.toInt) rfl rfl q1010
          refine cw_n aj_d63 rfl rfl ?_
          refine cw_Wr aj_d63 rfl rfl hT ?_ ?_
          · exact ⟨rfl, rfl, Or.inl ⟨Or.inl (by omega), rfl⟩⟩
          · exact rfl
        · have q1010 : x.toInt < nt.toInt := aw_t_ge (a := x.toInt) (b := nt.toInt) rfl rfl q1010
          refine cw_n aj_d63 rfl rfl ?_
          refine cw_n aj_d63 rfl rfl ?_
          refine cw_g (i := 14) (v := .ref (52 + 10)) htb.1 aj_d63 rfl rfl (by decide) f7 ?_
          refine cw_alen (i := 10) htb.1 aj_d63 rfl a10 (by decide) (by omega) (fun x1011 ex1011 => ?_)
          refine cw_c (tgt := 30) aj_d63 rfl rfl (fun q1012 => ?_) (fun q1012 => ?_)
          · have q1012 : x.toInt ≥ (10 : Int) := aw_t_ge (a := x.toInt) (b := (10 : Int)) rfl ex1011 q1012
            refine cw_n aj_d63 rfl rfl ?_
            refine cw_Wr aj_d63 rfl rfl hT ?_ ?_
            · exact ⟨rfl, rfl, Or.inl ⟨Or.inl (by omega), rfl⟩⟩
            · exact rfl
          · have q1012 : x.toInt < (10 : Int) := aw_t_ge (a := x.toInt) (b := (10 : Int)) rfl ex1011 q1012
            refine cw_n aj_d63 rfl rfl ?_
            refine cw_g (i := 14) (v := .ref (52 + 10)) htb.1 aj_d63 rfl rfl (by decide) f7 ?_
            refine cw_n aj_d63 rfl rfl ?_
            refine cw_ldq (i := 10) htb.1 aj_d63 rfl a10 (a := x.toInt) rfl (by omega) (by omega) ?_
            have hxn : x.toInt.toNat < nt.toInt.toNat := by omega
            rcases hZ _ hxn with ⟨hN, hi⟩ | ⟨i, hi, oki⟩
            · rw [hi]
              show cw_W _ _ _ _ _ _ _ _ _ _ 27 [(0, .ref (52 + 14)), (1, .int x)] [.null]
              refine cw_n aj_d63 rfl rfl ?_
              refine cw_Wr aj_d63 rfl rfl hT ?_ ?_
              · exact ⟨rfl, rfl, Or.inl ⟨Or.inr hN, rfl⟩⟩
              · exact rfl
            · obtain ⟨i', ei, qi⟩ := cw_refs (T := ak_C1) (t := 72) (n1 := 10) (n2 := 10) hT (cw_s0 hB rfl) rfl a10 (l := x.toInt.toNat) (by omega) hi
              obtain rfl : i = i' := by omega
              rw [hi]
              show cw_W _ _ _ _ _ _ _ _ _ _ 27 [(0, .ref (52 + 14)), (1, .int x)] [.ref (52 + i)]
              refine cw_n aj_d63 rfl rfl ?_
              refine cw_Wr aj_d63 rfl rfl hT ?_ ?_
              · exact ⟨rfl, rfl, Or.inr ⟨⟨by omega, by omega⟩, i, rfl, qi, oki⟩⟩
              · exact cw_gR qi (by decide) (by decide)
    · have a10 : cw_A h 22 5 10 (cw_q q3) := (cw_oa_A (by decide)).mp a10
      have f7 : cw_F h 14 7 7 (.ref (52 + 22)) := f7
      obtain ⟨v', f', g'⟩ := cw_tyF (i := 14) (t := 59) (c := 7) (k := 12) (y := .inl (0, 10)) hT (cw_s0 hB rfl) rfl rfl rfl
      cases (cw_F_u f' f12).2
      obtain ⟨x', e, hx'⟩ := ak_gi g'
      cases e
      dsimp only [ak_win] at hx'
      show cw_W _ _ _ _ _ _ _ _ _ _ 0 [(0, .ref (52 + 14)), (1, .int x)] []
      refine cw_n aj_d63 rfl rfl ?_
      refine cw_z (tgt := 30) aj_d63 rfl rfl (fun q1013 => ?_) (fun q1013 => ?_)
      · have q1013 : x.toInt < (0 : Int) := aw_t_lt (a := x.toInt) (b := (0 : Int)) rfl rfl q1013
        refine cw_n aj_d63 rfl rfl ?_
        refine cw_Wr aj_d63 rfl rfl hT ?_ ?_
        · exact ⟨rfl, rfl, Or.inl ⟨Or.inl (by omega), rfl⟩⟩
        · exact rfl
      · have q1013 : x.toInt ≥ (0 : Int) := aw_t_lt (a := x.toInt) (b := (0 : Int)) rfl rfl q1013
        refine cw_n aj_d63 rfl rfl ?_
        refine cw_n aj_d63 rfl rfl ?_
        refine cw_g (i := 14) (v := .int nt) htb.1 aj_d63 rfl rfl (by decide) f12 ?_
        refine cw_c (tgt := 30) aj_d63 rfl rfl (fun q1014 => ?_) (fun q1014 => ?_)
        · have q1014 : x.toInt ≥ nt.toInt := aw_t_ge (a := x.toInt) (b := nt.toInt) rfl rfl q1014
          refine cw_n aj_d63 rfl rfl ?_
          refine cw_Wr aj_d63 rfl rfl hT ?_ ?_
          · exact ⟨rfl, rfl, Or.inl ⟨Or.inl (by omega), rfl⟩⟩
          · exact rfl
        · have q1014 : x.toInt < nt.toInt := aw_t_ge (a := x.toInt) (b := nt.toInt) rfl rfl q1014
          refine cw_n aj_d63 rfl rfl ?_
          refine cw_n aj_d63 rfl rfl ?_
          refine cw_g (i := 14) (v := .ref (52 + 22)) htb.1 aj_d63 rfl rfl (by decide) f7 ?_
          refine cw_alen (i := 22) htb.1 aj_d63 rfl a10 (by decide) (by omega) (fun x1015 ex1015 => ?_)
          refine cw_c (tgt := 30) aj_d63 rfl rfl (fun q1016 => ?_) (fun q1016 => ?_)
          · have q1016 : x.toInt ≥ (10 : Int) := aw_t_ge (a := x.toInt) (b := (10 : Int)) rfl ex1015 q1016
            refine cw_n aj_d63 rfl rfl ?_
            refine cw_Wr aj_d63 rfl rfl hT ?_ ?_
            · exact ⟨rfl, rfl, Or.inl ⟨Or.inl (by omega), rfl⟩⟩
            · exact rfl
          · have q1016 : x.toInt < (10 : Int) := aw_t_ge (a := x.toInt) (b := (10 : Int)) rfl ex1015 q1016
            refine cw_n aj_d63 rfl rfl ?_
            refine cw_g (i := 14) (v := .ref (52 + 22)) htb.1 aj_d63 rfl rfl (by decide) f7 ?_
            refine cw_n aj_d63 rfl rfl ?_
            refine cw_ldq (i := 22) htb.1 aj_d63 rfl a10 (a := x.toInt) rfl (by omega) (by omega) ?_
            have hxn : x.toInt.toNat < nt.toInt.toNat := by omega
            rcases hZ _ hxn with ⟨hN, hi⟩ | ⟨i, hi, oki⟩
            · rw [hi]
              show cw_W _ _ _ _ _ _ _ _ _ _ 27 [(0, .ref (52 + 14)), (1, .int x)] [.null]
              refine cw_n aj_d63 rfl rfl ?_
              refine cw_Wr aj_d63 rfl rfl hT ?_ ?_
              · exact ⟨rfl, rfl, Or.inl ⟨Or.inr hN, rfl⟩⟩
              · exact rfl
            · obtain ⟨i', ei, qi⟩ := cw_refs (T := ak_C1) (t := 72) (n1 := 10) (n2 := 10) hT (cw_s0 hB rfl) rfl a10 (l := x.toInt.toNat) (by omega) hi
              obtain rfl : i = i' := by omega
              rw [hi]
              show cw_W _ _ _ _ _ _ _ _ _ _ 27 [(0, .ref (52 + 14)), (1, .int x)] [.ref (52 + i)]
              refine cw_n aj_d63 rfl rfl ?_
              refine cw_Wr aj_d63 rfl rfl hT ?_ ?_
              · exact ⟨rfl, rfl, Or.inr ⟨⟨by omega, by omega⟩, i, rfl, qi, oki⟩⟩
              · exact cw_gR qi (by decide) (by decide)
theorem cw_keepN (htb : ak_tbOK ak_C1 tb) (hT : ak_Ty ak_C1 s h) (hd : 3 ≤ d)  (hx : x = 2 ∨ x = 14) (hi : 0 ≤ iv.toInt ∧ iv.toInt ≤ 2499) (hy : -2600 ≤ y.toInt ∧ y.toInt ≤ 2600) (hQ : cw_CQ N bb x n f iv g0 n0 B y nt g s h) : cw_K ak_C1 (fun s' r h' => s' = s ∧ ∃ (y' nt' : Int32) (g' : Nat → Int32), cw_CQ N bb x n f iv g0 n0 B y' nt' g' s' h' ∧ y'.toInt = y.toInt) tb d (cw_nC 78 none) [.ref (52 + 39), .int iv, .int v] s h := by
  obtain ⟨d, rfl⟩ : ∃ e, d = e + 1 := ⟨d - 1, by omega⟩
  obtain ⟨Ih, qx, f2, a31, a34, f4, f5, Zh, nh, gh, bh⟩ := id hQ
  have hB := Ih.1
  refine cw_m (con := cw_nC 78 none) aj_m78_at (Nat.le_of_ble_eq_true rfl) ?_
  show cw_W _ _ _ _ _ _ _ _ _ _ 0 [(0, .ref (52 + 39)), (1, .int iv), (2, .int v)] []
  refine cw_n aj_d78 rfl rfl ?_
  refine cw_z (tgt := 10) aj_d78 rfl rfl (fun q1017 => ?_) (fun q1017 => ?_)
  · have q1017 : v.toInt ≥ (0 : Int) := aw_t_ge (a := v.toInt) (b := (0 : Int)) rfl rfl q1017
    refine cw_n aj_d78 rfl rfl ?_
    obtain ⟨v1018, f1018, g1018⟩ := cw_tyF (i := 39) (t := 52) (c := 0) (k := 1) (y := (.inr (some ([56], false)))) hT (cw_s0 hB rfl) rfl rfl rfl
    obtain rfl := cw_gu (i := 30) hB g1018 (by decide) (by decide) (by decide)
    refine cw_g (i := 39) (v := .ref (52 + 30)) htb.1 aj_d78 rfl rfl (by decide) f1018 ?_
    refine cw_n aj_d78 rfl rfl ?_
    refine cw_n aj_d78 rfl rfl ?_
    refine cw_k0 (i := 30) (t := 56) (con' := ap_c41) aj_d78 htb hT rfl rfl [_, _] rfl rfl (cw_s0 hB rfl) rfl (Nat.le_of_ble_eq_true rfl) ⟨by decide, by decide⟩ (cw_setA1 htb hT hB (by omega) iv v) ?_
    rintro ru1019 h1019 hT1019 tu1019 hRu1019
    obtain rfl := cw_rN hRu1019
    obtain ⟨gu1019, Qu1019, vu1019⟩ := cw_CQ_set hx hi hT tu1019 hQ
    have Q1020 := Qu1019
    obtain ⟨Iq1020, qq1020, f2q1020, a31q1020, a34q1020, f4q1020, f5q1020, Zq1020, nq1020, gq1020, bq1020⟩ := id Q1020
    show cw_W _ _ _ _ _ _ _ _ _ _ 19 [(0, .ref (52 + 39)), (1, .int iv), (2, .int v)] []
    refine cw_Wr aj_d78 rfl rfl hT1019 ?_ ?_
    · exact ⟨rfl, _, _, _, Q1020, rfl⟩
    · trivial
  · have q1017 : v.toInt < (0 : Int) := aw_t_ge (a := v.toInt) (b := (0 : Int)) rfl rfl q1017
    refine cw_n aj_d78 rfl rfl ?_
    refine cw_n aj_d78 rfl rfl ?_
    refine cw_n aj_d78 rfl rfl ?_
    refine cw_k0 (i := 39) (t := 52) (con' := ap_c64) aj_d78 htb hT rfl rfl [_, _] rfl rfl (cw_s0 hB rfl) rfl (Nat.le_of_ble_eq_true rfl) ⟨by decide, by decide⟩ (cw_a2 (by omega) (ap_1_64 htb (cw_SPkc rfl rfl) cw_hK (cw_H1k htb)) hT Ih rfl ⟨(cw_gR (cw_s0 hB rfl) (by decide) (by decide)), (cw_gw (a := (4 : Int)) rfl (by omega) (by omega)), (cw_gw (a := iv.toInt) rfl (by omega) (by omega)), trivial⟩) ?_
    rintro ru1021 h1021 hT1021 ⟨Iu1021, ku1021, mu1021⟩ hRu1021
    obtain rfl := cw_rN hRu1021
    have Q1022 := cw_CQ_f Iu1021 ku1021 mu1021 hQ
    obtain ⟨Iq1022, qq1022, f2q1022, a31q1022, a34q1022, f4q1022, f5q1022, Zq1022, nq1022, gq1022, bq1022⟩ := id Q1022
    show cw_W _ _ _ _ _ _ _ _ _ _ 10 [(0, .ref (52 + 39)), (1, .int iv), (2, .int v)] []
    refine cw_n aj_d78 rfl rfl ?_
    obtain ⟨v1023, f1023, g1023⟩ := cw_tyF (i := 39) (t := 52) (c := 0) (k := 1) (y := (.inr (some ([56], false)))) hT1021 (cw_s0 hB rfl) rfl rfl rfl
    obtain rfl := cw_gu (i := 30) hB g1023 (by decide) (by decide) (by decide)
    refine cw_g (i := 39) (v := .ref (52 + 30)) htb.1 aj_d78 rfl rfl (by decide) f1023 ?_
    refine cw_n aj_d78 rfl rfl ?_
    refine cw_n aj_d78 rfl rfl ?_
    refine cw_k0 (i := 30) (t := 56) (con' := ap_c41) aj_d78 htb hT1021 rfl rfl [_, _] rfl rfl (cw_s0 hB rfl) rfl (Nat.le_of_ble_eq_true rfl) ⟨by decide, by decide⟩ (cw_setA1 htb hT1021 hB (by omega) iv v) ?_
    rintro ru1024 h1024 hT1024 tu1024 hRu1024
    obtain rfl := cw_rN hRu1024
    obtain ⟨gu1024, Qu1024, vu1024⟩ := cw_CQ_set hx hi hT1021 tu1024 Q1022
    have Q1025 := Qu1024
    obtain ⟨Iq1025, qq1025, f2q1025, a31q1025, a34q1025, f4q1025, f5q1025, Zq1025, nq1025, gq1025, bq1025⟩ := id Q1025
    show cw_W _ _ _ _ _ _ _ _ _ _ 19 [(0, .ref (52 + 39)), (1, .int iv), (2, .int v)] []
    refine cw_Wr aj_d78 rfl rfl hT1024 ?_ ?_
    · exact ⟨rfl, _, _, _, Q1025, rfl⟩
    · trivial
theorem cw_ct200 (htb : ak_tbOK ak_C1 tb) (hT : ak_Ty ak_C1 s h) (hd : 4 ≤ d)  (hx : x = 2 ∨ x = 14) (hi : 0 ≤ iv.toInt ∧ iv.toInt ≤ 2499) (hy : -2600 ≤ y.toInt ∧ y.toInt ≤ 2600) (hQ : cw_CQ N bb x n f iv g0 n0 B y nt g s h) : cw_K ak_C1 (fun s' r h' => s' = s ∧ ∃ (y' nt' : Int32) (g' : Nat → Int32), cw_CQ N bb x n f iv g0 n0 B y' nt' g' s' h' ∧ y'.toInt = y.toInt) tb d (cw_nC 81 none) [.ref (52 + 39), .int 200, .int iv] s h := by
  obtain ⟨d, rfl⟩ : ∃ e, d = e + 1 := ⟨d - 1, by omega⟩
  obtain ⟨Ih, qx, f2, a31, a34, f4, f5, Zh, nh, gh, bh⟩ := id hQ
  have hB := Ih.1
  refine cw_m (con := cw_nC 81 none) aj_m81_at (Nat.le_of_ble_eq_true rfl) ?_
  show cw_W _ _ _ _ _ _ _ _ _ _ 0 [(0, .ref (52 + 39)), (1, .int 200), (2, .int iv)] []
  refine cw_n aj_d81 rfl rfl ?_
  refine cw_tsw (tgt := 32) (a := (200 : Int)) aj_d81 rfl rfl ⟨by decide, by decide⟩ rfl rfl ?_
  refine cw_n aj_d81 rfl rfl ?_
  obtain ⟨v1026, f1026, g1026⟩ := cw_tyF (i := 39) (t := 52) (c := 0) (k := 1) (y := (.inr (some ([56], false)))) hT (cw_s0 hB rfl) rfl rfl rfl
  obtain rfl := cw_gu (i := 30) hB g1026 (by decide) (by decide) (by decide)
  refine cw_g (i := 39) (v := .ref (52 + 30)) htb.1 aj_d81 rfl rfl (by decide) f1026 ?_
  refine cw_n aj_d81 rfl rfl ?_
  refine cw_n aj_d81 rfl rfl ?_
  refine cw_n aj_d81 rfl rfl ?_
  refine cw_k0 (i := 39) (t := 52) (con' := ap_c82) aj_d81 htb hT rfl rfl [_] rfl rfl (cw_s0 hB rfl) rfl (Nat.le_of_ble_eq_true rfl) ⟨by decide, by decide⟩ (cw_a2 (by omega) (ap_1_82 htb (cw_SPkc rfl rfl) cw_hK (cw_H1k htb)) hT Ih rfl ⟨(cw_gR (cw_s0 hB rfl) (by decide) (by decide)), (cw_gw (a := iv.toInt) rfl (by omega) (by omega)), trivial⟩) ?_
  rintro ru1027 h1027 hT1027 ⟨Iu1027, ku1027, mu1027⟩ hRu1027
  obtain ⟨x1028, rfl, bx1028⟩ := cw_rI hRu1027
  have Q1029 := cw_CQ_f Iu1027 ku1027 mu1027 hQ
  obtain ⟨Iq1029, qq1029, f2q1029, a31q1029, a34q1029, f4q1029, f5q1029, Zq1029, nq1029, gq1029, bq1029⟩ := id Q1029
  show cw_W _ _ _ _ _ _ _ _ _ _ 42 [(0, .ref (52 + 39)), (1, .int 200), (2, .int iv)] [.int x1028, .int iv, .ref (52 + 30)]
  refine cw_k0 (i := 30) (t := 56) (con' := ap_c41) aj_d81 htb hT1027 rfl rfl [_, _] rfl rfl (cw_s0 hB rfl) rfl (Nat.le_of_ble_eq_true rfl) ⟨by decide, by decide⟩ (cw_setA1 htb hT1027 hB (by omega) iv x1028) ?_
  rintro ru1030 h1030 hT1030 tu1030 hRu1030
  obtain rfl := cw_rN hRu1030
  obtain ⟨gu1030, Qu1030, vu1030⟩ := cw_CQ_set hx hi hT1027 tu1030 Q1029
  have Q1031 := Qu1030
  obtain ⟨Iq1031, qq1031, f2q1031, a31q1031, a34q1031, f4q1031, f5q1031, Zq1031, nq1031, gq1031, bq1031⟩ := id Q1031
  show cw_W _ _ _ _ _ _ _ _ _ _ 45 [(0, .ref (52 + 39)), (1, .int 200), (2, .int iv)] []
  refine cw_n aj_d81 rfl rfl ?_
  refine cw_Wr aj_d81 rfl rfl hT1030 ?_ ?_
  · exact ⟨rfl, _, _, _, Q1031, by omega⟩
  · trivial
theorem cw_ct201 (htb : ak_tbOK ak_C1 tb) (hT : ak_Ty ak_C1 s h) (hd : 4 ≤ d)  (hx : x = 2 ∨ x = 14) (hi : 0 ≤ iv.toInt ∧ iv.toInt ≤ 2499) (hy : -2600 ≤ y.toInt ∧ y.toInt ≤ 2600) (hQ : cw_CQ N bb x n f iv g0 n0 B y nt g s h) : cw_K ak_C1 (fun s' r h' => s' = s ∧ ∃ (y' nt' : Int32) (g' : Nat → Int32), cw_CQ N bb x n f iv g0 n0 B y' nt' g' s' h' ∧ y'.toInt = y.toInt) tb d (cw_nC 81 none) [.ref (52 + 39), .int 201, .int iv] s h := by
  obtain ⟨d, rfl⟩ : ∃ e, d = e + 1 := ⟨d - 1, by omega⟩
  obtain ⟨Ih, qx, f2, a31, a34, f4, f5, Zh, nh, gh, bh⟩ := id hQ
  have hB := Ih.1
  refine cw_m (con := cw_nC 81 none) aj_m81_at (Nat.le_of_ble_eq_true rfl) ?_
  show cw_W _ _ _ _ _ _ _ _ _ _ 0 [(0, .ref (52 + 39)), (1, .int 201), (2, .int iv)] []
  refine cw_n aj_d81 rfl rfl ?_
  refine cw_tsw (tgt := 48) (a := (201 : Int)) aj_d81 rfl rfl ⟨by decide, by decide⟩ rfl rfl ?_
  refine cw_n aj_d81 rfl rfl ?_
  refine cw_n aj_d81 rfl rfl ?_
  refine cw_n aj_d81 rfl rfl ?_
  refine cw_g (i := 39) (v := .ref (52 + x)) htb.1 aj_d81 rfl rfl (by decide) f2 ?_
  refine cw_n aj_d81 rfl rfl ?_
  refine cw_n aj_d81 rfl rfl ?_
  refine cw_k0 (i := 39) (t := 52) (con' := ap_c60) aj_d81 htb hT rfl rfl [_] rfl rfl (cw_s0 hB rfl) rfl (Nat.le_of_ble_eq_true rfl) ⟨by decide, by decide⟩ (cw_a1 (by omega) (ap_1_60 htb (cw_SP1c _ _ rfl rfl) cw_hK) hT hB rfl ⟨(cw_gR (cw_s0 hB rfl) (by decide) (by decide)), (cw_gw (a := iv.toInt) rfl (by omega) (by omega)), trivial⟩) ?_
  rintro ru1032 h1032 hT1032 ho1032 hRu1032
  have f1033 : cw_F h1032 39 0 2 (.ref (52 + x)) := cw_trF ho1032 (by decide) f2
  have f1034 : cw_F h1032 39 0 5 (.int y) := cw_trF ho1032 (by decide) f5
  have f1035 : cw_F h1032 30 4 4 (.int n) := cw_trF ho1032 (by decide) f4
  have a1036 : cw_A h1032 31 0 2500 (.inl f) := cw_trA ho1032 (by decide) a31
  have a1037 : cw_A h1032 34 0 2500 (.inl g) := cw_trA ho1032 (by decide) a34
  obtain ⟨y1038, rfl⟩ := cw_rL hRu1032
  show cw_W _ _ _ _ _ _ _ _ _ _ 59 [(0, .ref (52 + 39)), (1, .int 201), (2, .int iv)] [.long y1038, .ref (52 + x), .int iv, .ref (52 + 39)]
  refine cw_k0 (i := x) (t := 59) (con' := ap_c84) aj_d81 htb hT1032 rfl rfl [_] rfl rfl qx rfl (Nat.le_of_ble_eq_true rfl) ⟨by decide, by decide⟩ (cw_a1 (by omega) (ap_1_84 htb (cw_SP1c _ _ rfl rfl) cw_hK) hT1032 hB rfl ⟨(cw_gR qx (by decide) (by decide)), trivial, trivial⟩) ?_
  rintro ru1039 h1039 hT1039 ho1039 hRu1039
  have f1040 : cw_F h1039 39 0 2 (.ref (52 + x)) := cw_trF ho1039 (by decide) f1033
  have f1041 : cw_F h1039 39 0 5 (.int y) := cw_trF ho1039 (by decide) f1034
  have f1042 : cw_F h1039 30 4 4 (.int n) := cw_trF ho1039 (by decide) f1035
  have a1043 : cw_A h1039 31 0 2500 (.inl f) := cw_trA ho1039 (by decide) a1036
  have a1044 : cw_A h1039 34 0 2500 (.inl g) := cw_trA ho1039 (by decide) a1037
  obtain ⟨x1045, rfl, bx1045⟩ := cw_rI hRu1039
  show cw_W _ _ _ _ _ _ _ _ _ _ 62 [(0, .ref (52 + 39)), (1, .int 201), (2, .int iv)] [.int x1045, .int iv, .ref (52 + 39)]
  refine cw_k0 (i := 39) (t := 52) (con' := cw_nC 78 none) aj_d81 htb hT1039 rfl rfl [_, _] rfl rfl (cw_s0 hB rfl) rfl (Nat.le_of_ble_eq_true rfl) ⟨by decide, by decide⟩ (cw_keepN htb hT1039 (by omega) (v := x1045) hx hi ⟨by omega, by omega⟩ (cw_CQ_eq (ho1039.trans (ho1032.trans rfl)) hQ)) ?_
  rintro ru1046 h1046 hT1046 ⟨yu1046, nu1046, gu1046, Qu1046, eu1046⟩ hRu1046
  obtain rfl := cw_rN hRu1046
  have Q1047 := Qu1046
  obtain ⟨Iq1047, qq1047, f2q1047, a31q1047, a34q1047, f4q1047, f5q1047, Zq1047, nq1047, gq1047, bq1047⟩ := id Q1047
  show cw_W _ _ _ _ _ _ _ _ _ _ 65 [(0, .ref (52 + 39)), (1, .int 201), (2, .int iv)] []
  refine cw_n aj_d81 rfl rfl ?_
  refine cw_Wr aj_d81 rfl rfl hT1046 ?_ ?_
  · exact ⟨rfl, _, _, _, Q1047, by omega⟩
  · trivial
theorem cw_ct202 (htb : ak_tbOK ak_C1 tb) (hT : ak_Ty ak_C1 s h) (hd : 4 ≤ d)  (hx : x = 2 ∨ x = 14) (hi : 0 ≤ iv.toInt ∧ iv.toInt ≤ 2499) (hy : -2600 ≤ y.toInt ∧ y.toInt ≤ 2600) (hQ : cw_CQ N bb x n f iv g0 n0 B y nt g s h) : cw_K ak_C1 (fun s' r h' => s' = s ∧ ∃ (y' nt' : Int32) (g' : Nat → Int32), cw_CQ N bb x n f iv g0 n0 B y' nt' g' s' h' ∧ y'.toInt = y.toInt) tb d (cw_nC 81 none) [.ref (52 + 39), .int 202, .int iv] s h := by
  obtain ⟨d, rfl⟩ : ∃ e, d = e + 1 := ⟨d - 1, by omega⟩
  obtain ⟨Ih, qx, f2, a31, a34, f4, f5, Zh, nh, gh, bh⟩ := id hQ
  have hB := Ih.1
  refine cw_m (con := cw_nC 81 none) aj_m81_at (Nat.le_of_ble_eq_true rfl) ?_
  show cw_W _ _ _ _ _ _ _ _ _ _ 0 [(0, .ref (52 + 39)), (1, .int 202), (2, .int iv)] []
  refine cw_n aj_d81 rfl rfl ?_
  refine cw_tsw (tgt := 68) (a := (202 : Int)) aj_d81 rfl rfl ⟨by decide, by decide⟩ rfl rfl ?_
  refine cw_n aj_d81 rfl rfl ?_
  refine cw_n aj_d81 rfl rfl ?_
  refine cw_n aj_d81 rfl rfl ?_
  refine cw_n aj_d81 rfl rfl ?_
  refine cw_g (i := 39) (v := .int y) htb.1 aj_d81 rfl rfl (by decide) f5 ?_
  refine cw_n aj_d81 rfl rfl ?_
  refine cw_sub aj_d81 rfl (a := y.toInt) (b := (1 : Int)) rfl rfl (by omega) (by omega) (fun x1048 ex1048 => ?_)
  refine cw_n aj_d81 rfl rfl ?_
  refine cw_n aj_d81 rfl rfl ?_
  refine cw_k0 (i := 39) (t := 52) (con' := ap_c60) aj_d81 htb hT rfl rfl [_] rfl rfl (cw_s0 hB rfl) rfl (Nat.le_of_ble_eq_true rfl) ⟨by decide, by decide⟩ (cw_a1 (by omega) (ap_1_60 htb (cw_SP1c _ _ rfl rfl) cw_hK) hT hB rfl ⟨(cw_gR (cw_s0 hB rfl) (by decide) (by decide)), (cw_gw (a := iv.toInt) rfl (by omega) (by omega)), trivial⟩) ?_
  rintro ru1049 h1049 hT1049 ho1049 hRu1049
  have f1050 : cw_F h1049 39 0 2 (.ref (52 + x)) := cw_trF ho1049 (by decide) f2
  have f1051 : cw_F h1049 39 0 5 (.int y) := cw_trF ho1049 (by decide) f5
  have f1052 : cw_F h1049 30 4 4 (.int n) := cw_trF ho1049 (by decide) f4
  have a1053 : cw_A h1049 31 0 2500 (.inl f) := cw_trA ho1049 (by decide) a31
  have a1054 : cw_A h1049 34 0 2500 (.inl g) := cw_trA ho1049 (by decide) a34
  obtain ⟨y1055, rfl⟩ := cw_rL hRu1049
  show cw_W _ _ _ _ _ _ _ _ _ _ 82 [(0, .ref (52 + 39)), (1, .int 202), (2, .int iv)] [.long y1055, .int x1048, .ref (52 + 39), .int iv, .ref (52 + 39)]
  refine cw_k0 (i := 39) (t := 52) (con' := ap_c74) aj_d81 htb hT1049 rfl rfl [_, _] rfl rfl (cw_s0 hB rfl) rfl (Nat.le_of_ble_eq_true rfl) ⟨by decide, by decide⟩ (cw_a1 (by omega) (ap_1_74 htb (cw_SP1c _ _ rfl rfl) cw_hK) hT1049 hB rfl ⟨(cw_gR (cw_s0 hB rfl) (by decide) (by decide)), (cw_gw (a := x1048.toInt) rfl (by omega) (by omega)), trivial, trivial⟩) ?_
  rintro ru1056 h1056 hT1056 ho1056 hRu1056
  have f1057 : cw_F h1056 39 0 2 (.ref (52 + x)) := cw_trF ho1056 (by decide) f1050
  have f1058 : cw_F h1056 39 0 5 (.int y) := cw_trF ho1056 (by decide) f1051
  have f1059 : cw_F h1056 30 4 4 (.int n) := cw_trF ho1056 (by decide) f1052
  have a1060 : cw_A h1056 31 0 2500 (.inl f) := cw_trA ho1056 (by decide) a1053
  have a1061 : cw_A h1056 34 0 2500 (.inl g) := cw_trA ho1056 (by decide) a1054
  obtain ⟨x1062, rfl, bx1062⟩ := cw_rI hRu1056
  show cw_W _ _ _ _ _ _ _ _ _ _ 85 [(0, .ref (52 + 39)), (1, .int 202), (2, .int iv)] [.int x1062, .int iv, .ref (52 + 39)]
  refine cw_k0 (i := 39) (t := 52) (con' := cw_nC 78 none) aj_d81 htb hT1056 rfl rfl [_, _] rfl rfl (cw_s0 hB rfl) rfl (Nat.le_of_ble_eq_true rfl) ⟨by decide, by decide⟩ (cw_keepN htb hT1056 (by omega) (v := x1062) hx hi ⟨by omega, by omega⟩ (cw_CQ_eq (ho1056.trans (ho1049.trans rfl)) hQ)) ?_
  rintro ru1063 h1063 hT1063 ⟨yu1063, nu1063, gu1063, Qu1063, eu1063⟩ hRu1063
  obtain rfl := cw_rN hRu1063
  have Q1064 := Qu1063
  obtain ⟨Iq1064, qq1064, f2q1064, a31q1064, a34q1064, f4q1064, f5q1064, Zq1064, nq1064, gq1064, bq1064⟩ := id Q1064
  show cw_W _ _ _ _ _ _ _ _ _ _ 88 [(0, .ref (52 + 39)), (1, .int 202), (2, .int iv)] []
  refine cw_n aj_d81 rfl rfl ?_
  refine cw_Wr aj_d81 rfl rfl hT1063 ?_ ?_
  · exact ⟨rfl, _, _, _, Q1064, by omega⟩
  · trivial
theorem cw_ct203 (htb : ak_tbOK ak_C1 tb) (hT : ak_Ty ak_C1 s h) (hd : 4 ≤ d)  (hx : x = 2 ∨ x = 14) (hi : 0 ≤ iv.toInt ∧ iv.toInt ≤ 2499) (hy : -2600 ≤ y.toInt ∧ y.toInt ≤ 2600) (hQ : cw_CQ N bb x n f iv g0 n0 B y nt g s h) : cw_K ak_C1 (fun s' r h' => s' = s ∧ ∃ (y' nt' : Int32) (g' : Nat → Int32), cw_CQ N bb x n f iv g0 n0 B y' nt' g' s' h' ∧ y'.toInt = y.toInt) tb d (cw_nC 81 none) [.ref (52 + 39), .int 203, .int iv] s h := by
  obtain ⟨d, rfl⟩ : ∃ e, d = e + 1 := ⟨d - 1, by omega⟩
  obtain ⟨Ih, qx, f2, a31, a34, f4, f5, Zh, nh, gh, bh⟩ := id hQ
  have hB := Ih.1
  refine cw_m (con := cw_nC 81 none) aj_m81_at (Nat.le_of_ble_eq_true rfl) ?_
  show cw_W _ _ _ _ _ _ _ _ _ _ 0 [(0, .ref (52 + 39)), (1, .int 203), (2, .int iv)] []
  refine cw_n aj_d81 rfl rfl ?_
  refine cw_tsw (tgt := 91) (a := (203 : Int)) aj_d81 rfl rfl ⟨by decide, by decide⟩ rfl rfl ?_
  refine cw_n aj_d81 rfl rfl ?_
  obtain ⟨v1065, f1065, g1065⟩ := cw_tyF (i := 39) (t := 52) (c := 0) (k := 1) (y := (.inr (some ([56], false)))) hT (cw_s0 hB rfl) rfl rfl rfl
  obtain rfl := cw_gu (i := 30) hB g1065 (by decide) (by decide) (by decide)
  refine cw_g (i := 39) (v := .ref (52 + 30)) htb.1 aj_d81 rfl rfl (by decide) f1065 ?_
  refine cw_n aj_d81 rfl rfl ?_
  refine cw_n aj_d81 rfl rfl ?_
  obtain ⟨v1066, f1066, g1066⟩ := cw_tyF (i := 39) (t := 52) (c := 0) (k := 0) (y := (.inr (some ([60], false)))) hT (cw_s0 hB rfl) rfl rfl rfl
  obtain rfl := cw_gu (i := 26) hB g1066 (by decide) (by decide) (by decide)
  refine cw_g (i := 39) (v := .ref (52 + 26)) htb.1 aj_d81 rfl rfl (by decide) f1066 ?_
  refine cw_n aj_d81 rfl rfl ?_
  refine cw_g (i := 39) (v := .ref (52 + 30)) htb.1 aj_d81 rfl rfl (by decide) f1065 ?_
  refine cw_n aj_d81 rfl rfl ?_
  refine cw_k0 (i := 30) (t := 56) (con' := ap_c61) aj_d81 htb hT rfl rfl [_] rfl rfl (cw_s0 hB rfl) rfl (Nat.le_of_ble_eq_true rfl) ⟨by decide, by decide⟩ (cw_a1 (by omega) (ap_1_61 htb (cw_SP1c _ _ rfl rfl) cw_hK) hT hB rfl ⟨(cw_gR (cw_s0 hB rfl) (by decide) (by decide)), (cw_gw (a := iv.toInt) rfl (by omega) (by omega)), trivial⟩) ?_
  rintro ru1067 h1067 hT1067 ho1067 hRu1067
  have f1068 : cw_F h1067 39 0 2 (.ref (52 + x)) := cw_trF ho1067 (by decide) f2
  have f1069 : cw_F h1067 39 0 5 (.int y) := cw_trF ho1067 (by decide) f5
  have f1070 : cw_F h1067 30 4 4 (.int n) := cw_trF ho1067 (by decide) f4
  have a1071 : cw_A h1067 31 0 2500 (.inl f) := cw_trA ho1067 (by decide) a31
  have a1072 : cw_A h1067 34 0 2500 (.inl g) := cw_trA ho1067 (by decide) a34
  obtain ⟨x1073, rfl, bx1073⟩ := cw_rI hRu1067
  show cw_W _ _ _ _ _ _ _ _ _ _ 108 [(0, .ref (52 + 39)), (1, .int 203), (2, .int iv)] [.int x1073, .ref (52 + 26), .int iv, .ref (52 + 30)]
  refine cw_k0 (i := 26) (t := 60) (con' := ap_c46) aj_d81 htb hT1067 rfl rfl [_] rfl rfl (cw_s0 hB rfl) rfl (Nat.le_of_ble_eq_true rfl) ⟨by decide, by decide⟩ (cw_a1 (by omega) (ap_1_46 htb (cw_SP1c _ _ rfl rfl) cw_hK) hT1067 hB rfl ⟨(cw_gR (cw_s0 hB rfl) (by decide) (by decide)), (cw_gw (a := x1073.toInt) rfl (by omega) (by omega)), trivial⟩) ?_
  rintro ru1074 h1074 hT1074 ho1074 hRu1074
  have f1075 : cw_F h1074 39 0 2 (.ref (52 + x)) := cw_trF ho1074 (by decide) f1068
  have f1076 : cw_F h1074 39 0 5 (.int y) := cw_trF ho1074 (by decide) f1069
  have f1077 : cw_F h1074 30 4 4 (.int n) := cw_trF ho1074 (by decide) f1070
  have a1078 : cw_A h1074 31 0 2500 (.inl f) := cw_trA ho1074 (by decide) a1071
  have a1079 : cw_A h1074 34 0 2500 (.inl g) := cw_trA ho1074 (by decide) a1072
  obtain ⟨x1080, rfl, bx1080⟩ := cw_rI hRu1074
  show cw_W _ _ _ _ _ _ _ _ _ _ 111 [(0, .ref (52 + 39)), (1, .int 203), (2, .int iv)] [.int x1080, .int iv, .ref (52 + 30)]
  refine cw_k0 (i := 30) (t := 56) (con' := ap_c41) aj_d81 htb hT1074 rfl rfl [_, _] rfl rfl (cw_s0 hB rfl) rfl (Nat.le_of_ble_eq_true rfl) ⟨by decide, by decide⟩ (cw_setA1 htb hT1074 hB (by omega) iv x1080) ?_
  rintro ru1081 h1081 hT1081 tu1081 hRu1081
  obtain rfl := cw_rN hRu1081
  obtain ⟨gu1081, Qu1081, vu1081⟩ := cw_CQ_set hx hi hT1074 tu1081 (cw_CQ_eq (ho1074.trans (ho1067.trans rfl)) hQ)
  have Q1082 := Qu1081
  obtain ⟨Iq1082, qq1082, f2q1082, a31q1082, a34q1082, f4q1082, f5q1082, Zq1082, nq1082, gq1082, bq1082⟩ := id Q1082
  show cw_W _ _ _ _ _ _ _ _ _ _ 114 [(0, .ref (52 + 39)), (1, .int 203), (2, .int iv)] []
  refine cw_n aj_d81 rfl rfl ?_
  refine cw_Wr aj_d81 rfl rfl hT1081 ?_ ?_
  · exact ⟨rfl, _, _, _, Q1082, by omega⟩
  · trivial
theorem cw_ct0 (htb : ak_tbOK ak_C1 tb) (hT : ak_Ty ak_C1 s h) (hd : 4 ≤ d) (hv : v.toInt < 200 ∨ 204 ≤ v.toInt) (hx : x = 2 ∨ x = 14) (hi : 0 ≤ iv.toInt ∧ iv.toInt ≤ 2499) (hy : -2600 ≤ y.toInt ∧ y.toInt ≤ 2600) (hQ : cw_CQ N bb x n f iv g0 n0 B y nt g s h) : cw_K ak_C1 (fun s' r h' => s' = s ∧ ∃ (y' nt' : Int32) (g' : Nat → Int32), cw_CQ N bb x n f iv g0 n0 B y' nt' g' s' h' ∧ y'.toInt = y.toInt) tb d (cw_nC 81 none) [.ref (52 + 39), .int v, .int iv] s h := by
  obtain ⟨d, rfl⟩ : ∃ e, d = e + 1 := ⟨d - 1, by omega⟩
  obtain ⟨Ih, qx, f2, a31, a34, f4, f5, Zh, nh, gh, bh⟩ := id hQ
  have hB := Ih.1
  refine cw_m (con := cw_nC 81 none) aj_m81_at (Nat.le_of_ble_eq_true rfl) ?_
  show cw_W _ _ _ _ _ _ _ _ _ _ 0 [(0, .ref (52 + 39)), (1, .int v), (2, .int iv)] []
  refine cw_n aj_d81 rfl rfl ?_
  refine cw_tsd (tgt := 117) (a := v.toInt) aj_d81 rfl rfl (by omega) rfl ?_
  refine cw_Wr aj_d81 rfl rfl hT ?_ ?_
  · exact ⟨rfl, _, _, _, hQ, by omega⟩
  · trivial
theorem cw_cpick (htb : ak_tbOK ak_C1 tb) (hT : ak_Ty ak_C1 s h) (hd : 3 ≤ d)  (hx : x = 2 ∨ x = 14) (hi : 0 ≤ iv.toInt ∧ iv.toInt ≤ 2499) (hy : -2600 ≤ y.toInt ∧ y.toInt ≤ 2600) (hQ : cw_CQ N bb x n f iv g0 n0 B y nt g s h) : cw_K ak_C1 (fun s' r h' => s' = s ∧ ∃ (y' nt' : Int32) (g' : Nat → Int32), cw_CQ N bb x n f iv g0 n0 B y' nt' g' s' h' ∧ y'.toInt = y.toInt) tb d (cw_nC 75 none) [.ref (52 + 39), .int iv] s h := by
  obtain ⟨d, rfl⟩ : ∃ e, d = e + 1 := ⟨d - 1, by omega⟩
  obtain ⟨Ih, qx, f2, a31, a34, f4, f5, Zh, nh, gh, bh⟩ := id hQ
  have hB := Ih.1
  refine cw_m (con := cw_nC 75 none) aj_m75_at (Nat.le_of_ble_eq_true rfl) ?_
  show cw_W _ _ _ _ _ _ _ _ _ _ 0 [(0, .ref (52 + 39)), (1, .int iv)] []
  refine cw_n aj_d75 rfl rfl ?_
  refine cw_n aj_d75 rfl rfl ?_
  refine cw_k0 (i := 39) (t := 52) (con' := ap_c60) aj_d75 htb hT rfl rfl [_] rfl rfl (cw_s0 hB rfl) rfl (Nat.le_of_ble_eq_true rfl) ⟨by decide, by decide⟩ (cw_a1 (by omega) (ap_1_60 htb (cw_SP1c _ _ rfl rfl) cw_hK) hT hB rfl ⟨(cw_gR (cw_s0 hB rfl) (by decide) (by decide)), (cw_gw (a := iv.toInt) rfl (by omega) (by omega)), trivial⟩) ?_
  rintro ru1083 h1083 hT1083 ho1083 hRu1083
  have f1084 : cw_F h1083 39 0 2 (.ref (52 + x)) := cw_trF ho1083 (by decide) f2
  have f1085 : cw_F h1083 39 0 5 (.int y) := cw_trF ho1083 (by decide) f5
  have f1086 : cw_F h1083 30 4 4 (.int n) := cw_trF ho1083 (by decide) f4
  have a1087 : cw_A h1083 31 0 2500 (.inl f) := cw_trA ho1083 (by decide) a31
  have a1088 : cw_A h1083 34 0 2500 (.inl g) := cw_trA ho1083 (by decide) a34
  obtain ⟨y1089, rfl⟩ := cw_rL hRu1083
  show cw_W _ _ _ _ _ _ _ _ _ _ 5 [(0, .ref (52 + 39)), (1, .int iv)] [.long y1089]
  refine cw_n aj_d75 rfl rfl ?_
  show cw_W _ _ _ _ _ _ _ _ _ _ 6 [(2, .long y1089), (0, .ref (52 + 39)), (1, .int iv)] []
  refine cw_n aj_d75 rfl rfl ?_
  refine cw_n aj_d75 rfl rfl ?_
  refine cw_g (i := 39) (v := .int y) htb.1 aj_d75 rfl rfl (by decide) f1085 ?_
  refine cw_n aj_d75 rfl rfl ?_
  refine cw_sub aj_d75 rfl (a := y.toInt) (b := (1 : Int)) rfl rfl (by omega) (by omega) (fun x1090 ex1090 => ?_)
  refine cw_n aj_d75 rfl rfl ?_
  refine cw_k0 (i := 39) (t := 52) (con' := ap_c74) aj_d75 htb hT1083 rfl rfl [_, _] rfl rfl (cw_s0 hB rfl) rfl (Nat.le_of_ble_eq_true rfl) ⟨by decide, by decide⟩ (cw_a1 (by omega) (ap_1_74 htb (cw_SP1c _ _ rfl rfl) cw_hK) hT1083 hB rfl ⟨(cw_gR (cw_s0 hB rfl) (by decide) (by decide)), (cw_gw (a := x1090.toInt) rfl (by omega) (by omega)), trivial, trivial⟩) ?_
  rintro ru1091 h1091 hT1091 ho1091 hRu1091
  have f1092 : cw_F h1091 39 0 2 (.ref (52 + x)) := cw_trF ho1091 (by decide) f1084
  have f1093 : cw_F h1091 39 0 5 (.int y) := cw_trF ho1091 (by decide) f1085
  have f1094 : cw_F h1091 30 4 4 (.int n) := cw_trF ho1091 (by decide) f1086
  have a1095 : cw_A h1091 31 0 2500 (.inl f) := cw_trA ho1091 (by decide) a1087
  have a1096 : cw_A h1091 34 0 2500 (.inl g) := cw_trA ho1091 (by decide) a1088
  obtain ⟨x1097, rfl, bx1097⟩ := cw_rI hRu1091
  show cw_W _ _ _ _ _ _ _ _ _ _ 17 [(2, .long y1089), (0, .ref (52 + 39)), (1, .int iv)] [.int x1097]
  refine cw_n aj_d75 rfl rfl ?_
  show cw_W _ _ _ _ _ _ _ _ _ _ 19 [(4, .int x1097), (2, .long y1089), (0, .ref (52 + 39)), (1, .int iv)] []
  refine cw_n aj_d75 rfl rfl ?_
  refine cw_z (tgt := 33) aj_d75 rfl rfl (fun q1098 => ?_) (fun q1098 => ?_)
  · have q1098 : x1097.toInt ≥ (0 : Int) := aw_t_ge (a := x1097.toInt) (b := (0 : Int)) rfl rfl q1098
    refine cw_n aj_d75 rfl rfl ?_
    refine cw_n aj_d75 rfl rfl ?_
    refine cw_k0 (i := 39) (t := 52) (con' := ap_c76) aj_d75 htb hT1091 rfl rfl [_] rfl rfl (cw_s0 hB rfl) rfl (Nat.le_of_ble_eq_true rfl) ⟨by decide, by decide⟩ (cw_a1 (by omega) (ap_1_76 htb (cw_SP1c _ _ rfl rfl) cw_hK) hT1091 hB rfl ⟨(cw_gR (cw_s0 hB rfl) (by decide) (by decide)), trivial, trivial⟩) ?_
    rintro ru1099 h1099 hT1099 ho1099 hRu1099
    have f1100 : cw_F h1099 39 0 2 (.ref (52 + x)) := cw_trF ho1099 (by decide) f1092
    have f1101 : cw_F h1099 39 0 5 (.int y) := cw_trF ho1099 (by decide) f1093
    have f1102 : cw_F h1099 30 4 4 (.int n) := cw_trF ho1099 (by decide) f1094
    have a1103 : cw_A h1099 31 0 2500 (.inl f) := cw_trA ho1099 (by decide) a1095
    have a1104 : cw_A h1099 34 0 2500 (.inl g) := cw_trA ho1099 (by decide) a1096
    obtain ⟨x1105, rfl, bx1105⟩ := cw_rI hRu1099
    show cw_W _ _ _ _ _ _ _ _ _ _ 38 [(4, .int x1097), (2, .long y1089), (0, .ref (52 + 39)), (1, .int iv)] [.int x1105]
    refine cw_z (tgt := 50) aj_d75 rfl rfl (fun q1106 => ?_) (fun q1106 => ?_)
    · have q1106 : x1105.toInt = (0 : Int) := aw_t_eq (a := x1105.toInt) (b := (0 : Int)) rfl rfl q1106
      refine cw_n aj_d75 rfl rfl ?_
      obtain ⟨v1107, f1107, g1107⟩ := cw_tyF (i := 39) (t := 52) (c := 0) (k := 7) (y := (.inl (0, 6))) hT1099 (cw_s0 hB rfl) rfl rfl rfl
      obtain ⟨x1107, rfl, b1107⟩ := ak_gi g1107
      dsimp only [ak_win] at b1107
      refine cw_g (i := 39) (v := .int x1107) htb.1 aj_d75 rfl rfl (by decide) f1107 ?_
      refine cw_n aj_d75 rfl rfl ?_
      obtain ⟨v1108, f1108, g1108⟩ := cw_tyF (i := 39) (t := 52) (c := 0) (k := 6) (y := (.inr (some ([88], false)))) hT1099 (cw_s0 hB rfl) rfl rfl rfl
      obtain rfl := cw_gu (i := 42) hB g1108 (by decide) (by decide) (by decide)
      refine cw_g (i := 39) (v := .ref (52 + 42)) htb.1 aj_d75 rfl rfl (by decide) f1108 ?_
      obtain ⟨n1110, z1110, a1110, p1110l, p1110r, p1110⟩ := cw_tyA (i := 42) (t := 88) (kd := 1) (n1 := 6) (n2 := 6) (y := (.inr none)) hT1099 (cw_s0 hB rfl) rfl
      obtain rfl : n1110 = 6 := Nat.le_antisymm p1110r p1110l
      obtain ⟨fn1110, rfl, p1110c⟩ := cw_xl p1110
      refine cw_alen (i := 42) htb.1 aj_d75 rfl a1110 (by decide) (by omega) (fun x1109 ex1109 => ?_)
      refine cw_c (tgt := 82) aj_d75 rfl rfl (fun q1111 => ?_) (fun q1111 => ?_)
      · have q1111 : x1107.toInt ≥ (6 : Int) := aw_t_ge (a := x1107.toInt) (b := (6 : Int)) rfl ex1109 q1111
        refine cw_n aj_d75 rfl rfl ?_
        obtain ⟨v1112, f1112, g1112⟩ := cw_tyF (i := 39) (t := 52) (c := 0) (k := 1) (y := (.inr (some ([56], false)))) hT1099 (cw_s0 hB rfl) rfl rfl rfl
        obtain rfl := cw_gu (i := 30) hB g1112 (by decide) (by decide) (by decide)
        refine cw_g (i := 39) (v := .ref (52 + 30)) htb.1 aj_d75 rfl rfl (by decide) f1112 ?_
        refine cw_n aj_d75 rfl rfl ?_
        refine cw_n aj_d75 rfl rfl ?_
        refine cw_k0 (i := 30) (t := 56) (con' := ap_c41) aj_d75 htb hT1099 rfl rfl [_, _] rfl rfl (cw_s0 hB rfl) rfl (Nat.le_of_ble_eq_true rfl) ⟨by decide, by decide⟩ (cw_setA1 htb hT1099 hB (by omega) iv x1097) ?_
        rintro ru1113 h1113 hT1113 tu1113 hRu1113
        obtain rfl := cw_rN hRu1113
        obtain ⟨gu1113, Qu1113, vu1113⟩ := cw_CQ_set hx hi hT1099 tu1113 (cw_CQ_eq (ho1099.trans (ho1091.trans (ho1083.trans rfl))) hQ)
        have Q1114 := Qu1113
        obtain ⟨Iq1114, qq1114, f2q1114, a31q1114, a34q1114, f4q1114, f5q1114, Zq1114, nq1114, gq1114, bq1114⟩ := id Q1114
        show cw_W _ _ _ _ _ _ _ _ _ _ 92 [(4, .int x1097), (2, .long y1089), (0, .ref (52 + 39)), (1, .int iv)] []
        refine cw_Wr aj_d75 rfl rfl hT1113 ?_ ?_
        · exact ⟨rfl, _, _, _, Q1114, by omega⟩
        · trivial
      · have q1111 : x1107.toInt < (6 : Int) := aw_t_ge (a := x1107.toInt) (b := (6 : Int)) rfl ex1109 q1111
        refine cw_n aj_d75 rfl rfl ?_
        refine cw_g (i := 39) (v := .ref (52 + 42)) htb.1 aj_d75 rfl rfl (by decide) f1108 ?_
        refine cw_n aj_d75 rfl rfl ?_
        refine cw_g (i := 39) (v := .int x1107) htb.1 aj_d75 rfl rfl (by decide) f1107 ?_
        refine cw_n aj_d75 rfl rfl ?_
        refine cw_stl (i := 42) htb aj_d75 rfl a1110 hT1099 (cw_s0 hB rfl) rfl (by decide) (a := x1107.toInt) rfl (by omega) (by omega) (fun hT1115 => ?_)
        have f1116 : cw_F (cw_sa h1099 42 (.inr (.inl (vp_updL fn1110 (x1107.toInt).toNat y1089)))) 39 0 2 (.ref (52 + x)) := cw_sa_F f1100
        have f1117 : cw_F (cw_sa h1099 42 (.inr (.inl (vp_updL fn1110 (x1107.toInt).toNat y1089)))) 39 0 5 (.int y) := cw_sa_F f1101
        have f1118 : cw_F (cw_sa h1099 42 (.inr (.inl (vp_updL fn1110 (x1107.toInt).toNat y1089)))) 30 4 4 (.int n) := cw_sa_F f1102
        have f1119 : cw_F (cw_sa h1099 42 (.inr (.inl (vp_updL fn1110 (x1107.toInt).toNat y1089)))) 39 0 7 (.int x1107) := cw_sa_F f1107
        have f1120 : cw_F (cw_sa h1099 42 (.inr (.inl (vp_updL fn1110 (x1107.toInt).toNat y1089)))) 39 0 6 (.ref (52 + 42)) := cw_sa_F f1108
        have a1121 : cw_A (cw_sa h1099 42 (.inr (.inl (vp_updL fn1110 (x1107.toInt).toNat y1089)))) 31 0 2500 (.inl f) := cw_sa_ne a1103 (by decide)
        have a1122 : cw_A (cw_sa h1099 42 (.inr (.inl (vp_updL fn1110 (x1107.toInt).toNat y1089)))) 34 0 2500 (.inl g) := cw_sa_ne a1104 (by decide)
        have a1123 : cw_A (cw_sa h1099 42 (.inr (.inl (vp_updL fn1110 (x1107.toInt).toNat y1089)))) 42 1 6 (.inr (.inl (vp_updL fn1110 (x1107.toInt).toNat y1089))) := cw_sa_same a1110
        refine cw_n aj_d75 rfl rfl ?_
        refine cw_n aj_d75 rfl rfl ?_
        refine cw_g (i := 39) (v := .int x1107) htb.1 aj_d75 rfl rfl (by decide) f1119 ?_
        refine cw_n aj_d75 rfl rfl ?_
        refine cw_add aj_d75 rfl (a := x1107.toInt) (b := (1 : Int)) rfl rfl (by omega) (by omega) (fun x1124 ex1124 => ?_)
        refine cw_p (i := 39) (t := 52) (c := 0) (k := 7) (v := .int x1124) (y := (.inl (0, 6))) htb aj_d75 rfl rfl hT1115 (cw_s0 hB rfl) rfl rfl rfl (cw_gw (a := x1124.toInt) rfl (by omega) (by omega)) (by decide) rfl rfl (fun hT1125 => ?_)
        have f1126 : cw_F (cw_sf (cw_sa h1099 42 (.inr (.inl (vp_updL fn1110 (x1107.toInt).toNat y1089)))) 39 7 (.int x1124)) 39 0 2 (.ref (52 + x)) := cw_sf_ne f1116 (Or.inr (by decide))
        have f1127 : cw_F (cw_sf (cw_sa h1099 42 (.inr (.inl (vp_updL fn1110 (x1107.toInt).toNat y1089)))) 39 7 (.int x1124)) 39 0 5 (.int y) := cw_sf_ne f1117 (Or.inr (by decide))
        have f1128 : cw_F (cw_sf (cw_sa h1099 42 (.inr (.inl (vp_updL fn1110 (x1107.toInt).toNat y1089)))) 39 7 (.int x1124)) 30 4 4 (.int n) := cw_sf_ne f1118 (Or.inr (by decide))
        have f1129 : cw_F (cw_sf (cw_sa h1099 42 (.inr (.inl (vp_updL fn1110 (x1107.toInt).toNat y1089)))) 39 7 (.int x1124)) 39 0 6 (.ref (52 + 42)) := cw_sf_ne f1120 (Or.inr (by decide))
        have a1130 : cw_A (cw_sf (cw_sa h1099 42 (.inr (.inl (vp_updL fn1110 (x1107.toInt).toNat y1089)))) 39 7 (.int x1124)) 31 0 2500 (.inl f) := cw_sf_A a1121
        have a1131 : cw_A (cw_sf (cw_sa h1099 42 (.inr (.inl (vp_updL fn1110 (x1107.toInt).toNat y1089)))) 39 7 (.int x1124)) 34 0 2500 (.inl g) := cw_sf_A a1122
        have a1132 : cw_A (cw_sf (cw_sa h1099 42 (.inr (.inl (vp_updL fn1110 (x1107.toInt).toNat y1089)))) 39 7 (.int x1124)) 42 1 6 (.inr (.inl (vp_updL fn1110 (x1107.toInt).toNat y1089))) := cw_sf_A a1123
        have f1133 : cw_F (cw_sf (cw_sa h1099 42 (.inr (.inl (vp_updL fn1110 (x1107.toInt).toNat y1089)))) 39 7 (.int x1124)) 39 0 7 (.int x1124) := cw_sf_same f1119
        refine cw_n aj_d75 rfl rfl ?_
        obtain ⟨v1134, f1134, g1134⟩ := cw_tyF (i := 39) (t := 52) (c := 0) (k := 1) (y := (.inr (some ([56], false)))) hT1125 (cw_s0 hB rfl) rfl rfl rfl
        obtain rfl := cw_gu (i := 30) hB g1134 (by decide) (by decide) (by decide)
        refine cw_g (i := 39) (v := .ref (52 + 30)) htb.1 aj_d75 rfl rfl (by decide) f1134 ?_
        refine cw_n aj_d75 rfl rfl ?_
        refine cw_n aj_d75 rfl rfl ?_
        refine cw_k0 (i := 30) (t := 56) (con' := ap_c41) aj_d75 htb hT1125 rfl rfl [_, _] rfl rfl (cw_s0 hB rfl) rfl (Nat.le_of_ble_eq_true rfl) ⟨by decide, by decide⟩ (cw_setA1 htb hT1125 hB (by omega) iv x1097) ?_
        rintro ru1135 h1135 hT1135 tu1135 hRu1135
        obtain rfl := cw_rN hRu1135
        obtain ⟨gu1135, Qu1135, vu1135⟩ := cw_CQ_set hx hi hT1125 tu1135 (cw_CQ_eq ((cw_o_sf f1119 (by decide)).trans ((cw_o_sa a1110 (by decide)).trans (ho1099.trans (ho1091.trans (ho1083.trans rfl))))) hQ)
        have Q1136 := Qu1135
        obtain ⟨Iq1136, qq1136, f2q1136, a31q1136, a34q1136, f4q1136, f5q1136, Zq1136, nq1136, gq1136, bq1136⟩ := id Q1136
        show cw_W _ _ _ _ _ _ _ _ _ _ 92 [(4, .int x1097), (2, .long y1089), (0, .ref (52 + 39)), (1, .int iv)] []
        refine cw_Wr aj_d75 rfl rfl hT1135 ?_ ?_
        · exact ⟨rfl, _, _, _, Q1136, by omega⟩
        · trivial
    · have q1106 : x1105.toInt ≠ (0 : Int) := aw_t_eq (a := x1105.toInt) (b := (0 : Int)) rfl rfl q1106
      refine cw_n aj_d75 rfl rfl ?_
      refine cw_n aj_d75 rfl rfl ?_
      refine cw_n aj_d75 rfl rfl ?_
      refine cw_k0 (i := 39) (t := 52) (con' := ap_c64) aj_d75 htb hT1099 rfl rfl [_, _] rfl rfl (cw_s0 hB rfl) rfl (Nat.le_of_ble_eq_true rfl) ⟨by decide, by decide⟩ (cw_a2 (by omega) (ap_1_64 htb (cw_SPkc rfl rfl) cw_hK (cw_H1k htb)) hT1099 (cw_I_eq (ho1099.trans (ho1091.trans (ho1083.trans rfl))) Ih) rfl ⟨(cw_gR (cw_s0 hB rfl) (by decide) (by decide)), (cw_gw (a := (3 : Int)) rfl (by omega) (by omega)), (cw_gw (a := iv.toInt) rfl (by omega) (by omega)), trivial⟩) ?_
      rintro ru1137 h1137 hT1137 ⟨Iu1137, ku1137, mu1137⟩ hRu1137
      obtain rfl := cw_rN hRu1137
      have Q1138 := cw_CQ_f Iu1137 ku1137 mu1137 (cw_CQ_eq (ho1099.trans (ho1091.trans (ho1083.trans rfl))) hQ)
      obtain ⟨Iq1138, qq1138, f2q1138, a31q1138, a34q1138, f4q1138, f5q1138, Zq1138, nq1138, gq1138, bq1138⟩ := id Q1138
      show cw_W _ _ _ _ _ _ _ _ _ _ 47 [(4, .int x1097), (2, .long y1089), (0, .ref (52 + 39)), (1, .int iv)] []
      refine cw_n aj_d75 rfl rfl ?_
      refine cw_n aj_d75 rfl rfl ?_
      obtain ⟨v1139, f1139, g1139⟩ := cw_tyF (i := 39) (t := 52) (c := 0) (k := 1) (y := (.inr (some ([56], false)))) hT1137 (cw_s0 hB rfl) rfl rfl rfl
      obtain rfl := cw_gu (i := 30) hB g1139 (by decide) (by decide) (by decide)
      refine cw_g (i := 39) (v := .ref (52 + 30)) htb.1 aj_d75 rfl rfl (by decide) f1139 ?_
      refine cw_n aj_d75 rfl rfl ?_
      refine cw_n aj_d75 rfl rfl ?_
      refine cw_k0 (i := 30) (t := 56) (con' := ap_c41) aj_d75 htb hT1137 rfl rfl [_, _] rfl rfl (cw_s0 hB rfl) rfl (Nat.le_of_ble_eq_true rfl) ⟨by decide, by decide⟩ (cw_setA1 htb hT1137 hB (by omega) iv x1097) ?_
      rintro ru1140 h1140 hT1140 tu1140 hRu1140
      obtain rfl := cw_rN hRu1140
      obtain ⟨gu1140, Qu1140, vu1140⟩ := cw_CQ_set hx hi hT1137 tu1140 Q1138
      have Q1141 := Qu1140
      obtain ⟨Iq1141, qq1141, f2q1141, a31q1141, a34q1141, f4q1141, f5q1141, Zq1141, nq1141, gq1141, bq1141⟩ := id Q1141
      show cw_W _ _ _ _ _ _ _ _ _ _ 92 [(4, .int x1097), (2, .long y1089), (0, .ref (52 + 39)), (1, .int iv)] []
      refine cw_Wr aj_d75 rfl rfl hT1140 ?_ ?_
      · exact ⟨rfl, _, _, _, Q1141, by omega⟩
      · trivial
  · have q1098 : x1097.toInt < (0 : Int) := aw_t_ge (a := x1097.toInt) (b := (0 : Int)) rfl rfl q1098
    refine cw_n aj_d75 rfl rfl ?_
    refine cw_n aj_d75 rfl rfl ?_
    refine cw_n aj_d75 rfl rfl ?_
    refine cw_k0 (i := 39) (t := 52) (con' := ap_c64) aj_d75 htb hT1091 rfl rfl [_, _] rfl rfl (cw_s0 hB rfl) rfl (Nat.le_of_ble_eq_true rfl) ⟨by decide, by decide⟩ (cw_a2 (by omega) (ap_1_64 htb (cw_SPkc rfl rfl) cw_hK (cw_H1k htb)) hT1091 (cw_I_eq (ho1091.trans (ho1083.trans rfl)) Ih) rfl ⟨(cw_gR (cw_s0 hB rfl) (by decide) (by decide)), (cw_gw (a := (4 : Int)) rfl (by omega) (by omega)), (cw_gw (a := iv.toInt) rfl (by omega) (by omega)), trivial⟩) ?_
    rintro ru1142 h1142 hT1142 ⟨Iu1142, ku1142, mu1142⟩ hRu1142
    obtain rfl := cw_rN hRu1142
    have Q1143 := cw_CQ_f Iu1142 ku1142 mu1142 (cw_CQ_eq (ho1091.trans (ho1083.trans rfl)) hQ)
    obtain ⟨Iq1143, qq1143, f2q1143, a31q1143, a34q1143, f4q1143, f5q1143, Zq1143, nq1143, gq1143, bq1143⟩ := id Q1143
    show cw_W _ _ _ _ _ _ _ _ _ _ 30 [(4, .int x1097), (2, .long y1089), (0, .ref (52 + 39)), (1, .int iv)] []
    refine cw_n aj_d75 rfl rfl ?_
    refine cw_n aj_d75 rfl rfl ?_
    obtain ⟨v1144, f1144, g1144⟩ := cw_tyF (i := 39) (t := 52) (c := 0) (k := 1) (y := (.inr (some ([56], false)))) hT1142 (cw_s0 hB rfl) rfl rfl rfl
    obtain rfl := cw_gu (i := 30) hB g1144 (by decide) (by decide) (by decide)
    refine cw_g (i := 39) (v := .ref (52 + 30)) htb.1 aj_d75 rfl rfl (by decide) f1144 ?_
    refine cw_n aj_d75 rfl rfl ?_
    refine cw_n aj_d75 rfl rfl ?_
    refine cw_k0 (i := 30) (t := 56) (con' := ap_c41) aj_d75 htb hT1142 rfl rfl [_, _] rfl rfl (cw_s0 hB rfl) rfl (Nat.le_of_ble_eq_true rfl) ⟨by decide, by decide⟩ (cw_setA1 htb hT1142 hB (by omega) iv x1097) ?_
    rintro ru1145 h1145 hT1145 tu1145 hRu1145
    obtain rfl := cw_rN hRu1145
    obtain ⟨gu1145, Qu1145, vu1145⟩ := cw_CQ_set hx hi hT1142 tu1145 Q1143
    have Q1146 := Qu1145
    obtain ⟨Iq1146, qq1146, f2q1146, a31q1146, a34q1146, f4q1146, f5q1146, Zq1146, nq1146, gq1146, bq1146⟩ := id Q1146
    show cw_W _ _ _ _ _ _ _ _ _ _ 92 [(4, .int x1097), (2, .long y1089), (0, .ref (52 + 39)), (1, .int iv)] []
    refine cw_Wr aj_d75 rfl rfl hT1145 ?_ ?_
    · exact ⟨rfl, _, _, _, Q1146, by omega⟩
    · trivial
end CW82
