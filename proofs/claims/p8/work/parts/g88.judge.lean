/-! JUDGE, AND WHAT THE CHECKER WANTS (printed by wip/p2/cwalk/g88.py) -/
section CW88
variable {Φ : List Nat → Option Value → aj_H → Prop} {tb : aj_T} {con : ak_Con} {d : Nat} {s s' s2 s0 : List Nat} {h h' h2 h0 h1 : aj_H} {i j p q x c k l l' a : Nat} {o o' o2 o0 : cw_O} {n nt iv y v t x1 : Int32} {w : Value} {f g : Nat → Int32}
/-- judge -/
theorem cw_judge (htb : ak_tbOK ak_C0 tb) (hT : ak_Ty ak_C0 s h) (hI : cw_I cw_XB s h) (hd : 7 ≤ d) (qx : s[x]? = some 59) : cw_K ak_C0 (fun s' _ h' => s' = s ∧ cw_I cw_XB s h') tb d ap_c156 [.ref (52 + 43), .ref (52 + x)] s h := by
  obtain ⟨d, rfl⟩ : ∃ e, d = e + 1 := ⟨d - 1, by omega⟩
  have hB := hI.1
  refine cw_m (con := ap_c156) aj_m156_at (Nat.le_of_ble_eq_true rfl) ?_
  show cw_W _ _ _ _ _ _ _ _ _ _ 0 [(0, .ref (52 + 43)), (1, .ref (52 + x))] []
  refine cw_n aj_d156 rfl rfl ?_
  refine cw_n aj_d156 rfl rfl ?_
  refine cw_p (i := 43) (t := 61) (c := 9) (k := 7) (v := .ref (52 + x)) (y := (.inr (some ([59], true)))) htb aj_d156 rfl rfl hT (cw_s0 hB rfl) rfl rfl rfl (cw_gR qx (by decide) (by decide)) (by decide) rfl rfl (fun hT1001 => ?_)
  obtain ⟨v1002, f1002, g1002⟩ := cw_tyF (i := 43) (t := 61) (c := 9) (k := 7) (y := (.inr (some ([59], true)))) hT (cw_s0 hB rfl) rfl rfl rfl
  have f1003 : cw_F (cw_sf h 43 7 (.ref (52 + x))) 43 9 7 (.ref (52 + x)) := cw_sf_same f1002
  obtain ⟨I1, k1⟩ := cw_I_w9T (T := ak_C0) (w := .ref (52 + x)) rfl rfl hT hI (Or.inr rfl) f1002
  have hTW := cw_0W hB hT1001 f1003 qx
  refine cw_W0 ?_
  have htb : ak_tbOK ak_CW tb := htb
  show cw_W _ _ _ _ _ _ _ _ _ _ 5 [(0, .ref (52 + 43)), (1, .ref (52 + x))] []
  refine cw_n aj_d156 rfl rfl ?_
  refine cw_n aj_d156 rfl rfl ?_
  show cw_W _ _ _ _ _ _ _ _ _ _ 7 [(2, .int (Int32.ofInt 0)), (0, .ref (52 + 43)), (1, .ref (52 + x))] []
  refine cw_Wmono (fun s' r h' hh => ?_) (cw_seg htb (cw_SP1c s (cw_sf h 43 7 (.ref (52 + x))) rfl rfl) aj_d156 (cs := [(24, ap_c57), (32, ap_c40), (35, ap_c140)]) (List.forall_mem_cons.mpr ⟨ak_CT_mono (k := 1) (by omega) (ap_W_57 htb (cw_SP1c _ _ rfl rfl) cw_hK), List.forall_mem_cons.mpr ⟨ak_CT_mono (k := 1) (by omega) (ap_W_40 htb (cw_SP1c _ _ rfl rfl) cw_hK), List.forall_mem_cons.mpr ⟨ak_CT_mono (k := 6) (by omega) (ap_W_140 htb (cw_SP1c _ _ rfl rfl) cw_hK), fun _ h => nomatch h⟩⟩⟩) (Φ := fun s' r h' => cw_B s' ∧ (s' = s ∧ cw_o h' = cw_o (cw_sf h 43 7 (.ref (52 + x))))) (fun _ _ _ q _ => q) (fs := []) (fl := []) (pts := [((7, [(0, .inr (some ([61], false))), (1, .inr (some ([59], false))), (2, .inl (0, 2500))], [], [], [3], 0, 0, 0), [])]) (sps := []) (C := [(2, true, 2147483647)]) (W0 := [0]) (P0 := 128849018910) (n := 28) (by decide +kernel) (fun _ h => nomatch h) (a := ak_ptAS (((7, [(0, .inr (some ([61], false))), (1, .inr (some ([59], false))), (2, .inl (0, 2500))], [], [], [3], 0, 0, 0), []) : ak_P2).1) (R := []) (pc := 7) s (cw_sf h 43 7 (.ref (52 + x))) _ _ _ _ hTW ⟨hB, rfl, rfl⟩ ⟨(cw_gLc rfl (cw_gR (cw_s0 hB rfl) (by decide) (by decide)) (cw_gLc rfl (cw_gR qx (by decide) (by decide)) (cw_gLi rfl ⟨by decide, by decide⟩ cw_gLn))), trivial, fun _ h => nomatch h⟩ (fun _ h => nomatch h))
  obtain ⟨-, rfl, ho⟩ := hh
  exact ⟨rfl, cw_I_eq ho I1⟩
theorem cw_judgeC (htb : ak_tbOK ak_C0 tb) : ak_CT ak_C0 (cw_I cw_XB) cw_kap tb 7 ap_c156 := by
  refine cw_CT rfl (fun d hd s h as hT hI hA _ => ?_)
  obtain ⟨v1, as, rfl, g1, hA⟩ := cw_gAc hA
  obtain ⟨v2, as, rfl, g2, hA⟩ := cw_gAc hA
  cases cw_gAn hA
  obtain rfl := cw_gu (i := 43) hI.1 g1 (by decide) (by decide) (by decide)
  obtain ⟨x, rfl, qx⟩ := cw_gr g2 (by decide)
  refine cw_mono (fun s' r h' hh => ?_) (cw_judge htb hT hI hd qx)
  obtain ⟨es, hI'⟩ := hh
  obtain rfl := es.symm
  exact hI'
theorem cw_KM {T : ak_TT} {con con' : ak_Con} {as : List Value} (h1 : con'.1 = con.1) (h2 : con'.2.2.1 = con.2.2.1) (h3 : con'.2.2.2.1 = con.2.2.2.1) (k : cw_K T Φ tb d con as s h) : cw_K T Φ tb d con' as s h := by
  obtain ⟨u, r, h', k1, k2, k3, k4, k5⟩ := k
  exact ⟨u, r, h', by rw [h1]; exact k1, k2, k3, by rw [h3]; exact k4, by rw [h2]; exact k5⟩
theorem cw_undC (htb : ak_tbOK ak_C0 tb) (htG : cw_tbG tb) : ak_CT ak_C0 (cw_I cw_XB) cw_kap tb 7 ap_c20a := by
  refine cw_CT rfl (fun d hd s h as hT hI hA _ => ?_)
  obtain ⟨v1, as, rfl, g1, hA⟩ := cw_gAc hA
  obtain ⟨v2, as, rfl, g2, hA⟩ := cw_gAc hA
  obtain ⟨v3, as, rfl, g3, hA⟩ := cw_gAc hA
  cases cw_gAn hA
  obtain rfl := cw_gu (i := 0) hI.1 g1 (by decide) (by decide) (by decide)
  obtain ⟨x1, rfl, hx1⟩ := ak_gi g2
  dsimp only [ak_win] at hx1
  obtain ⟨x, rfl, qx⟩ := cw_gr g3 (by decide)
  obtain ⟨nt, hZ⟩ := cw_Z_ty hT hI.1 qx
  refine cw_mono (fun s' r h' hh => hh.1) (cw_KM (con := cw_nU 20 none) rfl rfl rfl (cw_und (x1 := x1) htb htG hT hI hd (cw_cell59 hI.1 qx) qx (Or.inr (by omega)) hZ))
/-- what the checker wants of the hands -/
theorem cw_H0 (htb : ak_tbOK ak_C0 tb) (htG : cw_tbG tb) : ap_H0 (cw_I cw_XB) cw_kap tb := by
  unfold ap_H0 ap_hl0
  refine List.forall_mem_cons.mpr ⟨cw_judgeC htb, List.forall_mem_cons.mpr ⟨cw_undC htb htG, List.forall_mem_cons.mpr ⟨cw_mkrC htb, List.forall_mem_cons.mpr ⟨cw_putlC htb, List.forall_mem_cons.mpr ⟨cw_refC htb, List.forall_mem_cons.mpr ⟨cw_mrC htb, fun _ h => nomatch h⟩⟩⟩⟩⟩⟩
end CW88
