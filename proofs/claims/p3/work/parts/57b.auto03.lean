/-! CONTRACTS OF THE CLASS THAT THE CHECKER DECIDES (printed by wip/p2/gen_print3.py) -/
/-- DimShelf.why -/
theorem ap_0_163 {SP : List Nat → aj_H → Prop} {kap : aj_H → Int} {tb : aj_T} (htb : ak_tbOK ak_C0 tb) (hc : ak_SPc ak_C0 SP) (hK : ak_kpc ak_C0 kap) : ak_CT ak_C0 SP kap tb 27 ap_c163 :=
  ak_meth_ok htb hc hK (k := 26) (con := ap_c163) aj_m163_at aj_d163 (cs := [(9, ap_c164)]) (List.forall_mem_cons.mpr ⟨ak_CT_mono (Nat.le_of_ble_eq_true rfl) (ap_0_164 htb hc hK), fun _ h => nomatch h⟩) (fs := []) (fl := []) (pts := []) (C := []) (W0 := []) (P0 := 4) (n := 12) (by decide +kernel)
