/-! CONTRACTS OF THE CLASS THAT THE CHECKER DECIDES (printed by wip/p2/gen_print3.py) -/
/-- DimShelf$Shelf.empty -/
theorem ap_E_2 {SP : List Nat → aj_H → Prop} {kap : aj_H → Int} {tb : aj_T} (htb : ak_tbOK ak_CE tb) (hc : ak_SPc ak_CE SP) (hK : ak_kpc ak_CE kap) : ak_CT ak_CE SP kap tb 1 ap_c2 :=
  ak_meth_ok htb hc hK (k := 0) (con := ap_c2) aj_m2_at aj_d2 (cs := []) (fun _ h => nomatch h) (fs := []) (fl := []) (pts := []) (C := []) (W0 := []) (P0 := 4) (n := 24) (by decide +kernel)
