/-! CONTRACTS THAT THE CHECKER DECIDES (printed by wip/p2/gen_auto.py) -/
/-- DimShelf$Rows.isOpen -/
theorem ak_k0_103 {SP : List Nat → aj_H → Prop} {tb : aj_T} (htb : ak_tbOK ak_T0 tb) (hc : ak_SPc ak_T0 SP) : ak_CT ak_T0 SP tb 1 103 [.inr (some ([58], false)), .inl (0, 100000), .inl (0, 5)] (some (.inl (0, 1))) ([], []) :=
  ak_meth_ok htb hc (k := 0) aj_m103_at aj_d103 (cs := []) (fun _ h => nomatch h) (pts := [(43, [(0, .inr (some ([58], false))), (1, .inl (0, 100000)), (2, .inl (0, 5)), (3, .inl (0, 600005))], [], [], [], 1), (44, [(0, .inr (some ([58], false))), (1, .inl (0, 100000)), (2, .inl (0, 5)), (3, .inl (0, 600005))], [.inl (0, 1)], [], [], 0)]) (C := []) (W0 := []) (P0 := 6) (n := 32) (by decide +kernel)
/-- DimShelf$Rows.termAt -/
theorem ak_k0_104 {SP : List Nat → aj_H → Prop} {tb : aj_T} (htb : ak_tbOK ak_T0 tb) (hc : ak_SPc ak_T0 SP) : ak_CT ak_T0 SP tb 1 104 [.inr (some ([58], false)), .inl (0, 100000), .inl (0, 5)] (some (.inl ((-2147483648), 2147483647))) ([], []) :=
  ak_meth_ok htb hc (k := 0) aj_m104_at aj_d104 (cs := []) (fun _ h => nomatch h) (pts := [(45, [(0, .inr (some ([58], false))), (1, .inl (0, 100000)), (2, .inl (0, 5)), (3, .inl (0, 600005))], [], [], [], 1), (46, [(0, .inr (some ([58], false))), (1, .inl (0, 100000)), (2, .inl (0, 5)), (3, .inl (0, 600005))], [.inl ((-2147483648), 2147483647)], [], [], 0)]) (C := []) (W0 := []) (P0 := 6) (n := 33) (by decide +kernel)
/-- DimShelf$Rows.has -/
theorem ak_k0_108 {SP : List Nat → aj_H → Prop} {tb : aj_T} (htb : ak_tbOK ak_T0 tb) (hc : ak_SPc ak_T0 SP) : ak_CT ak_T0 SP tb 1 108 [.inr (some ([58], false)), .inl (0, 99999), .inl ((-1), 1023)] (some (.inl (0, 1))) ([], []) :=
  ak_meth_ok htb hc (k := 0) aj_m108_at aj_d108 (cs := []) (fun _ h => nomatch h) (pts := [(30, [(0, .inr (some ([58], false))), (1, .inl (0, 99999)), (2, .inl ((-1), 1023))], [], [], [], 1), (31, [(0, .inr (some ([58], false))), (1, .inl (0, 99999)), (2, .inl ((-1), 1023))], [.inl (0, 1)], [], [], 0)]) (C := []) (W0 := []) (P0 := 6) (n := 25) (by decide +kernel)
/-- DimShelf$Rows.drop -/
theorem ak_k0_110 {SP : List Nat → aj_H → Prop} {tb : aj_T} (htb : ak_tbOK ak_T0 tb) (hc : ak_SPc ak_T0 SP) : ak_CT ak_T0 SP tb 1 110 [.inr (some ([58], false)), .inl ((-1), 99999), .inl (0, 1023)] none ([96], []) :=
  ak_meth_ok htb hc (k := 0) aj_m110_at aj_d110 (cs := []) (fun _ h => nomatch h) (pts := [(27, [(0, .inr (some ([58], false))), (1, .inl ((-1), 99999)), (2, .inl (0, 1023))], [], [], [], 0)]) (C := []) (W0 := []) (P0 := 5) (n := 25) (by decide +kernel)
/-- java/util/Arrays.fill -/
theorem ak_k0_117 {SP : List Nat → aj_H → Prop} {tb : aj_T} (htb : ak_tbOK ak_T0 tb) (hc : ak_SPc ak_T0 SP) : ak_CT ak_T0 SP tb 1 117 [.inr (some ([96], false)), .inl (0, 0)] none ([96], []) :=
  ak_meth_ok htb hc (k := 0) aj_m117_at aj_d117 (cs := []) (fun _ h => nomatch h) (pts := [(5, [(0, .inr (some ([96], false))), (1, .inl (0, 0)), (2, .inl (0, 1024)), (3, .inl (1024, 1024))], [], [], [3], 0)]) (C := [(2, true, 2147483647)]) (W0 := [0]) (P0 := 64424509470) (n := 20) (by decide +kernel)
/-- DimShelf$Grouper.pick -/
theorem ak_k0_125 {SP : List Nat → aj_H → Prop} {tb : aj_T} (htb : ak_tbOK ak_T0 tb) (hc : ak_SPc ak_T0 SP) : ak_CT ak_T0 SP tb 1 125 [.inr (some ([53], false)), .inl ((-2147483648), 2147483647)] none ([89], [(1, 1)]) :=
  ak_meth_ok htb hc (k := 0) aj_m125_at aj_d125 (cs := []) (fun _ h => nomatch h) (pts := [(32, [(0, .inr (some ([53], false))), (1, .inl ((-2147483648), 2147483647))], [], [((0, 1), (1, 6))], [], 0)]) (C := []) (W0 := []) (P0 := 5) (n := 24) (by decide +kernel)
/-- DimShelf$Worker.setSide -/
theorem ak_k0_141 {SP : List Nat → aj_H → Prop} {tb : aj_T} (htb : ak_tbOK ak_T0 tb) (hc : ak_SPc ak_T0 SP) : ak_CT ak_T0 SP tb 1 141 [.inr (some ([61], false)), .inl (0, 2), .inl ((-2147483648), 2147483647)] none ([], [(9, 8), (9, 9), (9, 10), (9, 11)]) :=
  ak_meth_ok htb hc (k := 0) aj_m141_at aj_d141 (cs := []) (fun _ h => nomatch h) (pts := []) (C := []) (W0 := []) (P0 := 4) (n := 20) (by decide +kernel)
/-- DimShelf$Worker.judgedTrue -/
theorem ak_k0_147 {SP : List Nat → aj_H → Prop} {tb : aj_T} (htb : ak_tbOK ak_T0 tb) (hc : ak_SPc ak_T0 SP) : ak_CT ak_T0 SP tb 1 147 [.inr (some ([61], false)), .inl ((-1), 1023)] (some (.inl (0, 1))) ([], []) :=
  ak_meth_ok htb hc (k := 0) aj_m147_at aj_d147 (cs := []) (fun _ h => nomatch h) (pts := [(28, [(0, .inr (some ([61], false))), (1, .inl ((-1), 1023))], [], [], [], 1), (29, [(0, .inr (some ([61], false))), (1, .inl ((-1), 1023))], [.inl (0, 1)], [], [], 0)]) (C := []) (W0 := []) (P0 := 6) (n := 23) (by decide +kernel)
/-- DimShelf$Listing.forget -/
theorem ak_k0_151 {SP : List Nat → aj_H → Prop} {tb : aj_T} (htb : ak_tbOK ak_T0 tb) (hc : ak_SPc ak_T0 SP) : ak_CT ak_T0 SP tb 1 151 [.inr (some ([54], false))] none ([], [(2, 0)]) :=
  ak_meth_ok htb hc (k := 0) aj_m151_at aj_d151 (cs := []) (fun _ h => nomatch h) (pts := []) (C := []) (W0 := []) (P0 := 4) (n := 9) (by decide +kernel)
/-- DimShelf$Reason.forget -/
theorem ak_k0_152 {SP : List Nat → aj_H → Prop} {tb : aj_T} (htb : ak_tbOK ak_T0 tb) (hc : ak_SPc ak_T0 SP) : ak_CT ak_T0 SP tb 1 152 [.inr (some ([57], false))] none ([], [(5, 0)]) :=
  ak_meth_ok htb hc (k := 0) aj_m152_at aj_d152 (cs := []) (fun _ h => nomatch h) (pts := []) (C := []) (W0 := []) (P0 := 4) (n := 9) (by decide +kernel)
/-- DimShelf.place -/
theorem ak_k0_153 {SP : List Nat → aj_H → Prop} {tb : aj_T} (htb : ak_tbOK ak_T0 tb) (hc : ak_SPc ak_T0 SP) : ak_CT ak_T0 SP tb 1 153 [.inr (some ([62], false))] (some (.inl ((-2147483648), 2147483647))) ([], []) :=
  ak_meth_ok htb hc (k := 0) aj_m153_at aj_d153 (cs := []) (fun _ h => nomatch h) (pts := []) (C := []) (W0 := []) (P0 := 4) (n := 8) (by decide +kernel)
/-- DimShelf$Shelf.heldWorld -/
theorem ak_k0_158 {SP : List Nat → aj_H → Prop} {tb : aj_T} (htb : ak_tbOK ak_T0 tb) (hc : ak_SPc ak_T0 SP) : ak_CT ak_T0 SP tb 1 158 [.inr (some ([59], false)), .inl ((-2147483648), 2147483647)] (some (.inl ((-1), 1023))) ([], []) :=
  ak_meth_ok htb hc (k := 0) aj_m158_at aj_d158 (cs := []) (fun _ h => nomatch h) (pts := [(30, [(0, .inr (some ([59], false))), (1, .inl ((-2147483648), 2147483647))], [], [], [], 1), (31, [(0, .inr (some ([59], false))), (1, .inl ((-2147483648), 2147483647))], [.inl ((-1), 1023)], [], [], 0)]) (C := []) (W0 := []) (P0 := 6) (n := 23) (by decide +kernel)
/-- DimShelf$Shelf.keepAsked -/
theorem ak_k0_162 {SP : List Nat → aj_H → Prop} {tb : aj_T} (htb : ak_tbOK ak_T0 tb) (hc : ak_SPc ak_T0 SP) : ak_CT ak_T0 SP tb 2 162 [.inr (some ([59], false)), .inr (some ([61], false))] none ([71], [(7, 17)]) :=
  ak_meth_ok htb hc (k := 1) aj_m162_at aj_d162 (cs := [(26, (147, [.inr (some ([61], false)), .inl ((-1), 1023)], some (.inl (0, 1)), ([], [])))]) (List.forall_mem_cons.mpr ⟨ak_CT_mono (Nat.le_of_ble_eq_true rfl) (ak_k0_147 htb hc), fun _ h => nomatch h⟩) (pts := [(2, [(0, .inr (some ([59], false))), (1, .inr (some ([61], false))), (2, .inl (0, 1024))], [], [], [4], 17179869193), (36, [(0, .inr (some ([59], false))), (1, .inr (some ([61], false))), (2, .inl (0, 1024))], [], [((0, 13), (0, 1024))], [0], 0)]) (C := [(2, true, 2147483647)]) (W0 := [0]) (P0 := 103079215152) (n := 29) (by decide +kernel)
/-- DimShelf$Shelf.isAsked -/
theorem ak_k0_166 {SP : List Nat → aj_H → Prop} {tb : aj_T} (htb : ak_tbOK ak_T0 tb) (hc : ak_SPc ak_T0 SP) : ak_CT ak_T0 SP tb 1 166 [.inr (some ([59], false)), .inl (0, 1023)] (some (.inl (0, 1))) ([], []) :=
  ak_meth_ok htb hc (k := 0) aj_m166_at aj_d166 (cs := []) (fun _ h => nomatch h) (pts := [(26, [(0, .inr (some ([59], false))), (1, .inl (0, 1023))], [], [], [], 1), (27, [(0, .inr (some ([59], false))), (1, .inl (0, 1023))], [.inl (0, 1)], [], [], 0)]) (C := []) (W0 := []) (P0 := 6) (n := 21) (by decide +kernel)
/-- DimShelf$Shelf.brokenIn -/
theorem ak_k0_167 {SP : List Nat → aj_H → Prop} {tb : aj_T} (htb : ak_tbOK ak_T0 tb) (hc : ak_SPc ak_T0 SP) : ak_CT ak_T0 SP tb 1 167 [.inr (some ([59], false)), .inl (0, 1023)] (some (.inl ((-2147483648), 2147483647))) ([], []) :=
  ak_meth_ok htb hc (k := 0) aj_m167_at aj_d167 (cs := []) (fun _ h => nomatch h) (pts := [(23, [(0, .inr (some ([59], false))), (1, .inl (0, 1023))], [.inl ((-2147483648), 2147483647)], [], [], 0)]) (C := []) (W0 := []) (P0 := 5) (n := 19) (by decide +kernel)
/-- DimShelf.put -/
theorem ak_k0_17 {SP : List Nat → aj_H → Prop} {tb : aj_T} (htb : ak_tbOK ak_T0 tb) (hc : ak_SPc ak_T0 SP) : ak_CT ak_T0 SP tb 1 17 [.inr (some ([62], false)), .inl ((-2147483648), 2147483647)] none ([64], [(10, 1)]) :=
  ak_meth_ok htb hc (k := 0) aj_m17_at aj_d17 (cs := []) (fun _ h => nomatch h) (pts := [(3, [(0, .inr (some ([62], false))), (1, .inl ((-2147483648), 2147483647)), (2, .inl ((-8), 24))], [], [], [4], 17179869193), (46, [(0, .inr (some ([62], false))), (1, .inl ((-2147483648), 2147483647)), (2, .inl (0, 24))], [], [((0, 1), (1, 4000))], [4], 17179869192)]) (C := [(2, false, (-2147483648))]) (W0 := [0]) (P0 := 103079215152) (n := 35) (by decide +kernel)
/-- java/lang/Integer.bitCount -/
theorem ak_k0_170 {SP : List Nat → aj_H → Prop} {tb : aj_T} (htb : ak_tbOK ak_T0 tb) (hc : ak_SPc ak_T0 SP) : ak_CT ak_T0 SP tb 1 170 [.inl ((-2147483648), 2147483647)] (some (.inl (0, 63))) ([], []) :=
  ak_meth_ok htb hc (k := 0) aj_m170_at aj_d170 (cs := []) (fun _ h => nomatch h) (pts := []) (C := []) (W0 := []) (P0 := 4) (n := 47) (by decide +kernel)
/-- DimShelf$Listing.rowOf -/
theorem ak_k0_182 {SP : List Nat → aj_H → Prop} {tb : aj_T} (htb : ak_tbOK ak_T0 tb) (hc : ak_SPc ak_T0 SP) : ak_CT ak_T0 SP tb 1 182 [.inl ((-1), (-1))] (some (.inl (0, 31))) ([], []) :=
  ak_meth_ok htb hc (k := 0) aj_m182_at aj_d182 (cs := []) (fun _ h => nomatch h) (pts := []) (C := []) (W0 := []) (P0 := 4) (n := 11) (by decide +kernel)
/-- DimShelf$Listing.worldOf -/
theorem ak_k0_183 {SP : List Nat → aj_H → Prop} {tb : aj_T} (htb : ak_tbOK ak_T0 tb) (hc : ak_SPc ak_T0 SP) : ak_CT ak_T0 SP tb 1 183 [.inl ((-1), (-1))] (some (.inl (0, 1023))) ([], []) :=
  ak_meth_ok htb hc (k := 0) aj_m183_at aj_d183 (cs := []) (fun _ h => nomatch h) (pts := []) (C := []) (W0 := []) (P0 := 4) (n := 9) (by decide +kernel)
/-- DimShelf$Listing.worldsOf -/
theorem ak_k0_184 {SP : List Nat → aj_H → Prop} {tb : aj_T} (htb : ak_tbOK ak_T0 tb) (hc : ak_SPc ak_T0 SP) : ak_CT ak_T0 SP tb 1 184 [.inl ((-1), (-1))] (some (.inl ((-1), (-1)))) ([], []) :=
  ak_meth_ok htb hc (k := 0) aj_m184_at aj_d184 (cs := []) (fun _ h => nomatch h) (pts := []) (C := []) (W0 := []) (P0 := 4) (n := 9) (by decide +kernel)
/-- DimShelf.listedCell -/
theorem ak_k0_193 {SP : List Nat → aj_H → Prop} {tb : aj_T} (htb : ak_tbOK ak_T0 tb) (hc : ak_SPc ak_T0 SP) : ak_CT ak_T0 SP tb 1 193 [.inr (some ([62], false)), .inr (some ([58], true)), .inl ((-1), (-1)), .inl ((-2147483648), 2147483647)] (some (.inl ((-100000), (-100000)))) ([], []) :=
  ak_meth_ok htb hc (k := 0) aj_m193_at aj_d193 (cs := []) (fun _ h => nomatch h) (pts := [(20, [(0, .inr (some ([62], false))), (1, .inr (some ([58], true))), (2, .inl ((-1), (-1))), (3, .inl ((-2147483648), 2147483647))], [], [], [], 0)]) (C := []) (W0 := []) (P0 := 5) (n := 27) (by decide +kernel)
/-- DimShelf.count -/
theorem ak_k0_198 {SP : List Nat → aj_H → Prop} {tb : aj_T} (htb : ak_tbOK ak_T0 tb) (hc : ak_SPc ak_T0 SP) : ak_CT ak_T0 SP tb 1 198 [.inr (some ([62], false)), .inl ((-2147483648), 2147483647)] (some (.inl ((-1), 4000))) ([], []) :=
  ak_meth_ok htb hc (k := 0) aj_m198_at aj_d198 (cs := []) (fun _ h => nomatch h) (pts := []) (C := []) (W0 := []) (P0 := 4) (n := 36) (by decide +kernel)
/-- DimShelf$Shelf.empty -/
theorem ak_k0_2 {SP : List Nat → aj_H → Prop} {tb : aj_T} (htb : ak_tbOK ak_T0 tb) (hc : ak_SPc ak_T0 SP) : ak_CT ak_T0 SP tb 1 2 [.inr (some ([59], false))] none ([], [(7, 11), (7, 12), (7, 13), (7, 15), (7, 16), (7, 17)]) :=
  ak_meth_ok htb hc (k := 0) aj_m2_at aj_d2 (cs := []) (fun _ h => nomatch h) (pts := []) (C := []) (W0 := []) (P0 := 4) (n := 24) (by decide +kernel)
/-- DimShelfModel.word -/
theorem ak_k0_211 {SP : List Nat → aj_H → Prop} {tb : aj_T} (htb : ak_tbOK ak_T0 tb) (hc : ak_SPc ak_T0 SP) : ak_CT ak_T0 SP tb 1 211 [.inr none] (some (.inl ((-1), 9))) ([], []) :=
  ak_meth_ok htb hc (k := 0) aj_m211_at aj_d211 (cs := []) (fun _ h => nomatch h) (pts := [(107, [(0, .inr none)], [.inl ((-1), 9)], [], [], 0)]) (C := []) (W0 := []) (P0 := 5) (n := 67) (by decide +kernel)
/-- DimShelfModel.isWord -/
theorem ak_k0_212 {SP : List Nat → aj_H → Prop} {tb : aj_T} (htb : ak_tbOK ak_T0 tb) (hc : ak_SPc ak_T0 SP) : ak_CT ak_T0 SP tb 1 212 [.inr (some ([63], false)), .inl (0, 5)] (some (.inl (0, 1))) ([], []) :=
  ak_meth_ok htb hc (k := 0) aj_m212_at aj_d212 (cs := []) (fun _ h => nomatch h) (pts := [(20, [(0, .inr (some ([63], false))), (1, .inl (0, 5))], [], [((0, 26), (0, 5))], [], 1), (21, [(0, .inr (some ([63], false))), (1, .inl (0, 5))], [.inl (0, 1)], [((0, 26), (0, 5))], [], 0)]) (C := []) (W0 := []) (P0 := 6) (n := 17) (by decide +kernel)
/-- DimShelfModel.stop -/
theorem ak_k0_215 {SP : List Nat → aj_H → Prop} {tb : aj_T} (htb : ak_tbOK ak_T0 tb) (hc : ak_SPc ak_T0 SP) : ak_CT ak_T0 SP tb 1 215 [.inr (some ([63], false)), .inl (1, 2), .inl (0, 4000)] (some (.inl (0, 0))) ([], [(11, 24), (11, 25), (11, 31)]) :=
  ak_meth_ok htb hc (k := 0) aj_m215_at aj_d215 (cs := []) (fun _ h => nomatch h) (pts := []) (C := []) (W0 := []) (P0 := 4) (n := 16) (by decide +kernel)
/-- DimShelfModel.unknown -/
theorem ak_k0_217 {SP : List Nat → aj_H → Prop} {tb : aj_T} (htb : ak_tbOK ak_T0 tb) (hc : ak_SPc ak_T0 SP) : ak_CT ak_T0 SP tb 1 217 [.inr (some ([63], false)), .inl (0, 1), .inr none] (some (.inl ((-1), 7))) ([], []) :=
  ak_meth_ok htb hc (k := 0) aj_m217_at aj_d217 (cs := []) (fun _ h => nomatch h) (pts := [(3, [(0, .inr (some ([63], false))), (1, .inl (0, 1)), (2, .inr none), (4, .inl (0, 8))], [], [], [3], 0)]) (C := [(4, true, 2147483647)]) (W0 := [0]) (P0 := 64424509470) (n := 30) (by decide +kernel)
/-- DimShelfModel.tell -/
theorem ak_k0_218 {SP : List Nat → aj_H → Prop} {tb : aj_T} (htb : ak_tbOK ak_T0 tb) (hc : ak_SPc ak_T0 SP) : ak_CT ak_T0 SP tb 1 218 [.inr (some ([63], false)), .inl (3, 4), .inl ((-2147483648), 2147483647)] none ([], [(11, 24), (11, 25)]) :=
  ak_meth_ok htb hc (k := 0) aj_m218_at aj_d218 (cs := []) (fun _ h => nomatch h) (pts := [(38, [(0, .inr (some ([63], false))), (1, .inl (3, 4)), (2, .inl ((-2147483648), 2147483647))], [], [((0, 32), (0, 1))], [], 0), (39, [(0, .inr (some ([63], false))), (1, .inl (3, 4)), (2, .inl ((-2147483648), 2147483647))], [], [((0, 24), ((-2147483648), 2147483647)), ((0, 32), (0, 0))], [], 1)]) (C := []) (W0 := []) (P0 := 6) (n := 31) (by decide +kernel)
/-- DimShelf$Tokens.isBlank -/
theorem ak_k0_22 {SP : List Nat → aj_H → Prop} {tb : aj_T} (htb : ak_tbOK ak_T0 tb) (hc : ak_SPc ak_T0 SP) : ak_CT ak_T0 SP tb 1 22 [.inl (0, 65535)] (some (.inl (0, 1))) ([], []) :=
  ak_meth_ok htb hc (k := 0) aj_m22_at aj_d22 (cs := []) (fun _ h => nomatch h) (pts := [(24, [(0, .inl (9, 32))], [], [], [], 1), (29, [(0, .inl (0, 65535))], [.inl (0, 1)], [], [], 0)]) (C := []) (W0 := []) (P0 := 6) (n := 21) (by decide +kernel)
/-- DimShelfModel.isSign -/
theorem ak_k0_220 {SP : List Nat → aj_H → Prop} {tb : aj_T} (htb : ak_tbOK ak_T0 tb) (hc : ak_SPc ak_T0 SP) : ak_CT ak_T0 SP tb 1 220 [.inr (some ([63], false)), .inl (33, 63)] (some (.inl (0, 1))) ([], []) :=
  ak_meth_ok htb hc (k := 0) aj_m220_at aj_d220 (cs := []) (fun _ h => nomatch h) (pts := [(20, [(0, .inr (some ([63], false))), (1, .inl (33, 63))], [], [((0, 26), (0, 5))], [], 1), (21, [(0, .inr (some ([63], false))), (1, .inl (33, 63))], [.inl (0, 1)], [((0, 26), (0, 5))], [], 0)]) (C := []) (W0 := []) (P0 := 6) (n := 17) (by decide +kernel)
/-- DimShelfModel.bit -/
theorem ak_k0_227 {SP : List Nat → aj_H → Prop} {tb : aj_T} (htb : ak_tbOK ak_T0 tb) (hc : ak_SPc ak_T0 SP) : ak_CT ak_T0 SP tb 1 227 [.inr (some ([114], false)), .inl (0, 0), .inl (0, 1023)] (some (.inl (0, 1))) ([], []) :=
  ak_meth_ok htb hc (k := 0) aj_m227_at aj_d227 (cs := []) (fun _ h => nomatch h) (pts := [(23, [(0, .inr (some ([114], false))), (1, .inl (0, 0)), (2, .inl (0, 1023))], [.inl (0, 1)], [], [], 0)]) (C := []) (W0 := []) (P0 := 5) (n := 24) (by decide +kernel)
/-- DimShelfModel.put -/
theorem ak_k0_228 {SP : List Nat → aj_H → Prop} {tb : aj_T} (htb : ak_tbOK ak_T0 tb) (hc : ak_SPc ak_T0 SP) : ak_CT ak_T0 SP tb 1 228 [.inr (some ([121], false)), .inl (0, 992), .inl (0, 1023), .inl (0, 1)] none ([121], []) :=
  ak_meth_ok htb hc (k := 0) aj_m228_at aj_d228 (cs := []) (fun _ h => nomatch h) (pts := [(41, [(0, .inr (some ([121], false))), (1, .inl (0, 992)), (2, .inl (0, 1023)), (3, .inl (0, 1)), (4, .inl ((-2147483648), 2147483647)), (5, .inl (0, 1023))], [.inl ((-2147483648), 2147483647), .inl (0, 1023), .inr (some ([121], false))], [], [], 0)]) (C := []) (W0 := []) (P0 := 5) (n := 36) (by decide +kernel)
/-- DimShelfModel.tableOf -/
theorem ak_k0_231 {SP : List Nat → aj_H → Prop} {tb : aj_T} (htb : ak_tbOK ak_T0 tb) (hc : ak_SPc ak_T0 SP) : ak_CT ak_T0 SP tb 1 231 [.inr (some ([63], false)), .inl (0, 1), .inr none] (some (.inl ((-1), 9))) ([], []) :=
  ak_meth_ok htb hc (k := 0) aj_m231_at aj_d231 (cs := []) (fun _ h => nomatch h) (pts := [(3, [(0, .inr (some ([63], false))), (1, .inl (0, 1)), (2, .inr none), (4, .inl (0, 10))], [], [], [3], 0)]) (C := [(4, true, 2147483647)]) (W0 := [0]) (P0 := 64424509470) (n := 30) (by decide +kernel)
/-- DimShelf$Tokens.isLetter -/
theorem ak_k0_24 {SP : List Nat → aj_H → Prop} {tb : aj_T} (htb : ak_tbOK ak_T0 tb) (hc : ak_SPc ak_T0 SP) : ak_CT ak_T0 SP tb 1 24 [.inl (0, 65535)] (some (.inl (0, 1))) ([], []) :=
  ak_meth_ok htb hc (k := 0) aj_m24_at aj_d24 (cs := []) (fun _ h => nomatch h) (pts := [(16, [(0, .inl (0, 65535))], [], [], [], 1), (17, [(0, .inl (0, 65535))], [.inl (0, 1)], [], [], 0)]) (C := []) (W0 := []) (P0 := 6) (n := 15) (by decide +kernel)
/-- DimShelfModel.related -/
theorem ak_k0_242 {SP : List Nat → aj_H → Prop} {tb : aj_T} (htb : ak_tbOK ak_T0 tb) (hc : ak_SPc ak_T0 SP) : ak_CT ak_T0 SP tb 1 242 [.inl ((-2147483648), 2147483647), .inl ((-2147483648), 2147483647), .inl ((-2147483648), 2147483647)] (some (.inl (0, 1))) ([], []) :=
  ak_meth_ok htb hc (k := 0) aj_m242_at aj_d242 (cs := []) (fun _ h => nomatch h) (pts := [(68, [(0, .inl ((-2147483648), 2147483647)), (1, .inl ((-2147483648), 2147483647)), (2, .inl ((-2147483648), 2147483647))], [.inl (0, 1)], [], [], 0)]) (C := []) (W0 := []) (P0 := 5) (n := 42) (by decide +kernel)
/-- DimShelf$Tokens.isDigit -/
theorem ak_k0_26 {SP : List Nat → aj_H → Prop} {tb : aj_T} (htb : ak_tbOK ak_T0 tb) (hc : ak_SPc ak_T0 SP) : ak_CT ak_T0 SP tb 1 26 [.inl (0, 65535)] (some (.inl (0, 1))) ([], []) :=
  ak_meth_ok htb hc (k := 0) aj_m26_at aj_d26 (cs := []) (fun _ h => nomatch h) (pts := [(16, [(0, .inl (0, 65535))], [], [], [], 1), (17, [(0, .inl (0, 65535))], [.inl (0, 1)], [], [], 0)]) (C := []) (W0 := []) (P0 := 6) (n := 15) (by decide +kernel)
/-- DimShelf$Tokens.add -/
theorem ak_k0_27 {SP : List Nat → aj_H → Prop} {tb : aj_T} (htb : ak_tbOK ak_T0 tb) (hc : ak_SPc ak_T0 SP) : ak_CT ak_T0 SP tb 1 27 [.inr (some ([60], false)), .inl (0, 65535), .inl (0, 4000), .inr none] none ([76, 77, 78], [(8, 3)]) :=
  ak_meth_ok htb hc (k := 0) aj_m27_at aj_d27 (cs := []) (fun _ h => nomatch h) (pts := [(76, [(0, .inr (some ([60], false))), (1, .inl (0, 65535)), (2, .inl (0, 4000)), (3, .inr none)], [], [((0, 3), (1, 1002))], [], 0)]) (C := []) (W0 := []) (P0 := 5) (n := 48) (by decide +kernel)
/-- DimShelf$Tokens.kindOf -/
theorem ak_k0_28 {SP : List Nat → aj_H → Prop} {tb : aj_T} (htb : ak_tbOK ak_T0 tb) (hc : ak_SPc ak_T0 SP) : ak_CT ak_T0 SP tb 1 28 [.inr none] (some (.inl (3, 19))) ([], []) :=
  ak_meth_ok htb hc (k := 0) aj_m28_at aj_d28 (cs := []) (fun _ h => nomatch h) (pts := [(2, [(0, .inr none), (2, .inl (0, 10))], [], [], [3], 0)]) (C := [(2, true, 2147483647)]) (W0 := [0]) (P0 := 64424509470) (n := 25) (by decide +kernel)
/-- DimShelfModel.place -/
theorem ak_k0_280 {SP : List Nat → aj_H → Prop} {tb : aj_T} (htb : ak_tbOK ak_T0 tb) (hc : ak_SPc ak_T0 SP) : ak_CT ak_T0 SP tb 1 280 [.inr (some ([63], false))] (some (.inl ((-2147483648), 2147483647))) ([], []) :=
  ak_meth_ok htb hc (k := 0) aj_m280_at aj_d280 (cs := []) (fun _ h => nomatch h) (pts := []) (C := []) (W0 := []) (P0 := 4) (n := 8) (by decide +kernel)
/-- DimShelfModel.meetsAll -/
theorem ak_k0_287 {SP : List Nat → aj_H → Prop} {tb : aj_T} (htb : ak_tbOK ak_T0 tb) (hc : ak_SPc ak_T0 SP) : ak_CT ak_T0 SP tb 1 287 [.inr (some ([63], false)), .inl ((-2147483648), 20)] (some (.inl (0, 1))) ([], []) :=
  ak_meth_ok htb hc (k := 0) aj_m287_at aj_d287 (cs := []) (fun _ h => nomatch h) (pts := [(4, [(0, .inr (some ([63], false))), (1, .inl ((-2147483648), 20)), (2, .inl ((-2147483648), 2147483647)), (3, .inl (0, 20))], [], [], [4, 0], 17179869193), (28, [(0, .inr (some ([63], false))), (1, .inl ((-2147483648), 20)), (2, .inl ((-2147483648), 2147483647)), (3, .inl (0, 1024))], [], [], [0, 4], 0)]) (C := [(3, true, 2147483647), (3, true, 2147483647)]) (W0 := [0, 0]) (P0 := 103079215152) (n := 42) (by decide +kernel)
/-- DimShelf$Tokens.scanNumber -/
theorem ak_k0_29 {SP : List Nat → aj_H → Prop} {tb : aj_T} (htb : ak_tbOK ak_T0 tb) (hc : ak_SPc ak_T0 SP) : ak_CT ak_T0 SP tb 2 29 [.inr (some ([60], false)), .inr (some ([64], false)), .inl (1, 4000), .inl (0, 3999)] (some (.inl (0, 4000))) ([76, 77, 78], [(8, 3)]) :=
  ak_meth_ok htb hc (k := 1) aj_m29_at aj_d29 (cs := [(23, (26, [.inl (0, 65535)], some (.inl (0, 1)), ([], []))), (64, (27, [.inr (some ([60], false)), .inl (0, 65535), .inl (0, 4000), .inr none], none, ([76, 77, 78], [(8, 3)]))), (74, (27, [.inr (some ([60], false)), .inl (0, 65535), .inl (0, 4000), .inr none], none, ([76, 77, 78], [(8, 3)])))]) (List.forall_mem_cons.mpr ⟨ak_CT_mono (Nat.le_of_ble_eq_true rfl) (ak_k0_26 htb hc), List.forall_mem_cons.mpr ⟨ak_CT_mono (Nat.le_of_ble_eq_true rfl) (ak_k0_27 htb hc), List.forall_mem_cons.mpr ⟨ak_CT_mono (Nat.le_of_ble_eq_true rfl) (ak_k0_27 htb hc), fun _ h => nomatch h⟩⟩⟩) (pts := [(6, [(0, .inr (some ([60], false))), (1, .inr (some ([64], false))), (2, .inl (1, 4000)), (3, .inl (0, 3999)), (4, .inl (0, 4000)), (5, .inr none)], [], [], [4], 17179869193), (52, [(0, .inr (some ([60], false))), (1, .inr (some ([64], false))), (2, .inl (1, 4000)), (3, .inl (0, 3999)), (4, .inl (0, 4000)), (5, .inr none)], [], [], [0], 0)]) (C := [(4, true, 2147483647)]) (W0 := [0]) (P0 := 103079215152) (n := 53) (by decide +kernel)
/-- DimShelfModel.isTable -/
theorem ak_k0_291 {SP : List Nat → aj_H → Prop} {tb : aj_T} (htb : ak_tbOK ak_T0 tb) (hc : ak_SPc ak_T0 SP) : ak_CT ak_T0 SP tb 1 291 [.inr (some ([63], false)), .inl ((-2147483648), 2147483647)] (some (.inl (0, 1))) ([], []) :=
  ak_meth_ok htb hc (k := 0) aj_m291_at aj_d291 (cs := []) (fun _ h => nomatch h) (pts := [(21, [(0, .inr (some ([63], false))), (1, .inl ((-2147483648), 2147483647))], [], [], [], 1), (22, [(0, .inr (some ([63], false))), (1, .inl ((-2147483648), 2147483647))], [.inl (0, 1)], [], [], 0)]) (C := []) (W0 := []) (P0 := 6) (n := 18) (by decide +kernel)
/-- DimShelf$Tokens.isSign -/
theorem ak_k0_30 {SP : List Nat → aj_H → Prop} {tb : aj_T} (htb : ak_tbOK ak_T0 tb) (hc : ak_SPc ak_T0 SP) : ak_CT ak_T0 SP tb 1 30 [.inl (0, 65535)] (some (.inl (0, 1))) ([], []) :=
  ak_meth_ok htb hc (k := 0) aj_m30_at aj_d30 (cs := []) (fun _ h => nomatch h) (pts := []) (C := []) (W0 := []) (P0 := 4) (n := 11) (by decide +kernel)
/-- DimShelf$Plan.empty -/
theorem ak_k0_31 {SP : List Nat → aj_H → Prop} {tb : aj_T} (htb : ak_tbOK ak_T0 tb) (hc : ak_SPc ak_T0 SP) : ak_CT ak_T0 SP tb 1 31 [.inr (some ([56], false))] none ([], [(4, 4), (4, 5), (4, 6)]) :=
  ak_meth_ok htb hc (k := 0) aj_m31_at aj_d31 (cs := []) (fun _ h => nomatch h) (pts := []) (C := []) (W0 := []) (P0 := 4) (n := 15) (by decide +kernel)
/-- DimShelf$Parser.push -/
theorem ak_k0_33 {SP : List Nat → aj_H → Prop} {tb : aj_T} (htb : ak_tbOK ak_T0 tb) (hc : ak_SPc ak_T0 SP) : ak_CT ak_T0 SP tb 1 33 [.inr (some ([55], false)), .inl (1, 179)] none ([83], [(3, 5)]) :=
  ak_meth_ok htb hc (k := 0) aj_m33_at aj_d33 (cs := []) (fun _ h => nomatch h) (pts := [(47, [(0, .inr (some ([55], false))), (1, .inl (1, 179))], [], [((0, 5), (1, 512))], [], 0)]) (C := []) (W0 := []) (P0 := 5) (n := 32) (by decide +kernel)
/-- DimShelf$Tokens.wordAt -/
theorem ak_k0_37 {SP : List Nat → aj_H → Prop} {tb : aj_T} (htb : ak_tbOK ak_T0 tb) (hc : ak_SPc ak_T0 SP) : ak_CT ak_T0 SP tb 1 37 [.inr (some ([60], false)), .inl ((-2147483648), 2147483647)] (some (.inr none)) ([], []) :=
  ak_meth_ok htb hc (k := 0) aj_m37_at aj_d37 (cs := []) (fun _ h => nomatch h) (pts := [(22, [(0, .inr (some ([60], false))), (1, .inl ((-2147483648), 2147483647))], [], [], [], 1), (23, [(0, .inr (some ([60], false))), (1, .inl ((-2147483648), 2147483647))], [.inr none], [], [], 0)]) (C := []) (W0 := []) (P0 := 6) (n := 19) (by decide +kernel)
/-- DimShelf$Parser.hasRoomForRow -/
theorem ak_k0_38 {SP : List Nat → aj_H → Prop} {tb : aj_T} (htb : ak_tbOK ak_T0 tb) (hc : ak_SPc ak_T0 SP) : ak_CT ak_T0 SP tb 2 38 [.inr (some ([55], false))] (some (.inl (0, 1))) ([85], []) :=
  ak_meth_ok htb hc (k := 1) aj_m38_at aj_d38 (cs := [(8, (37, [.inr (some ([60], false)), .inl ((-2147483648), 2147483647)], some (.inr none), ([], [])))]) (List.forall_mem_cons.mpr ⟨ak_CT_mono (Nat.le_of_ble_eq_true rfl) (ak_k0_37 htb hc), fun _ h => nomatch h⟩) (pts := [(14, [(0, .inr (some ([55], false))), (1, .inr none), (3, .inl (0, 10))], [], [], [5], 42949672982), (77, [(0, .inr (some ([55], false))), (1, .inr none), (3, .inl (0, 9))], [.inl (0, 1)], [((0, 9), (1, 10))], [0], 0), (84, [(0, .inr (some ([55], false))), (1, .inr none), (3, .inl (0, 10))], [], [((0, 9), (0, 10))], [0], 21474836490)]) (C := [(3, true, 2147483647)]) (W0 := [0]) (P0 := 150323855430) (n := 56) (by decide +kernel)
/-- DimShelf$Shelf.sizeOf -/
theorem ak_k0_4 {SP : List Nat → aj_H → Prop} {tb : aj_T} (htb : ak_tbOK ak_T0 tb) (hc : ak_SPc ak_T0 SP) : ak_CT ak_T0 SP tb 1 4 [.inr (some ([59], false)), .inl (0, 8)] (some (.inl (0, 64))) ([], []) :=
  ak_meth_ok htb hc (k := 0) aj_m4_at aj_d4 (cs := []) (fun _ h => nomatch h) (pts := [(22, [(0, .inr (some ([59], false))), (1, .inl (8, 8))], [], [], [], 1), (23, [(0, .inr (some ([59], false))), (1, .inl (0, 8))], [.inl (0, 64)], [], [], 0)]) (C := []) (W0 := []) (P0 := 6) (n := 19) (by decide +kernel)
/-- DimShelf$Plan.argAt -/
theorem ak_k0_40 {SP : List Nat → aj_H → Prop} {tb : aj_T} (htb : ak_tbOK ak_T0 tb) (hc : ak_SPc ak_T0 SP) : ak_CT ak_T0 SP tb 1 40 [.inr (some ([56], false)), .inl ((-2147483648), 2147483647)] (some (.inl ((-2147483648), 2147483647))) ([], []) :=
  ak_meth_ok htb hc (k := 0) aj_m40_at aj_d40 (cs := []) (fun _ h => nomatch h) (pts := [(22, [(0, .inr (some ([56], false))), (1, .inl ((-2147483648), 2147483647))], [], [], [], 1), (23, [(0, .inr (some ([56], false))), (1, .inl ((-2147483648), 2147483647))], [.inl ((-2147483648), 2147483647)], [], [], 0)]) (C := []) (W0 := []) (P0 := 6) (n := 19) (by decide +kernel)
/-- DimShelf$Plan.setArg -/
theorem ak_k0_41 {SP : List Nat → aj_H → Prop} {tb : aj_T} (htb : ak_tbOK ak_T0 tb) (hc : ak_SPc ak_T0 SP) : ak_CT ak_T0 SP tb 1 41 [.inr (some ([56], false)), .inl ((-2147483648), 2147483647), .inl ((-2147483648), 2147483647)] none ([82], []) :=
  ak_meth_ok htb hc (k := 0) aj_m41_at aj_d41 (cs := []) (fun _ h => nomatch h) (pts := [(20, [(0, .inr (some ([56], false))), (1, .inl ((-2147483648), 2147483647)), (2, .inl ((-2147483648), 2147483647))], [], [], [], 0)]) (C := []) (W0 := []) (P0 := 5) (n := 18) (by decide +kernel)
/-- DimShelf$Plan.add -/
theorem ak_k0_42 {SP : List Nat → aj_H → Prop} {tb : aj_T} (htb : ak_tbOK ak_T0 tb) (hc : ak_SPc ak_T0 SP) : ak_CT ak_T0 SP tb 1 42 [.inr (some ([56], false)), .inl (170, 255), .inl ((-2147483648), 2147483647), .inl ((-8388608), 8388607), .inl (0, 0)] none ([79, 80, 81, 82], [(4, 4)]) :=
  ak_meth_ok htb hc (k := 0) aj_m42_at aj_d42 (cs := []) (fun _ h => nomatch h) (pts := [(61, [(0, .inr (some ([56], false))), (1, .inl (170, 255)), (2, .inl ((-2147483648), 2147483647)), (3, .inl ((-8388608), 8388607)), (4, .inl (0, 0))], [], [((0, 4), (1, 2500))], [], 0)]) (C := []) (W0 := []) (P0 := 5) (n := 40) (by decide +kernel)
/-- DimShelf$Tokens.startAt -/
theorem ak_k0_43 {SP : List Nat → aj_H → Prop} {tb : aj_T} (htb : ak_tbOK ak_T0 tb) (hc : ak_SPc ak_T0 SP) : ak_CT ak_T0 SP tb 1 43 [.inr (some ([60], false)), .inl ((-2147483648), 2147483647)] (some (.inl ((-2147483648), 2147483647))) ([], []) :=
  ak_meth_ok htb hc (k := 0) aj_m43_at aj_d43 (cs := []) (fun _ h => nomatch h) (pts := [(22, [(0, .inr (some ([60], false))), (1, .inl ((-2147483648), 2147483647))], [], [], [], 1), (23, [(0, .inr (some ([60], false))), (1, .inl ((-2147483648), 2147483647))], [.inl ((-2147483648), 2147483647)], [], [], 0)]) (C := []) (W0 := []) (P0 := 6) (n := 19) (by decide +kernel)
/-- DimShelf$Plan.fail -/
theorem ak_k0_44 {SP : List Nat → aj_H → Prop} {tb : aj_T} (htb : ak_tbOK ak_T0 tb) (hc : ak_SPc ak_T0 SP) : ak_CT ak_T0 SP tb 1 44 [.inr (some ([56], false)), .inl (1, 7), .inl ((-2147483648), 2147483647)] none ([], [(4, 5), (4, 6)]) :=
  ak_meth_ok htb hc (k := 0) aj_m44_at aj_d44 (cs := []) (fun _ h => nomatch h) (pts := [(31, [(0, .inr (some ([56], false))), (1, .inl (1, 7)), (2, .inl ((-2147483648), 2147483647))], [], [((0, 5), ((-2147483648), 2147483647))], [], 1), (41, [(0, .inr (some ([56], false))), (1, .inl (1, 7)), (2, .inl ((-2147483648), 2147483647))], [], [((0, 5), ((-2147483648), 2147483647)), ((0, 6), ((-2147483648), 2147483647))], [], 0)]) (C := []) (W0 := []) (P0 := 6) (n := 27) (by decide +kernel)
/-- DimShelf$Tokens.kindAt -/
theorem ak_k0_46 {SP : List Nat → aj_H → Prop} {tb : aj_T} (htb : ak_tbOK ak_T0 tb) (hc : ak_SPc ak_T0 SP) : ak_CT ak_T0 SP tb 1 46 [.inr (some ([60], false)), .inl ((-2147483648), 2147483647)] (some (.inl ((-2147483648), 2147483647))) ([], []) :=
  ak_meth_ok htb hc (k := 0) aj_m46_at aj_d46 (cs := []) (fun _ h => nomatch h) (pts := [(22, [(0, .inr (some ([60], false))), (1, .inl ((-2147483648), 2147483647))], [], [], [], 1), (23, [(0, .inr (some ([60], false))), (1, .inl ((-2147483648), 2147483647))], [.inl ((-2147483648), 2147483647)], [], [], 0)]) (C := []) (W0 := []) (P0 := 6) (n := 19) (by decide +kernel)
/-- DimShelf$Grammar.textRule -/
theorem ak_k0_48 {SP : List Nat → aj_H → Prop} {tb : aj_T} (htb : ak_tbOK ak_T0 tb) (hc : ak_SPc ak_T0 SP) : ak_CT ak_T0 SP tb 1 48 [.inl ((-2147483648), 2147483647)] (some (.inr (some ([1, 2, 3, 4, 5, 6], true)))) ([], []) :=
  ak_meth_ok htb hc (k := 0) aj_m48_at aj_d48 (cs := []) (fun _ h => nomatch h) (pts := []) (C := []) (W0 := []) (P0 := 4) (n := 21) (by decide +kernel)
/-- DimShelf$Grammar.tellRule -/
theorem ak_k0_49 {SP : List Nat → aj_H → Prop} {tb : aj_T} (htb : ak_tbOK ak_T0 tb) (hc : ak_SPc ak_T0 SP) : ak_CT ak_T0 SP tb 1 49 [.inl (131, 137), .inl ((-2147483648), 2147483647)] (some (.inr (some ([6, 7, 8, 9, 10, 11, 12, 13, 14, 15], true)))) ([], []) :=
  ak_meth_ok htb hc (k := 0) aj_m49_at aj_d49 (cs := []) (fun _ h => nomatch h) (pts := [(68, [(0, .inl (131, 137)), (1, .inl ((-2147483648), 2147483647))], [.inr (some ([7, 8], true))], [], [], 0), (93, [(0, .inl (131, 137)), (1, .inl ((-2147483648), 2147483647))], [.inr (some ([9, 10], true))], [], [], 1), (120, [(0, .inl (131, 137)), (1, .inl ((-2147483648), 2147483647))], [.inr (some ([6, 11, 12], false))], [], [], 2), (136, [(0, .inl (131, 137)), (1, .inl ((-2147483648), 2147483647))], [.inr (some ([6, 12], false))], [], [], 3), (152, [(0, .inl (131, 137)), (1, .inl ((-2147483648), 2147483647))], [.inr (some ([6, 13], false))], [], [], 4), (168, [(0, .inl (131, 137)), (1, .inl ((-2147483648), 2147483647))], [.inr (some ([6, 14], false))], [], [], 5), (184, [(0, .inl (131, 137)), (1, .inl ((-2147483648), 2147483647))], [.inr (some ([6, 15], false))], [], [], 6)]) (C := []) (W0 := []) (P0 := 11) (n := 73) (by decide +kernel)
/-- DimShelf$Shelf.setCell -/
theorem ak_k0_5 {SP : List Nat → aj_H → Prop} {tb : aj_T} (htb : ak_tbOK ak_T0 tb) (hc : ak_SPc ak_T0 SP) : ak_CT ak_T0 SP tb 1 5 [.inr (some ([59], false)), .inl (0, 1023), .inl (0, 7), .inl (0, 511)] none ([68], []) :=
  ak_meth_ok htb hc (k := 0) aj_m5_at aj_d5 (cs := []) (fun _ h => nomatch h) (pts := [(49, [(0, .inr (some ([59], false))), (1, .inl (0, 1023)), (2, .inl (0, 7)), (3, .inl (0, 511)), (4, .inl (0, 8191))], [], [], [], 0)]) (C := []) (W0 := []) (P0 := 5) (n := 34) (by decide +kernel)
/-- DimShelf$Grammar.relationRule -/
theorem ak_k0_51 {SP : List Nat → aj_H → Prop} {tb : aj_T} (htb : ak_tbOK ak_T0 tb) (hc : ak_SPc ak_T0 SP) : ak_CT ak_T0 SP tb 1 51 [.inl ((-2147483648), 2147483647)] (some (.inr (some ([23, 24, 25, 26], true)))) ([], []) :=
  ak_meth_ok htb hc (k := 0) aj_m51_at aj_d51 (cs := []) (fun _ h => nomatch h) (pts := []) (C := []) (W0 := []) (P0 := 4) (n := 17) (by decide +kernel)
/-- DimShelf$Grammar.stepRule -/
theorem ak_k0_53 {SP : List Nat → aj_H → Prop} {tb : aj_T} (htb : ak_tbOK ak_T0 tb) (hc : ak_SPc ak_T0 SP) : ak_CT ak_T0 SP tb 1 53 [.inl ((-2147483648), 2147483647)] (some (.inr (some ([6, 37, 38, 39, 40], false)))) ([], []) :=
  ak_meth_ok htb hc (k := 0) aj_m53_at aj_d53 (cs := []) (fun _ h => nomatch h) (pts := []) (C := []) (W0 := []) (P0 := 4) (n := 17) (by decide +kernel)
/-- DimShelf$Grammar.foldRule -/
theorem ak_k0_54 {SP : List Nat → aj_H → Prop} {tb : aj_T} (htb : ak_tbOK ak_T0 tb) (hc : ak_SPc ak_T0 SP) : ak_CT ak_T0 SP tb 1 54 [.inl ((-2147483648), 2147483647)] (some (.inr (some ([47, 48, 49, 50], true)))) ([], []) :=
  ak_meth_ok htb hc (k := 0) aj_m54_at aj_d54 (cs := []) (fun _ h => nomatch h) (pts := []) (C := []) (W0 := []) (P0 := 4) (n := 17) (by decide +kernel)
