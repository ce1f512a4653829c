def aj_ckD (b : ByteArray) (ct : List (Nat × Instr × Nat)) : Bool := ct.all fun q => decide (decode b q.1 = .ok q.2)
theorem aj_ckD_ok {b : ByteArray} {ct : List (Nat × Instr × Nat)} (h : aj_ckD b ct = true) : aj_ctOK ct b := fun q hq => of_decide_eq_true (List.all_eq_true.mp h q hq)
theorem aj_ckE {b : ByteArray} : aj_ctOK [] b := fun q hq => absurd hq List.not_mem_nil
set_option maxRecDepth 1000000 in
theorem aj_dkL : aj_ctOK aj_cL code := aj_ckD_ok (by decide +kernel)
