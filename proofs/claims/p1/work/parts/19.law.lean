def aj_lawM : aj_M := (x, code, 4, some .boolean, 1, aj_lk15, "DimShelfLaw")
/-- the static arrays with the script, L long, behind them: as it is, and unknown -/
def aj_tb (L : Nat) (xs : Nat → Int32) : aj_T := aj_tbS ++ [(0, L, .inl xs)]
def aj_tbU (L : Nat) : aj_T := aj_tbS ++ [(7, L, .inl (fun _ => 0))]
def aj_callU (kn : List (Nat × Int32)) (L : Nat) : Nat → List Value → aj_H → List Int → Option aj_Y := aj_runsS kn 51 L aj_rc aj_cls (aj_tbU L) aj_mt aj_cuA 20
/-- the law up to its loop -/
def aj_s0 : Option (aj_V × List Value × aj_H × Nat × Nat) := aj_frmT [] 51 6 aj_rc aj_cls (aj_tbU 6) aj_lawM aj_cL false true (aj_callU [] 6) 18 100000 0 [(0, .ref 51)] [] [] 0 0
def aj_h0 : aj_H := match aj_s0 with
  | some q => q.2.2.1
  | none => []
set_option maxRecDepth 1000000 in
theorem aj_s0_a : aj_s0.map (fun q => (q.1, q.2.1, q.2.2.2.1)) = some ([(3, .int 0), (2, .ref 117), (1, .ref 52), (0, .ref 51)], [], 98) := by decide +kernel
def aj_k0 : Nat := match aj_s0 with
  | some q => q.2.2.2.2
  | none => 0
def aj_lv0 : aj_V := [(3, .int 0), (2, .ref 117), (1, .ref 52), (0, .ref 51)]
theorem aj_s0_e : aj_s0 = some (aj_lv0, [], aj_h0, 98, aj_k0) := by
  have h := aj_s0_a
  unfold aj_h0 aj_k0
  cases hs : aj_s0 with
  | none => rw [hs] at h; cases h
  | some q =>
    obtain ⟨q1, q2, q3, q4, q5⟩ := q
    rw [hs] at h
    simp only [Option.map_some, Option.some.injEq, Prod.mk.injEq] at h
    obtain ⟨rfl, rfl, rfl⟩ := h
    rfl
/-- the law from its loop on: what has to hold for it to answer 1 and make no cell more -/
def aj_run2 (kn : List (Nat × Int32)) (tp : List Int) : Option (List aj_OS) := match aj_frmS kn 51 6 aj_rc aj_cls (aj_tbU 6) aj_lawM aj_cL false true (aj_callU kn 6) 100000 18 aj_lv0 [] aj_h0 98 aj_k0 tp with
  | some (r, _, c1, s1, _, os) => if r = some (.int 1) ∧ c1 = 98 ∧ s1 ≤ 500000 then some os else none
  | none => none
def aj_chk (kn : List (Nat × Int32)) (tp : List Int) (os : List aj_OS) : Bool := match aj_run2 kn tp with
  | some os' => decide (os' = os)
  | none => false
theorem aj_chk_ok {kn : List (Nat × Int32)} {tp : List Int} {os : List aj_OS} (h : aj_chk kn tp os = true) : aj_run2 kn tp = some os := by
  unfold aj_chk at h
  split at h
  · rename_i os' h1
    rw [h1, of_decide_eq_true h]
  · cases h
