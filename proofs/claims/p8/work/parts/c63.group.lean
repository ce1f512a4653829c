/-! THE CLASS'S WORKER: GROUPS, all but their order -/
section CX63
variable {X X' X0 X1 : fx_X} {v p p0 p1 p2 p3 p4 p5 p6 : Int32} {u : Unit} {sr r r' rs W n i i' j j' c l w w' m k P wd a b : Nat} {val : md_V} {A B : List md_Row} {ps : List Nat} {fo fd : Int}
theorem cx_127 (hs : sr = 54 ∨ sr = 66) (hrs : rs = 102 ∨ 150 ≤ rs) (hr : r = 102 ∨ 150 ≤ r) (hap : rs + 4 ≤ r ∨ r + 4 ≤ rs) (hce : cx_ce X sr W n val) (h13 : (X.1 sr 13).toInt = (W : Int)) (hA : md_okA n wd A) (hR : cx_Rr X r W A) (hw3 : (X.1 r 3).toInt = (wd : Int)) (h961 : (X.1 96 1).toInt = (ps.length : Int)) (h6 : ps.length < 6) (h97 : ∀ (i c : Nat), ps[i]? = some c → (X.1 97 i).toInt = (c : Int)) (hlt : ∀ c, c ∈ ps → c < wd) (hfo : (X.1 96 2).toInt = fo) (hfd : (X.1 96 3).toInt = fd) (hok : fo = 16 ∨ (0 ≤ fd ∧ fd < (wd : Int))) (g : gx_127_2 sr r rs X v X') : (v.toInt = 0 ∧ 30 < (md_grs val W ps fo fd.toNat A).length ∧ cx_qg rs X X') ∨ (v.toInt = 1 ∧ ∃ (u : Unit) (X1 : fx_X) (C : List (List Int32)), cx_qg rs X X1 ∧ cx_gi X1 rs W (ps.length + 1) C (md_DA val ps fo fd.toNat A W) ∧ gx_138 sr rs X1 u X') := by
  obtain ⟨q, w3, X2, r1, g⟩ := g
  have hi := cx_inc h961 (by omega)
  have e6 : ((Int8.ofInt 6).toInt32).toInt = 6 := by decide
  have hn : ¬ ((Int8.ofInt 6).toInt32) < X.1 96 1 + Int32.ofInt 1 := fun y => by
    have := Int32.lt_iff_toInt_lt.mp y
    rw [e6, hi] at this
    omega
  rw [if_neg hn] at r1
  obtain ⟨a1, a2, a3, a4⟩ := cx_116 hi r1
  have hW := hce.1
  have hq : cx_qg rs X X2 := ⟨a4.1, fun q j _ _ z => a4.2 q j z⟩
  have hR2 : cx_Rr X2 r W A := cx_Rr_rf hR a4 (by omega)
  have hG : cx_gi X2 rs W (ps.length + 1) [] (md_DA val ps fo fd.toNat A 0) := by
    refine ⟨⟨a2, a1, (fun g x hx => by cases hx)⟩, Nat.zero_le _, List.nodup_nil, fun x => ⟨(fun h => by cases h), fun h => ?_⟩, (fun g x hx => by cases hx), fun g w _ _ hw => by rw [a3 w (Nat.lt_of_lt_of_le hw hW)]; exact fx_ib_0⟩
    obtain ⟨w, _, h2⟩ := h
    unfold md_DA at h2
    rw [decide_eq_false (Nat.not_lt_zero w), Bool.false_and] at h2
    cases h2
  rcases cx_127l hs hrs hr hap (cx_ce_rf hce a4 hs hrs) (by rw [a4.2 _ _ (by omega)]; exact h13) hA hR2 (by rw [a4.2 _ _ (by omega)]; exact hw3) (by rw [a4.2 _ _ (by omega)]; exact h961) h6 (fun i c h => by rw [a4.2 _ _ (by omega)]; exact h97 i c h) hlt (by rw [a4.2 _ _ (by omega)]; exact hfo) (by rw [a4.2 _ _ (by omega)]; exact hfd) hok W 0 q _ X2 [] (by omega) rfl ⟨rfl, fun _ _ _ _ _ => rfl⟩ hG g with ⟨b1, b2, b3⟩ | ⟨b1, u, X1, C, b2, b3, b4⟩
  · exact Or.inl ⟨b1, b2, ⟨b3.1.trans hq.1, fun q j z1 z2 z3 => (b3.2 q j z1 z2 z3).trans (hq.2 q j z1 z2 z3)⟩⟩
  · exact Or.inr ⟨b1, u, X1, C, ⟨b2.1.trans hq.1, fun q j z1 z2 z3 => (b2.2 q j z1 z2 z3).trans (hq.2 q j z1 z2 z3)⟩, b3, b4⟩
end CX63
