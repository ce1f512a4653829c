/-! STEPS BY HAND OVER LOCALS THAT ARE TOLD ONE BY ONE -/
section CWL
variable {T : ak_TT} {Φ : List Nat → Option Value → aj_H → Prop} {tb : aj_T} {d : Nat} {mm : aj_M} {con : ak_Con} {s : List Nat} {h : aj_H} {kc ks pc : Nat} {lv : aj_V} {st : List Value} {ct : List (Nat × Instr × Nat)} {j len : Nat} {ins : Instr}
theorem cw_l0 (hct : aj_ctOK ct mm.2.1) (hd : aj_ct ct pc = some (ins, len)) (hi : aj_step aj_rc aj_cls tb mm.2.2.2.2.2.1 mm.2.2.1 mm.2.2.2.1 (aj_isI mm) ins len pc lv st h = aj_load pc lv st h len j 0) {x : Int32} (hv : aj_lv lv j = some (.int x)) (kk : cw_W T Φ tb d mm con s h kc ks (pc + len) lv (.int x :: st)) : cw_W T Φ tb d mm con s h kc ks pc lv st := by
  refine cw_n hct hd ?_ kk
  rw [hi]
  unfold aj_load
  rw [hv]
  rfl
theorem cw_l1 (hct : aj_ctOK ct mm.2.1) (hd : aj_ct ct pc = some (ins, len)) (hi : aj_step aj_rc aj_cls tb mm.2.2.2.2.2.1 mm.2.2.1 mm.2.2.2.1 (aj_isI mm) ins len pc lv st h = aj_load pc lv st h len j 1) {x : Int64} (hv : aj_lv lv j = some (.long x)) (kk : cw_W T Φ tb d mm con s h kc ks (pc + len) lv (.long x :: st)) : cw_W T Φ tb d mm con s h kc ks pc lv st := by
  refine cw_n hct hd ?_ kk
  rw [hi]
  unfold aj_load
  rw [hv]
  rfl
theorem cw_l2 (hct : aj_ctOK ct mm.2.1) (hd : aj_ct ct pc = some (ins, len)) (hi : aj_step aj_rc aj_cls tb mm.2.2.2.2.2.1 mm.2.2.1 mm.2.2.2.1 (aj_isI mm) ins len pc lv st h = aj_load pc lv st h len j 2) {x : Nat} (hv : aj_lv lv j = some (.ref x)) (kk : cw_W T Φ tb d mm con s h kc ks (pc + len) lv (.ref x :: st)) : cw_W T Φ tb d mm con s h kc ks pc lv st := by
  refine cw_n hct hd ?_ kk
  rw [hi]
  unfold aj_load
  rw [hv]
  rfl
theorem cw_l3 (hct : aj_ctOK ct mm.2.1) (hd : aj_ct ct pc = some (ins, len)) (hi : aj_step aj_rc aj_cls tb mm.2.2.2.2.2.1 mm.2.2.1 mm.2.2.2.1 (aj_isI mm) ins len pc lv st h = aj_load pc lv st h len j 2) (hv : aj_lv lv j = some .null) (kk : cw_W T Φ tb d mm con s h kc ks (pc + len) lv (.null :: st)) : cw_W T Φ tb d mm con s h kc ks pc lv st := by
  refine cw_n hct hd ?_ kk
  rw [hi]
  unfold aj_load
  rw [hv]
  rfl
theorem cw_t0 (hct : aj_ctOK ct mm.2.1) (hd : aj_ct ct pc = some (ins, len)) (hj : j < mm.2.2.1) {x : Int32} (hi : aj_step aj_rc aj_cls tb mm.2.2.2.2.2.1 mm.2.2.1 mm.2.2.2.1 (aj_isI mm) ins len pc lv (.int x :: st) h = aj_store mm.2.2.1 pc lv (.int x :: st) h len j 0) (kk : cw_W T Φ tb d mm con s h kc ks (pc + len) (aj_set1 lv j (.int x)) st) : cw_W T Φ tb d mm con s h kc ks pc lv (.int x :: st) := by
  refine cw_n hct hd ?_ kk
  rw [hi]
  unfold aj_store
  dsimp only
  rw [if_pos ⟨rfl, hj⟩]
  rfl
theorem cw_t1 (hct : aj_ctOK ct mm.2.1) (hd : aj_ct ct pc = some (ins, len)) (hj : j + 1 < mm.2.2.1) {x : Int64} (hi : aj_step aj_rc aj_cls tb mm.2.2.2.2.2.1 mm.2.2.1 mm.2.2.2.1 (aj_isI mm) ins len pc lv (.long x :: st) h = aj_store mm.2.2.1 pc lv (.long x :: st) h len j 1) (kk : cw_W T Φ tb d mm con s h kc ks (pc + len) (aj_set2 lv j (.long x)) st) : cw_W T Φ tb d mm con s h kc ks pc lv (.long x :: st) := by
  refine cw_n hct hd ?_ kk
  rw [hi]
  unfold aj_store
  dsimp only
  rw [if_pos ⟨rfl, hj⟩]
  rfl
theorem cw_t2 (hct : aj_ctOK ct mm.2.1) (hd : aj_ct ct pc = some (ins, len)) (hj : j < mm.2.2.1) {x : Nat} (hi : aj_step aj_rc aj_cls tb mm.2.2.2.2.2.1 mm.2.2.1 mm.2.2.2.1 (aj_isI mm) ins len pc lv (.ref x :: st) h = aj_store mm.2.2.1 pc lv (.ref x :: st) h len j 2) (kk : cw_W T Φ tb d mm con s h kc ks (pc + len) (aj_set1 lv j (.ref x)) st) : cw_W T Φ tb d mm con s h kc ks pc lv (.ref x :: st) := by
  refine cw_n hct hd ?_ kk
  rw [hi]
  unfold aj_store
  dsimp only
  rw [if_pos ⟨rfl, hj⟩]
  rfl
theorem cw_t3 (hct : aj_ctOK ct mm.2.1) (hd : aj_ct ct pc = some (ins, len)) (hi : aj_step aj_rc aj_cls tb mm.2.2.2.2.2.1 mm.2.2.1 mm.2.2.2.1 (aj_isI mm) ins len pc lv (.null :: st) h = aj_store mm.2.2.1 pc lv (.null :: st) h len j 2) (hj : j < mm.2.2.1) (kk : cw_W T Φ tb d mm con s h kc ks (pc + len) (aj_set1 lv j .null) st) : cw_W T Φ tb d mm con s h kc ks pc lv (.null :: st) := by
  refine cw_n hct hd ?_ kk
  rw [hi]
  unfold aj_store
  dsimp only
  rw [if_pos ⟨rfl, hj⟩]
  rfl
/-- the others stay -/
theorem cw_e1 {l : aj_V} {v w : Value} {k : Nat} (e : l = aj_set1 lv k v) (hx : aj_lv lv j = some w) (hj : j ≠ k) (hc : j + 1 ≠ k ∨ w.category = 1) : aj_lv l j = some w := by
  rw [e]
  refine ak_set1_ne hx hj (fun z => ?_)
  rcases hc with q | q
  · exact absurd z q
  · rw [q]
    decide
theorem cw_e2 {l : aj_V} {v w : Value} {k : Nat} (e : l = aj_set2 lv k v) (hx : aj_lv lv j = some w) (hj : j ≠ k) (hj1 : j ≠ k + 1) (hc : j + 1 ≠ k ∨ w.category = 1) : aj_lv l j = some w := by
  rw [e]
  refine ak_set2_ne hx hj hj1 (fun z => ?_)
  rcases hc with q | q
  · exact absurd z q
  · rw [q]
    decide
/-- of what the checker knows of locals -/
theorem cw_Lc {T : ak_TT} {old : Nat → Int} {x : ak_A} {o : Option Int} {L : ak_L} (h0 : ak_gL s old lv ((j, x, o) :: L)) : (∃ v, aj_lv lv j = some v ∧ ak_gam s x v) ∧ ak_gL s old lv L := by
  refine ⟨?_, fun q hq => h0 q (List.mem_cons_of_mem _ hq)⟩
  obtain ⟨v, k1, k2, -⟩ := h0 (j, x, o) (List.mem_cons_self)
  exact ⟨v, k1, k2⟩
end CWL
theorem cw_wds_sf {h : aj_H} {i k : Nat} {v : Value} (hW : cw_wds (cw_o h)) : cw_wds (cw_o (cw_sf h i k v)) := by
  obtain ⟨f, h1, h2⟩ := hW
  exact ⟨f, (cw_oa_A (i := 29) (by decide)).mpr (cw_sf_A ((cw_oa_A (h := h) (i := 29) (by decide)).mp h1)), h2⟩
theorem cw_incw {T : ak_TT} {Φ : List Nat → Option Value → aj_H → Prop} {tb : aj_T} {d : Nat} {mm : aj_M} {con : ak_Con} {s : List Nat} {h : aj_H} {kc ks pc : Nat} {lv : aj_V} {st : List Value} {ct : List (Nat × Instr × Nat)} (hct : aj_ctOK ct mm.2.1) {j : Nat} {n : Int} (hd : aj_ct ct pc = some (.iinc j n, 3)) {x : Int32} (hx : aj_lv lv j = some (.int x)) (hj : j < mm.2.2.1) (kk : ∀ z : Int32, z = x + Int32.ofInt n → cw_W T Φ tb d mm con s h kc ks (pc + 3) (aj_set1 lv j (.int z)) st) : cw_W T Φ tb d mm con s h kc ks pc lv st := by
  refine cw_n hct hd ?_ (kk (x + Int32.ofInt n) rfl)
  unfold aj_step
  dsimp only
  rw [hx]
  dsimp only
  rw [if_pos ⟨rfl, hj⟩]
  rfl
