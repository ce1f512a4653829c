/-! THE CLASS'S WORKER: GROUPS of a WORLD, all its rows -/
def md_D (D0 : Nat → List Int32 → Bool) (w : Nat) (G : List (List Int32)) (w' : Nat) (x : List Int32) : Bool := if w' = w then decide (x ∈ G) else D0 w' x
section CX57
variable {X X' X0 X1 : fx_X} {v p p0 p1 p2 p3 p4 p5 p6 : Int32} {u : Unit} {sr r r' rs W n i i' j j' c w w' m k P wd a b : Nat} {val : md_V} {A B : List md_Row} {ix ps : List Nat} {fo fd : Int} {x z : List Int32} {C : List (List Int32)} {D0 : Nat → List Int32 → Bool} {F : Nat → List Int32} {G : List (List Int32)}
theorem md_D_put : (fun w' x => md_D D0 w G w' x || (w' == w && x == z)) = md_D D0 w (G ++ [z]) := by
  funext w' x
  unfold md_D
  by_cases s : w' = w
  · subst s
    rw [if_pos rfl, if_pos rfl]
    have e : (x == z) = decide (x = z) := by by_cases e : x = z <;> simp [e]
    simp [List.mem_append, e]
  · rw [if_neg s, if_neg s]
    have : (w' == w) = false := by rw [beq_eq_false_iff_ne]; exact s
    rw [this, Bool.false_and, Bool.or_false]
theorem md_D_in (h : z ∈ G) : md_D D0 w (G ++ [z]) = md_D D0 w G := by
  funext w' x
  unfold md_D
  by_cases s : w' = w
  · rw [if_pos s, if_pos s]
    have : (x ∈ G ++ [z]) ↔ x ∈ G := by
      rw [List.mem_append, List.mem_singleton]
      exact ⟨fun y => y.elim id (fun y => by rw [y]; exact h), Or.inl⟩
    exact decide_eq_decide.mpr this
  · rw [if_neg s, if_neg s]
theorem cx_128l {X0 : fx_X} (hs : sr = 54 ∨ sr = 66) (hrs : rs = 102 ∨ 150 ≤ rs) (hr : r = 102 ∨ 150 ≤ r) (hap : rs + 4 ≤ r ∨ r + 4 ≤ rs) (h : cx_GS X0 sr r W n wd val A ps ix) (hw : w < W) (h4 : p4.toInt = (w : Int)) {y5 : Int32} (h5 : y5.toInt = (ix.length : Int)) (hfo : (X0.1 96 2).toInt = fo) (hfd : (X0.1 96 3).toInt = fd) (hok : fo = 16 ∨ (0 ≤ fd ∧ fd < (wd : Int))) : ∀ (d j q : Nat) (y6 : Int32) (X : fx_X) (C : List (List Int32)), j + d = ix.length → y6.toInt = (j : Int) → cx_qf rs X0 X → cx_gi X rs W (ps.length + 1) C (md_D D0 w ((ix.take j).map (md_gv ps fo fd.toNat (md_fv val w A) ix))) → gxF_128 sr r rs p4 q 16 [y5, y6] [] [] X v X' → cx_qf rs X0 X' ∧ ((v.toInt = 0 ∧ ∃ (z : List Int32) (C' : List (List Int32)), z ∉ C' ∧ C'.length = 30 ∧ C'.Nodup ∧ ∀ x, x ∈ z :: C' → (∃ w', w' < W ∧ w' ≠ w ∧ D0 w' x = true) ∨ x ∈ ix.map (md_gv ps fo fd.toNat (md_fv val w A) ix)) ∨ (v.toInt ≠ 0 ∧ ∃ C', cx_gi X' rs W (ps.length + 1) C' (md_D D0 w (ix.map (md_gv ps fo fd.toNat (md_fv val w A) ix))))) := by
  have hW := h.1.1
  have hlA := h.2.2.2.2.2.2.2.2
  have hA30 := h.2.1.1
  have hp6 := h.2.2.2.1.2
  intro d
  induction d with
  | zero =>
    intro j q y6 X C hjd h6 hf hG g
    cases q with
    | zero => exact g.elim
    | succ q =>
      replace g := gxO_128_16 g
      unfold gxT_128_16 at g
      rw [if_neg (by omega)] at g
      obtain ⟨rfl, rfl⟩ := g
      rw [List.take_of_length_le (by omega)] at hG
      exact ⟨hf, Or.inr ⟨by decide, C, hG⟩⟩
  | succ d ih =>
    intro j q y6 X C hjd h6 hf hG g
    cases q with
    | zero => exact g.elim
    | succ q =>
      replace g := gxO_128_16 g
      unfold gxT_128_16 at g
      have hjl : j < ix.length := by omega
      have hjd' : j + 1 + d = ix.length := by omega
      have c6 : j ≤ 1000000 := by omega
      have hX := cx_GS_qf hs hrs hr hap h hf
      obtain ⟨i, hi⟩ : ∃ i, ix[j]? = some i := ⟨ix[j], List.getElem?_eq_getElem hjl⟩
      have htk : (ix.take (j + 1)).map (md_gv ps fo fd.toNat (md_fv val w A) ix) = (ix.take j).map (md_gv ps fo fd.toNat (md_fv val w A) ix) ++ [md_gv ps fo fd.toNat (md_fv val w A) ix i] := by
        rw [List.take_succ, hi, List.map_append]; rfl
      rw [if_pos (by omega), if_pos (by omega)] at g
      obtain ⟨w11, X10, r1, g⟩ := g
      obtain ⟨rfl, hfirst⟩ := cx_131 hX hw hi h6 h4 r1
      rcases hfirst with ⟨f1, f2⟩ | ⟨f1, l, b, f2, f3, f4⟩
      · rw [if_neg f1] at g
        obtain ⟨x14, e14, g⟩ := g
        have e96 := hX.2.2.2.1.1
        have h14 : x14.toInt = (ps.length : Int) := by
          have e5 : (Int32.ofNat 6 - Int32.ofInt 1).toInt = 5 := by decide
          have hn : ¬ (Int32.ofNat 6 - Int32.ofInt 1) < X.1 96 1 := fun y => by
            have := Int32.lt_iff_toInt_lt.mp y
            rw [e5, e96] at this
            omega
          rw [if_neg hn] at e14
          rw [e14]; exact e96
        obtain ⟨X1, q', k1, k2, w22, X21, r2, X24, e24, w26, X25, r3, g⟩ := cx_128k hs hrs hr hap hX hw hi h4 h6 h14 ps.length 0 q _ X (by omega) rfl ⟨rfl, fun _ _ _ => rfl⟩ (fun l v hl => absurd hl (Nat.not_lt_zero l)) g
        have hq1 : cx_qf rs X X1 := ⟨k1.1, fun q j z1 _ => k1.2 q j z1⟩
        have hX1 := cx_GS_qf hs hrs hr hap hX hq1
        obtain ⟨rfl, e22⟩ := cx_133 hX1 hw hi h6 h5 h4 (by rw [k1.2 _ _ (by decide), hf.2 _ _ (by decide) (by omega)]; exact hfo) (by rw [k1.2 _ _ (by decide), hf.2 _ _ (by decide) (by omega)]; exact hfd) hok f2 r2
        have hbuf : ∀ (c : Nat) (v : Int32), (md_gv ps fo fd.toNat (md_fv val w A) ix i)[c]? = some v → X24.1 99 c = v := fun c v hc => by
          have hkl : (md_key ps (md_fv val w A i)).length = ps.length := by unfold md_key; rw [List.length_map]
          unfold md_gv at hc
          rw [List.getElem?_append] at hc
          split at hc
          · rename_i hcl
            rw [e24, fx_rIk (by omega)]
            exact k2 c v hc
          · have e : c = ps.length := by
              have := (List.getElem?_eq_some_iff.mp hc).1
              have : c - (md_key ps (md_fv val w A i)).length < 1 := this
              omega
            subst e
            rw [hkl, Nat.sub_self] at hc
            cases hc
            rw [e24, fx_rIe, e22]
        have hq24 : cx_qf rs X X24 := ⟨by rw [e24]; exact k1.1, fun q j z1 z2 => by rw [e24, fx_rIn z1]; exact k1.2 q j z1⟩
        have hG24 : cx_gi X24 rs W (ps.length + 1) C (md_D D0 w ((ix.take j).map (md_gv ps fo fd.toNat (md_fv val w A) ix))) := by
          obtain ⟨⟨g1, g2, g3⟩, g4, g5, g6, g7, g8⟩ := hG
          have e : ∀ a b, a ≠ 99 → X24.1 a b = X.1 a b := fun a b z => by rw [e24, fx_rIn z]; exact k1.2 a b z
          refine ⟨⟨by rw [e _ _ (by omega)]; exact g1, by rw [e _ _ (by omega)]; exact g2, fun g x hx => ⟨(g3 g x hx).1, cx_Rt_e (g3 g x hx).2 (fun k => e _ _ (by omega)) (fun k => e _ _ (by omega))⟩⟩, g4, g5, g6, fun g x hx w hw => by rw [e _ _ (by omega)]; exact g7 g x hx w hw, fun g w a1 a2 a3 => by rw [e _ _ (by omega)]; exact g8 g w a1 a2 a3⟩
        rcases cx_gi_136 hrs hW hw md_gv_len (by omega) hbuf hG24 h4 r3 with ⟨b1, b2, b3, rfl⟩ | ⟨b1, b2⟩
        · rcases g with ⟨c1, rfl, rfl⟩ | ⟨c1, g⟩
          · refine ⟨⟨hq24.1.trans hf.1, fun q j z1 z2 => (hq24.2 q j z1 z2).trans (hf.2 q j z1 z2)⟩, Or.inl ⟨rfl, _, C, b2, b3, hG.2.2.1, fun x hx => ?_⟩⟩
            rcases List.mem_cons.mp hx with z | z
            · exact Or.inr (by rw [z]; exact List.mem_map.mpr ⟨i, List.mem_of_getElem? hi, rfl⟩)
            · obtain ⟨w', s1, s2⟩ := (hG.2.2.2.1 x).mp z
              unfold md_D at s2
              by_cases t : w' = w
              · rw [if_pos t, decide_eq_true_eq] at s2
                obtain ⟨i', s3, s4⟩ := List.mem_map.mp s2
                exact Or.inr (List.mem_map.mpr ⟨i', List.mem_of_mem_take s3, s4⟩)
              · rw [if_neg t] at s2
                exact Or.inl ⟨w', s1, t, s2⟩
          · exact absurd b1 c1
        · rcases g with ⟨c1, _, _⟩ | ⟨c1, w30, X29, r4, g⟩
          · omega
          · obtain ⟨C', d1, d2, d3⟩ := b2 w30 X29 r4
            rw [md_D_put, ← htk] at d2
            exact ih (j + 1) q' _ X29 C' hjd' (cx_inc h6 c6) ⟨d3.1.trans (hq24.1.trans hf.1), fun q j z1 z2 => (d3.2 q j z2).trans ((hq24.2 q j z1 z2).trans (hf.2 q j z1 z2))⟩ d2 g
      · rw [if_pos f1] at g
        obtain ⟨x17, rfl, g⟩ := g
        have hin : md_gv ps fo fd.toNat (md_fv val w A) ix i ∈ (ix.take j).map (md_gv ps fo fd.toNat (md_fv val w A) ix) := by
          refine List.mem_map.mpr ⟨b, ?_, md_gv_key f4⟩
          have := List.getElem?_eq_some_iff.mp f3
          obtain ⟨s1, s2⟩ := this
          refine List.mem_iff_getElem.mpr ⟨l, by rw [List.length_take]; omega, ?_⟩
          rw [List.getElem_take]; exact s2
        rw [← md_D_in hin, ← htk] at hG
        exact ih (j + 1) q _ X C hjd' (cx_inc h6 c6) hf hG g
end CX57
