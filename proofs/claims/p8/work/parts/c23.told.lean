/-! THE CLASS'S CHECKER: UNKNOWNS told; a TABLE more, a COLUMN more -/
def cx_ws (sr r : Nat) : Prop := r = sr + 1 ∨ r = sr + 2 ∨ r = sr + 3 ∨ r = sr + 9 ∨ r = sr + 10 ∨ r = sr + 11
/-- the shelf alone changes -/
def cx_fs (sr : Nat) (X X' : fx_X) : Prop :=
  (∀ r k, ¬ cx_ws sr r → (r = sr → k ≠ 11 ∧ k ≠ 12 ∧ k ≠ 13) → (∀ t, t < 10 → X.2.2.1 (sr + 8) t ≠ some r) → r < X.2.2.2.2 → X'.1 r k = X.1 r k) ∧
  (∀ r k, ¬ cx_ws sr r → X'.2.1 r k = X.2.1 r k) ∧
  (∀ r k, r ≠ sr + 8 → r < X.2.2.2.2 → X'.2.2.1 r k = X.2.2.1 r k) ∧
  (∀ t r, t < 10 → X.2.2.1 (sr + 8) t = some r → X'.2.2.1 (sr + 8) t = some r) ∧ (∀ t r, t < 10 → X'.2.2.1 (sr + 8) t = some r → X.2.2.1 (sr + 8) t = some r ∨ X.2.2.2.2 ≤ r) ∧ X.2.2.2.2 ≤ X'.2.2.2.2 ∧ (cx_O X → cx_O X')
section CX23
variable {X X' X1 X2 : fx_X} {T : md_T} {v p p0 p1 p2 : Int32} {w q : Int64} {u : Unit} {sr i k d n near lead : Nat} {U : md_U} {cu cu' : Option (Int64 × List Int32)} {TB TB' : md_TB} {rw rw' : Int × Int} {sk sk' : List (List Int64)} {pk pk' cs : List Int64} {fr fr' : Int64} {hz : Prop} {cn : Option Int} {a : Int} {s s' : md_CS} {vs : List Int32} {nm : Int64} {b : Bool}
theorem cx_fs_rf : cx_fs sr X X := ⟨fun _ _ _ _ _ _ => rfl, fun _ _ _ => rfl, fun _ _ _ _ => rfl, fun _ _ _ h => h, fun _ _ _ h => Or.inl h, Nat.le_refl _, id⟩
theorem cx_fs_tr (h1 : cx_fs sr X X1) (h2 : cx_fs sr X1 X2) : cx_fs sr X X2 := by
  obtain ⟨a1, a2, a3, a4, a5, a6, a7⟩ := h1
  obtain ⟨b1, b2, b3, b4, b5, b6, b7⟩ := h2
  refine ⟨fun r k c1 c2 c9 c10 => ?_, fun r k c1 => (b2 r k c1).trans (a2 r k c1), fun r k c1 c2 => (b3 r k c1 (by omega)).trans (a3 r k c1 c2), fun t r ht h => b4 t r ht (a4 t r ht h), fun t r ht h => ?_, by omega, fun z => b7 (a7 z)⟩
  · rw [b1 r k c1 c2 (fun t ht z => ?_) (by omega), a1 r k c1 c2 c9 c10]
    rcases a5 t r ht z with y | y
    · exact c9 t ht y
    · omega
  · rcases b5 t r ht h with y | y
    · exact a5 t r ht y
    · exact Or.inr (by omega)
theorem cx_fs_fc (h : cx_fs sr X X') : cx_fc sr X X' := by
  obtain ⟨a1, a2, a3, a4, a5, a6, a7⟩ := h
  refine ⟨fun r k c1 c9 c10 => a1 r k (fun z => c1 (Or.inl (by unfold cx_ws at z; unfold cx_wa; omega))) (fun z => ⟨fun y => c1 (Or.inr (Or.inr ⟨z, by omega⟩)), fun y => c1 (Or.inr (Or.inr ⟨z, by omega⟩)), fun y => c1 (Or.inr (Or.inr ⟨z, by omega⟩))⟩) c9 c10, fun r k c1 => a2 r k (fun z => c1 (by unfold cx_ws at z; unfold cx_wa; omega)), fun r k c1 c2 _ => a3 r k c1 c2, a4, a5, a6, a7⟩
/-- the checker's own is not touched -/
theorem cx_fs_co (hO : cx_O X) (hs : sr = 54 ∨ sr = 66) (h : cx_fs sr X X') : (∀ k, X'.1 91 k = X.1 91 k) ∧ (∀ k, X'.1 93 k = X.1 93 k) ∧ (∀ k, X'.1 86 k = X.1 86 k) ∧ (∀ k, X'.1 82 k = X.1 82 k) ∧ (∀ k, X'.2.1 91 k = X.2.1 91 k) ∧ (∀ k, X'.2.1 92 k = X.2.1 92 k) ∧ (∀ k, X'.2.1 94 k = X.2.1 94 k) ∧ X'.2.2.1 91 2 = X.2.2.1 91 2 := by
  obtain ⟨a1, a2, a3, a4, a5, a6, -⟩ := h
  have hn := hO.1
  have ow : ∀ r t, r < 100 → t < 10 → X.2.2.1 (sr + 8) t ≠ some r := fun r t hr ht z => by
    have := (hO.2.1 (sr + 8, t) r (cx_slot hs ht) z).1
    omega
  refine ⟨fun k => a1 91 k (by unfold cx_ws; omega) (by omega) (fun t ht => ow _ t (by decide) ht) (by omega), fun k => a1 93 k (by unfold cx_ws; omega) (by omega) (fun t ht => ow _ t (by decide) ht) (by omega), fun k => a1 86 k (by unfold cx_ws; omega) (by omega) (fun t ht => ow _ t (by decide) ht) (by omega), fun k => a1 82 k (by unfold cx_ws; omega) (by omega) (fun t ht => ow _ t (by decide) ht) (by omega), fun k => a2 91 k (by unfold cx_ws; omega), fun k => a2 92 k (by unfold cx_ws; omega), fun k => a2 94 k (by unfold cx_ws; omega), a3 91 2 (by omega) (by omega)⟩
/-- a TABLE or a COLUMN more: the rest of the state -/
theorem cx_tw (hC : cx_CS X sr hz (U, cu, TB, rw, sk, pk, fr)) (h : cx_fs sr X X') (hi : ∀ k, X'.1 (sr + 2) k = X.1 (sr + 2) k ∧ X'.1 (sr + 3) k = X.1 (sr + 3) k ∧ X'.2.1 (sr + 1) k = X.2.1 (sr + 1) k) (h11 : X'.1 sr 11 = X.1 sr 11) (h13 : X'.1 sr 13 = X.1 sr 13) (hg : md_gd (U, cu, TB', rw', sk, pk, fr)) (hT : cx_TB X' sr hz TB') (hO : cx_O X') : cx_CS X' sr hz (U, cu, TB', rw', sk, pk, fr) := by
  obtain ⟨g0, g1, g2, g3, g4, g5, g6, g7, g8, g9⟩ := hC
  obtain ⟨f1, f2, f3, f4, f5, f6, f7, f8⟩ := cx_fs_co g7 g9 h
  obtain ⟨c1, c2⟩ := cx_co f1 f2 (f5 8) f6 f7
  have hv : ∀ u vs, cx_vs X sr u vs → cx_vs X' sr u vs := fun u vs hv => ⟨by rw [(hi u).1]; exact hv.1, fun i v hx => by rw [(hi _).2.1]; exact hv.2 i v hx⟩
  exact ⟨hg, ⟨by rw [h11]; exact g1.1, by rw [h13]; exact g1.2.1, fun u x hx => ⟨by rw [(hi u).2.2]; exact (g1.2.2 u x hx).1, hv _ _ (g1.2.2 u x hx).2⟩⟩, fun x hx => ⟨by rw [(hi _).2.2]; exact (g2 x hx).1, hv _ _ (g2 x hx).2⟩, hT, ⟨by rw [f1]; exact g4.1, c1 _ g4.2⟩, c2 _ g5, by rw [f5]; exact g6, hO, by rw [f8]; exact g8, g9⟩
/-- a COLUMN more of the latest TABLE -/
theorem cx_93l (hs : sr = 54 ∨ sr = 66) {r : Nat} {y3 : Int32} (hn : n < 10) (h3 : y3.toInt = (n : Int)) (hr : r = 102 ∨ 150 ≤ r) (hw : (X.1 r 3).toInt = (cs.length : Int)) (hc : ∀ c m, cs[c]? = some m → X.2.1 (sr + 10) (6 * n + c) = m) (h6 : cs.length < 6) : ∀ (m k : Nat) (y5 : Int32), y5.toInt = (k : Int) → k ≤ cs.length → gxF_93 sr w m 34 [y3, y5] [] [r] X v X' → (w ∈ cs.drop k ∧ v.toInt = 0 ∧ X' = X) ∨ (w ∉ cs.drop k ∧ v.toInt = 1 ∧ X' = fx_wI (fx_wL X (sr + 10) (6 * n + cs.length) w) r 3 (X.1 r 3 + Int32.ofInt 1)) := by
  intro m
  induction m with
  | zero => intro k y5 _ _ g; exact g.elim
  | succ m ih =>
    intro k y5 hk hkl g
    replace g := gxO_93_34 g
    unfold gxT_93_34 at g
    by_cases z : k < cs.length
    · rw [if_pos (by omega)] at g
      obtain ⟨w20, X19, r1, g⟩ := g
      obtain ⟨x, hx⟩ : ∃ x, cs[k]? = some x := ⟨cs[k], List.getElem?_eq_getElem z⟩
      obtain ⟨rfl, rfl⟩ := cx_66 (x := (w, false, cs)) hc hn (by show cs.length ≤ 6; omega) h3 hk hx r1
      rw [md_drop hx]
      rcases fy_ifd g with ⟨c, gh⟩ | ⟨c, gh⟩
      · exact Or.inl ⟨by rw [c]; exact List.mem_cons_self, by rw [gh.1]; rfl, gh.2⟩
      · obtain ⟨x22, rfl, gh⟩ := gh
        rcases ih (k + 1) _ (cx_inc hk (by omega)) (by omega) gh with ⟨a1, a2⟩ | ⟨a1, a2⟩
        · exact Or.inl ⟨List.mem_cons_of_mem _ a1, a2⟩
        · refine Or.inr ⟨fun z => ?_, a2⟩
          rcases List.mem_cons.mp z with z | z
          · exact c z.symm
          · exact a1 z
    · have e : k = cs.length := by omega
      rw [if_neg (by omega)] at g
      obtain ⟨x11, rfl, g⟩ := g
      have e6 := cx_6 h3 hw (by omega) (by omega)
      rw [if_pos (by omega), fx_in e6] at g
      obtain ⟨-, X17, rfl, X18, rfl, rfl, rfl⟩ := g
      refine Or.inr ⟨?_, rfl, by rw [fx_rL1]⟩
      rw [e, List.drop_length]; exact List.not_mem_nil
theorem cx_93 (hs : sr = 54 ∨ sr = 66) (hO : cx_O X) (hT : cx_TB X sr hz (TB ++ [(nm, b, cs)])) (hl : TB.length < 10) (hc6 : cs.length ≤ 6) (ha6 : ∀ x, x ∈ TB → x.2.2.length ≤ 6) (g : gx_93 sr w X v X') : ((6 ≤ cs.length ∨ w ∈ cs) ∧ v.toInt = 0 ∧ X' = X) ∨ (¬ (6 ≤ cs.length ∨ w ∈ cs) ∧ v.toInt = 1 ∧ cx_TB X' sr hz (TB ++ [(nm, b, cs ++ [w])]) ∧ cx_O X' ∧ cx_fs sr X X' ∧ (∀ k, X'.1 (sr + 2) k = X.1 (sr + 2) k ∧ X'.1 (sr + 3) k = X.1 (sr + 3) k ∧ X'.2.1 (sr + 1) k = X.2.1 (sr + 1) k) ∧ X'.1 sr = X.1 sr) := by
  obtain ⟨m, x2, rfl, w5, X4, r1, g⟩ := g
  have hlen : (TB ++ [(nm, b, cs)]).length = TB.length + 1 := by rw [List.length_append]; rfl
  have hn1 : (X.1 sr 12).toInt = ((TB.length + 1 : Nat) : Int) := by rw [← hlen]; exact hT.1
  have hd := cx_dec hn1 (by omega)
  obtain ⟨rfl, r⟩ := cx_63 hT (by omega) r1
  have hlast : (TB ++ [(nm, b, cs)])[TB.length]? = some (nm, b, cs) := by rw [List.getElem?_append_right (Nat.le_refl _), Nat.sub_self]; rfl
  rcases r with ⟨z, -⟩ | ⟨z, -⟩ | ⟨t, x, rf, h1, h2, h3, h4, h5⟩
  · omega
  · omega
  · have ht : t = TB.length := by omega
    subst ht
    rw [hlast] at h2
    cases h2
    rcases g with ⟨z, -⟩ | ⟨rf', e2, g⟩
    · rw [h3] at z; cases z
    · rw [h3] at e2
      cases e2
      have hr := (hO.2.1 (sr + 8, TB.length) rf (cx_slot hs hl) h4).1
      have hrn := (hO.2.1 (sr + 8, TB.length) rf (cx_slot hs hl) h4).2
      obtain ⟨_, _, _, _, _, _, hcn⟩ := hT.2 TB.length _ hlast
      rcases fy_ifd g with ⟨c, gh⟩ | ⟨c, gh⟩
      · have h5' : (X.1 rf 3).toInt = (cs.length : Int) := h5
        rcases cx_93l hs hl hd hr h5' hcn (by omega) m 0 _ rfl (Nat.zero_le _) gh with ⟨a1, a2, a3⟩ | ⟨a1, a2, a3⟩
        · exact Or.inl ⟨Or.inr a1, a2, a3⟩
        · have hnm : ¬ (6 ≤ cs.length ∨ w ∈ cs) := fun z => by
            rcases z with z | z
            · omega
            · exact a1 z
          have i1 : ∀ r k, r ≠ rf → X'.1 r k = X.1 r k := fun r k hr => by rw [a3, fx_rIn hr, fx_rL1]
          have l1 : ∀ r k, r ≠ sr + 10 → X'.2.1 r k = X.2.1 r k := fun r k hr => by rw [a3]; show (fx_wL X (sr + 10) _ w).2.1 r k = _; rw [fx_rLn hr]
          have r1 : X'.2.2 = X.2.2 := by rw [a3]; rfl
          have w3 : (X'.1 rf 3).toInt = ((cs.length + 1 : Nat) : Int) := by rw [a3, fx_rIe, cx_inc h5' (by omega)]
          have w4 : X'.1 rf 4 = X.1 rf 4 := by rw [a3, fx_rIk (by decide), fx_rL1]
          have l2 : ∀ k, X'.2.1 (sr + 10) k = if k = 6 * TB.length + cs.length then w else X.2.1 (sr + 10) k := fun k => by
            rw [a3]; show (fx_wL X (sr + 10) _ w).2.1 (sr + 10) k = _
            by_cases y : k = 6 * TB.length + cs.length
            · rw [if_pos y, y, fx_rLe]
            · rw [if_neg y, fx_rLk y]
          refine Or.inr ⟨hnm, a2, ⟨?_, fun t x hx => ?_⟩, by unfold cx_O; rw [r1]; exact hO, ⟨fun r k c1 c2 c9 c10 => i1 r k (fun z => c9 TB.length hl (by rw [z]; exact h4)), fun r k c1 => l1 r k (fun z => c1 (by unfold cx_ws; omega)), fun r k _ _ => by rw [r1], fun t r _ h => by rw [r1]; exact h, fun t r _ h => by rw [r1] at h; exact Or.inl h, by rw [r1]; exact Nat.le_refl _, fun z => by unfold cx_O; rw [r1]; exact z⟩, fun k => ⟨i1 _ _ (by omega), i1 _ _ (by omega), l1 _ _ (by omega)⟩, funext fun k => i1 _ _ (by omega)⟩
          · rw [i1 sr 12 (by omega), hn1, List.length_append]; rfl
          · rw [List.getElem?_append] at hx
            split at hx
            · rename_i ht
              have hx' : (TB ++ [(nm, b, cs)])[t]? = some x := by rw [List.getElem?_append_left ht]; exact hx
              obtain ⟨b1, b2, r', b3, b4, b5, b6⟩ := hT.2 t x hx'
              have hne : r' ≠ rf := by
                rcases hO.2.2 (sr + 8, t) (sr + 8, TB.length) r' rf (cx_slot hs (by omega)) (cx_slot hs hl) b3 h4 with z | z | z
                · have := (Prod.mk.inj z).2; omega
                · omega
                · omega
              have hr' := (hO.2.1 (sr + 8, t) r' (cx_slot hs (by omega)) b3).1
              refine ⟨by rw [l1 _ _ (by omega)]; exact b1, by rw [i1 _ _ (by omega)]; exact b2, r', by rw [r1]; exact b3, by rw [i1 _ _ hne]; exact b4, fun z => by rw [i1 _ _ hne]; exact b5 z, fun c' m' hm => ?_⟩
              rw [l2]
              have hx6 := ha6 x (List.mem_of_getElem? hx)
              have := (List.getElem?_eq_some_iff.mp hm).1
              rw [if_neg (by omega)]
              exact b6 c' m' hm
            · rename_i ht
              have e1 : t = TB.length := by
                have := (List.getElem?_eq_some_iff.mp hx).1
                have : t - TB.length < 1 := this
                omega
              subst e1
              rw [Nat.sub_self] at hx
              cases hx
              obtain ⟨b1, b2, r', b3, b4, b5, b6⟩ := hT.2 TB.length _ hlast
              rw [h4] at b3
              cases b3
              refine ⟨by rw [l1 _ _ (by omega)]; exact b1, by rw [i1 _ _ (by omega)]; exact b2, rf, by rw [r1]; exact h4, by rw [w3, List.length_append]; rfl, fun z => by rw [w4]; exact b5 z, fun c' m' hm => ?_⟩
              rw [l2]
              have hm0 : (cs ++ [w])[c']? = some m' := hm
              rw [List.getElem?_append] at hm0
              split at hm0
              · rw [if_neg (by omega)]; exact b6 c' m' hm0
              · have e1 : c' = cs.length := by
                  have := (List.getElem?_eq_some_iff.mp hm0).1
                  have : c' - cs.length < 1 := this
                  omega
                subst e1
                rw [Nat.sub_self] at hm0
                cases hm0
                rw [if_pos rfl]
      · exact Or.inl ⟨Or.inl (by have h5' : (X.1 rf 3).toInt = (cs.length : Int) := h5; omega), by rw [gh.1]; rfl, gh.2⟩
/-- a TABLE more: what is written -/
theorem cx_92 (hs : sr = 54 ∨ sr = 66) (hO : cx_O X) (hn : (X.1 sr 12).toInt = (n : Int)) (h10 : n < 10) (hb : p2 = Int32.ofInt 0 ∧ b = false ∨ p2 = Int32.ofInt 1 ∧ b = true) (g : gx_92 sr w p2 X v X') : v.toInt = (n : Int) ∧ ∃ r, X'.2.2.1 (sr + 8) n = some r ∧ (∀ r' k, r' ≠ r → r' ≠ sr + 11 → r' ≠ sr → X'.1 r' k = X.1 r' k) ∧ (X'.1 r 3).toInt = 0 ∧ (X'.1 r 4).toInt = 0 ∧ (∀ k, k ≠ n → X'.1 (sr + 11) k = X.1 (sr + 11) k) ∧ (X'.1 (sr + 11) n).toInt = (if b = true then 1 else 0) ∧ (∀ k, k ≠ 12 → X'.1 sr k = X.1 sr k) ∧ (X'.1 sr 12).toInt = ((n + 1 : Nat) : Int) ∧ (∀ r' k, r' ≠ sr + 9 → X'.2.1 r' k = X.2.1 r' k) ∧ (∀ k, X'.2.1 (sr + 9) k = if k = n then w else X.2.1 (sr + 9) k) ∧ ((X.2.2.1 (sr + 8) n = some r ∧ X'.2.2 = X.2.2) ∨ (X.2.2.1 (sr + 8) n = none ∧ r = X.2.2.2.2 ∧ X'.2.2.2.2 = X.2.2.2.2 + 4 ∧ (∀ r' k, r' ≠ r → ¬ (r' = sr + 8 ∧ k = n) → X'.2.2.1 r' k = X.2.2.1 r' k))) := by
  have hO1 := hO.1
  obtain ⟨x2, rfl, g⟩ := g
  rw [if_pos (by omega), if_pos (by omega), if_pos (by omega), fx_in hn] at g
  obtain ⟨-, X12, rfl, -, X15, e15, -, g⟩ := g
  have r15 : X15.2.2 = X.2.2 := by rw [e15]; rfl
  have i15 : ∀ r' k, r' ≠ sr + 11 → X15.1 r' k = X.1 r' k := fun r' k h => by rw [e15, fx_rIn h, fx_rL1]
  have nar : ((X15.1 (sr + 11) n).toInt = (if b = true then 1 else 0)) := by
    rw [e15, fx_rIe]
    rcases hb with ⟨rfl, rfl⟩ | ⟨rfl, rfl⟩ <;> decide
  have n15 : ∀ k, k ≠ n → X15.1 (sr + 11) k = X.1 (sr + 11) k := fun k h => by rw [e15, fx_rIk h, fx_rL1]
  have l15 : ∀ r' k, r' ≠ sr + 9 → X15.2.1 r' k = X.2.1 r' k := fun r' k h => by rw [e15]; show (fx_wL X (sr + 9) n w).2.1 r' k = _; rw [fx_rLn h]
  have m15 : ∀ k, X15.2.1 (sr + 9) k = if k = n then w else X.2.1 (sr + 9) k := fun k => by
    rw [e15]; show (fx_wL X (sr + 9) n w).2.1 (sr + 9) k = _
    by_cases y : k = n
    · rw [if_pos y, y, fx_rLe]
    · rw [if_neg y, fx_rLk y]
  -- the end, alike in both
  have fin : ∀ (Z : fx_X) (r : Nat), r ≠ sr → r ≠ sr + 11 → Z.1 = X15.1 → Z.2.1 = X15.2.1 → Z.2.2.1 (sr + 8) n = some r → v = X.1 sr 12 → X' = fx_wI (fx_wI (fx_wI Z r 3 (Int32.ofInt 0)) r 4 (Int32.ofInt 0)) sr 12 ((fx_wI (fx_wI Z r 3 (Int32.ofInt 0)) r 4 (Int32.ofInt 0)).1 sr 12 + Int32.ofInt 1) → ((X.2.2.1 (sr + 8) n = some r ∧ Z.2.2 = X.2.2) ∨ (X.2.2.1 (sr + 8) n = none ∧ r = X.2.2.2.2 ∧ Z.2.2.2.2 = X.2.2.2.2 + 4 ∧ (∀ r' k, r' ≠ r → ¬ (r' = sr + 8 ∧ k = n) → Z.2.2.1 r' k = X.2.2.1 r' k))) → v.toInt = (n : Int) ∧ ∃ r, X'.2.2.1 (sr + 8) n = some r ∧ (∀ r' k, r' ≠ r → r' ≠ sr + 11 → r' ≠ sr → X'.1 r' k = X.1 r' k) ∧ (X'.1 r 3).toInt = 0 ∧ (X'.1 r 4).toInt = 0 ∧ (∀ k, k ≠ n → X'.1 (sr + 11) k = X.1 (sr + 11) k) ∧ (X'.1 (sr + 11) n).toInt = (if b = true then 1 else 0) ∧ (∀ k, k ≠ 12 → X'.1 sr k = X.1 sr k) ∧ (X'.1 sr 12).toInt = ((n + 1 : Nat) : Int) ∧ (∀ r' k, r' ≠ sr + 9 → X'.2.1 r' k = X.2.1 r' k) ∧ (∀ k, X'.2.1 (sr + 9) k = if k = n then w else X.2.1 (sr + 9) k) ∧ ((X.2.2.1 (sr + 8) n = some r ∧ X'.2.2 = X.2.2) ∨ (X.2.2.1 (sr + 8) n = none ∧ r = X.2.2.2.2 ∧ X'.2.2.2.2 = X.2.2.2.2 + 4 ∧ (∀ r' k, r' ≠ r → ¬ (r' = sr + 8 ∧ k = n) → X'.2.2.1 r' k = X.2.2.1 r' k))) := by
    intro Z r hr1 hr2 hZ1 hZ2 hZ3 hv hX hor
    have e1 : (fx_wI (fx_wI Z r 3 (Int32.ofInt 0)) r 4 (Int32.ofInt 0)).1 sr 12 = X.1 sr 12 := by
      rw [fx_rIn (fun z => hr1 z.symm), fx_rIn (fun z => hr1 z.symm), hZ1, i15 _ _ (by omega)]
    rw [e1] at hX
    refine ⟨by rw [hv]; exact hn, r, by rw [hX]; exact hZ3, fun r' k h1 h2 h3 => ?_, ?_, ?_, fun k hk => ?_, ?_, fun k hk => ?_, ?_, fun r' k h => ?_, fun k => ?_, ?_⟩
    · rw [hX, fx_rIn h3, fx_rIn h1, fx_rIn h1, hZ1, i15 _ _ h2]
    · rw [hX, fx_rIn hr1, fx_rIk (by decide), fx_rIe]; rfl
    · rw [hX, fx_rIn hr1, fx_rIe]; rfl
    · rw [hX, fx_rIn (by omega), fx_rIn (fun z => hr2 z.symm), fx_rIn (fun z => hr2 z.symm), hZ1, n15 k hk]
    · rw [hX, fx_rIn (by omega), fx_rIn (fun z => hr2 z.symm), fx_rIn (fun z => hr2 z.symm), hZ1, nar]
    · rw [hX, fx_rIk hk, fx_rIn (fun z => hr1 z.symm), fx_rIn (fun z => hr1 z.symm), hZ1, i15 _ _ (by omega)]
    · rw [hX, fx_rIe, cx_inc hn (by omega)]
    · have : X'.2.1 = Z.2.1 := by rw [hX]; rfl
      rw [this, hZ2, l15 _ _ h]
    · have : X'.2.1 = Z.2.1 := by rw [hX]; rfl
      rw [this, hZ2, m15]
    · have : X'.2.2 = Z.2.2 := by rw [hX]; rfl
      rw [this]; exact hor
  rcases g with ⟨z, b22, rfl, X23, rfl, -, X25, rfl, -, X31, rfl, -, b35, e35, X36, rfl, X37, rfl, rfl, rfl⟩ | ⟨b19, z, -, X42, rfl, -, b46, e46, X47, rfl, X48, rfl, rfl, rfl⟩
  · have z' : X.2.2.1 (sr + 8) n = none := by rw [← r15]; exact z
    have hnx : X15.2.2.2.2 = X.2.2.2.2 := by rw [r15]
    have e35' : X15.2.2.2.2 = b35 := by
      have : (fx_wR (fx_new X15) (sr + 8) n (some X15.2.2.2.2)).2.2.1 (sr + 8) n = some b35 := e35
      rw [fx_rRe] at this
      exact Option.some.inj this
    subst e35'
    refine fin (fx_wR (fx_new X15) (sr + 8) n (some X15.2.2.2.2)) X15.2.2.2.2 (by omega) (by omega) rfl rfl fx_rRe rfl rfl (Or.inr ⟨z', hnx, ?_, fun r' k h1 h2 => ?_⟩)
    · show X15.2.2.2.2 + 4 = _; rw [hnx]
    · show (if r' = sr + 8 ∧ k = n then some X15.2.2.2.2 else (fx_new X15).2.2.1 r' k) = _
      rw [if_neg h2]
      show (if r' = X15.2.2.2.2 ∧ k < 3 then _ else X15.2.2.1 r' k) = _
      rw [if_neg (fun z => h1 z.1), r15]
  · have z' : X.2.2.1 (sr + 8) n = some b19 := by rw [← r15]; exact z
    have e46' : b19 = b46 := by
      have : X15.2.2.1 (sr + 8) n = some b46 := e46
      rw [z] at this
      exact Option.some.inj this
    subst e46'
    have hr := (hO.2.1 (sr + 8, n) b19 (cx_slot hs h10) z').1
    exact fin X15 b19 (by omega) (by omega) rfl rfl z rfl rfl (Or.inl ⟨z', r15⟩)
/-- a TABLE more -/
theorem cx_92T (hs : sr = 54 ∨ sr = 66) (hO : cx_O X) (hT : cx_TB X sr hz TB) (h10 : TB.length < 10) (hb : p2 = Int32.ofInt 0 ∧ b = false ∨ p2 = Int32.ofInt 1 ∧ b = true) (g : gx_92 sr w p2 X v X') : v.toInt = (TB.length : Int) ∧ cx_TB X' sr hz (TB ++ [(w, b, [])]) ∧ cx_O X' ∧ cx_fs sr X X' ∧ (∀ k, X'.1 (sr + 2) k = X.1 (sr + 2) k ∧ X'.1 (sr + 3) k = X.1 (sr + 3) k ∧ X'.2.1 (sr + 1) k = X.2.1 (sr + 1) k) ∧ X'.1 sr 11 = X.1 sr 11 ∧ X'.1 sr 13 = X.1 sr 13 := by
  obtain ⟨v1, r, a1, a2, a3, a4, a5, a6, a7, a8, a9, a10, a11⟩ := cx_92 hs hO hT.1 h10 hb g
  have hO1 := hO.1
  have hr : (r = 102 ∨ 150 ≤ r) ∧ (∀ s r', cx_sl s → s ≠ (sr + 8, TB.length) → X.2.2.1 s.1 s.2 = some r' → r + 4 ≤ r' ∨ r' + 4 ≤ r) ∧ r + 4 ≤ X'.2.2.2.2 ∧ X.2.2.2.2 ≤ X'.2.2.2.2 ∧ (∀ s, cx_sl s → s ≠ (sr + 8, TB.length) → X'.2.2.1 s.1 s.2 = X.2.2.1 s.1 s.2) ∧ (∀ t r', t < 10 → X'.2.2.1 (sr + 8) t = some r' → X.2.2.1 (sr + 8) t = some r' ∨ X.2.2.2.2 ≤ r') ∧ (∀ r' k, r' ≠ sr + 8 → r' < X.2.2.2.2 → X'.2.2.1 r' k = X.2.2.1 r' k) ∧ (∀ r', X.2.2.1 (sr + 8) TB.length = some r' → r' = r) := by
    rcases a11 with ⟨b1, b2⟩ | ⟨b1, b2, b3, b4⟩
    · have q := hO.2.1 (sr + 8, TB.length) r (cx_slot hs h10) b1
      refine ⟨q.1, fun s r' h1 h2 h3 => ?_, by rw [b2]; exact q.2, by rw [b2]; exact Nat.le_refl _, fun s _ _ => by rw [b2], fun t r' _ h => by rw [b2] at h; exact Or.inl h, fun r' k _ _ => by rw [b2], fun r' h => by rw [b1] at h; exact (Option.some.inj h).symm⟩
      rcases hO.2.2 s (sr + 8, TB.length) r' r h1 (cx_slot hs h10) h3 b1 with z | z | z
      · exact absurd z h2
      · exact Or.inr z
      · exact Or.inl z
    · refine ⟨Or.inr (by omega), fun s r' h1 h2 h3 => Or.inr (by have := (hO.2.1 s r' h1 h3).2; omega), by omega, by omega, fun s h1 h2 => b4 _ _ ?_ ?_, fun t r' ht h => ?_, fun r' k h1 h2 => b4 r' k (by omega) (fun z => h1 z.1), fun r' h => by rw [b1] at h; cases h⟩
      · unfold cx_sl at h1; omega
      · intro z
        exact h2 (Prod.ext z.1 z.2)
      · by_cases z : t = TB.length
        · rw [z, a1] at h
          cases h
          exact Or.inr (by omega)
        · rw [b4 _ _ (by omega) (fun y => z y.2)] at h
          exact Or.inl h
  obtain ⟨h1, h2, h3, h4, h5, h6, h7, h8⟩ := hr
  have hO' : cx_O X' := by
    refine ⟨by omega, fun s r' q1 q2 => ?_, fun s s' r1 r2 q1 q2 q3 q4 => ?_⟩
    · by_cases z : s = (sr + 8, TB.length)
      · subst z
        rw [a1] at q2
        cases q2
        exact ⟨h1, h3⟩
      · rw [h5 s q1 z] at q2
        have := hO.2.1 s r' q1 q2
        exact ⟨this.1, by omega⟩
    · by_cases z : s = (sr + 8, TB.length)
      · by_cases z' : s' = (sr + 8, TB.length)
        · exact Or.inl (z.trans z'.symm)
        · subst z
          rw [a1] at q3
          cases q3
          rw [h5 s' q2 z'] at q4
          exact Or.inr (h2 s' r2 q2 z' q4)
      · by_cases z' : s' = (sr + 8, TB.length)
        · subst z'
          rw [a1] at q4
          cases q4
          rw [h5 s q1 z] at q3
          exact Or.inr (Or.symm (h2 s r1 q1 z q3))
        · rw [h5 s q1 z] at q3
          rw [h5 s' q2 z'] at q4
          exact hO.2.2 s s' r1 r2 q1 q2 q3 q4
  refine ⟨v1, ⟨by rw [a8, List.length_append]; rfl, fun t x hx => ?_⟩, hO', ⟨fun r' k c1 c2 c3 c4 => ?_, fun r' k c1 => a9 _ _ (fun z => c1 (by unfold cx_ws; omega)), h7, fun t r' ht h => ?_, h6, h4, fun _ => hO'⟩, fun k => ⟨a2 _ _ (by omega) (by omega) (by omega), a2 _ _ (by omega) (by omega) (by omega), a9 _ _ (by omega)⟩, a7 11 (by decide), a7 13 (by decide)⟩
  · rw [List.getElem?_append] at hx
    split at hx
    · rename_i ht
      obtain ⟨b1, b2, r', b3, b4, b5, b6⟩ := hT.2 t x hx
      have hne : (sr + 8, t) ≠ (sr + 8, TB.length) := fun z => by have := (Prod.mk.inj z).2; omega
      have hap := h2 (sr + 8, t) r' (cx_slot hs (by omega)) hne b3
      have hr' := (hO.2.1 (sr + 8, t) r' (cx_slot hs (by omega)) b3).1
      refine ⟨by rw [a10, if_neg (by omega)]; exact b1, by rw [a5 _ (by omega)]; exact b2, r', ?_, by rw [a2 _ _ (by omega) (by omega) (by omega)]; exact b4, fun z => by rw [a2 _ _ (by omega) (by omega) (by omega)]; exact b5 z, fun c m hm => by rw [a9 _ _ (by omega)]; exact b6 c m hm⟩
      have := h5 (sr + 8, t) (cx_slot hs (by omega)) hne
      rw [this]; exact b3
    · rename_i ht
      have e1 : t = TB.length := by
        have := (List.getElem?_eq_some_iff.mp hx).1
        have : t - TB.length < 1 := this
        omega
      subst e1
      rw [Nat.sub_self] at hx
      cases hx
      exact ⟨by rw [a10, if_pos rfl], a6, r, a1, a3, fun _ => a4, fun c m hm => by cases hm⟩
  · by_cases y : r' = sr
    · subst y
      exact a7 k (c2 rfl).2.1
    · refine a2 r' k (fun z => ?_) (fun z => c1 (by unfold cx_ws; omega)) y
      subst z
      rcases a11 with ⟨b1, b2⟩ | ⟨b1, b2, b3, b4⟩
      · exact c3 TB.length h10 b1
      · omega
  · by_cases z : t = TB.length
    · subst z
      rw [h8 r' h]; exact a1
    · have := h5 (sr + 8, t) (cx_slot hs ht) (fun y => z (Prod.mk.inj y).2)
      rw [this]; exact h
end CX23
