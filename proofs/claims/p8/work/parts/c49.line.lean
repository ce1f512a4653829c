/-! THE CLASS'S WORKER: a WORLD's rows in their order -/
def md_vl (val : md_V) (w : Nat) (x : md_Row) : List Int32 := x.1.map (md_cv val w)
/-- places of ROWS, in a list of ints -/
def cx_ix (X : fx_X) (a : Nat) (ix : List Nat) : Prop := ∀ (j i : Nat), ix[j]? = some i → (X.1 a j).toInt = (i : Int)
/-- one list of ints alone -/
def cx_af (a : Nat) (X X' : fx_X) : Prop := X'.2 = X.2 ∧ ∀ q j, q ≠ a → X'.1 q j = X.1 q j
section CX49
variable {X X' X0 X1 : fx_X} {v p p0 p1 p2 p3 p4 p5 p6 : Int32} {u : Unit} {sr r r' rs W n i j c w w' m k P wd : Nat} {val : md_V} {A B : List md_Row} {ts us : List md_Tm} {x y : md_Row}
/-- two rows compared -/
theorem cx_130l (hce : cx_ce X sr W n val) (hT : cx_Rt X r i ts) (hT' : cx_Rt X r' j us) (ho : md_okt n ts) (ho' : md_okt n us) (hl : ts.length = us.length) (hw3 : (X.1 r 3).toInt = (ts.length : Int)) (hi : i < 30) (hj : j < 30) (hw : w < W) (hw' : w' < W) (h2 : p2.toInt = (i : Int)) (h3 : p3.toInt = (w : Int)) (h5 : p5.toInt = (j : Int)) (h6 : p6.toInt = (w' : Int)) : ∀ (d c q : Nat) (y7 : Int32), c + d = ts.length → y7.toInt = (c : Int) → (ts.take c).map (md_cv val w) = (us.take c).map (md_cv val w') → gxF_130 r sr p2 p3 r' p5 p6 q 3 [y7] [] [] X v X' → X = X' ∧ (v.toInt < 0 ↔ md_lt ((ts.drop c).map (md_cv val w)) ((us.drop c).map (md_cv val w')) = true) ∧ (v.toInt = 0 ↔ (ts.drop c).map (md_cv val w) = (us.drop c).map (md_cv val w')) := by
  intro d
  induction d with
  | zero =>
    intro c q y7 hcd hc he g
    cases q with
    | zero => exact g.elim
    | succ q =>
      replace g := gxO_130_3 g
      unfold gxT_130_3 at g
      rw [if_neg (by omega)] at g
      obtain ⟨rfl, rfl⟩ := g
      rw [List.drop_of_length_le (by omega), List.drop_of_length_le (by omega)]
      refine ⟨rfl, ⟨fun z => absurd z (by decide), fun z => by cases z⟩, ⟨fun _ => rfl, fun _ => rfl⟩⟩
  | succ d ih =>
    intro c q y7 hcd hc he g
    cases q with
    | zero => exact g.elim
    | succ q =>
      replace g := gxO_130_3 g
      unfold gxT_130_3 at g
      have h66 := ho.1
      have hc1 : c < ts.length := by omega
      have hc2 : c < us.length := by omega
      rw [if_pos (by omega)] at g
      obtain ⟨w5, X4, r1, w8, X7, r2, g⟩ := g
      obtain ⟨rfl, rfl⟩ := cx_114 hce hT ho hi hw h2 hc h3 (List.getElem?_eq_getElem hc1) r1
      obtain ⟨rfl, rfl⟩ := cx_114 hce hT' ho' hj hw' h5 hc h6 (List.getElem?_eq_getElem hc2) r2
      rw [List.drop_eq_getElem_cons hc1, List.drop_eq_getElem_cons hc2, List.map_cons, List.map_cons]
      show _ ∧ (_ ↔ (if _ = _ then md_lt _ _ else decide _) = true) ∧ _
      rcases fy_ifd g with ⟨e, g⟩ | ⟨e, g⟩
      · have e' := fx_inj e
        obtain ⟨x11, rfl, g⟩ := g
        obtain ⟨a1, a2, a3⟩ := ih (c + 1) q _ (by omega) (cx_inc hc (by omega)) (by
          rw [List.take_succ, List.take_succ, List.getElem?_eq_getElem hc1, List.getElem?_eq_getElem hc2, List.map_append, List.map_append, he]
          show _ ++ [md_cv val w ts[c]] = _ ++ [md_cv val w' us[c]]
          rw [e']) g
        refine ⟨a1, by rw [if_pos e']; exact a2, ?_⟩
        rw [a3, e']
        constructor
        · intro z; rw [z]
        · intro z; exact (List.cons.inj z).2
      · have e' : ¬ md_cv val w ts[c] = md_cv val w' us[c] := fun z => e (by rw [z])
        rw [if_neg e', decide_eq_true_eq]
        rcases fy_ifd g with ⟨e2, g⟩ | ⟨e2, g⟩
        · obtain ⟨rfl, rfl⟩ := g
          exact ⟨rfl, ⟨fun _ => e2, fun _ => by decide⟩, ⟨fun z => absurd z (by decide), fun z => absurd (List.cons.inj z).1 e'⟩⟩
        · obtain ⟨rfl, rfl⟩ := g
          exact ⟨rfl, ⟨fun z => absurd z (by decide), fun z => absurd z e2⟩, ⟨fun z => absurd z (by decide), fun z => absurd (List.cons.inj z).1 e'⟩⟩
theorem cx_130 (hce : cx_ce X sr W n val) (hT : cx_Rt X r i ts) (hT' : cx_Rt X r' j us) (ho : md_okt n ts) (ho' : md_okt n us) (hl : ts.length = us.length) (hw3 : (X.1 r 3).toInt = (ts.length : Int)) (hi : i < 30) (hj : j < 30) (hw : w < W) (hw' : w' < W) (h2 : p2.toInt = (i : Int)) (h3 : p3.toInt = (w : Int)) (h5 : p5.toInt = (j : Int)) (h6 : p6.toInt = (w' : Int)) (g : gx_130 r sr p2 p3 r' p5 p6 X v X') : X = X' ∧ (v.toInt < 0 ↔ md_lt (ts.map (md_cv val w)) (us.map (md_cv val w')) = true) ∧ (v.toInt = 0 ↔ ts.map (md_cv val w) = us.map (md_cv val w')) := by
  obtain ⟨q, g⟩ := g
  exact cx_130l hce hT hT' ho ho' hl hw3 hi hj hw hw' h2 h3 h5 h6 ts.length 0 q _ (by omega) rfl rfl g
end CX49
