/-! THE CLASS'S WORKER: GROUPS of a WORLD, lined up and told -/
def cx_qg (rs : Nat) (X X' : fx_X) : Prop := X'.2 = X.2 ∧ ∀ q j, q ≠ 98 → q ≠ 99 → (q < rs ∨ rs + 4 ≤ q) → X'.1 q j = X.1 q j
section CX58
variable {X X' X0 X1 : fx_X} {v p p0 p1 p2 p3 p4 p5 p6 : Int32} {u : Unit} {sr r r' rs W n i i' j j' c w w' m k P wd a b : Nat} {val : md_V} {A B : List md_Row} {ix ps : List Nat} {fo fd : Int} {x z : List Int32} {C : List (List Int32)} {D0 : Nat → List Int32 → Bool} {F : Nat → List Int32} {G : List (List Int32)}
theorem md_D_nil (h : ∀ x, D0 w x = false) : md_D D0 w [] = D0 := by
  funext w' x
  unfold md_D
  by_cases s : w' = w
  · rw [if_pos s, s, h x]
    simp
  · rw [if_neg s]
theorem cx_128 (hs : sr = 54 ∨ sr = 66) (hrs : rs = 102 ∨ 150 ≤ rs) (hr : r = 102 ∨ 150 ≤ r) (hap : rs + 4 ≤ r ∨ r + 4 ≤ rs) (hce : cx_ce X sr W n val) (hA : md_okA n wd A) (hR : cx_Rr X r W A) (hw3 : (X.1 r 3).toInt = (wd : Int)) (h961 : (X.1 96 1).toInt = (ps.length : Int)) (h6 : ps.length < 6) (h97 : ∀ (i c : Nat), ps[i]? = some c → (X.1 97 i).toInt = (c : Int)) (hlt : ∀ c, c ∈ ps → c < wd) (hw : w < W) (h4 : p4.toInt = (w : Int)) (hfo : (X.1 96 2).toInt = fo) (hfd : (X.1 96 3).toInt = fd) (hok : fo = 16 ∨ (0 ≤ fd ∧ fd < (wd : Int))) (hD : ∀ x, D0 w x = false) (hG : cx_gi X rs W (ps.length + 1) C D0) (g : gx_128 sr r rs p4 X v X') : cx_qg rs X X' ∧ ((v.toInt = 0 ∧ ∃ (z : List Int32) (C' : List (List Int32)), z ∉ C' ∧ C'.length = 30 ∧ C'.Nodup ∧ ∀ x, x ∈ z :: C' → (∃ w', w' < W ∧ w' ≠ w ∧ D0 w' x = true) ∨ x ∈ md_grw ps fo fd.toNat (md_line val w A)) ∨ (v.toInt ≠ 0 ∧ ∃ C', cx_gi X' rs W (ps.length + 1) C' (md_D D0 w (md_grw ps fo fd.toNat (md_line val w A))))) := by
  obtain ⟨q, w4, X3, r1, g⟩ := g
  obtain ⟨ix, a1, a2, a3, a4, a5, a6, a7⟩ := cx_129 hce hA hR hw3 hw h4 (by omega) (by omega) r1
  have hGS : cx_GS X3 sr r W n wd val A ps ix := ⟨cx_af_ce hce a3 (by omega), hA, cx_af_Rr hR a3 (by omega), ⟨by rw [a3.2 _ _ (by decide)]; exact h961, h6⟩, fun i c h => by rw [a3.2 _ _ (by decide)]; exact h97 i c h, hlt, a4, a5, a2⟩
  have hG3 : cx_gi X3 rs W (ps.length + 1) C (md_D D0 w ((ix.take 0).map (md_gv ps fo fd.toNat (md_fv val w A) ix))) := by
    rw [List.take_zero, List.map_nil, md_D_nil hD]
    obtain ⟨⟨g1, g2, g3⟩, g4, g5, g6, g7, g8⟩ := hG
    have e : ∀ a b, a ≠ 98 → X3.1 a b = X.1 a b := fun a b z => a3.2 a b z
    exact ⟨⟨by rw [e _ _ (by omega)]; exact g1, by rw [e _ _ (by omega)]; exact g2, fun g x hx => ⟨(g3 g x hx).1, cx_Rt_e (g3 g x hx).2 (fun k => e _ _ (by omega)) (fun k => e _ _ (by omega))⟩⟩, g4, g5, g6, fun g x hx w hw => by rw [e _ _ (by omega)]; exact g7 g x hx w hw, fun g w a1 a2 a3 => by rw [e _ _ (by omega)]; exact g8 g w a1 a2 a3⟩
  obtain ⟨b1, b2⟩ := cx_128l hs hrs hr hap hGS hw h4 a1 (by rw [a3.2 _ _ (by decide)]; exact hfo) (by rw [a3.2 _ _ (by decide)]; exact hfd) hok ix.length 0 q _ X3 C (by omega) rfl ⟨rfl, fun _ _ _ _ => rfl⟩ hG3 g
  rw [← md_grw_ix, a6] at b2
  exact ⟨⟨b1.1.trans a3.1, fun q j z1 z2 z3 => (b1.2 q j z2 z3).trans (a3.2 q j z1)⟩, b2⟩
/-- all WORLDS' groups -/
def md_DA (val : md_V) (ps : List Nat) (fo : Int) (k : Nat) (A : List md_Row) (c w : Nat) (x : List Int32) : Bool := decide (w < c) && decide (x ∈ md_grw ps fo k (md_line val w A))
theorem md_DA_s : md_D (md_DA val ps fo k A c) c (md_grw ps fo k (md_line val c A)) = md_DA val ps fo k A (c + 1) := by
  funext w' x
  unfold md_D md_DA
  by_cases s : w' = c
  · subst s
    rw [if_pos rfl, decide_eq_true (Nat.lt_succ_self w'), Bool.true_and]
  · rw [if_neg s]
    by_cases t : w' < c
    · rw [decide_eq_true t, decide_eq_true (Nat.lt_succ_of_lt t)]
    · have : ¬ w' < c + 1 := by omega
      simp [t, this]
end CX58
