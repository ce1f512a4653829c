/-! THE CLASS'S WORKER: GROUPS of all WORLDS -/
section CX59
variable {X X' X0 X1 : fx_X} {v p p0 p1 p2 p3 p4 p5 p6 : Int32} {u : Unit} {sr r r' rs W n i i' j j' c w w' m k P wd a b : Nat} {val : md_V} {A B : List md_Row} {ix ps : List Nat} {fo fd : Int} {x z : List Int32} {C : List (List Int32)} {D0 : Nat → List Int32 → Bool} {F : Nat → List Int32} {G : List (List Int32)}
theorem md_nd : ∀ (C L : List (List Int32)), C.Nodup → (∀ x, x ∈ C → x ∈ L) → C.length ≤ L.length
  | [], _, _, _ => Nat.zero_le _
  | c :: C, L, hn, hm => by
    obtain ⟨h1, h2⟩ := List.nodup_cons.mp hn
    have hc := hm c List.mem_cons_self
    have := md_nd C (L.erase c) h2 (fun x hx => (List.mem_erase_of_ne (fun e => h1 (by rw [← e]; exact hx))).mpr (hm x (List.mem_cons_of_mem _ hx)))
    rw [List.length_erase_of_mem hc] at this
    have hp : 0 < L.length := List.length_pos_of_mem hc
    rw [List.length_cons]; omega
theorem md_grs_mem : x ∈ md_grs val W ps fo k A ↔ ∃ w, w < W ∧ x ∈ md_grw ps fo k (md_line val w A) := by
  unfold md_grs
  rw [md_fold_mem, List.mem_flatMap]
  constructor
  · rintro (⟨w, h1, h2⟩ | h)
    · exact ⟨w, List.mem_range.mp h1, h2⟩
    · cases h
  · rintro ⟨w, h1, h2⟩
    exact Or.inl ⟨w, List.mem_range.mpr h1, h2⟩
theorem cx_127l {X0 : fx_X} (hs : sr = 54 ∨ sr = 66) (hrs : rs = 102 ∨ 150 ≤ rs) (hr : r = 102 ∨ 150 ≤ r) (hap : rs + 4 ≤ r ∨ r + 4 ≤ rs) (hce : cx_ce X0 sr W n val) (h13 : (X0.1 sr 13).toInt = (W : Int)) (hA : md_okA n wd A) (hR : cx_Rr X0 r W A) (hw3 : (X0.1 r 3).toInt = (wd : Int)) (h961 : (X0.1 96 1).toInt = (ps.length : Int)) (h6 : ps.length < 6) (h97 : ∀ (i c : Nat), ps[i]? = some c → (X0.1 97 i).toInt = (c : Int)) (hlt : ∀ c, c ∈ ps → c < wd) (hfo : (X0.1 96 2).toInt = fo) (hfd : (X0.1 96 3).toInt = fd) (hok : fo = 16 ∨ (0 ≤ fd ∧ fd < (wd : Int))) : ∀ (d c q : Nat) (y4 : Int32) (X : fx_X) (C : List (List Int32)), c + d = W → y4.toInt = (c : Int) → cx_qg rs X0 X → cx_gi X rs W (ps.length + 1) C (md_DA val ps fo fd.toNat A c) → gxF_127_2 sr r rs q 18 [y4] [] [] X v X' → (v.toInt = 0 ∧ 30 < (md_grs val W ps fo fd.toNat A).length ∧ cx_qg rs X0 X') ∨ (v.toInt = 1 ∧ ∃ (u : Unit) (X1 : fx_X) (C : List (List Int32)), cx_qg rs X0 X1 ∧ cx_gi X1 rs W (ps.length + 1) C (md_DA val ps fo fd.toNat A W) ∧ gx_138 sr rs X1 u X') := by
  have hW := hce.1
  intro d
  induction d with
  | zero =>
    intro c q y4 X C hcd h4 hf hG g
    cases q with
    | zero => exact g.elim
    | succ q =>
      replace g := gxO_127_2_18 g
      unfold gxT_127_2_18 at g
      have h13' : (X.1 sr 13).toInt = (W : Int) := by rw [hf.2 _ _ (by omega) (by omega) (by omega)]; exact h13
      rw [if_neg (by omega)] at g
      obtain ⟨w7, X6, r1, rfl, rfl⟩ := g
      have e : c = W := by omega
      subst e
      exact Or.inr ⟨rfl, w7, X, C, hf, hG, r1⟩
  | succ d ih =>
    intro c q y4 X C hcd h4 hf hG g
    cases q with
    | zero => exact g.elim
    | succ q =>
      replace g := gxO_127_2_18 g
      unfold gxT_127_2_18 at g
      have h13' : (X.1 sr 13).toInt = (W : Int) := by rw [hf.2 _ _ (by omega) (by omega) (by omega)]; exact h13
      have hcW : c < W := by omega
      have hcd' : c + 1 + d = W := by omega
      have c6 : c ≤ 1000000 := by omega
      rw [if_pos (by omega)] at g
      obtain ⟨w9, X8, r1, g⟩ := g
      obtain ⟨b1, b2⟩ := cx_128 (n := n) (val := val) hs hrs hr hap ⟨hce.1, hce.2.1, fun w u hw hu => by rw [hf.2 _ _ (by omega) (by omega) (by omega)]; exact hce.2.2 w u hw hu⟩ hA (cx_Rr_e hR (hf.2 _ _ (by omega) (by omega) (by omega)) (fun k => hf.2 _ _ (by omega) (by omega) (by omega)) (fun k => hf.2 _ _ (by omega) (by omega) (by omega)) (fun k => hf.2 _ _ (by omega) (by omega) (by omega))) (by rw [hf.2 _ _ (by omega) (by omega) (by omega)]; exact hw3) (by rw [hf.2 _ _ (by decide) (by decide) (by omega)]; exact h961) h6 (fun i c h => by rw [hf.2 _ _ (by decide) (by decide) (by omega)]; exact h97 i c h) hlt hcW h4 (by rw [hf.2 _ _ (by decide) (by decide) (by omega)]; exact hfo) (by rw [hf.2 _ _ (by decide) (by decide) (by omega)]; exact hfd) hok (fun x => by unfold md_DA; rw [decide_eq_false (Nat.lt_irrefl c), Bool.false_and]) hG r1
      have hf8 : cx_qg rs X0 X8 := ⟨b1.1.trans hf.1, fun q j z1 z2 z3 => (b1.2 q j z1 z2 z3).trans (hf.2 q j z1 z2 z3)⟩
      rcases b2 with ⟨c1, z, C', c2, c3, c4, c5⟩ | ⟨c1, C', c2⟩
      · rw [if_pos c1] at g
        obtain ⟨rfl, rfl⟩ := g
        refine Or.inl ⟨rfl, ?_, hf8⟩
        have := md_nd (z :: C') (md_grs val W ps fo fd.toNat A) (List.nodup_cons.mpr ⟨c2, c4⟩) (fun x hx => by
          rcases c5 x hx with ⟨w', s1, _, s3⟩ | s
          · unfold md_DA at s3
            rw [Bool.and_eq_true, decide_eq_true_eq, decide_eq_true_eq] at s3
            exact md_grs_mem.mpr ⟨w', s1, s3.2⟩
          · exact md_grs_mem.mpr ⟨c, hcW, s⟩)
        rw [List.length_cons, c3] at this
        omega
      · rw [if_neg c1] at g
        obtain ⟨x11, rfl, g⟩ := g
        rw [md_DA_s] at c2
        exact ih (c + 1) q _ X8 C' hcd' (cx_inc h4 c6) hf8 c2 g
end CX59
