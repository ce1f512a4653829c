/-! THE CLASS'S WORKER: a shelf is settled, WORLD after WORLD -/
section CX44
variable {X X' X0 X1 : fx_X} {v p p0 p1 p2 p3 p4 : Int32} {u : Unit} {sr r r' rs W n i j c w m k P : Nat} {val : md_V} {pt : List (Nat → Bool)} {f : Nat → Bool} {U : md_U}
theorem cx_3l {X0 : fx_X} (hs : sr = 54 ∨ sr = 66) (hW : W ≤ 1024) (h8 : U.length ≤ 8) (h64 : 0 < W → ∀ x, x ∈ U → 0 < x.2.length ∧ x.2.length ≤ 64) (hV : ∀ u x, U[u]? = some x → cx_vs X0 sr u x.2) (h11 : (X0.1 sr 11).toInt = (U.length : Int)) (h13 : (X0.1 sr 13).toInt = (W : Int)) (h15 : (X0.1 sr 15).toInt = (P : Int)) (hP : P ≤ 20) : ∀ (d k q : Nat) (y1 : Int32) (X : fx_X), k + d = W → y1.toInt = (k : Int) → X.2 = X0.2 → (∀ q j, q ≠ sr + 4 → q ≠ sr + 5 → X.1 q j = X0.1 q j) → (∀ w j, w < k → j < U.length → X.1 (sr + 4) (8 * w + j) = md_val U w j) → (∀ w, w < k → X.1 (sr + 5) w = Int32.ofInt 0) → gxF_3 sr q 2 [y1] [] [] X u X' → cx_ce X' sr W U.length (md_val U) ∧ cx_pt X' sr W (List.replicate P (fun _ => true)) ∧ cx_hd X' sr (md_hl W (List.replicate P (fun _ => true))) ∧ X'.2 = X0.2 ∧ ∀ q k, q ≠ sr + 4 → q ≠ sr + 5 → q ≠ sr + 6 → ¬ (q = sr ∧ k = 14) → X'.1 q k = X0.1 q k := by
  intro d
  induction d with
  | zero =>
    intro k q y1 X hkd hk h2 hf hc hb g
    cases q with
    | zero => exact g.elim
    | succ q =>
      replace g := gxO_3_2 g
      unfold gxT_3_2 at g
      have h13' : (X.1 sr 13).toInt = (W : Int) := by rw [hf _ _ (by omega) (by omega)]; exact h13
      rw [if_neg (by omega)] at g
      obtain ⟨w5, X4, r1, rfl⟩ := g
      have e : k = W := by omega
      subst e
      have hpt : cx_pt X sr k (List.replicate P (fun _ => true)) := by
        refine ⟨by rw [hf _ _ (by omega) (by omega), h15, List.length_replicate], by rw [List.length_replicate]; exact hP, fun w p hw hp => ?_⟩
        rw [hb w hw, fx_ib_0, List.getElem?_replicate]
        by_cases z : p < P
        · rw [if_pos z]; rfl
        · rw [if_neg z]
      obtain ⟨a1, a2, a3⟩ := cx_hold hs hW h13' hpt r1
      refine ⟨⟨hW, h8, fun w u hw hu => by rw [a3 _ _ (by omega) (by omega)]; exact hc w u hw hu⟩, ⟨by rw [a3 _ _ (by omega) (by omega)]; exact hpt.1, hpt.2.1, fun w p hw hp => by rw [a3 _ _ (by omega) (by omega)]; exact hpt.2.2 w p hw hp⟩, a1, by rw [a2]; exact h2, fun q j z1 z2 z3 z4 => by rw [a3 _ _ z3 z4, hf _ _ z1 z2]⟩
  | succ d ih =>
    intro k q y1 X hkd hk h2 hf hc hb g
    cases q with
    | zero => exact g.elim
    | succ q =>
      replace g := gxO_3_2 g
      unfold gxT_3_2 at g
      have h13' : (X.1 sr 13).toInt = (W : Int) := by rw [hf _ _ (by omega) (by omega)]; exact h13
      rw [if_pos (by omega), if_pos (by omega), fx_in hk] at g
      obtain ⟨-, X12, e12, x14, rfl, g⟩ := g
      have f12 : ∀ q j, q ≠ sr + 5 → X12.1 q j = X.1 q j := fun q j z => by rw [e12, fx_rIn z]
      have b12 : ∀ w, w < k + 1 → X12.1 (sr + 5) w = Int32.ofInt 0 := fun w hw => by
        rw [e12]
        by_cases z : w = k
        · rw [z, fx_rIe]
        · rw [fx_rIk z]; exact hb w (by omega)
      have r12 : X12.2 = X.2 := by rw [e12]; rfl
      clear e12
      have h11' : (X12.1 sr 11).toInt = (U.length : Int) := by rw [f12 _ _ (by omega), hf _ _ (by omega) (by omega)]; exact h11
      obtain ⟨X1, q', c1, c2, g⟩ := cx_3u hs (by omega) h8 (h64 (by omega)) (fun u x hx => by
        obtain ⟨v1, v2⟩ := hV u x hx
        exact ⟨by rw [f12 _ _ (by omega), hf _ _ (by omega) (by omega)]; exact v1, fun i z hz => by rw [f12 _ _ (by omega), hf _ _ (by omega) (by omega)]; exact v2 i z hz⟩) hk U.length q y1 _ X12 (Nat.le_refl _) (by
          have e : (Int32.ofInt 1).toInt = 1 := rfl
          rw [fx_sub (by rw [h11', e]; omega) (by rw [h11', e]; omega), h11', e]) (by rw [List.drop_length]; exact hk) ⟨rfl, fun _ _ _ => rfl⟩ (fun j h1 h2 => absurd h2 (by omega)) g
      refine ih (k + 1) q' _ X1 (by omega) (cx_inc hk (by omega)) (by rw [c1.1, r12]; exact h2) (fun q j z1 z2 => by rw [c1.2 _ _ (fun z => z1 z.1), f12 _ _ z2, hf _ _ z1 z2]) (fun w j hw hj => ?_) (fun w hw => by rw [c1.2 _ _ (by omega), b12 w hw]) g
      by_cases z : w = k
      · rw [z]; exact c2 j hj
      · rw [c1.2 _ _ (by omega), f12 _ _ (by omega)]; exact hc w j (by omega) hj
theorem cx_3 (hs : sr = 54 ∨ sr = 66) (hg : U.length ≤ 8 ∧ (∀ x, x ∈ U → x.2.length ≤ 64) ∧ md_all U ≤ 1024) (hU : cx_U X sr U) (h15 : (X.1 sr 15).toInt = (P : Int)) (hP : P ≤ 20) (g : gx_3 sr X u X') : cx_ce X' sr (md_all U) U.length (md_val U) ∧ cx_pt X' sr (md_all U) (List.replicate P (fun _ => true)) ∧ cx_hd X' sr (md_hl (md_all U) (List.replicate P (fun _ => true))) ∧ X'.2 = X.2 ∧ ∀ q k, q ≠ sr + 4 → q ≠ sr + 5 → q ≠ sr + 6 → ¬ (q = sr ∧ k = 14) → X'.1 q k = X.1 q k := by
  obtain ⟨q, g⟩ := g
  exact cx_3l hs hg.2.2 hg.1 (fun h x hx => ⟨(md_all_pos U 1 h).2 x hx, hg.2.1 x hx⟩) (fun u x hx => (hU.2.2 u x hx).2) hU.1 hU.2.1 h15 hP (md_all U) 0 q _ X (by omega) rfl rfl (fun _ _ _ _ => rfl) (fun w j hw => absurd hw (Nat.not_lt_zero w)) (fun w hw => absurd hw (Nat.not_lt_zero w)) g
end CX44
