/-! THE CLASS'S WORKER: project -/
/-- ROWS and two buffers alone -/
def cx_jf (r : Nat) (X X' : fx_X) : Prop := X'.2 = X.2 ∧ ∀ q j, (q < r ∨ r + 4 ≤ q) → q ≠ 99 → q ≠ 100 → X'.1 q j = X.1 q j
section CX47
variable {X X' X0 X1 : fx_X} {v p p0 p1 p2 p3 p4 : Int32} {u : Unit} {sr r r' rs W n i j c w m k P wd : Nat} {ps : List Nat} {A : List md_Row} {ts us : List md_Tm}
theorem cx_126l {X0 : fx_X} (hr : r = 102 ∨ 150 ≤ r) (h1 : (X0.1 96 1).toInt = (ps.length : Int)) (h6 : ps.length ≤ 6) (h97 : ∀ (i c : Nat), ps[i]? = some c → (X0.1 97 i).toInt = (c : Int)) (hA : md_okA n wd A) (hlt : ∀ c, c ∈ ps → c < wd) : ∀ (d k q : Nat) (y2 : Int32) (X : fx_X), k + d = A.length → y2.toInt = (k : Int) → cx_jf r X0 X → (X.1 r 4).toInt = (A.length : Int) → (∀ i x, A[i]? = some x → cx_Rt X r i (if i < k then md_pj1 ps x.1 else x.1) ∧ cx_Rb X r W i x.2) → gxF_126 r q 2 [y2] [] [] X u X' → cx_Rr X' r W (md_pj ps A) ∧ (X'.1 r 3).toInt = (ps.length : Int) ∧ cx_jf r X0 X' := by
  intro d
  induction d with
  | zero =>
    intro k q y2 X hkd hk hf h4 hR g
    cases q with
    | zero => exact g.elim
    | succ q =>
      replace g := gxO_126_2 g
      unfold gxT_126_2 at g
      rw [if_neg (by omega)] at g
      obtain ⟨X4, rfl, rfl⟩ := g
      refine ⟨⟨?_, fun i x hx => ?_⟩, ?_, hf.1, fun q j a1 a2 a3 => by rw [fx_rIn (by omega)]; exact hf.2 q j a1 a2 a3⟩
      · rw [fx_rIk (by decide), h4]
        unfold md_pj
        rw [List.length_map]
      · unfold md_pj at hx
        rw [List.getElem?_map] at hx
        cases e : A[i]? with
        | none => rw [e] at hx; cases hx
        | some y =>
          rw [e] at hx
          cases hx
          have hi := (List.getElem?_eq_some_iff.mp e).1
          obtain ⟨a1, a2⟩ := hR i y e
          rw [if_pos (by omega)] at a1
          exact ⟨cx_Rt_e a1 (fun j => by rw [fx_rIn (by omega)]) (fun j => by rw [fx_rIn (by omega)]), cx_Rb_e a2 (fun j => by rw [fx_rIn (by omega)])⟩
      · rw [fx_rIe, hf.2 _ _ (by omega) (by decide) (by decide)]; exact h1
  | succ d ih =>
    intro k q y2 X hkd hk hf h4 hR g
    cases q with
    | zero => exact g.elim
    | succ q =>
      replace g := gxO_126_2 g
      unfold gxT_126_2 at g
      rw [if_pos (by omega)] at g
      have h30 := hA.1
      obtain ⟨x, hx⟩ : ∃ x, A[k]? = some x := ⟨A[k], List.getElem?_eq_getElem (by omega)⟩
      obtain ⟨o1, o2⟩ := hA.2 x (List.mem_of_getElem? hx)
      obtain ⟨t1, t2⟩ := hR k x hx
      rw [if_neg (Nat.lt_irrefl k)] at t1
      have hx96 : (X.1 96 1).toInt = (ps.length : Int) := by rw [hf.2 _ _ (by omega) (by decide) (by decide)]; exact h1
      obtain ⟨X1, q1, b1, b2, b3, g⟩ := cx_126r hr hx96 h6 (fun i c h => by rw [hf.2 _ _ (by omega) (by decide) (by decide)]; exact h97 i c h) (fun c hc => by rw [o2]; exact hlt c hc) o1.1 (by omega) t1 hk q 0 _ X rfl (Nat.zero_le _) rfl (fun _ _ _ _ => rfl) (fun l t hl => absurd hl (Nat.not_lt_zero l)) g
      have hl1 : (md_pj1 ps x.1).length = ps.length := by unfold md_pj1; rw [List.length_map]
      obtain ⟨X2, q2, c1, c2, c3, c4, c5, g⟩ := cx_126w (us := md_pj1 ps x.1) hr (by rw [b2 _ _ (by decide) (by decide), hl1]; exact hx96) (by omega) b3 (by omega) hk (md_pj1 ps x.1).length 0 q1 _ X1 (by omega) rfl cx_rf_rf (fun c t ht => by rw [List.take_zero] at ht; cases ht) (fun _ => rfl) (fun _ => rfl) (fun _ _ _ _ h => h) g
      refine ih (k + 1) q2 _ X2 (by omega) (cx_inc hk (by omega)) ⟨by rw [c1.1, b1]; exact hf.1, fun q j a1 a2 a3 => by rw [c1.2 _ _ a1, b2 _ _ a2 a3]; exact hf.2 q j a1 a2 a3⟩ (by rw [c3, b2 _ _ (by omega) (by omega)]; exact h4) (fun i y hy => ?_) g
      obtain ⟨s1, s2⟩ := hR i y hy
      have s2' : cx_Rb X2 r W i y.2 := cx_Rb_e s2 (fun j => by rw [c4, b2 _ _ (by omega) (by omega)])
      refine ⟨?_, s2'⟩
      by_cases z : i = k
      · subst z
        rw [hx] at hy
        cases hy
        rw [if_pos (Nat.lt_succ_self _)]
        exact c2
      · have hyl := (hA.2 y (List.mem_of_getElem? hy)).1.1
        have s1' : cx_Rt X1 r i (if i < k then md_pj1 ps y.1 else y.1) := cx_Rt_e s1 (fun j => b2 _ _ (by omega) (by omega)) (fun j => b2 _ _ (by omega) (by omega))
        have hle : (if i < k then md_pj1 ps y.1 else y.1).length ≤ 6 := by
          split
          · unfold md_pj1; rw [List.length_map]; exact h6
          · exact hyl
        have := c5 i _ z hle s1'
        by_cases y' : i < k
        · rw [if_pos y'] at this; rw [if_pos (by omega)]; exact this
        · rw [if_neg y'] at this; rw [if_neg (by omega)]; exact this
theorem cx_126 (hr : r = 102 ∨ 150 ≤ r) (h1 : (X.1 96 1).toInt = (ps.length : Int)) (h6 : ps.length ≤ 6) (h97 : ∀ (i c : Nat), ps[i]? = some c → (X.1 97 i).toInt = (c : Int)) (hA : md_okA n wd A) (hlt : ∀ c, c ∈ ps → c < wd) (hR : cx_Rr X r W A) (g : gx_126 r X u X') : cx_Rr X' r W (md_pj ps A) ∧ (X'.1 r 3).toInt = (ps.length : Int) ∧ cx_jf r X X' := by
  obtain ⟨q, g⟩ := g
  refine cx_126l hr h1 h6 h97 hA hlt A.length 0 q _ X (by omega) rfl ⟨rfl, fun _ _ _ _ _ => rfl⟩ hR.1 (fun i x hx => ?_) g
  rw [if_neg (Nat.not_lt_zero i)]
  exact hR.2 i x hx
end CX47
