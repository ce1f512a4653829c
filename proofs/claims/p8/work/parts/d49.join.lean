/-! THE REFERENCE: join, its beginning */ -/
section DD49
variable {P : md_P} {X X' X0 X1 X2 Y : fx_X} {n m k s R R1 R2 T d N j : Nat} {v w p1 p2 z y3 y4 y5 y6 : Int32} {cs : md_CS} {c : md_C} {lx ly : List Int64} {A B : List md_Row}
/-- what a join leaves -/
def rx_jd (P : md_P) (s j : Nat) (c : md_C) (cs : md_CS) (lx ly : List Int64) (A B : List md_Row) (X X' : fx_X) : Prop := rx_G P X' j c ∧ rx_lo s X X' ∧ X'.1 117 = X.1 117 ∧ X'.1 140 = X.1 140 ∧ X'.1 141 = X.1 141 ∧ rx_cl X' s (lx ++ md_new lx ly) ∧ (rp_b P = true → A.length * B.length ≤ 30 ∧ rx_Rw P X' (md_m P cs.1) s (md_jn (rp_v P) (md_map lx ly 0) A B))
theorem rx_276 (hG : rx_G P X j c) (hU : rx_U P X cs.1) (hV : rx_V P X cs.1) (hp : p1.toInt = (s : Int)) (hs : 20 ≤ s ∧ s < 48) (hlx : rx_cl X s lx) (hly : rx_cl X (s + 1) ly) (h66 : lx.length + (md_new lx ly).length ≤ 6) (hAB : rp_b P = true → rx_Rw P X (md_m P cs.1) s A ∧ rx_Rw P X (md_m P cs.1) (s + 1) B ∧ md_okA cs.1.length lx.length A ∧ md_okA cs.1.length ly.length B) (g : gx_276 p1 p2 X v X') : (v = Int32.ofInt 0 ∧ rp_b P = true ∧ 30 < A.length * B.length ∧ (X'.1 117 24).toInt ≠ 0 ∧ rx_lo s X X') ∨ (v = Int32.ofInt 1 ∧ rx_jd P s j c cs lx ly A B X X') := by
  obtain ⟨n1, x2, e2, g⟩ := g
  have h3 : x2.toInt = ((s + 1 : Nat) : Int) := by rw [e2]; exact cx_in1 hp (by omega)
  have hst := hG.2.2.2.2.1
  -- from the first places set
  have go : ∀ {Y : fx_X} {a t : Int32} {T : Nat}, Y = fx_wI (fx_wI X 132 49 a) 131 49 t → a.toInt = (lx.length : Int) → t.toInt = (T : Int) → T ≤ 30 → (rp_b P = false → T = 0) → (rp_b P = true → T = A.length * B.length) → gxF_276 p1 p2 n1 88 [x2, a, Int32.ofInt 0] [] [] Y v X' → v = Int32.ofInt 1 ∧ rx_jd P s j c cs lx ly A B X X' := by
    intro Y a t T eY ha ht hT30 hT0 hT1 g
    have k : ∀ q, q ≠ 131 → q ≠ 132 → Y.1 q = X.1 q := fun q z1 z2 => by rw [eY, fx_rIn z1, fx_rIn z2]
    have kk : ∀ q i, i ≠ 49 → Y.1 q i = X.1 q i := fun q i z => by rw [eY, fx_rIk z, fx_rIk z]
    have kl : Y.2 = X.2 := by rw [eY]; rfl
    have fY : fy [(132, 49), (131, 49)] [] [] X Y := by rw [eY]; exact fy_f (fy_f fy_rf (by decide)) (by decide)
    have cl : ∀ {s' : Nat} {l : List Int64}, s' < 49 → rx_cl X s' l → rx_cl Y s' l := fun {s' l} hs' h => ⟨by rw [kk 132 _ (by omega)]; exact h.1, h.2.1, fun i n8 hi => by rw [kl]; exact h.2.2 i n8 hi⟩
    have rw' : ∀ {s' : Nat} {C : List md_Row}, s' < 49 → rx_Rw P X (md_m P cs.1) s' C → rx_Rw P Y (md_m P cs.1) s' C := fun {s' C} hs' h => by
      obtain ⟨h1, h2⟩ := h
      refine ⟨by rw [kk 131 _ (by omega)]; exact h1, fun r x hr => ?_⟩
      have := h2 r x hr
      unfold rx_tm at this ⊢
      rw [k 134 (by decide) (by decide), k 135 (by decide) (by decide), k 136 (by decide) (by decide)]
      exact this
    have hU' : rx_U P Y cs.1 := by
      unfold rx_U
      rw [k 118 (by decide) (by decide), k 120 (by decide) (by decide), k 121 (by decide) (by decide), k 122 (by decide) (by decide), kl]
      exact hU
    have hV' : rx_V P Y cs.1 := by
      unfold rx_V
      rw [k 123 (by decide) (by decide)]
      exact hV
    obtain ⟨hv, b1, b2, b3, b4, b5, b6, b7⟩ := rx_276m (A := A) (B := B) (T := T) (rx_G_fr hG fY (by decide) (by decide)) hU' hV' hp hs h3 ha (cl (by omega) hlx) (cl (by omega) hly) h66 (by rw [eY, fx_rIe]; exact ht) hT30 hT0 (fun hb => ⟨hT1 hb, rw' (by omega) (hAB hb).1, rw' (by omega) (hAB hb).2.1, (hAB hb).2.2.1, (hAB hb).2.2.2⟩) g
    have loY : rx_lo s X Y := by
      rw [eY]
      exact rx_lo_tr (rx_lo_w (by omega)) (rx_lo_w (by omega))
    exact ⟨hv, b1, rx_lo_tr loY b2, by rw [b3, k 117 (by decide) (by decide)], by rw [b4, k 140 (by decide) (by decide)], by rw [b5, k 141 (by decide) (by decide)], b6, fun hb => ⟨by rw [← hT1 hb]; exact hT30, b7 hb⟩⟩
  rcases fy_ifd g with ⟨c1, g1⟩ | ⟨c1, g1⟩
  · rw [fx_in hp] at g1
    obtain ⟨-, x7, e7, X11, e11, g2⟩ := g1
    rw [if_pos (by rw [e11, fx_rIn (by decide)]; exact c1)] at g2
    obtain ⟨X15, e15, g3⟩ := g2
    have hb : rp_b P = false := by
      cases hb : rp_b P with
      | false => rfl
      | true => rw [hb, if_pos rfl] at hst; omega
    exact Or.inr (go (T := 0) (by rw [e15, e11]) (by rw [e7]; exact hlx.1) rfl (Nat.zero_le _) (fun _ => rfl) (fun z => by rw [hb] at z; cases z) g3)
  · have hb : rp_b P = true := by
      cases hb : rp_b P with
      | true => rfl
      | false => rw [hb, if_neg (by decide)] at hst; exact absurd hst c1
    obtain ⟨q2, q3, q4, q5⟩ := hAB hb
    have hA30 := q4.1
    have hB30 := q5.1
    have hle : A.length * B.length ≤ 30 * 30 := Nat.mul_le_mul hA30 hB30
    have hmul : (X.1 131 s * X.1 131 (s + 1)).toInt = ((A.length * B.length : Nat) : Int) := by
      have e : (A.length : Int) * (B.length : Int) = ((A.length * B.length : Nat) : Int) := by rw [Int.natCast_mul]
      rw [fx_mul (by rw [q2.1, q3.1, e]; omega) (by rw [q2.1, q3.1, e]; omega), q2.1, q3.1, e]
    rw [fx_in hp, fx_in h3] at g1
    replace g1 := g1.2.2
    rcases fy_ifd g1 with ⟨c2, g2⟩ | ⟨c2, g2⟩
    · obtain ⟨w49, X48, r, e1, e2⟩ := g2
      obtain ⟨Y2, rfl, Y3, rfl, Y4, rfl, rfl, rfl⟩ := r
      left
      rw [e1, e2]
      exact ⟨rfl, hb, by omega, by rw [fx_rIk (by decide), fx_rIk (by decide), fx_rIe]; decide, rx_lo_tr (rx_lo_tr (rx_lo_w (by omega)) (rx_lo_w (by omega))) (rx_lo_w (by omega))⟩
    · obtain ⟨-, x31, e31, X35, e35, g3⟩ := g2
      rw [if_neg (by rw [e35, fx_rIn (by decide)]; exact c1)] at g3
      obtain ⟨-, -, X46, e46, g4⟩ := g3
      have e131 : X35.1 131 = X.1 131 := by rw [e35, fx_rIn (by decide)]
      rw [e131] at e46
      exact Or.inr (go (T := A.length * B.length) (by rw [e46, e35]) (by rw [e31]; exact hlx.1) hmul (by omega) (fun z => by rw [hb] at z; cases z) (fun _ => rfl) g4)
end DD49
