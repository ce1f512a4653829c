/-! THE REFERENCE: join, its COLUMNS counted -/
section DD50
variable {P : md_P} {X X' X0 X1 X2 Y : fx_X} {n m k s j : Nat} {v w p1 p2 z y3 y4 : Int32} {cs : md_CS} {c : md_C} {lx ly : List Int64} {A B : List md_Row}
theorem rx_275l (hG : rx_G P X j c) (hU : rx_U P X cs.1) (hV : rx_V P X cs.1) (hp : p1.toInt = (s : Int)) (hs : 20 ≤ s ∧ s < 48) (hlx : rx_cl X s lx) (hly : rx_cl X (s + 1) ly) (hF : 6 < lx.length + (md_new lx ly).length → md_F P) (hAB : rp_b P = true → rx_Rw P X (md_m P cs.1) s A ∧ rx_Rw P X (md_m P cs.1) (s + 1) B ∧ md_okA cs.1.length lx.length A ∧ md_okA cs.1.length ly.length B) : ∀ (n k : Nat) (y3 y4 : Int32), y4.toInt = (k : Int) → k ≤ ly.length → y3.toInt = ((lx.length + (md_new lx (ly.take k)).length : Nat) : Int) → gxF_275 p1 p2 n 34 [y3, y4] [] [] X v X' → (v = Int32.ofInt 0 ∧ rp_b P = true ∧ 30 < A.length * B.length ∧ (X'.1 117 24).toInt ≠ 0 ∧ rx_lo s X X') ∨ (v = Int32.ofInt 1 ∧ (rx_B P X' ∨ (lx.length + (md_new lx ly).length ≤ 6 ∧ rx_jd P s j c cs lx ly A B X X'))) := by
  intro n
  have hp' : (p1 + Int32.ofInt 1).toInt = ((s + 1 : Nat) : Int) := cx_in1 hp (by omega)
  have hl6 := hlx.2.1
  have hly6 := hly.2.1
  induction n with
  | zero => intro k y3 y4 _ _ _ g; exact g.elim
  | succ n ih =>
    intro k y3 y4 hk hkl h3 g
    replace g := gxO_275_34 g
    unfold gxT_275_34 at g
    rw [if_neg (by omega), fx_in hp', hly.1] at g
    replace g := g.2
    rcases fy_ifd g with ⟨c1, g1⟩ | ⟨c1, g1⟩
    · have hk2 : k < ly.length := by omega
      obtain ⟨n8, hn8⟩ : ∃ n8, ly[k]? = some n8 := ⟨_, List.getElem?_eq_getElem hk2⟩
      have i2 : ((p1 + Int32.ofInt 1) * ((Int8.ofInt 8).toInt32) + y4).toInt = (((s + 1) * 8 + k : Nat) : Int) := rx_lin hp' rfl hk (by omega)
      rw [fx_in i2, show (s + 1) * 8 + k = 8 * (s + 1) + k by omega, hly.2.2 k n8 hn8] at g1
      obtain ⟨-, w52, X51, r, g2⟩ := g1
      obtain ⟨e51, hv⟩ := rx_233 hlx hp (by omega) r
      subst e51
      have hnt := md_new_take (a := lx) hn8
      have hle := md_new_le2 (a := lx) (b := ly)
      have hle2 := md_new_le (a := lx) (b := ly) (k := k)
      rcases fy_ifd g2 with ⟨c2, g3⟩ | ⟨c2, g3⟩
      · obtain ⟨x56, e56, x58, e58, g4⟩ := g3
        rw [if_pos (by omega)] at hnt
        refine ih (k + 1) x56 x58 (by rw [e58]; exact cx_in1 hk (by omega)) (by omega) ?_ g4
        rw [e56, cx_in1 h3 (by omega), hnt, List.length_append]
        rfl
      · obtain ⟨x54, e54, g4⟩ := g3
        rw [if_neg (by omega), List.append_nil] at hnt
        exact ih (k + 1) y3 x54 (by rw [e54]; exact cx_in1 hk (by omega)) (by omega) (by rw [hnt]; exact h3) g4
    · have : k = ly.length := by omega
      subst this
      rw [List.take_length] at h3
      rcases fy_ifd g1 with ⟨c2, g2⟩ | ⟨c2, g2⟩
      · obtain ⟨w43, X42, r, -, X48, e48, e1, e2⟩ := g2
        have hB := rx_tell (Or.inr ⟨hG, hF (by omega)⟩) (by decide) r
        right
        rw [e2, e48]
        exact ⟨e1, Or.inl (rx_B_w hB (Or.inl (by decide)))⟩
      · rw [if_neg (by omega)] at g2
        obtain ⟨w38, X37, r, e1, e2⟩ := g2
        rw [← e1, ← e2] at r
        rcases rx_276 hG hU hV hp hs hlx hly (by omega) hAB r with h | ⟨h1, h2⟩
        · exact Or.inl h
        · exact Or.inr ⟨h1, Or.inr ⟨by omega, h2⟩⟩
theorem rx_275 (hG : rx_G P X j c) (hU : rx_U P X cs.1) (hV : rx_V P X cs.1) (hp : p1.toInt = (s : Int)) (hs : 20 ≤ s ∧ s < 48) (hlx : rx_cl X s lx) (hly : rx_cl X (s + 1) ly) (hF : 6 < lx.length + (md_new lx ly).length → md_F P) (hAB : rp_b P = true → rx_Rw P X (md_m P cs.1) s A ∧ rx_Rw P X (md_m P cs.1) (s + 1) B ∧ md_okA cs.1.length lx.length A ∧ md_okA cs.1.length ly.length B) (g : gx_275 p1 p2 X v X') : (v = Int32.ofInt 0 ∧ rp_b P = true ∧ 30 < A.length * B.length ∧ (X'.1 117 24).toInt ≠ 0 ∧ rx_lo s X X') ∨ (v = Int32.ofInt 1 ∧ (rx_B P X' ∨ (lx.length + (md_new lx ly).length ≤ 6 ∧ rx_jd P s j c cs lx ly A B X X'))) := by
  obtain ⟨n, -, g⟩ := g
  have hp' : (p1 + Int32.ofInt 1).toInt = ((s + 1 : Nat) : Int) := cx_in1 hp (by omega)
  have h1 := hlx.1
  have h2 := hly.1
  rw [fx_in hp, if_neg (by omega), fx_in hp'] at g
  replace g := g.2
  rw [if_neg (by omega)] at g
  obtain ⟨-, x12, e12, g1⟩ := g
  exact rx_275l hG hU hV hp hs hlx hly hF hAB n 0 x12 _ rfl (Nat.zero_le _) (by rw [e12, h1, List.take_zero]; rfl) g1
end DD50
