/-! THE REFERENCE: a token more tells no fault -/
section DD29b
variable {P : md_P} {X X' X1 : fx_X} {K : List md_Sy} {c : md_C} {nm : md_Nm} {q : md_S} {j near l : Nat} {v w p : Int32} {s : Int} {G B : Prop}
theorem rx_214_24 (g : gx_214 X v X') (hv : v = Int32.ofInt 1) : X'.1 117 24 = X.1 117 24 := by
  unfold gx_214 at g
  rcases fy_ifd g with ⟨c1, g⟩ | ⟨c1, g⟩
  · obtain ⟨w7, X6, ⟨X2, rfl, X3, rfl, X4, rfl, rfl, rfl⟩, rfl, rfl⟩ := g
    exact absurd hv (by decide)
  · obtain ⟨X3, rfl, w5, X4, r, rfl, rfl⟩ := g
    rw [(gf_206 r).2.2 117 24 (by decide) (by decide), fx_rIk (by decide)]
theorem rx_219_24 (g : gx_219 p X v X') (hv : v = Int32.ofInt 1) : X'.1 117 24 = X.1 117 24 := by
  obtain ⟨w3, X2, r, g⟩ := g
  obtain ⟨rfl, -⟩ := rx_220 r
  rcases fy_ifd g with ⟨c1, g⟩ | ⟨c1, g⟩
  · obtain ⟨w7, X6, ⟨X2, rfl, X3, rfl, X4, rfl, rfl, rfl⟩, rfl, rfl⟩ := g
    exact absurd hv (by decide)
  · obtain ⟨w7, X6, r, rfl, rfl⟩ := g
    exact rx_214_24 r hv
theorem rx_216_24 (g : gx_216 X v X') (hv : v = Int32.ofInt 1) : X'.1 117 24 = X.1 117 24 := by
  unfold gx_216 at g
  rcases fy_ifd g with ⟨c1, g⟩ | ⟨c1, g⟩
  · obtain ⟨w4, X3, r1, X5, rfl, X6, rfl, w8, X7, r2, rfl, rfl⟩ := g
    have e3 : X3 = X := fy_e (gf_210 r1)
    subst e3
    rw [rx_214_24 r2 hv, fx_rIk (by decide)]
    rfl
  · obtain ⟨w7, X6, ⟨X2, rfl, X3, rfl, X4, rfl, rfl, rfl⟩, rfl, rfl⟩ := g
    exact absurd hv (by decide)
theorem rx_gg (h : rx_X P w X1 ∨ (w = Int32.ofInt 1 ∧ (rx_B P X1 ∨ G))) (e : w = Int32.ofInt 1 → X1.1 117 24 = X.1 117 24) (h0 : (X.1 117 24).toInt = 0) : rx_X P w X1 ∨ (w = Int32.ofInt 1 ∧ G) := by
  rcases h with h | ⟨h1, h2 | h2⟩
  · exact Or.inl h
  · exact absurd (by rw [e h1]; exact h0) h2.2.1
  · exact Or.inr ⟨h1, h2⟩
/-- from where no fault is -/
theorem rx_214g (hG : rx_G P X j c) (hR : md_R P ((s, l) :: K) j near c nm q) (hT : (rp_T P).1 j = s ∧ 3 ≤ s ∧ s < 130) (g : gx_214 X v X') : rx_X P v X' ∨ (v = Int32.ofInt 1 ∧ (rx_G P X' (j + 1) c ∧ md_R P K (j + 1) j c nm q)) := by
  have h := rx_gg (rx_214 (Q := True) (Or.inr ⟨hG, hR, hT, True.intro⟩) g) (rx_214_24 g) hG.2.2.2.2.2.1
  exact h.imp id (fun z => ⟨z.1, z.2.1, z.2.2.1⟩)
theorem rx_219g (hG : rx_G P X j c) (hR : md_R P ((s, l) :: K) j near c nm q) (hs : s ∈ md_sg) (hp : p.toInt = s) (g : gx_219 p X v X') : rx_X P v X' ∨ (v = Int32.ofInt 1 ∧ (rx_G P X' (j + 1) c ∧ md_R P K (j + 1) j c nm q)) := by
  have h := rx_gg (rx_219 (Q := True) (Or.inr ⟨hG, hR, True.intro⟩) hs hp g) (rx_219_24 g) hG.2.2.2.2.2.1
  exact h.imp id (fun z => ⟨z.1, z.2.1, z.2.2.1⟩)
theorem rx_216g (hG : rx_G P X j c) (hR : md_R P ((3, l) :: K) j near c nm q) (g : gx_216 X v X') : rx_X P v X' ∨ (v = Int32.ofInt 1 ∧ (rx_G P X' (j + 1) c ∧ md_R P K (j + 1) j c nm q ∧ (X'.2.1 117 33 = (rp_T P).2 j ∧ (rp_T P).1 j = 3))) := by
  have h := rx_gg (rx_216 (Q := True) (Or.inr ⟨hG, hR, True.intro⟩) g) (rx_216_24 g) hG.2.2.2.2.2.1
  exact h.imp id (fun z => ⟨z.1, z.2.1, z.2.2.1, z.2.2.2.1⟩)
/-- a fault kept, seen through a last call -/
theorem rx_BE {G : Prop} (hB : rx_B P X') (hv : v = Int32.ofInt 0 ∨ v = Int32.ofInt 1) : rx_X P v X' ∨ (v = Int32.ofInt 1 ∧ (rx_B P X' ∨ G)) := by
  rcases hv with hv | hv
  · exact Or.inl ⟨hv, hB.1, hB.2.1⟩
  · exact Or.inr ⟨hv, Or.inl hB⟩
end DD29b
