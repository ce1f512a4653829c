/-! THE CLASS'S WORKER: a TABLE loaded -/
section CX65
variable {X X' X0 X1 : fx_X} {v p p0 p1 p2 p3 p4 p5 p6 : Int32} {u : Unit} {sr r r' rs W n i i' j j' c l w w' m k t wd a b : Nat} {A : List md_Row} {sk : List md_Q}
theorem cx_99 (hs : sr = 54 ∨ sr = 66) (hO : cx_O X) (h4 : (X.1 95 4).toInt = (sk.length : Int)) (h20 : sk.length < 20) (hls : cx_ls X W sk) (ht : t < 10) (hr : X.2.2.1 (sr + 8) t = some r) (hR : cx_Rr X r W A) (hw3 : (X.1 r 3).toInt = (wd : Int)) (hA : md_okA n wd A) (hW : W ≤ 1024) (g : gx_99_2 r X u X') : cx_ls X' W ((wd, A) :: sk) ∧ (X'.1 95 4).toInt = ((sk.length + 1 : Nat) : Int) ∧ cx_O X' ∧ ∃ rr X2, X2.2.2.1 101 sk.length = some rr ∧ cx_na sk.length X X2 ∧ cx_O X2 ∧ X'.2 = X2.2 ∧ ∀ q j, ¬ (q = 95 ∧ j = 4) → (q < rr ∨ rr + 4 ≤ q) → X'.1 q j = X.1 q j := by
  obtain ⟨w3, X2, r1, w5, X4, r2, X6, e6, rfl⟩ := g
  obtain ⟨a1, a2, a3⟩ := cx_100 hO h4 h20 r1
  obtain ⟨n1, n2, n3, n4, n5⟩ := a2
  have hO1 := hO.1
  have sl1 : cx_sl (101, sk.length) := Or.inr (Or.inr (Or.inl ⟨rfl, h20⟩))
  have hr2 : X2.2.2.1 (sr + 8) t = some r := by rw [n4 _ _ (by omega) (by omega)]; exact hr
  have hap : w3 + 4 ≤ r ∨ r + 4 ≤ w3 := by
    rcases a3.2.2 (101, sk.length) (sr + 8, t) w3 r sl1 (cx_slot hs ht) a1 hr2 with z | z
    · have := congrArg Prod.fst z
      replace this : 101 = sr + 8 := this
      omega
    · exact z
  have hw := (a3.2.1 (101, sk.length) w3 sl1 a1).1
  have hR2 : cx_Rr X2 r W A := cx_Rr_e hR (by rw [n1]) (fun k => by rw [n1]) (fun k => by rw [n1]) (fun k => by rw [n1])
  obtain ⟨b1, b2, b3⟩ := cx_101 hap hA (by rw [n1]; exact hw3) hR2 hW r2
  have h44 : (X4.1 95 4).toInt = (sk.length : Int) := by rw [b2.2 _ _ (by omega), n1]; exact h4
  have r6 : X'.2 = X2.2 := by rw [e6]; exact b2.1
  have f6 : ∀ q j, ¬ (q = 95 ∧ j = 4) → X'.1 q j = X4.1 q j := fun q j z => by rw [e6, fx_rI, if_neg z]
  have hO6 : cx_O X' := by unfold cx_O; rw [r6]; exact a3
  refine ⟨⟨⟨w3, by rw [r6]; exact a1, by rw [f6 _ _ (by omega)]; exact b3, cx_Rr_e b1 (f6 _ _ (by omega)) (fun k => f6 _ _ (by omega)) (fun k => f6 _ _ (by omega)) (fun k => f6 _ _ (by omega))⟩, cx_ls_e sk (fun i r' hi hr' => ?_) hls⟩, by rw [e6, fx_rIe]; exact cx_inc h44 (by omega), hO6, w3, X2, a1, ⟨n1, n2, n3, n4, n5⟩, a3, r6, fun q j z1 z2 => by rw [f6 q j z1, b2.2 q j z2, n1]⟩
  have hr2' : X2.2.2.1 101 i = some r' := by rw [n4 _ _ (by omega) (by omega)]; exact hr'
  have sl2 : cx_sl (101, i) := Or.inr (Or.inr (Or.inl ⟨rfl, by show i < 20; omega⟩))
  have hr'2 := (a3.2.1 (101, i) r' sl2 hr2').1
  have hap2 : w3 + 4 ≤ r' ∨ r' + 4 ≤ w3 := by
    rcases a3.2.2 (101, sk.length) (101, i) w3 r' sl1 sl2 a1 hr2' with z | z
    · have := congrArg Prod.snd z
      replace this : sk.length = i := this
      omega
    · exact z
  exact ⟨by rw [r6]; exact hr2', fun q j z1 z2 => by rw [f6 q j (by omega), b2.2 q j (by omega), n1]⟩
end CX65
