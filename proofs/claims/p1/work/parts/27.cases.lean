/-! EVERY SCRIPT -/
theorem aj_zb {v : Int32} (h : ¬ v < 0) (h0 : v ≠ 0) : (1 : Int32) ≤ v := by
  rw [Int32.lt_iff_toInt_lt] at h
  rw [Int32.le_iff_toInt_le]
  have h1 : v.toInt ≠ (0 : Int32).toInt := fun e => h0 (Int32.toInt_inj.mp e)
  have e0 : (0 : Int32).toInt = 0 := rfl
  have e1 : (1 : Int32).toInt = 1 := rfl
  omega
theorem aj_zp {v : Int32} (h : ¬ v < 0) : (0 : Int32) ≤ v := by
  rw [Int32.lt_iff_toInt_lt] at h
  rw [Int32.le_iff_toInt_le]
  omega
theorem aj_zl {v : Int32} (h : ¬ v < 0) (h0 : v ≠ 0) : ¬ v ≤ 0 := by
  have h1 := aj_zb h h0
  rw [Int32.le_iff_toInt_le] at *
  have e0 : (0 : Int32).toInt = 0 := rfl
  have e1 : (1 : Int32).toInt = 1 := rfl
  omega
theorem aj_all6 (xs : Nat → Int32) : aj_LTF 6 xs 18 aj_lv0 [] (aj_sH (aj_rho xs) aj_h0) 98 aj_k0 := by
  by_cases ho : (xs 0 &&& 31).toInt < 0 ∨ 19 < (xs 0 &&& 31).toInt
  · exact aj_way20 ho
  · obtain ⟨k, hk⟩ : ∃ k : Nat, (xs 0 &&& 31).toInt = (k : Int) := ⟨(xs 0 &&& 31).toInt.toNat, by omega⟩
    have hk19 : k ≤ 19 := by omega
    have hj : k = 0 ∨ k = 1 ∨ k = 2 ∨ k = 3 ∨ k = 4 ∨ k = 5 ∨ k = 6 ∨ k = 7 ∨ k = 8 ∨ k = 9 ∨ k = 10 ∨ k = 11 ∨ k = 12 ∨ k = 13 ∨ k = 14 ∨ k = 15 ∨ k = 16 ∨ k = 17 ∨ k = 18 ∨ k = 19 := by omega
    have z1 : ¬ xs 1 < 0 → (0 : Int32) ≤ xs 1 := aj_zp
    have z2 : ¬ xs 2 < 0 → (0 : Int32) ≤ xs 2 := aj_zp
    rcases hj with rfl | rfl | rfl | rfl | rfl | rfl | rfl | rfl | rfl | rfl | rfl | rfl | rfl | rfl | rfl | rfl | rfl | rfl | rfl | rfl
    · exact aj_way0 hk
    · by_cases a : xs 1 < 0
      · exact aj_way1A hk a
      · by_cases z : xs 1 = 0
        · exact aj_way1C z hk
        · exact aj_way1B hk a (aj_zl a z)
    · exact aj_way2 hk
    · exact aj_way3 hk
    · exact aj_way4 hk
    · exact aj_way5 hk
    · exact aj_way6 hk
    · exact aj_way7 hk
    · by_cases a : xs 1 < 0
      · exact aj_way8n hk a
      · by_cases z : xs 1 = 0
        · by_cases c : xs 2 < 0
          · exact aj_way8zn z hk c
          · exact aj_way8zp z hk c
        · by_cases c : xs 2 < 0
          · exact aj_way8bn hk a (aj_zb a z) c
          · exact aj_way8bp hk a (aj_zb a z) c
    · by_cases a : xs 1 < 0
      · exact aj_way9n hk a
      · exact aj_way9p hk a (z1 a)
    · by_cases a : xs 1 < 0
      · exact aj_way10n hk a
      · exact aj_way10p hk a (z1 a)
    · by_cases a : xs 1 < 0
      · exact aj_way11n hk a
      · exact aj_way11p hk a (z1 a)
    · by_cases a : xs 1 < 0
      · by_cases z : xs 3 = 0
        · exact aj_way12nz z hk a
        · by_cases c : xs 3 < 0
          · exact aj_way12nn hk a c
          · exact aj_way12nb hk a c (aj_zb c z)
      · by_cases z : xs 3 = 0
        · exact aj_way12pz z hk a (z1 a)
        · by_cases c : xs 3 < 0
          · exact aj_way12pn hk a (z1 a) c
          · exact aj_way12pb hk a (z1 a) c (aj_zb c z)
    · by_cases a : xs 1 < 0
      · by_cases z : xs 2 = 0
        · exact aj_way13nz z hk a
        · by_cases c : xs 2 < 0
          · exact aj_way13nn hk a c
          · exact aj_way13nb hk a c (aj_zb c z)
      · by_cases z : xs 2 = 0
        · exact aj_way13pz z hk a (z1 a)
        · by_cases c : xs 2 < 0
          · exact aj_way13pn hk a (z1 a) c
          · exact aj_way13pb hk a (z1 a) c (aj_zb c z)
    · by_cases a : xs 1 < 0
      · by_cases z : xs 2 = 0
        · exact aj_way14nz z hk a
        · by_cases c : xs 2 < 0
          · exact aj_way14nn hk a c
          · exact aj_way14nb hk a c (aj_zb c z)
      · by_cases z : xs 2 = 0
        · exact aj_way14pz z hk a (z1 a)
        · by_cases c : xs 2 < 0
          · exact aj_way14pn hk a (z1 a) c
          · exact aj_way14pb hk a (z1 a) c (aj_zb c z)
    · by_cases a : xs 1 < 0
      · exact aj_way15n hk a
      · exact aj_way15p hk a (z1 a)
    · by_cases a : xs 1 < 0
      · exact aj_way16n hk a
      · exact aj_way16p hk a (z1 a)
    · by_cases a : xs 1 < 0
      · exact aj_way17n hk a
      · exact aj_way17p hk a (z1 a)
    · by_cases a : xs 1 < 0
      · by_cases c : xs 2 < 0
        · exact aj_way18nn hk a c
        · exact aj_way18np hk a c (z2 c)
      · by_cases c : xs 2 < 0
        · exact aj_way18pn hk a (z1 a) c
        · exact aj_way18pp hk a (z1 a) c (z2 c)
    · by_cases a : (xs 1).toInt < 0 ∨ 6 < (xs 1).toInt
      · exact aj_way19o hk a
      · have hj : (xs 1).toInt = 0 ∨ (xs 1).toInt = 1 ∨ (xs 1).toInt = 2 ∨ (xs 1).toInt = 3 ∨ (xs 1).toInt = 4 ∨ (xs 1).toInt = 5 ∨ (xs 1).toInt = 6 := by omega
        rcases hj with j | j | j | j | j | j | j
        · exact aj_way19_0 hk j
        · exact aj_way19_1 hk j
        · exact aj_way19_2 hk j
        · exact aj_way19_3 hk j
        · exact aj_way19_4 hk j
        · exact aj_way19_5 hk j
        · exact aj_way19_6 hk j
theorem aj_every {L : Nat} (hL : L ≤ 6) (xs : Nat → Int32) : aj_LTF L xs 0 [(0, .ref 51)] [] [] 0 0 := by
  by_cases h : L < 6
  · exact aj_short h xs
  · have : L = 6 := by omega
    subst this
    exact aj_enter (aj_all6 xs)
