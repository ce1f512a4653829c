/-! LEAVES OF THE REFERENCE: what they say -/
section ARA0
variable {tb : aj_T} {s : List Nat} {h : aj_H} {S S' : aj_S} {d k n : Nat} {x y z : Int32} {a b c : Int}
theorem ar_stop (hU : aw_U tb s h) (hT : ak_Ty ak_TN s (aj_mh h S)) (hd : 1 ≤ d) {p : Int32} (hx : x.toInt = a) : aw_K tb h d 215 [.ref 117, .int x, .int p] S (fun r S' => ak_Ty ak_TN s (aj_mh h S') ∧ aw_fr [24, 25, 31] [] S S' ∧ r = some (.int 0) ∧ (S'.1 24).toInt = a) := by
  obtain ⟨d, rfl⟩ : ∃ e, d = e + 1 := ⟨d - 1, by omega⟩
  have hs := aw_hy_sT hU.2.2
  refine aw_mono ?_ (aw_of (aj_stop_ok (S := S) hU.1.1 hU.1.2 d x p))
  rintro r S' ⟨rfl, rfl⟩
  have t1 := aw_T_f (v := x) hU.2.1 hs hU.1.1 hT (k := 24) (by decide) rfl (aw_full _)
  have t2 := aw_T_f (v := p) hU.2.1 hs hU.1.1 t1 (k := 25) (by decide) rfl (aw_full _)
  have t3 := aw_T_f (v := 1) hU.2.1 hs hU.1.1 t2 (k := 31) (by decide) rfl (by decide)
  exact ⟨t3, aw_fr_f (k := 31) (v := 1) (by decide) (aw_fr_f (k := 25) (v := p) (by decide) (aw_fr_f (k := 24) (v := x) (by decide) aw_fr_rf)), rfl, hx⟩
theorem ar_tell (hU : aw_U tb s h) (hT : ak_Ty ak_TN s (aj_mh h S)) (hd : 1 ≤ d) {p : Int32} (hx : x.toInt = a) (ha : a ≠ 0) : aw_K tb h d 218 [.ref 117, .int x, .int p] S (fun r S' => ak_Ty ak_TN s (aj_mh h S') ∧ aw_fr [24, 25] [] S S' ∧ r = none ∧ ((S.1 32).toInt = 0 → (S'.1 24).toInt ≠ 0) ∧ ((S.1 32).toInt ≠ 0 → S' = S)) := by
  obtain ⟨d, rfl⟩ : ∃ e, d = e + 1 := ⟨d - 1, by omega⟩
  have hs := aw_hy_sT hU.2.2
  refine aw_mono ?_ (aw_of (aj_tell_ok (S := S) hU.1.1 hU.1.2 d x p))
  rintro r S' ⟨rfl, rfl⟩
  have t1 := aw_T_f (v := x) hU.2.1 hs hU.1.1 hT (k := 24) (by decide) rfl (aw_full _)
  have t2 := aw_T_f (v := p) hU.2.1 hs hU.1.1 t1 (k := 25) (by decide) rfl (aw_full _)
  have T1 : ak_Ty ak_TN s (aj_mh h (aj_tellT S x p)) := t2
  have T2 : aw_fr [24, 25] [] S (aj_tellT S x p) := aw_fr_f (k := 25) (v := p) (by decide) (aw_fr_f (k := 24) (v := x) (by decide) aw_fr_rf)
  have T3 : ((aj_tellT S x p).1 24).toInt ≠ 0 := fun z => ha (hx.symm.trans z)
  have n0 : ∀ {v : Int32}, v ≠ 0 → v.toInt ≠ 0 := fun hv z => hv (Int32.toInt_inj.mp (by rw [z]; rfl))
  unfold aj_tellS
  split
  · rename_i e32
    have e32' : (S.1 32).toInt = 0 := by rw [e32]; rfl
    have P : ak_Ty ak_TN s (aj_mh h (aj_tellT S x p)) ∧ aw_fr [24, 25] [] S (aj_tellT S x p) ∧ (none : Option Value) = none ∧ ((S.1 32).toInt = 0 → ((aj_tellT S x p).1 24).toInt ≠ 0) ∧ ((S.1 32).toInt ≠ 0 → aj_tellT S x p = S) := ⟨T1, T2, rfl, fun _ => T3, fun z => absurd e32' z⟩
    split
    · exact P
    · rename_i e24
      have R : ak_Ty ak_TN s (aj_mh h S) ∧ aw_fr [24, 25] [] S S ∧ (none : Option Value) = none ∧ ((S.1 32).toInt = 0 → (S.1 24).toInt ≠ 0) ∧ ((S.1 32).toInt ≠ 0 → S = S) := ⟨hT, aw_fr_rf, rfl, fun _ => n0 e24, fun _ => rfl⟩
      split
      · exact R
      · split
        · split
          · exact P
          · exact R
        · exact P
  · rename_i e32
    exact ⟨hT, aw_fr_rf, rfl, fun z => absurd z (n0 e32), fun _ => rfl⟩
theorem ar_isV (hz : z.toInt = a) (hx : x.toInt = b) : ((aj_isV S z x).toInt = 1 ∧ (S.1 26).toInt = a ∧ (S.1 29).toInt = b) ∨ ((aj_isV S z x).toInt = 0 ∧ ¬ ((S.1 26).toInt = a ∧ (S.1 29).toInt = b)) := by
  unfold aj_isV
  have e1 : S.1 26 = z ↔ (S.1 26).toInt = a := by rw [← hz]; exact Int32.toInt_inj.symm
  have e2 : S.1 29 = x ↔ (S.1 29).toInt = b := by rw [← hx]; exact Int32.toInt_inj.symm
  split
  · rename_i q1
    split
    · rename_i q2
      exact Or.inl ⟨rfl, e1.mp q1, e2.mp q2⟩
    · rename_i q2
      exact Or.inr ⟨rfl, fun q => q2 (e2.mpr q.2)⟩
  · rename_i q1
    exact Or.inr ⟨rfl, fun q => q1 (e1.mpr q.1)⟩
theorem ar_isSign (hU : aw_U tb s h) (hd : 1 ≤ d) (hx : x.toInt = b) : aw_K tb h d 220 [.ref 117, .int x] S (fun r S' => S' = S ∧ ∃ v : Int32, r = some (.int v) ∧ ((v.toInt = 1 ∧ (S.1 26).toInt = 3 ∧ (S.1 29).toInt = b) ∨ (v.toInt = 0 ∧ ¬ ((S.1 26).toInt = 3 ∧ (S.1 29).toInt = b)))) := by
  obtain ⟨d, rfl⟩ : ∃ e, d = e + 1 := ⟨d - 1, by omega⟩
  refine aw_mono ?_ (aw_of (aj_isSign_ok (S := S) hU.1.1 hU.1.2 d x))
  rintro r S' ⟨rfl, rfl⟩
  exact ⟨rfl, _, rfl, ar_isV rfl hx⟩
theorem ar_isWord (hU : aw_U tb s h) (hd : 1 ≤ d) (hx : x.toInt = b) : aw_K tb h d 212 [.ref 117, .int x] S (fun r S' => S' = S ∧ ∃ v : Int32, r = some (.int v) ∧ ((v.toInt = 1 ∧ (S.1 26).toInt = 4 ∧ (S.1 29).toInt = b) ∨ (v.toInt = 0 ∧ ¬ ((S.1 26).toInt = 4 ∧ (S.1 29).toInt = b)))) := by
  obtain ⟨d, rfl⟩ : ∃ e, d = e + 1 := ⟨d - 1, by omega⟩
  refine aw_mono ?_ (aw_of (aj_isWord_ok (S := S) hU.1.1 hU.1.2 d x))
  rintro r S' ⟨rfl, rfl⟩
  exact ⟨rfl, _, rfl, ar_isV rfl hx⟩
theorem ar_at3 {m e : Int} {v : Int32} (hm : v.toInt = e) (hx : x.toInt = a) (hy : y.toInt = b) (hz : z.toInt = m) (h1 : 0 ≤ a ∧ a ≤ 49) (h2 : 0 ≤ b ∧ b ≤ 30) (he : e = 30) (h3 : 0 ≤ m ∧ m ≤ 32) : ((x * v + y) * z).toInt = (a * 30 + b) * m := by
  subst he
  have p1 : (x * v).toInt = a * 30 := by rw [Int32.toInt_mul, hx, hm]; exact ak_bm (by omega) (by omega)
  have p2 : (x * v + y).toInt = a * 30 + b := by rw [Int32.toInt_add, p1, hy]; exact ak_bm (by omega) (by omega)
  have p4 : 0 ≤ (a * 30 + b) * m := Int.mul_nonneg (by omega) (by omega)
  have p5 : (a * 30 + b) * m ≤ 1500 * 32 := Int.mul_le_mul (by omega) (by omega) (by omega) (by omega)
  rw [Int32.toInt_mul, p2, hz]
  exact ak_bm (by omega) (by omega)
theorem ar_at (hd : 1 ≤ d) (hx : x.toInt = a) (hy : y.toInt = b) (h1 : 0 ≤ a ∧ a ≤ 49) (h2 : 0 ≤ b ∧ b ≤ 30) : aw_K tb h d 225 [.ref 117, .int x, .int y] S (fun r S' => S' = S ∧ ∃ v : Int32, r = some (.int v) ∧ v.toInt = (a * 30 + b) * 32) := by
  obtain ⟨d, rfl⟩ : ∃ e, d = e + 1 := ⟨d - 1, by omega⟩
  refine aw_mono ?_ (aw_of (aj_at_ok _ d x y))
  rintro r S' ⟨rfl, rfl⟩
  exact ⟨rfl, _, rfl, ar_at3 (e := 30) (m := 32) rfl hx hy rfl h1 h2 rfl (by decide)⟩
theorem ar_cellAt (hd : 1 ≤ d) (hx : x.toInt = a) (hy : y.toInt = b) (hz : z.toInt = c) (h1 : 0 ≤ a ∧ a ≤ 49) (h2 : 0 ≤ b ∧ b ≤ 30) (h3 : -100000 ≤ c ∧ c ≤ 100000) : aw_K tb h d 236 [.int x, .int y, .int z] S (fun r S' => S' = S ∧ ∃ v : Int32, r = some (.int v) ∧ v.toInt = (a * 30 + b) * 8 + c) := by
  obtain ⟨d, rfl⟩ : ∃ e, d = e + 1 := ⟨d - 1, by omega⟩
  refine aw_mono ?_ (aw_of (aj_cellAt_ok _ d x y z))
  rintro r S' ⟨rfl, rfl⟩
  have p := ar_at3 (v := 30) (z := 8) (e := 30) (m := 8) rfl hx hy rfl h1 h2 rfl (by decide)
  refine ⟨rfl, _, rfl, ?_⟩
  rw [Int32.toInt_add, p, hz]
  exact ak_bm (by omega) (by omega)
theorem ar_word {w : Int32} (hx : x.toInt = a) (hw : w.toInt = b) (h1 : 0 ≤ a ∧ a ≤ 100000) (h2 : 0 ≤ b ∧ b ≤ 1023) : (aj_wordV x w).toInt = a + b / 32 := by
  unfold aj_wordV
  have p := ak_shr_ok 5 (by decide) w (Int32.ofInt 5) rfl
  have p2 : ((2 : Int) ^ 5) = 32 := by decide
  rw [hw, p2] at p
  rw [Int32.toInt_add, hx, p]
  exact ak_bm (by omega) (by omega)
theorem ar_bit (hU : aw_U tb s h) (hd : 1 ≤ d) (hk3 : k < 33) (hk0 : k ≠ 0) (hm : aj_ml[k]? = some (0, n)) {w : Int32} (hx : x.toInt = a) (hw : w.toInt = b) (h1 : 0 ≤ a) (h2 : 0 ≤ b ∧ b ≤ 1023) (h3 : a + b / 32 < n) (h4 : (n : Int) ≤ 48000) : aw_K tb h d 227 [.ref (117 + k), .int x, .int w] S (fun r S' => S' = S ∧ ∃ v : Int32, r = some (.int v) ∧ (v.toInt = 0 ∨ v.toInt = 1) ∧ v = aj_bitV (S.2.2.1 k) x w) := by
  obtain ⟨d, rfl⟩ : ∃ e, d = e + 1 := ⟨d - 1, by omega⟩
  have e := ar_word (w := w) hx hw (by omega) h2
  refine aw_mono ?_ (aw_of (aj_bit_ok (S := S) hU.1.1 hU.1.2 d hk3 hk0 hm x w (cw_in e (by omega) h3).1))
  rintro r S' ⟨rfl, rfl⟩
  refine ⟨rfl, _, rfl, ?_, rfl⟩
  rcases aj_bitV_01 (S'.2.2.1 k) x w with q | q <;> rw [q]
  · exact Or.inl rfl
  · exact Or.inr rfl
theorem ar_put (hU : aw_U tb s h) (hT : ak_Ty ak_TN s (aj_mh h S)) (hd : 1 ≤ d) (hk3 : k < 33) (hk0 : k ≠ 0) (hm : aj_ml[k]? = some (0, n)) (hf : ak_ti[101 + k]? = some (.inr (0, n, n, .inl (-2147483648, 2147483647)))) {w : Int32} (hx : x.toInt = a) (hw : w.toInt = b) (h1 : 0 ≤ a) (h2 : 0 ≤ b ∧ b ≤ 1023) (h3 : a + b / 32 < n) (h4 : (n : Int) ≤ 48000) : aw_K tb h d 228 [.ref (117 + k), .int x, .int w, .int y] S (fun r S' => ak_Ty ak_TN s (aj_mh h S') ∧ aw_fr [] [k] S S' ∧ r = none ∧ S' = aw_wa S k (a + b / 32).toNat (aj_putX (S.2.2.1 k) x w y)) := by
  obtain ⟨d, rfl⟩ : ∃ e, d = e + 1 := ⟨d - 1, by omega⟩
  have e := ar_word (w := w) hx hw (by omega) h2
  have e2 := cw_in e (by omega) h3
  refine aw_mono ?_ (aw_of (aj_put2_ok (S := S) hU.1.1 hU.1.2 d hk3 hk0 hm x w y e2.1))
  rintro r S' ⟨rfl, rfl⟩
  have es : aj_putS S k x w y = aw_wa S k (a + b / 32).toNat (aj_putX (S.2.2.1 k) x w y) := by
    unfold aj_putS aw_wa
    rw [e2.2]
  rw [es]
  exact ⟨aw_T_a hU.2.1 (aw_hy_sT hU.2.2) hU.1.1 hT hk3 hk0 hm (by decide) (by decide) hf (aw_full _), aw_fr_a (List.mem_singleton.mpr rfl) aw_fr_rf, rfl, rfl⟩
end ARA0
