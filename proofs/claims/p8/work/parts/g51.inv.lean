/-! WHAT HOLDS OF THE REFERENCE'S CELLS, KEPT BY WRITES; more steps -/
def aw_Gc (G : aj_S → Prop) : Prop := (∀ S k v, (11, k) ∉ ak_spFM → G S → G (aw_wf S k v)) ∧ (∀ S k v, G S → G (aw_wl S k v)) ∧ (∀ S k j v, 101 + k ∉ ak_spTM → G S → G (aw_wa S k j v)) ∧ (∀ S k j v, 101 + k ∉ ak_spTM → G S → G (aw_wb S k j v))
def aw_I (s : List Nat) (h : aj_H) (G : aj_S → Prop) (S : aj_S) : Prop := ak_Ty ak_TN s (aj_mh h S) ∧ G S
abbrev aw_V (tb : aj_T) (s : List Nat) (h : aj_H) (G : aj_S → Prop) : Prop := aw_E tb h ∧ ak_tbOK ak_TN tb ∧ aw_sT s ∧ aw_Gc G
section AWINV
variable {tb : aj_T} {s : List Nat} {h : aj_H} {G : aj_S → Prop} {S : aj_S}
theorem aw_full (x : Int32) : -2147483648 ≤ x.toInt ∧ x.toInt ≤ 2147483647 := ak_rng x
theorem aw_bp {x : Int32} {a lo hi : Int} (hx : x.toInt = a) (h1 : lo ≤ a) (h2 : a ≤ hi) : lo ≤ x.toInt ∧ x.toInt ≤ hi := by omega
theorem aw_fitb {x : Int32} {a : Int} (hx : x.toInt = a) (h : a = 0 ∨ a = 1) : aj_fit .boolean (.int x) = true := by
  have : x = 0 ∨ x = 1 := by
    rcases h with h | h
    · exact Or.inl (Int32.toInt_inj.mp (by rw [hx, h]; rfl))
    · exact Or.inr (Int32.toInt_inj.mp (by rw [hx, h]; rfl))
  rcases this with rfl | rfl <;> rfl
theorem aw_I_f (hV : aw_V tb s h G) {k : Nat} {v : Int32} (hI : aw_I s h G S) (hsp : (11, k) ∉ ak_spFM) (hk : k ∈ aj_mi) {lo hi : Int} (hf : aw_fa[k]? = some (.inl (lo, hi))) (hv : lo ≤ v.toInt ∧ v.toInt ≤ hi) : aw_I s h G (aw_wf S k v) := ⟨aw_T_f hV.2.1 hV.2.2.1 hV.1.1 hI.1 hk hf hv, hV.2.2.2.1 S k v hsp hI.2⟩
theorem aw_I_l (hV : aw_V tb s h G) {k : Nat} {v : Int64} (hI : aw_I s h G S) (hk : k ∈ aj_mj) : aw_I s h G (aw_wl S k v) := ⟨aw_T_l hV.2.1 hV.2.2.1 hV.1.1 hI.1 hk, hV.2.2.2.2.1 S k v hI.2⟩
theorem aw_I_a (hV : aw_V tb s h G) {k kd n j : Nat} {v : Int32} (hI : aw_I s h G S) (hsp : 101 + k ∉ ak_spTM) (hk : k < 33) (hk0 : k ≠ 0) (hm : aj_ml[k]? = some (kd, n)) (hkd : kd ≠ 1) (hkd5 : kd < 5) {lo hi : Int} (hf : ak_ti[101 + k]? = some (.inr (kd, n, n, .inl (lo, hi)))) (hv : lo ≤ v.toInt ∧ v.toInt ≤ hi) : aw_I s h G (aw_wa S k j v) := ⟨aw_T_a hV.2.1 hV.2.2.1 hV.1.1 hI.1 hk hk0 hm hkd hkd5 hf hv, hV.2.2.2.2.2.1 S k j v hsp hI.2⟩
theorem aw_I_b (hV : aw_V tb s h G) {k n j : Nat} {v : Int64} (hI : aw_I s h G S) (hsp : 101 + k ∉ ak_spTM) (hk : k < 33) (hk0 : k ≠ 0) (hm : aj_ml[k]? = some (1, n)) (hf : ak_ti[101 + k]? = some (.inr (1, n, n, .inr none))) : aw_I s h G (aw_wb S k j v) := ⟨aw_T_b hV.2.1 hV.2.2.1 hV.1.1 hI.1 hk hk0 hm hf, hV.2.2.2.2.2.2 S k j v hsp hI.2⟩
theorem aw_nar0 (v : Int32) : aj_nar 0 v = v := rfl
theorem aw_nar2 (v : Int32) : 0 ≤ (aj_nar 2 v).toInt ∧ (aj_nar 2 v).toInt ≤ 1 := by
  have k := ak_nar_ok (kd := 2) (q := ak_full) (ak_win_full v) (Or.inr (Or.inl rfl))
  exact k
theorem aw_nar4 {v : Int32} {lo hi : Int} (hv : lo ≤ v.toInt ∧ v.toInt ≤ hi) (h1 : -128 ≤ lo) (h2 : hi ≤ 127) : lo ≤ (aj_nar 4 v).toInt ∧ (aj_nar 4 v).toInt ≤ hi := by
  have k := ak_nar_ok (kd := 4) (q := (lo, hi)) hv (Or.inr (Or.inr (Or.inr rfl)))
  have e : ak_nar 4 (lo, hi) = (lo, hi) := by
    unfold ak_nar
    simp [h1, h2]
  rw [e] at k
  exact k
end AWINV
section AWP2
variable {tb : aj_T} {h : aj_H} {d : Nat} {mm : aj_M} {pc : Nat} {lv : aj_V} {st rest : List Value} {S : aj_S} {Q : Option Value → aj_S → Prop} {ct : List (Nat × Instr × Nat)}
theorem aw_inc (hct : aj_ctOK ct mm.2.1) {k : Nat} {n : Int} (hd : aj_ct ct pc = some (.iinc k n, 3)) {x : Int32} (hx0 : aj_lv lv k = some (.int x)) {a : Int} (hx : x.toInt = a) (h1 : -2147483648 ≤ a + n) (h2 : a + n ≤ 2147483647) (hn : -32768 ≤ n ∧ n < 32768) (hlen : k < mm.2.2.1) (kk : ∀ z : Int32, z.toInt = a + n → aw_W tb h d mm (pc + 3) (aj_set1 lv k (.int z)) st S Q) : aw_W tb h d mm pc lv st S Q := by
  refine aw_n hct hd ?_ (kk (x + Int32.ofInt n) ?_)
  · unfold aj_step
    dsimp only
    rw [hx0]
    dsimp only
    rw [if_pos ⟨rfl, hlen⟩]
    rfl
  · rw [Int32.toInt_add, hx, Int32.toInt_ofInt]
    have e : n.bmod (2 ^ 32) = n := ak_bm (by omega) (by omega)
    have e2 : n.bmod Int32.size = n := e
    rw [e2]
    exact ak_bm h1 h2
theorem aw_div (hct : aj_ctOK ct mm.2.1) (hd : aj_ct ct pc = some (.idiv, 1)) {x y : Int32} {a b : Int} (hx : x.toInt = a) (hy : y.toInt = b) (h1 : 0 ≤ a) (h2 : 1 ≤ b) (k : ∀ z : Int32, z.toInt = a / b → aw_W tb h d mm (pc + 1) lv (.int z :: rest) S Q) : aw_W tb h d mm pc lv (.int y :: .int x :: rest) S Q := by
  subst hx
  subst hy
  have hy0 : ¬ y = 0 := fun z => by rw [z] at h2; exact absurd h2 (by decide)
  refine aw_n hct hd ?_ (k (x / y) (ak_div_nn h1 h2))
  unfold aj_step
  dsimp only
  rw [if_pos rfl]
  unfold aj_iz
  dsimp only
  rw [if_neg hy0]
  rfl
theorem aw_rem (hct : aj_ctOK ct mm.2.1) (hd : aj_ct ct pc = some (.irem, 1)) {x y : Int32} {a b : Int} (hx : x.toInt = a) (hy : y.toInt = b) (h1 : 0 ≤ a) (h2 : 1 ≤ b) (k : ∀ z : Int32, z.toInt = a % b → aw_W tb h d mm (pc + 1) lv (.int z :: rest) S Q) : aw_W tb h d mm pc lv (.int y :: .int x :: rest) S Q := by
  subst hx
  subst hy
  have hy0 : ¬ y = 0 := fun z => by rw [z] at h2; exact absurd h2 (by decide)
  refine aw_n hct hd ?_ (k (x - x / y * y) (ak_rem_nn h1 h2))
  unfold aj_step
  dsimp only
  rw [if_pos rfl]
  unfold aj_iz
  dsimp only
  rw [if_neg hy0]
  rfl
end AWP2
