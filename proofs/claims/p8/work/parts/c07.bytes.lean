/-! TOKENS: alike on the class's chars and the reference's bytes -/
/-- chars f, bytes g -/
def md_by (f g : Nat → Int32) (N : Nat) : Prop := ∀ i, i < N → f i = g i ∨ ((g i).toInt < 0 ∧ 128 ≤ (f i).toInt)
section CX7
variable {f g : Nat → Int32} {N k e nx : Nat} {p : Int → Prop}
theorem md_by_p (h : md_by f g N) (hp : ∀ c, p c → 0 ≤ c ∧ c ≤ 127) {i : Nat} (hi : i < N) : p (f i).toInt ↔ p (g i).toInt := by
  rcases h i hi with q | ⟨q1, q2⟩
  · rw [q]
  · exact ⟨fun z => by have := hp _ z; omega, fun z => by have := hp _ z; omega⟩
theorem md_by_e (h : md_by f g N) (hp : ∀ c, p c → 0 ≤ c ∧ c ≤ 127) {i : Nat} (hi : i < N) (hc : p (f i).toInt) : f i = g i := by
  rcases h i hi with q | ⟨q1, q2⟩
  · exact q
  · have := hp _ hc
    omega
theorem md_end_by (h : md_by f g N) (hp : ∀ c, p c → 0 ≤ c ∧ c ≤ 127) : md_end p f N k e ↔ md_end p g N k e := by
  unfold md_end
  refine and_congr Iff.rfl (and_congr (forall_congr' fun i => forall_congr' fun _ => forall_congr' fun _ => ?_) (not_congr ?_))
  · exact ⟨fun z => ⟨z.1, (md_by_p h hp z.1).mp z.2⟩, fun z => ⟨z.1, (md_by_p h hp z.1).mpr z.2⟩⟩
  · exact ⟨fun z => ⟨z.1, (md_by_p h hp z.1).mp z.2⟩, fun z => ⟨z.1, (md_by_p h hp z.1).mpr z.2⟩⟩
theorem md_pk_by : ∀ (l a : Nat) (v : Int64), (∀ i, a ≤ i → i < a + l → f i = g i) → md_pk f l a v = md_pk g l a v := by
  intro l
  induction l with
  | zero => intro a v _; rfl
  | succ l ih =>
    intro a v h
    show md_pk f l (a + 1) _ = md_pk g l (a + 1) _
    rw [h a (Nat.le_refl _) (by omega)]
    exact ih _ _ fun i h1 h2 => h i (by omega) (by omega)
theorem md_nu_by : ∀ (l a : Nat) (v : Int64), (∀ i, a ≤ i → i < a + l → f i = g i) → md_nu f l a v = md_nu g l a v := by
  intro l
  induction l with
  | zero => intro a v _; rfl
  | succ l ih =>
    intro a v h
    show md_nu f l (a + 1) _ = md_nu g l (a + 1) _
    rw [h a (Nat.le_refl _) (by omega)]
    exact ih _ _ fun i h1 h2 => h i (by omega) (by omega)
theorem md_let_r (c : Int) (h : md_let c) : 0 ≤ c ∧ c ≤ 127 := by unfold md_let at h; omega
theorem md_dig_r (c : Int) (h : md_dig c) : 0 ≤ c ∧ c ≤ 127 := by unfold md_dig at h; omega
theorem md_ld_r (c : Int) (h : md_ld c) : 0 ≤ c ∧ c ≤ 127 := h.elim (md_let_r c) (md_dig_r c)
theorem md_bk_r (c : Int) (h : md_bk c) : 0 ≤ c ∧ c ≤ 127 := by unfold md_bk at h; omega
theorem md_sg_r (c : Int) (h : c ∈ md_sg) : 0 ≤ c ∧ c ≤ 127 := by
  unfold md_sg at h
  simp only [List.mem_cons, List.not_mem_nil, or_false] at h
  omega
theorem md_one_by (h : md_by f g N) (hk : k < N) {kd : Int} {w : Int64} (h1 : md_one f N k kd nx w) : md_one g N k kd nx w := by
  rcases h1 with ⟨a1, e, a2, a3⟩ | ⟨a1, e, a2, a3⟩ | ⟨a1, a2, a3⟩
  · have hp : md_pk f (e - k) k (Int64.ofNat 0) = md_pk g (e - k) k (Int64.ofNat 0) := md_pk_by _ _ _ fun i i1 i2 => md_by_e h md_ld_r (a2.2.1 i i1 (by have := a2.1; omega)).1 (a2.2.1 i i1 (by have := a2.1; omega)).2
    rw [hp] at a3
    exact Or.inl ⟨(md_by_p h md_let_r hk).mp a1, e, (md_end_by h md_ld_r).mp a2, a3⟩
  · have hp : md_nu f (e - k) k (Int64.ofNat 0) = md_nu g (e - k) k (Int64.ofNat 0) := md_nu_by _ _ _ fun i i1 i2 => md_by_e h md_dig_r (a2.2.1 i i1 (by have := a2.1; omega)).1 (a2.2.1 i i1 (by have := a2.1; omega)).2
    rw [hp] at a3
    exact Or.inr (Or.inl ⟨(md_by_p h md_dig_r hk).mp a1, e, (md_end_by h md_dig_r).mp a2, a3⟩)
  · have b1 : ∀ c : Int, 0 ≤ c → c ≤ 127 → ((f k).toInt = c ↔ (g k).toInt = c) := fun c c1 c2 => md_by_p (p := fun x => x = c) h (fun x hx => by omega) hk
    have b2 : ∀ c : Int, 1 ≤ c → c ≤ 127 → (md_bh f N k = c ↔ md_bh g N k = c) := by
      intro c c1 c2
      unfold md_bh
      split
      · rename_i z
        exact md_by_p (p := fun x => x = c) h (fun x hx => by omega) z
      · exact Iff.rfl
    have b3 : (f k).toInt ∈ md_sg ↔ (g k).toInt ∈ md_sg := md_by_p (p := fun x => x ∈ md_sg) h md_sg_r hk
    refine Or.inr (Or.inr ⟨fun z => a1 ((md_by_p h md_ld_r hk).mpr z), a2, ?_⟩)
    by_cases z : (f k).toInt ∈ md_sg
    · have e : f k = g k := md_by_e (p := fun x => x ∈ md_sg) h md_sg_r hk z
      rw [e] at a3
      simp only [b2 46 (by decide) (by decide), b2 61 (by decide) (by decide)] at a3
      exact a3
    · have z' : (g k).toInt ∉ md_sg := fun w => z (b3.mpr w)
      simp only [if_neg z, b1 46 (by decide) (by decide), b1 33 (by decide) (by decide), b1 60 (by decide) (by decide), b2 46 (by decide) (by decide), b2 61 (by decide) (by decide)] at a3
      simp only [if_neg z']
      exact a3
end CX7
