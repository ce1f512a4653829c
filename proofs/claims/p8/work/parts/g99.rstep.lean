/-! STEPS OF THE REFERENCE'S METHODS OVER LOCALS TOLD ONE BY ONE; what holds between calls; what a call says -/
section AR99
variable {tb : aj_T} {h : aj_H} {d : Nat} {mm : aj_M} {pc : Nat} {lv : aj_V} {st rest : List Value} {S : aj_S} {Q : Option Value → aj_S → Prop} {ct : List (Nat × Instr × Nat)} {j len : Nat} {ins : Instr}
theorem aw_l0 (hct : aj_ctOK ct mm.2.1) (hd : aj_ct ct pc = some (ins, len)) (hi : aj_step aj_rc aj_cls tb mm.2.2.2.2.2.1 mm.2.2.1 mm.2.2.2.1 false ins len pc lv st (aj_mh h S) = aj_load pc lv st (aj_mh h S) len j 0) {x : Int32} (hv : aj_lv lv j = some (.int x)) (kk : aw_W tb h d mm (pc + len) lv (.int x :: st) S Q) : aw_W tb h d mm pc lv st S Q := by
  refine aw_n hct hd ?_ kk
  rw [hi]
  unfold aj_load
  rw [hv]
  rfl
theorem aw_l1 (hct : aj_ctOK ct mm.2.1) (hd : aj_ct ct pc = some (ins, len)) (hi : aj_step aj_rc aj_cls tb mm.2.2.2.2.2.1 mm.2.2.1 mm.2.2.2.1 false ins len pc lv st (aj_mh h S) = aj_load pc lv st (aj_mh h S) len j 1) {x : Int64} (hv : aj_lv lv j = some (.long x)) (kk : aw_W tb h d mm (pc + len) lv (.long x :: st) S Q) : aw_W tb h d mm pc lv st S Q := by
  refine aw_n hct hd ?_ kk
  rw [hi]
  unfold aj_load
  rw [hv]
  rfl
theorem aw_l2 (hct : aj_ctOK ct mm.2.1) (hd : aj_ct ct pc = some (ins, len)) (hi : aj_step aj_rc aj_cls tb mm.2.2.2.2.2.1 mm.2.2.1 mm.2.2.2.1 false ins len pc lv st (aj_mh h S) = aj_load pc lv st (aj_mh h S) len j 2) {x : Nat} (hv : aj_lv lv j = some (.ref x)) (kk : aw_W tb h d mm (pc + len) lv (.ref x :: st) S Q) : aw_W tb h d mm pc lv st S Q := by
  refine aw_n hct hd ?_ kk
  rw [hi]
  unfold aj_load
  rw [hv]
  rfl
theorem aw_t0 (hct : aj_ctOK ct mm.2.1) (hd : aj_ct ct pc = some (ins, len)) (hj : j < mm.2.2.1) {x : Int32} (hi : aj_step aj_rc aj_cls tb mm.2.2.2.2.2.1 mm.2.2.1 mm.2.2.2.1 false ins len pc lv (.int x :: st) (aj_mh h S) = aj_store mm.2.2.1 pc lv (.int x :: st) (aj_mh h S) len j 0) (kk : aw_W tb h d mm (pc + len) (aj_set1 lv j (.int x)) st S Q) : aw_W tb h d mm pc lv (.int x :: st) S Q := by
  refine aw_n hct hd ?_ kk
  rw [hi]
  unfold aj_store
  dsimp only
  rw [if_pos ⟨rfl, hj⟩]
  rfl
theorem aw_t1 (hct : aj_ctOK ct mm.2.1) (hd : aj_ct ct pc = some (ins, len)) (hj : j + 1 < mm.2.2.1) {x : Int64} (hi : aj_step aj_rc aj_cls tb mm.2.2.2.2.2.1 mm.2.2.1 mm.2.2.2.1 false ins len pc lv (.long x :: st) (aj_mh h S) = aj_store mm.2.2.1 pc lv (.long x :: st) (aj_mh h S) len j 1) (kk : aw_W tb h d mm (pc + len) (aj_set2 lv j (.long x)) st S Q) : aw_W tb h d mm pc lv (.long x :: st) S Q := by
  refine aw_n hct hd ?_ kk
  rw [hi]
  unfold aj_store
  dsimp only
  rw [if_pos ⟨rfl, hj⟩]
  rfl
theorem aw_anyl (hct : aj_ctOK ct mm.2.1) {i : Instr} {len : Nat} (hd : aj_ct ct pc = some (i, len)) {pc' : Nat} {lv' : aj_V} {rest' : List Value} {v : Int64} (hs : aj_step aj_rc aj_cls tb mm.2.2.2.2.2.1 mm.2.2.1 mm.2.2.2.1 false i len pc lv st (aj_mh h S) = some (.inl ((pc', lv', .long v :: rest'), aj_mh h S, 0, 0))) (k : ∀ z : Int64, z = v → aw_W tb h d mm pc' lv' (.long z :: rest') S Q) : aw_W tb h d mm pc lv st S Q := aw_n hct hd hs (k v rfl)
end AR99
/-- between calls -/
def aw_kv (S : aj_S) : Prop := ∀ k, k < 12000 → (S.2.2.1 17 k).toInt = 1 → 0 ≤ (S.2.2.1 18 k).toInt ∧ (S.2.2.1 18 k).toInt ≤ 7
def aw_B (S : aj_S) : Prop := aw_kv S ∧ aw_hold S (aw_hh S) ∧ (S.2.2.1 10 (aw_hh S)).toInt ≤ 12 + (S.2.2.1 11 (aw_hh S)).toInt ∧ (S.2.2.1 11 (aw_hh S)).toInt ≤ (S.2.2.1 10 (aw_hh S)).toInt
/-- ends with a boolean -/
def ar_QB (s : List Nat) (h : aj_H) (F A : List Nat) (S : aj_S) (P0 P1 : aj_S → Prop) (r : Option Value) (S' : aj_S) : Prop := ak_Ty ak_TN s (aj_mh h S') ∧ aw_fr F A S S' ∧ ((∃ b : Int32, r = some (.int b) ∧ b.toInt = 0 ∧ P0 S') ∨ ∃ b : Int32, r = some (.int b) ∧ b.toInt = 1 ∧ P1 S')
/-- tokens taken, the ghosts kept -/
def ar_QT (s : List Nat) (h : aj_H) (g : aw_gh) (F A : List Nat) (S : aj_S) (E : aj_S → Prop) : Option Value → aj_S → Prop := ar_QB s h F A S (fun S' => aw_G g S' ∧ (S.1 30).toInt ≤ (S'.1 30).toInt) (fun S' => aw_G g S' ∧ (S.1 30).toInt + 1 ≤ (S'.1 30).toInt ∧ E S')
/-- ends with an int between two -/
def ar_QI (s : List Nat) (h : aj_H) (F A : List Nat) (S : aj_S) (P : Int → aj_S → Prop) (r : Option Value) (S' : aj_S) : Prop := ak_Ty ak_TN s (aj_mh h S') ∧ aw_fr F A S S' ∧ ∃ b : Int32, r = some (.int b) ∧ P b.toInt S'
def ar_QN (s : List Nat) (h : aj_H) (F A : List Nat) (S : aj_S) (P : aj_S → Prop) (r : Option Value) (S' : aj_S) : Prop := ak_Ty ak_TN s (aj_mh h S') ∧ aw_fr F A S S' ∧ r = none ∧ P S'
section AR99B
variable {tb : aj_T} {s : List Nat} {h : aj_H} {S S' : aj_S} {G : aj_S → Prop} {g : aw_gh} {d k : Nat} {con : ak_Con} {as : List Value} {F A : List Nat} {r : Option Value} {E P0 P1 : aj_S → Prop}
theorem aw_G_sm (hm : aw_sm S S') (hG : aw_G g S) : aw_G g S' := by
  have f0 := hm.1 0 (by decide)
  have f23 := hm.1 23 (by decide)
  have f24 := hm.1 24 (by decide)
  have f26 := hm.1 26 (by decide)
  have f27 := hm.1 27 (by decide)
  have f28 := hm.1 28 (by decide)
  have f29 := hm.1 29 (by decide)
  have f30 := hm.1 30 (by decide)
  have f32 := hm.1 32 (by decide)
  have f37 := hm.1 37 (by decide)
  have f45 := hm.1 45 (by decide)
  have a1 := hm.2.1 1 (by decide)
  have a2 := hm.2.2 2 (by decide)
  have a3 := hm.2.1 3 (by decide)
  have a5 := hm.2.1 5 (by decide)
  have a7 := hm.2.1 7 (by decide)
  have a8 := hm.2.2 8 (by decide)
  have a10 := hm.2.1 10 (by decide)
  have a11 := hm.2.1 11 (by decide)
  have a12 := hm.2.1 12 (by decide)
  have a17 := hm.2.1 17 (by decide)
  have a18 := hm.2.1 18 (by decide)
  have a21 := hm.2.1 21 (by decide)
  unfold aw_G aw_GA aw_GB aw_GC aw_GD aw_GE aw_hold aw_held aw_tok aw_tT aw_tJ aw_tN aw_tF aw_h aw_hh at hG ⊢
  rw [f0, f23, f24, f26, f27, f28, f29, f30, f32, f37, f45, a1, a2, a3, a5, a7, a8, a10, a11, a12, a17, a18, a21]
  exact hG
theorem aw_Gs_G : aw_Gs (aw_G g) := fun _ _ hm hG => aw_G_sm hm hG
theorem aw_B_sm (hm : aw_sm S S') (hG : aw_B S) : aw_B S' := by
  have f0 := hm.1 0 (by decide)
  have a5 := hm.2.1 5 (by decide)
  have a10 := hm.2.1 10 (by decide)
  have a11 := hm.2.1 11 (by decide)
  have a12 := hm.2.1 12 (by decide)
  have a17 := hm.2.1 17 (by decide)
  have a18 := hm.2.1 18 (by decide)
  unfold aw_B aw_kv aw_hold aw_held aw_hh at hG ⊢
  rw [f0, a5, a10, a11, a12, a17, a18]
  exact hG
theorem aw_Gs_B : aw_Gs aw_B := fun _ _ hm hG => aw_B_sm hm hG
theorem aw_kv_sm (hm : aw_sm S S') (hG : aw_kv S) : aw_kv S' := by
  have a17 := hm.2.1 17 (by decide)
  have a18 := hm.2.1 18 (by decide)
  unfold aw_kv at hG ⊢
  rw [a17, a18]
  exact hG
theorem aw_G_B (hG : aw_G g S) : aw_B S := ⟨hG.2.2.2.2.1, hG.2.2.2.2.2.1, hG.2.2.2.2.2.2.1, hG.2.2.2.2.2.2.2.1⟩
theorem ar_b01 {b : Int32} (hb : 0 ≤ b.toInt ∧ b.toInt ≤ 1) : b.toInt = 0 ∨ b.toInt = 1 := by omega
/-- what the checker says of a boolean -/
theorem ar_bool (hU : aw_U tb s h) (hT : ak_Ty ak_TN s (aj_mh h S)) (hT' : ak_Ty ak_TN s (aj_mh h S')) (hr : ak_gR s (some (.inl (0, 1))) r) {gh : Nat → Int} (po : ak_post aw_kap tb con (aw_kap (aj_mh h S)) gh (some (.ref 117)) r (aj_mh h S')) : (∃ b : Int32, r = some (.int b) ∧ b.toInt = 0 ∧ (S.1 30).toInt + con.2.2.2.2.2.2.2.1 ≤ (S'.1 30).toInt) ∨ ∃ b : Int32, r = some (.int b) ∧ b.toInt = 1 ∧ (S.1 30).toInt + con.2.2.2.2.2.2.2.2.1 ≤ (S'.1 30).toInt ∧ ak_gQ tb (aj_mh h S') (some (.ref 117)) con.2.2.2.2.2.2.1 := by
  obtain ⟨b, rfl, hb⟩ := cw_rI hr
  rcases ar_b01 hb with e | e
  · have k1 := (po.2 (fun ⟨x, hx, hn⟩ => by cases hx; omega)).1
    rw [aw_kap_S hU hT, aw_kap_S hU hT'] at k1
    exact Or.inl ⟨b, rfl, e, k1⟩
  · obtain ⟨k1, k2, -⟩ := po.1 ⟨b, rfl, by omega⟩
    rw [aw_kap_S hU hT, aw_kap_S hU hT'] at k1
    exact Or.inr ⟨b, rfl, e, k1, k2⟩
/-- a boolean of a method by hand, for the checker -/
theorem ar_ofB (hU : aw_U tb s h) (hG : aw_Gs G) (h0 : con.2.2.1 = some (.inl (0, 1))) (hq : con.2.2.2.2.2.1 = [] ∧ con.2.2.2.2.2.2.1 = [] ∧ con.2.2.2.2.2.2.2.1 = 0 ∧ con.2.2.2.2.2.2.2.2.1 ≤ 1 ∧ con.2.2.2.2.2.2.2.2.2.1 = [] ∧ con.2.2.2.2.2.2.2.2.2.2.1 = [] ∧ con.2.2.2.2.2.2.2.2.2.2.2 = []) (hM : (∀ k ∈ F, (11, k) ∈ con.2.2.2.1.2) ∧ ∀ k ∈ A, 101 + k ∈ con.2.2.2.1.1) (hK : ∀ d, k ≤ d → ∀ (S : aj_S) (as : List Value), aw_I s h G S → ak_gA s con.2.1 as → ak_gQ tb (aj_mh h S) as.head? con.2.2.2.2.1 → aw_K tb h d con.1 as S (ar_QB s h F A S (fun S' => G S' ∧ (S.1 30).toInt ≤ (S'.1 30).toInt) (fun S' => G S' ∧ (S.1 30).toInt + con.2.2.2.2.2.2.2.2.1 ≤ (S'.1 30).toInt))) : ak_CT ak_TR (aw_SP s h G) aw_kap tb k con := by
  refine aw_ofK hU hG hM (fun d hd S as hI hA hQ => aw_mono ?_ (hK d hd S as hI hA hQ))
  rintro r S' ⟨k1, k2, k3⟩
  obtain ⟨q0, q1, c0, c1, q2, q3, q4⟩ := hq
  have e0 := aw_kap_S hU hI.1
  have e1 := aw_kap_S hU k1
  have hQ0 : ∀ v0 : Option Value, ak_gQ tb (aj_mh h S') v0 [] := fun v0 e he => nomatch he
  have hD0 : ∀ gh : Nat → Int, ak_gD tb (aj_mh h S') as.head? gh [] := fun gh e he => nomatch he
  have hC0 : ak_gC as [] := fun e he => nomatch he
  rcases k3 with ⟨b, rfl, hb, p1, p2⟩ | ⟨b, rfl, hb, p1, p2⟩
  · refine ⟨?_, ⟨k1, p1⟩, k2, ?_, ?_⟩
    · rw [h0]
      exact (show 0 ≤ b.toInt ∧ b.toInt ≤ 1 by omega)
    · unfold ak_post
      rw [q0, q1, q3, q4, c0, e0, e1]
      refine ⟨fun ⟨x, hx, hn⟩ => ?_, fun _ => ⟨by omega, hQ0 _, hD0 _⟩⟩
      cases hx
      omega
    · rintro ⟨x, hx, hn⟩
      cases hx
      omega
  · refine ⟨?_, ⟨k1, p1⟩, k2, ?_, ?_⟩
    · rw [h0]
      exact (show 0 ≤ b.toInt ∧ b.toInt ≤ 1 by omega)
    · unfold ak_post
      rw [q0, q1, q3, q4, c0, e0, e1]
      refine ⟨fun _ => ⟨p2, hQ0 _, hD0 _⟩, fun hn => absurd ⟨b, rfl, by omega⟩ hn⟩
    · intro _
      rw [q2]
      exact hC0
/-- likewise of a method with another end -/
theorem ar_ofP (hU : aw_U tb s h) (hG : aw_Gs G) (hq : con.2.2.2.2.2.1 = [] ∧ con.2.2.2.2.2.2.1 = [] ∧ con.2.2.2.2.2.2.2.1 = 0 ∧ con.2.2.2.2.2.2.2.2.1 = 0 ∧ con.2.2.2.2.2.2.2.2.2.1 = [] ∧ con.2.2.2.2.2.2.2.2.2.2.1 = [] ∧ con.2.2.2.2.2.2.2.2.2.2.2 = []) (hM : (∀ k ∈ F, (11, k) ∈ con.2.2.2.1.2) ∧ ∀ k ∈ A, 101 + k ∈ con.2.2.2.1.1) (hK : ∀ d, k ≤ d → ∀ (S : aj_S) (as : List Value), aw_I s h G S → ak_gA s con.2.1 as → ak_gQ tb (aj_mh h S) as.head? con.2.2.2.2.1 → aw_K tb h d con.1 as S (fun r S' => ak_Ty ak_TN s (aj_mh h S') ∧ aw_fr F A S S' ∧ ak_gR s con.2.2.1 r ∧ G S' ∧ (S.1 30).toInt ≤ (S'.1 30).toInt)) : ak_CT ak_TR (aw_SP s h G) aw_kap tb k con := by
  refine aw_ofK hU hG hM (fun d hd S as hI hA hQ => aw_mono ?_ (hK d hd S as hI hA hQ))
  rintro r S' ⟨k1, k2, k3, k4, k5⟩
  obtain ⟨q0, q1, c0, c1, q2, q3, q4⟩ := hq
  have e0 := aw_kap_S hU hI.1
  have e1 := aw_kap_S hU k1
  have hQ0 : ∀ v0 : Option Value, ak_gQ tb (aj_mh h S') v0 [] := fun v0 e he => nomatch he
  have hD0 : ∀ gh : Nat → Int, ak_gD tb (aj_mh h S') as.head? gh [] := fun gh e he => nomatch he
  have hC0 : ak_gC as [] := fun e he => nomatch he
  refine ⟨k3, ⟨k1, k4⟩, k2, ?_, ?_⟩
  · unfold ak_post
    rw [q0, q1, q3, q4, c0, c1, e0, e1]
    exact ⟨fun _ => ⟨by omega, hQ0 _, hD0 _⟩, fun _ => ⟨by omega, hQ0 _, hD0 _⟩⟩
  · intro _
    rw [q2]
    exact hC0
end AR99B
