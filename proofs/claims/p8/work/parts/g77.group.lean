/-! # BY HAND; TABLES OF A SHELF (printed by wip/p2/cwalk/g77.py) -/
section CW77
variable {T : ak_TT} {Φ : List Nat → Option Value → aj_H → Prop} {tb : aj_T} {d : Nat} {s s0 : List Nat} {h h' h0 : aj_H} {i j p q x D : Nat} {b b' b2 : Int} {o o' o2 o0 : cw_O} {EF : Nat → Nat → Nat → Prop} {EA : Nat → Prop}
/-- rows in groups -/
theorem cw_group (htb : ak_tbOK ak_CW tb) (hT : ak_Ty ak_CW s h) (hI : cw_I cw_XB s h) (hd : 6 ≤ d) (qq : s[q]? = some 59) (qi : s[i]? = some 58) (qj : s[j]? = some 58) (hb : 30 ≤ b ∧ b ≤ 19999999) : cw_K ak_CW (fun s' _ h' => s' = s ∧ cw_I cw_XB s h' ∧ cw_kp cw_E64 cw_E0 (cw_o h) (cw_o h') ∧ cw_sy b b (cw_o h) (cw_o h') ∧ cw_ok b (cw_o h') j) tb d (cw_nW 127 (some (.inl (0, 1)))) [.ref (52 + 44), .ref (52 + q), .ref (52 + i), .ref (52 + j)] s h := by
  obtain ⟨d, rfl⟩ : ∃ e, d = e + 1 := ⟨d - 1, by omega⟩
  have hB := hI.1
  refine cw_m (con := cw_nW 127 (some (.inl (0, 1)))) aj_m127_at (Nat.le_of_ble_eq_true rfl) ?_
  show cw_W _ _ _ _ _ _ _ _ _ _ 0 [(0, .ref (52 + 44)), (1, .ref (52 + q)), (2, .ref (52 + i)), (3, .ref (52 + j))] []
  refine cw_n aj_d127 rfl rfl ?_
  refine cw_n aj_d127 rfl rfl ?_
  obtain ⟨v1001, f1001, g1001⟩ := cw_tyF (i := 44) (t := 53) (c := 1) (k := 1) (y := (.inl (0, 6))) hT (cw_s0 hB rfl) rfl rfl rfl
  obtain ⟨x1001, rfl, b1001⟩ := ak_gi g1001
  dsimp only [ak_win] at b1001
  refine cw_g (i := 44) (v := .int x1001) htb.1 aj_d127 rfl rfl (by decide) f1001 ?_
  refine cw_n aj_d127 rfl rfl ?_
  refine cw_add aj_d127 rfl (a := x1001.toInt) (b := (1 : Int)) rfl rfl (by omega) (by omega) (fun x1002 ex1002 => ?_)
  refine cw_n aj_d127 rfl rfl ?_
  refine cw_mn aj_d127 rfl rfl (Nat.le_of_ble_eq_true rfl) (fun z1003 lz1003 rz1003 cz1003 => ?_)
  have rz1003 : z1003.toInt ≤ (6 : Int) := rz1003
  have cz1003 : 0 ≤ z1003.toInt := by
    rcases cz1003 with e | e
    · rw [e]
      omega
    · rw [e]
      exact (by decide : (0 : Int) ≤ (6 : Int))
  show cw_W _ _ _ _ _ _ _ _ _ _ 12 [(0, .ref (52 + 44)), (1, .ref (52 + q)), (2, .ref (52 + i)), (3, .ref (52 + j))] [.int z1003, .ref (52 + j)]
  refine cw_k0 (i := j) (t := 58) (con' := cw_nW 116 none) aj_d127 htb hT rfl rfl [_] rfl rfl qj rfl (Nat.le_of_ble_eq_true rfl) ⟨by decide, by decide⟩ (cw_clear htb hT hI (by omega) (x := z1003) (by omega) qj) ?_
  rintro rc hc hTc ⟨rfl, Ic, kc, zc, ezc, fj4, fj3⟩ hRc
  show cw_W _ _ _ _ _ _ _ _ _ _ 15 [(0, .ref (52 + 44)), (1, .ref (52 + q)), (2, .ref (52 + i)), (3, .ref (52 + j))] []
  refine cw_n aj_d127 rfl rfl ?_
  refine cw_n aj_d127 rfl rfl ?_
  show cw_W _ _ _ _ _ _ _ _ _ _ 18 [(4, .int (Int32.ofInt 0)), (0, .ref (52 + 44)), (1, .ref (52 + q)), (2, .ref (52 + i)), (3, .ref (52 + j))] []
  have okj : cw_ok b (cw_o hc) j := cw_ok_F fj4 fj3 (by omega) (by omega)
  refine cw_seg htb (cw_SPgc (s0 := s) (b := b) (o0 := cw_o hc) rfl rfl) aj_d127 (cs := [(33, ap_c128), (49, ap_c138)]) (List.forall_mem_cons.mpr ⟨ak_CT_mono (k := 5) (by omega) (ap_W_128 htb (cw_SPgc rfl rfl) cw_hK (cw_HWg htb hb.1)), List.forall_mem_cons.mpr ⟨ak_CT_mono (k := 4) (by omega) (ap_W_138 htb (cw_SPgc rfl rfl) cw_hK), fun _ h => nomatch h⟩⟩) (Φ := fun s' _ h' => s' = s ∧ cw_I cw_XB s h' ∧ cw_kp cw_E64 cw_E0 (cw_o h) (cw_o h') ∧ cw_sy b b (cw_o h) (cw_o h') ∧ cw_ok b (cw_o h') j) (fun _ _ _ z _ => by
    obtain ⟨z1, z2, z3, z4, z5⟩ := z
    obtain rfl := z3.symm
    exact ⟨rfl, ⟨z1, z2⟩, cw_kp_tr (cw_kp_sub kc (fun _ _ _ y => Or.inl y.2) (fun _ y => y)) z4, cw_sy_tr (cw_sy_kp kc okj) z5, z5 j okj⟩) (fs := []) (fl := []) (pts := [((18, [(0, .inr (some ([53], false))), (1, .inr (some ([59], false))), (2, .inr (some ([58], false))), (3, .inr (some ([58], false))), (4, .inl (0, 1024))], [], [], [3], 0, 0, 0), [])]) (sps := []) (C := [(4, true, 2147483647)]) (W0 := [0]) (P0 := 128849018910) (n := 35) (by decide +kernel) (fun _ h => nomatch h) (a := ak_ptAS (((18, [(0, .inr (some ([53], false))), (1, .inr (some ([59], false))), (2, .inr (some ([58], false))), (3, .inr (some ([58], false))), (4, .inl (0, 1024))], [], [], [3], 0, 0, 0), []) : ak_P2).1) (R := []) (pc := 18) s hc _ _ _ _ hTc ⟨hB, Ic.2, rfl, cw_kp_rf, fun _ z => z⟩ ⟨(cw_gLc rfl (cw_gR (cw_s0 hB rfl) (by decide) (by decide)) (cw_gLc rfl (cw_gR qq (by decide) (by decide)) (cw_gLc rfl (cw_gR qi (by decide) (by decide)) (cw_gLc rfl (cw_gR qj (by decide) (by decide)) (cw_gLi rfl ⟨by decide, by decide⟩ cw_gLn))))), trivial, fun _ h => nomatch h⟩ (fun _ h => nomatch h)
/-- a shelf's n tables: b rows at most in each; N: some may be missing -/
def cw_Z (N : Prop) (x : Nat) (n : Int32) (b : Int) (o : cw_O) : Prop := ∃ (a : Nat) (f : Nat → Option Nat), ((a = 10 ∨ a = 22) ∧ 30 ≤ b) ∧ cw_fo o x 7 12 (.int n) ∧ cw_fo o x 7 7 (.ref (52 + a)) ∧ o.2 a = some (5, 10, cw_q f) ∧ ∀ t, t < n.toInt.toNat → (N ∧ f t = none) ∨ ∃ i, f t = some (52 + i) ∧ cw_ok b o i
theorem cw_Z_kp {N : Prop} {n : Int32} (hk : cw_kp EF EA o o') (h12 : ¬ EF x 7 12) (h7 : ¬ EF x 7 7) (hA : ∀ a, a = 10 ∨ a = 22 → ¬ EA a) (hs : cw_sy b b' o o') (h0 : cw_Z N x n b o) (hb : b ≤ b' := by omega) : cw_Z N x n b' o' := by
  obtain ⟨a, f, q0, q1, q2, q3, q4⟩ := h0
  refine ⟨a, f, ⟨q0.1, by omega⟩, hk.1 _ _ _ _ h12 q1, hk.1 _ _ _ _ h7 q2, hk.2 _ _ (hA a q0.1) q3, fun t ht => ?_⟩
  rcases q4 t ht with z | ⟨i, e, h1⟩
  · exact Or.inl z
  · exact Or.inr ⟨i, e, hs i h1⟩
/-- rows on the worker's stack, below the depth -/
def cw_Lv (D : Nat) (b : Int) (o : cw_O) : Prop := ∀ l, l < D → ∃ r, cw_sk o l (52 + r) ∧ cw_ok b o r
theorem cw_Lv_le {D' : Nat} (h0 : cw_Lv D b o) (hD : D' ≤ D) : cw_Lv D' b o := fun l hl => h0 l (by omega)
theorem cw_Lv_kp (hs : ∀ l r, cw_sk o l r → cw_sk o' l r) (hy : cw_sy b b' o o') (h0 : cw_Lv D b o) : cw_Lv D b' o' := by
  intro l hl
  obtain ⟨r, h1, h2⟩ := h0 l hl
  exact ⟨r, hs l _ h1, hy r h2⟩
theorem cw_Lv_s (h0 : cw_Lv D b o) (h1 : ∃ r, cw_sk o D (52 + r) ∧ cw_ok b o r) : cw_Lv (D + 1) b o := by
  intro l hl
  by_cases e : l = D
  · subst e
    exact h1
  · exact h0 l (by omega)
/-- the last one anew -/
theorem cw_Lv_u (hs : ∀ l r, l ≠ D → cw_sk o l r → cw_sk o' l r) (hy : cw_sy b b' o o') (h0 : cw_Lv (D + 1) b o) (h1 : ∃ r, cw_sk o' D (52 + r) ∧ cw_ok b' o' r) : cw_Lv (D + 1) b' o' := by
  intro l hl
  by_cases e : l = D
  · subst e
    exact h1
  · obtain ⟨r, q1, q2⟩ := h0 l hl
    exact ⟨r, hs l _ e q1, hy r q2⟩
end CW77
