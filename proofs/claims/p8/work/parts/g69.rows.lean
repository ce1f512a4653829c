/-! ROWS: how high and how wide they are, new ones; what stays between two heaps -/
/-- what is seen stays, but for these fields, these arrays -/
def cw_kp (EF : Nat → Nat → Nat → Prop) (EA : Nat → Prop) (o o' : cw_O) : Prop := (∀ i c k v, ¬ EF i c k → cw_fo o i c k v → cw_fo o' i c k v) ∧ ∀ i q, ¬ EA i → o.2 i = some q → o'.2 i = some q
section CW69
variable {T : ak_TT} {tb : aj_T} {s s0 : List Nat} {h h' h0 Y : aj_H} {i j c k kd n t : Nat} {v w : Value} {x x' : cw_X} {X : Option Nat} {o o' o2 : cw_O} {EF EF' : Nat → Nat → Nat → Prop} {EA EA' : Nat → Prop}
theorem cw_kp_rf : cw_kp EF EA o o := ⟨fun _ _ _ _ _ q => q, fun _ _ _ q => q⟩
theorem cw_kp_tr (h1 : cw_kp EF EA o o') (h2 : cw_kp EF EA o' o2) : cw_kp EF EA o o2 := ⟨fun i c k v q z => h2.1 i c k v q (h1.1 i c k v q z), fun i q z y => h2.2 i q z (h1.2 i q z y)⟩
theorem cw_kp_sub (h1 : cw_kp EF EA o o') (hF : ∀ i c k, EF i c k → EF' i c k) (hA : ∀ i, EA i → EA' i) : cw_kp EF' EA' o o' := ⟨fun i c k v q z => h1.1 i c k v (fun y => q (hF _ _ _ y)) z, fun i q z y => h1.2 i q (fun y => z (hA _ y)) y⟩
theorem cw_kp_eq (e : o' = o) : cw_kp EF EA o o' := by
  subst e
  exact cw_kp_rf
theorem cw_fo_sp (h0 : cw_fo (cw_o h) i c k v) : (c, k) ∈ ak_spFC ∧ cw_F h i c k v := by
  by_cases hk : (c, k) ∈ ak_spFC
  · exact ⟨hk, (cw_fo_F hk).mp h0⟩
  · exfalso
    obtain ⟨g, h1, h2⟩ := h0
    have h1 : cw_ob h i = some (c, g) := h1
    unfold cw_ob at h1
    split at h1
    · cases h1
      dsimp only at h2
      rw [if_neg hk] at h2
      cases h2
    · cases h1
theorem cw_oa_arr {q : Nat × Nat × cw_X} (h0 : (cw_o h).2 i = some q) : ∃ x, h[i]? = some (.inl (q.1, q.2.1, x)) := by
  have h0 : cw_oa h i = some q := h0
  unfold cw_oa at h0
  split at h0
  · rename_i kd n x he
    cases h0
    exact ⟨x, he⟩
  · cases h0
theorem cw_kp_sf (hF : cw_F h i c k w) (hE : EF i c k) : cw_kp EF EA (cw_o h) (cw_o (cw_sf h i k v)) := by
  have ex : cw_ex [i] (cw_o h) (cw_o (cw_sf h i k v)) := cw_ex_sf (List.mem_singleton.mpr rfl)
  refine ⟨fun j c' k' v' hn hf => ?_, fun j q hn hq => ?_⟩
  · obtain ⟨h1, h2⟩ := cw_fo_sp hf
    refine (cw_fo_F h1).mpr (cw_sf_ne h2 ?_)
    by_cases e : j = i
    · subst e
      refine Or.inr (fun z => hn ?_)
      subst z
      obtain ⟨fs, a1, a2⟩ := hF
      obtain ⟨fs', b1, b2⟩ := h2
      rw [a1] at b1
      cases b1
      exact hE
    · exact Or.inl e
  · by_cases e : j = i
    · subst e
      obtain ⟨y, hy⟩ := cw_oa_arr hq
      obtain ⟨fs, a1, a2⟩ := hF
      rw [a1] at hy
      cases hy
    · rw [(ex j (fun z => e (List.mem_singleton.mp z))).2]
      exact hq
theorem cw_ob_sa (hA : cw_A h i kd n x) : cw_ob (cw_sa h i x') = cw_ob h := by
  funext j
  by_cases e : j = i
  · subst e
    have h1 := cw_sa_same (x' := x') hA
    unfold cw_A at h1 hA
    unfold cw_ob
    rw [h1, hA]
  · exact (cw_ex_sa (x := x') (E := [i]) (List.mem_singleton.mpr rfl) j (fun z => e (List.mem_singleton.mp z))).1
theorem cw_kp_sa (hA : cw_A h i kd n x) (hE : EA i) : cw_kp EF EA (cw_o h) (cw_o (cw_sa h i x')) := by
  refine ⟨fun j c' k' v' _ hf => ?_, fun j q hn hq => ?_⟩
  · obtain ⟨g, h1, h2⟩ := hf
    refine ⟨g, ?_, h2⟩
    show cw_ob (cw_sa h i x') j = _
    rw [cw_ob_sa hA]
    exact h1
  · rw [(cw_ex_sa (x := x') (E := [i]) (List.mem_singleton.mpr rfl) j (fun z => hn (by rw [List.mem_singleton.mp z]; exact hE))).2]
    exact hq
theorem cw_kp_app : cw_kp EF EA (cw_o h) (cw_o (h ++ Y)) := by
  refine ⟨fun j c' k' v' _ hf => ?_, fun j q _ hq => ?_⟩
  · obtain ⟨g, h1, h2⟩ := hf
    exact ⟨g, by rw [(cw_app_o (cw_ob_lt h1)).1]; exact h1, h2⟩
  · rw [(cw_app_o (cw_oa_lt hq)).2]
    exact hq
theorem cw_kp_F (hk : cw_kp EF EA (cw_o h) (cw_o h')) (hE : ¬ EF i c k) (hs : (c, k) ∈ ak_spFC) (hF : cw_F h i c k v) : cw_F h' i c k v := (cw_fo_F hs).mp (hk.1 i c k v hE ((cw_fo_F hs).mpr hF))
theorem cw_kp_A (hk : cw_kp EF EA (cw_o h) (cw_o h')) (hE : ¬ EA i) (hs : ((ak_s0[i]?).map (fun t => ak_spTC.contains t)) = some true) (hA : cw_A h i kd n x) : cw_A h' i kd n x := (cw_oa_A hs).mp (hk.2 i _ hE ((cw_oa_A hs).mpr hA))
theorem cw_58 (hB : cw_B s) (h0 : s[i]? = some 58) : i = 50 ∨ 98 ≤ i := by
  obtain ⟨u, rfl, -⟩ := hB
  by_cases hl : i < ak_s0.length
  · rw [List.getElem?_append_left hl] at h0
    have : ∀ j, j < 98 → ak_s0[j]? = some 58 → j = 50 := by decide
    exact Or.inl (this i hl h0)
  · have : ak_s0.length = 98 := rfl
    omega
theorem cw_lt58 (hT : ak_Ty T s h) (h0 : s[i]? = some 58) : i < h.length := by
  have := (List.getElem?_eq_some_iff.mp h0).1
  rw [hT.1]
  exact this
/-! the bounds -/
theorem cw_H_mono {B : Nat} (hH : cw_H X o) (hB : X.getD 0 ≤ B) : cw_H (some B) o := by
  intro i hi g hg
  obtain ⟨v, w, h1, h2, h3, h4⟩ := hH i hi g hg
  exact ⟨v, w, h1, h2, by show _ ≤ (B : Int); omega, by show _ ≤ (B : Int); omega⟩
theorem cw_H_F (hH : cw_H X (cw_o h)) (hi : i = 50 ∨ 98 ≤ i) (hF : cw_F h i 6 k v) (hk : k = 3 ∨ k = 4) : ∃ y : Int32, v = .int y ∧ y.toInt ≤ ((X.getD 0 : Nat) : Int) := by
  have hs : (6, k) ∈ ak_spFC := by rcases hk with rfl | rfl <;> decide
  obtain ⟨g, h1, h2⟩ := (cw_fo_F hs).mpr hF
  obtain ⟨y, z, g1, g2, g3, g4⟩ := hH i hi g h1
  rcases hk with rfl | rfl
  · rw [g2] at h2
    cases h2
    exact ⟨z, rfl, g4⟩
  · rw [g1] at h2
    cases h2
    exact ⟨y, rfl, g3⟩
theorem cw_H_sf {B : Nat} {y : Int32} (hH : cw_H X (cw_o h)) (hF : cw_F h i 6 k w) (hk : k = 3 ∨ k = 4) (hy : y.toInt ≤ (B : Int)) (hB : X.getD 0 ≤ B) : cw_H (some B) (cw_o (cw_sf h i k (.int y))) := by
  intro j hj g hg
  have hs : ∀ k, k = 3 ∨ k = 4 → (6, k) ∈ ak_spFC := by rintro k (rfl | rfl) <;> decide
  by_cases e : j = i
  · subst e
    obtain ⟨fs, a1, a2⟩ := hF
    have hl := (List.getElem?_eq_some_iff.mp a1).1
    have hk' := (List.getElem?_eq_some_iff.mp a2).1
    obtain ⟨v0, w0, b1, b2, b3, b4⟩ := hH j hj (fun k => if (6, k) ∈ ak_spFC then fs[k]? else none) (by show cw_ob h j = _; unfold cw_ob; rw [a1])
    rw [if_pos (hs 4 (Or.inr rfl))] at b1
    rw [if_pos (hs 3 (Or.inl rfl))] at b2
    have hg : cw_ob (cw_sf h j k (.int y)) j = some (6, g) := hg
    rw [cw_sf_eq a1] at hg
    unfold cw_ob at hg
    rw [List.getElem?_set_self hl] at hg
    cases hg
    dsimp only
    rw [if_pos (hs 4 (Or.inr rfl)), if_pos (hs 3 (Or.inl rfl))]
    rcases hk with rfl | rfl
    · rw [List.getElem?_set_ne (by decide), List.getElem?_set_self hk']
      exact ⟨v0, y, b1, rfl, by show _ ≤ (B : Int); omega, hy⟩
    · rw [List.getElem?_set_self hk', List.getElem?_set_ne (by decide)]
      exact ⟨y, w0, rfl, b2, hy, by show _ ≤ (B : Int); omega⟩
  · rw [(cw_ex_sf (E := [i]) (List.mem_singleton.mpr rfl) j (fun z => e (List.mem_singleton.mp z))).1] at hg
    exact cw_H_mono hH hB j hj g hg
theorem cw_H_sfo (hH : cw_H X (cw_o h)) (hF : cw_F h i c k w) (hc : c ≠ 6) : cw_H X (cw_o (cw_sf h i k v)) := by
  intro j hj g hg
  by_cases e : j = i
  · subst e
    exfalso
    obtain ⟨fs, a1, a2⟩ := cw_sf_same (v := v) hF
    have hg : cw_ob (cw_sf h j k v) j = some (6, g) := hg
    unfold cw_ob at hg
    rw [a1] at hg
    cases hg
    exact hc rfl
  · rw [(cw_ex_sf (E := [i]) (List.mem_singleton.mpr rfl) j (fun z => e (List.mem_singleton.mp z))).1] at hg
    exact hH j hj g hg
theorem cw_H_sa (hH : cw_H X (cw_o h)) (hA : cw_A h i kd n x) : cw_H X (cw_o (cw_sa h i x')) := by
  intro j hj g hg
  have hg : cw_ob (cw_sa h i x') j = some (6, g) := hg
  rw [cw_ob_sa hA] at hg
  exact hH j hj g hg
theorem cw_H_R (hH : cw_H X (cw_o h)) : cw_H X (cw_o (h ++ cw_R h.length)) := by
  intro j hj g hg
  have hg : cw_ob (h ++ cw_R h.length) j = some (6, g) := hg
  rw [cw_obR] at hg
  dsimp only at hg
  split at hg
  · cases hg
    exact ⟨0, 0, rfl, rfl, Int.natCast_nonneg _, Int.natCast_nonneg _⟩
  · exact hH j hj g hg
/-! what holds, kept -/
theorem cw_wds_kp (hk : cw_kp EF EA o o') (hE : ¬ EA 29) (hw : cw_wds o) : cw_wds o' := by
  obtain ⟨f, h1, h2⟩ := hw
  exact ⟨f, hk.2 _ _ hE h1, h2⟩
theorem cw_dis_kp (hk : cw_kp EF EA o o') (hE : ¬ EA 49) (hF : ¬ EF 43 9 5) (hw : cw_dis o) : cw_dis o' := by
  obtain ⟨f, p, h1, h2, h3⟩ := hw
  exact ⟨f, p, hk.2 _ _ hE h1, hk.1 _ _ _ _ hF h2, h3⟩
theorem cw_gd_kp (h1 : T.1 = ak_ti) (h4 : T.2.1[4]? = ak_ft0[4]?) (hT : ak_Ty T s h) (hB : cw_B s) (hk : cw_kp EF EA (cw_o h) o') (hE : ¬ EA 31) (hF : ¬ EF 30 4 4 ∧ ¬ EF 30 4 5) (hw : cw_gd (cw_o h)) : cw_gd o' := by
  intro hf
  obtain ⟨v, g1, -⟩ := cw_tyF (i := 30) (t := 56) (c := 4) (k := 5) (y := .inl (-2147483648, 2147483647)) hT (cw_s0 hB rfl) (by rw [h1]; rfl) h4 rfl
  have g1 := (cw_fo_F (by decide)).mpr g1
  have g2 := hk.1 _ _ _ _ hF.2 g1
  have e := (cw_fo_u g2 hf).2
  subst e
  obtain ⟨f, n, q1, q2, q3⟩ := hw g1
  exact ⟨f, n, hk.2 _ _ hE q1, hk.1 _ _ _ _ hF.1 q2, q3⟩
theorem cw_rm_kp (hk : cw_kp EF EA o o') (hE : ∀ j, j = 10 ∨ j = 22 ∨ j = 49 ∨ j = 56 ∨ j = 57 ∨ 98 ≤ j → ¬ EA j) (hF : ¬ EF 55 2 5 ∧ ¬ EF 55 2 6) (hw : cw_rm s o) : cw_rm s o' := by
  obtain ⟨u, f1, f2, f3, a, b, g, xa, xb, h1, h2, h3, h4, h5, h6, h7, h8, h9⟩ := hw
  exact ⟨u, f1, f2, f3, a, b, g, xa, xb, h1, hk.2 _ _ (hE _ (by omega)) h2, hk.2 _ _ (hE _ (by omega)) h3, hk.2 _ _ (hE _ (by omega)) h4, hk.1 _ _ _ _ hF.1 h5, hk.1 _ _ _ _ hF.2 h6, h7, ⟨hk.2 _ _ (hE _ (by omega)) h8.1, hk.2 _ _ (hE _ (by omega)) h8.2⟩, h9⟩
/-- what is changed of rows alone -/
abbrev cw_E6 : Nat → Nat → Nat → Prop := fun _ c _ => c = 6
abbrev cw_E0 : Nat → Prop := fun _ => False
theorem cw_I_kp {X' : Option Nat} (h1 : T.1 = ak_ti) (h4 : T.2.1[4]? = ak_ft0[4]?) (hT : ak_Ty T s h) (hk : cw_kp cw_E6 cw_E0 (cw_o h) (cw_o h')) (hH : cw_H X' (cw_o h')) (hI : cw_I X s h) : cw_I X' s h' :=
  ⟨hI.1, cw_wds_kp hk id hI.2.1, cw_dis_kp hk id (by decide) hI.2.2.1, cw_gd_kp h1 h4 hT hI.1 hk id ⟨by decide, by decide⟩ hI.2.2.2.1, hH, cw_rm_kp hk (fun _ _ z => z) ⟨by decide, by decide⟩ hI.2.2.2.2.2⟩
/-- a row's height or width, set -/
theorem cw_I_sfR (h1 : T.1 = ak_ti) (h4 : T.2.1[4]? = ak_ft0[4]?) (hT : ak_Ty T s h) (hI : cw_I X s h) {B : Nat} {y : Int32} (hF : cw_F h i 6 k w) (hk : k = 3 ∨ k = 4) (hy : y.toInt ≤ (B : Int)) (hB : X.getD 0 ≤ B) : cw_I (some B) s (cw_sf h i k (.int y)) :=
  cw_I_kp h1 h4 hT (cw_kp_sf hF rfl) (cw_H_sf hI.2.2.2.2.1 hF hk hy hB) hI
theorem cw_I_mono {B : Nat} (hI : cw_I X s h) (hB : X.getD 0 ≤ B) : cw_I (some B) s h := ⟨hI.1, hI.2.1, hI.2.2.1, hI.2.2.2.1, cw_H_mono hI.2.2.2.2.1 hB, hI.2.2.2.2.2⟩
/-! new rows for an empty place -/
theorem cw_cnt_s (f : Nat → Option Nat) (n : Nat) : cw_cnt f (n + 1) = cw_cnt f n + if (f n).isSome then 1 else 0 := by
  unfold cw_cnt
  rw [List.range_succ, List.filter_append, List.length_append]
  congr 1
  by_cases hs : (f n).isSome = true
  · rw [if_pos hs]
    simp [List.filter, hs]
  · rw [if_neg hs]
    simp [List.filter, hs]
theorem cw_cnt_up {f : Nat → Option Nat} {t r : Nat} (hf : f t = none) : ∀ n, cw_cnt (va_up f t (some r)) n = cw_cnt f n + if t < n then 1 else 0 := by
  intro n
  induction n with
  | zero => rfl
  | succ n ih =>
    rw [cw_cnt_s, cw_cnt_s, ih]
    unfold va_up
    by_cases e : n = t
    · subst e
      simp [hf]
    · have e3 : (t < n + 1) = (t < n) := propext ⟨fun _ => by omega, fun _ => by omega⟩
      rw [if_neg e]
      simp only [e3]
      omega
theorem cw_refs (hT : ak_Ty T s h) {q N n1 n2 : Nat} {f : Nat → Option Nat} (hs : s[q]? = some t) (ht : T.1[t]? = some (.inr (5, n1, n2, .inr (some ([58], true))))) (hA : cw_A h q 5 N (cw_q f)) {l r : Nat} (hl : l < N) (hf : f l = some r) : ∃ i, r = 52 + i ∧ s[i]? = some 58 := by
  obtain ⟨n, z, a, -, -, p⟩ := cw_tyA hT hs ht
  obtain ⟨-, rfl, rfl⟩ := cw_A_u a hA
  obtain ⟨f', e, pc⟩ := cw_xq p
  cases e
  have g := pc l hl
  rw [hf] at g
  rcases cw_grn g (by decide) with z | ⟨i, z, q⟩
  · cases z
  · exact ⟨i, Value.ref.inj z, q⟩
theorem cw_I_newR (h1 : T.1 = ak_ti) (h4 : T.2.1[4]? = ak_ft0[4]?) (h9 : T.2.1[9]? = ak_ft0[9]? ∨ T.2.1[9]? = ak_ft1[9]? ∨ T.2.1[9]? = ak_ft3[9]?) (hT : ak_Ty T s h) (hI : cw_I X s h) {q N : Nat} {f : Nat → Option Nat} (hq : q = 10 ∧ N = 10 ∨ q = 22 ∧ N = 10 ∨ q = 49 ∧ N = 20) (hA : cw_A h q 5 N (cw_q f)) (ht : t < N) (hn : f t = none) : cw_I X (s ++ [58, 94, 95, 96]) (cw_sa (h ++ cw_R h.length) q (cw_q (va_up f t (some (52 + h.length))))) ∧ cw_kp (fun _ _ _ => False) (fun i => i = q) (cw_o h) (cw_o (cw_sa (h ++ cw_R h.length) q (cw_q (va_up f t (some (52 + h.length)))))) := by
  have hA2 : cw_A (h ++ cw_R h.length) q 5 N (cw_q f) := cw_A_app hA
  have kp : cw_kp (fun _ _ _ => False) (fun i => i = q) (cw_o h) (cw_o (cw_sa (h ++ cw_R h.length) q (cw_q (va_up f t (some (52 + h.length)))))) := cw_kp_tr cw_kp_app (cw_kp_sa hA2 rfl)
  refine ⟨?_, kp⟩
  have hA3 : cw_A (cw_sa (h ++ cw_R h.length) q (cw_q (va_up f t (some (52 + h.length))))) q 5 N (cw_q (va_up f t (some (52 + h.length)))) := cw_sa_same hA2
  obtain ⟨hB, hW, hD, hG, hH, hR⟩ := hI
  refine ⟨cw_B_app hB (by decide), cw_wds_kp kp (by omega) hW, ?_, cw_gd_kp h1 h4 hT hB kp (by omega) ⟨id, id⟩ hG, cw_H_sa (cw_H_R hH) hA2, ?_⟩
  · by_cases e : q = 49
    · subst e
      have hN : N = 20 := by omega
      subst hN
      obtain ⟨g, p, d1, d2, d3, d4⟩ := hD
      have d1' := (cw_oa_A (by decide)).mp d1
      obtain ⟨-, -, e1⟩ := cw_A_u d1' hA
      cases e1
      have hr : ∀ l r, l < 20 → f l = some r → r ≠ 52 + h.length := by
        intro l r hl hf z
        obtain ⟨i, rfl, qi⟩ := cw_refs (t := 93) (n1 := 20) (n2 := 20) hT (cw_s0 hB rfl) (by rw [h1]; rfl) hA hl hf
        have z2 := cw_lt58 hT qi
        have z3 : 52 + i = 52 + h.length := z
        omega
      have hp : p ≠ 52 + h.length := by
        intro zz
        have d2' := (cw_fo_F (by decide)).mp d2
        have e9 : T.2.1[9]? = some ((ak_ft0[9]?).getD []) ∨ T.2.1[9]? = some ((ak_ft3[9]?).getD []) := by
          rcases h9 with z | z | z <;> rw [z]
          · exact Or.inl rfl
          · exact Or.inl rfl
          · exact Or.inr rfl
        have : ∃ v, cw_F h 43 9 5 v ∧ ak_gam s (.inr (some ([58], false))) v := by
          rcases e9 with z | z
          · exact cw_tyF (i := 43) (t := 61) (c := 9) (k := 5) hT (cw_s0 hB rfl) (by rw [h1]; rfl) z rfl
          · exact cw_tyF (i := 43) (t := 61) (c := 9) (k := 5) hT (cw_s0 hB rfl) (by rw [h1]; rfl) z rfl
        obtain ⟨v, g1, g2⟩ := this
        cases (cw_F_u g1 d2').2
        obtain ⟨i, e2, qi⟩ := cw_gr g2 (by decide)
        have e2 : p = 52 + i := Value.ref.inj e2
        have z2 := cw_lt58 hT qi
        have z3 : p = 52 + h.length := zz
        omega
      refine ⟨va_up f t (some (52 + h.length)), p, (cw_oa_A (by decide)).mpr hA3, kp.1 _ _ _ _ id d2, fun l l' r hl hl' q1 q2 => ?_, fun l r hl q1 => ?_⟩
      · unfold va_up at q1 q2
        split at q1
        · cases q1
          split at q2
          · rename_i z1 z2
            rw [z1, z2]
          · exact absurd rfl (hr l' _ hl' q2)
        · split at q2
          · cases q2
            exact absurd rfl (hr l _ hl q1)
          · exact d3 l l' r hl hl' q1 q2
      · unfold va_up at q1
        split at q1
        · cases q1
          exact fun z => hp z.symm
        · exact d4 l r hl q1
    · exact cw_dis_kp kp (fun z => e z.symm) id hD
  · obtain ⟨u, f1, f2, f3, a, b, g, xa, xb, r1, r2, r3, r4, r5, r6, r7, r8, r9, r10⟩ := hR
    have oq : ((ak_s0[q]?).map (fun t => ak_spTC.contains t)) = some true := by
      rcases hq with ⟨rfl, -⟩ | ⟨rfl, -⟩ | ⟨rfl, -⟩ <;> rfl
    have hA4 := (cw_oa_A oq).mpr hA3
    have hA0 := (cw_oa_A oq).mpr hA
    have ab : (a ≠ q) ∧ b ≠ q := by omega
    have sl : ak_slo ak_C0 (u ++ [58, 94, 95, 96]) = ak_slo ak_C0 u + 1389 := by
      rw [ak_slo_app]
      congr 1
    have ul : (u ++ [58, 94, 95, 96]).length = u.length + 4 := by rw [List.length_append]; rfl
    rcases hq with ⟨rfl, rfl⟩ | ⟨rfl, rfl⟩ | ⟨rfl, rfl⟩
    · have e : f1 = f := by
        have : some _ = some _ := r2.symm.trans hA0
        cases this
        rfl
      subst e
      have ec := cw_cnt_up (r := 52 + h.length) hn 10
      rw [if_pos ht] at ec
      exact ⟨u ++ [58, 94, 95, 96], _, f2, f3, a, b, g, xa, xb, by rw [r1, List.append_assoc], hA4, kp.2 _ _ (by decide) r3, kp.2 _ _ (by decide) r4, kp.1 _ _ _ _ id r5, kp.1 _ _ _ _ id r6, r7, ⟨kp.2 _ _ ab.1 r8.1, kp.2 _ _ ab.2 r8.2⟩, by rw [ul, ec]; omega, by rw [sl, ec]; omega⟩
    · have e : f2 = f := by
        have : some _ = some _ := r3.symm.trans hA0
        cases this
        rfl
      subst e
      have ec := cw_cnt_up (r := 52 + h.length) hn 10
      rw [if_pos ht] at ec
      exact ⟨u ++ [58, 94, 95, 96], f1, _, f3, a, b, g, xa, xb, by rw [r1, List.append_assoc], kp.2 _ _ (by decide) r2, hA4, kp.2 _ _ (by decide) r4, kp.1 _ _ _ _ id r5, kp.1 _ _ _ _ id r6, r7, ⟨kp.2 _ _ ab.1 r8.1, kp.2 _ _ ab.2 r8.2⟩, by rw [ul, ec]; omega, by rw [sl, ec]; omega⟩
    · have e : f3 = f := by
        have : some _ = some _ := r4.symm.trans hA0
        cases this
        rfl
      subst e
      have ec := cw_cnt_up (r := 52 + h.length) hn 20
      rw [if_pos ht] at ec
      exact ⟨u ++ [58, 94, 95, 96], f1, f2, _, a, b, g, xa, xb, by rw [r1, List.append_assoc], kp.2 _ _ (by decide) r2, kp.2 _ _ (by decide) r3, hA4, kp.1 _ _ _ _ id r5, kp.1 _ _ _ _ id r6, r7, ⟨kp.2 _ _ ab.1 r8.1, kp.2 _ _ ab.2 r8.2⟩, by rw [ul, ec]; omega, by rw [sl, ec]; omega⟩
end CW69
