/-! THE REFERENCE: FROM THE CHECKER TO THE HANDS AND BACK -/
def aw_MF (M : ak_Mo) : List Nat := (M.2.filter (fun q => q.1 == 11)).map (fun q => q.2)
def aw_MA (M : ak_Mo) : List Nat := (M.1.filter (fun t => decide (101 < t))).map (fun t => t - 101)
section AR96
variable {tb : aj_T} {s s0 u : List Nat} {h h0 h1 h' : aj_H} {S S' S'' X : aj_S} {G G' : aj_S → Prop} {d k : Nat} {con : ak_Con} {as : List Value} {F A F' A' : List Nat} {r : Option Value} {M : ak_Mo}
theorem aw_kpc : ak_kpc ak_TR aw_kap := by
  refine ⟨fun s h i e e' hi hb => ?_, fun s h _ => ?_⟩
  · have : aw_xf (h.set i e') 30 = aw_xf h 30 := by
      unfold aw_xf
      by_cases h65 : i = 65
      · subst h65
        have hl := (List.getElem?_eq_some_iff.mp hi).1
        rw [List.getElem?_set_self hl, hi]
        rcases hb with ⟨t, kd, n, x, x', q1, q2, rfl, rfl⟩ | ⟨c, fs, fs', rfl, rfl, q1, q2⟩
        · rfl
        · by_cases hc : c = 11
          · subst hc
            change (match (fs'[30]? : Option Value) with
              | some (.int x) => x
              | _ => 0) = (match (fs[30]? : Option Value) with
              | some (.int x) => x
              | _ => 0)
            rw [q2 30 (List.mem_append_right _ (by decide))]
          · split
            · rename_i z
              cases z
              exact absurd rfl hc
            · split
              · rename_i z
                cases z
                exact absurd rfl hc
              · rfl
      · rw [List.getElem?_set_ne h65]
    unfold aw_kap
    rw [this]
  · unfold aw_kap
    omega
theorem aw_mh_mg (hy : aw_hy s h0) (hl : 98 ≤ h0.length) (hT : ak_Ty ak_TN s h') (ho : ∀ i, (i < 65 ∨ 98 ≤ i) → h'[i]? = h0[i]?) : h' = aj_mh h0 (aw_mg S (aw_xS h')) := by
  apply List.ext_getElem?
  intro i
  by_cases hi : i < 65 ∨ 98 ≤ i
  · rw [aj_mh_out _ hi]
    exact ho i hi
  · obtain ⟨k, rfl⟩ : ∃ k, i = 65 + k := ⟨i - 65, by omega⟩
    have hk : k < 33 := by omega
    rw [aj_mh_get hl _ hk]
    have hs := aw_hy_sT hy k hk
    by_cases hk0 : k = 0
    · subst hk0
      rw [if_pos rfl] at hs
      obtain ⟨-, e, he, hc⟩ := hT.2 _ _ hs
      unfold ak_cOK at hc
      rw [show ak_TN.1[63]? = some (.inl 11) from rfl] at hc
      obtain ⟨fs, rfl, fa, f1, f2, f3⟩ := hc
      rw [show ak_TN.2.1[11]? = some aw_fa from aw_fa_at] at f1
      cases f1
      rw [he]
      unfold aj_mc
      rw [if_pos rfl]
      congr 3
      apply List.ext_getElem?
      intro j
      by_cases hj : j < 72
      · have hkd := List.all_eq_true.mp ar_kinds j (List.mem_range.mpr hj)
        unfold ar_kind at hkd
        split at hkd
        · rename_i q e1
          have hm : j ∈ aj_mi := by simpa using hkd
          obtain ⟨v, v1, v2⟩ := f3 j _ e1
          obtain ⟨x, rfl, -⟩ := ak_gi v2
          rw [v1, aw_mfk hm]
          congr 2
          show x = if j ∈ aj_mi then aw_xf h' j else _
          rw [if_pos hm]
          unfold aw_xf
          rw [show (65 : Nat) = 65 + 0 from rfl, he]
          change x = (match fs[j]? with
            | some (.int x) => x
            | _ => 0)
          rw [v1]
        · rename_i e1
          have hm : j ∈ aj_mj := by simpa using hkd
          obtain ⟨v, v1, v2⟩ := f3 j _ e1
          obtain ⟨x, rfl⟩ := cw_gl v2
          rw [v1, aw_mjk hm]
          congr 2
          show x = if j ∈ aj_mj then aw_xl h' j else _
          rw [if_pos hm]
          unfold aw_xl
          rw [show (65 : Nat) = 65 + 0 from rfl, he]
          change x = (match fs[j]? with
            | some (.long x) => x
            | _ => 0)
          rw [v1]
        · rename_i l n e1
          obtain ⟨q, q1, q2⟩ := List.any_eq_true.mp hkd
          rw [Bool.and_eq_true, Bool.and_eq_true, Bool.and_eq_true, beq_iff_eq, beq_iff_eq, Bool.not_eq_true', decide_eq_true_eq] at q2
          obtain ⟨rfl, rfl, rfl, q3⟩ := q2
          obtain ⟨v, v1, v2⟩ := f3 q.1 _ e1
          obtain ⟨p, rfl, hp⟩ := cw_gr v2 (by omega)
          rw [v1, aw_mrk q1]
          obtain ⟨-, -, p3⟩ := aw_cls hy hp (by omega)
          have e6 : q.2 = p + 52 := by omega
          rw [e6, Nat.add_comm]
        · cases hkd
      · rw [List.getElem?_eq_none (by rw [f2, aw_fal]; omega), List.getElem?_eq_none (by rw [aw_mfl]; omega)]
    · rw [if_neg hk0] at hs
      obtain ⟨-, e, he, hc⟩ := hT.2 _ _ hs
      obtain ⟨kd, n, m1, m2, m3, y, m4⟩ := ar_ml (k := k) (by omega) hk
      unfold ak_cOK at hc
      rw [show ak_TN.1[101 + k]? = _ from m4] at hc
      obtain ⟨n', x, rfl, n1, n2, hx⟩ := hc
      obtain rfl : n' = n := Nat.le_antisymm n2 n1
      rw [he]
      unfold aj_mc
      rw [if_neg hk0, m1]
      dsimp only
      by_cases hkd : kd = 1
      · subst hkd
        rw [if_pos rfl]
        obtain ⟨f, rfl, -⟩ := cw_xl hx
        congr 6
        show f = if k ∈ [2, 8, 16] then aw_xb h' k else _
        rw [if_pos (m2.mp rfl)]
        unfold aw_xb
        rw [he]
      · rw [if_neg hkd]
        have hk2 : k ∉ [2, 8, 16] := fun z => hkd (m2.mpr z)
        cases x with
        | inl f =>
          congr 5
          show f = if 0 < k ∧ k < 33 ∧ k ∉ [2, 8, 16] then aw_xa h' k else _
          rw [if_pos ⟨by omega, hk, hk2⟩]
          unfold aw_xa
          rw [he]
        | inr x =>
          cases x with
          | inl f => exact absurd hx.1 hkd
          | inr x =>
            cases x with
            | inl f => exact hx.elim
            | inr x =>
              cases x with
              | inl f => exact hx.elim
              | inr f => exact absurd hx.1 (by omega)
theorem aw_mg_self : aw_mg X X = X := by
  unfold aw_mg
  refine Prod.ext ?_ (Prod.ext ?_ (Prod.ext ?_ ?_)) <;> (funext k; dsimp only; split <;> rfl)
theorem aw_MF_n {k : Nat} (hk : k ∉ aw_MF M) : (11, k) ∉ M.2 := by
  intro z
  refine hk (List.mem_map.mpr ⟨(11, k), List.mem_filter.mpr ⟨z, rfl⟩, rfl⟩)
theorem aw_MA_n {k : Nat} (h0 : 0 < k) (hk : k ∉ aw_MA M) : 101 + k ∉ M.1 := by
  intro z
  refine hk (List.mem_map.mpr ⟨101 + k, List.mem_filter.mpr ⟨z, decide_eq_true (by omega)⟩, by omega⟩)
theorem aw_SP_of (hl : 98 ≤ h.length) (hG : aw_Gs G) (hS : G S) : aw_SP s h G s (aj_mh h S) := ⟨rfl, fun _ hi => aj_mh_out S hi, hG _ _ (aw_xS_sm hl) hS⟩
theorem aw_frame (hy : aw_hy s h) (hl : 98 ≤ h.length) (hE : ak_Ev ak_TR M s (aj_mh h S) h') : aw_fr (aw_MF M) (aw_MA M) S (aw_mg S (aw_xS h')) := by
  refine ⟨fun k hk => ?_, fun k hk => ?_⟩
  · have e : (aj_mh h S)[65]? = some (.inr (11, aj_mf S)) := aj_mh_get hl S (k := 0) (by decide)
    obtain ⟨fs', e1, e2⟩ := hE.2.1 65 11 _ e
    have e3 := e2 k (aw_MF_n hk)
    refine ⟨?_, ?_⟩
    · show (if k ∈ aj_mi then aw_xf h' k else S.1 k) = S.1 k
      split
      · rename_i hm
        rw [aw_mfk hm] at e3
        unfold aw_xf
        rw [e1]
        change (match fs'[k]? with
          | some (.int x) => x
          | _ => 0) = _
        rw [e3]
      · rfl
    · show (if k ∈ aj_mj then aw_xl h' k else S.2.1 k) = S.2.1 k
      split
      · rename_i hm
        rw [aw_mjk hm] at e3
        unfold aw_xl
        rw [e1]
        change (match fs'[k]? with
          | some (.long x) => x
          | _ => 0) = _
        rw [e3]
      · rfl
  · by_cases hk3 : 0 < k ∧ k < 33
    · obtain ⟨kd, n, m1, m2, m3, y, m4⟩ := ar_ml hk3.1 hk3.2
      have hs := aw_hy_sT hy k hk3.2
      rw [if_neg (by omega)] at hs
      have e := hE.1 _ _ _ hs m4 (aw_MA_n hk3.1 hk)
      refine ⟨?_, ?_⟩
      · show (if 0 < k ∧ k < 33 ∧ k ∉ [2, 8, 16] then aw_xa h' k else S.2.2.1 k) = S.2.2.1 k
        split
        · rename_i hm
          have : aw_xa h' k = aw_xa (aj_mh h S) k := by
            unfold aw_xa
            rw [e]
          rw [this]
          exact aw_xa_mh hl hk3.2 (by omega) m1 (fun z => hm.2.2 (m2.mp z))
        · rfl
      · show (if k ∈ [2, 8, 16] then aw_xb h' k else S.2.2.2 k) = S.2.2.2 k
        split
        · rename_i hm
          have : aw_xb h' k = aw_xb (aj_mh h S) k := by
            unfold aw_xb
            rw [e]
          rw [this]
          rw [m2.mpr hm] at m1
          exact aw_xb_mh hl hk3.2 (by omega) m1
        · rfl
    · refine ⟨?_, ?_⟩
      · show (if 0 < k ∧ k < 33 ∧ k ∉ [2, 8, 16] then aw_xa h' k else S.2.2.1 k) = S.2.2.1 k
        rw [if_neg (fun z => hk3 ⟨z.1, z.2.1⟩)]
      · show (if k ∈ [2, 8, 16] then aw_xb h' k else S.2.2.2 k) = S.2.2.2 k
        rw [if_neg (fun z => hk3 (by simp at z; omega))]
/-- what the checker decided, for the hands -/
theorem aw_toK (hU : aw_U tb s h) (hG : aw_Gs G) (hd : k ≤ d) (hC : ak_CT ak_TR (aw_SP s h G) aw_kap tb k con) (hI : aw_I s h G S) (hA : ak_gA s con.2.1 as) (hQ : ak_gQ tb (aj_mh h S) as.head? con.2.2.2.2.1) : aw_K tb h d con.1 as S (fun r S' => ak_gR s con.2.2.1 r ∧ aw_I s h G S' ∧ aw_fr (aw_MF con.2.2.2.1) (aw_MA con.2.2.2.1) S S' ∧ ak_post aw_kap tb con (aw_kap (aj_mh h S)) (ak_fv tb (aj_mh h S) as.head?) as.head? r (aj_mh h S') ∧ (ak_isT r → ak_gC as con.2.2.2.2.2.2.2.2.2.1)) := by
  obtain ⟨u, r, h', k1, k2, k3, k4, k5, k6, k7⟩ := hC d hd s (aj_mh h S) as hI.1 (aw_SP_of hU.1.1 hG hI.2) hA hQ
  obtain ⟨eu, k3o, k3g⟩ := k3
  have hu : u = [] := List.append_cancel_left (eu.trans (List.append_nil s).symm)
  subst hu
  rw [List.append_nil] at k2 k5
  have e := aw_mh_mg (S := S) hU.2.2 hU.1.1 k2 k3o
  have fr := aw_frame hU.2.2 hU.1.1 k4
  obtain ⟨S', eS⟩ : ∃ z, z = aw_mg S (aw_xS h') := ⟨_, rfl⟩
  rw [← eS] at e fr
  subst e
  exact ⟨r, S', k1, k5, ⟨k2, hG _ _ (aw_sm_sy (aw_xS_sm hU.1.1)) k3g⟩, fr, k6, k7⟩
/-- a contract from a method by hand -/
theorem aw_ofK (hU : aw_U tb s h) (hG : aw_Gs G) (hM : (∀ k ∈ F, (11, k) ∈ con.2.2.2.1.2) ∧ ∀ k ∈ A, 101 + k ∈ con.2.2.2.1.1) (hK : ∀ d, k ≤ d → ∀ (S : aj_S) (as : List Value), aw_I s h G S → ak_gA s con.2.1 as → ak_gQ tb (aj_mh h S) as.head? con.2.2.2.2.1 → aw_K tb h d con.1 as S (fun r S' => ak_gR s con.2.2.1 r ∧ aw_I s h G S' ∧ aw_fr F A S S' ∧ ak_post aw_kap tb con (aw_kap (aj_mh h S)) (ak_fv tb (aj_mh h S) as.head?) as.head? r (aj_mh h S') ∧ (ak_isT r → ak_gC as con.2.2.2.2.2.2.2.2.2.1))) : ak_CT ak_TR (aw_SP s h G) aw_kap tb k con := by
  rintro d hd s1 h1 as hT ⟨rfl, ho, hg⟩ hA hQ
  have e := aw_mh_mg (S := aw_xS h1) hU.2.2 hU.1.1 hT ho
  rw [aw_mg_self] at e
  obtain ⟨S, eS⟩ : ∃ z, z = aw_xS h1 := ⟨_, rfl⟩
  rw [← eS] at e hg
  subst e
  obtain ⟨r, S', k1, k2, k3, k4, k5, k6⟩ := hK d hd S as ⟨hT, hg⟩ hA hQ
  refine ⟨[], r, aj_mh h S', k1, by rw [List.append_nil]; exact k3.1, by rw [List.append_nil]; exact aw_SP_of hU.1.1 hG k3.2, ?_, by rw [List.append_nil]; exact k2, k5, k6⟩
  have hl := hU.1.1
  have out : ∀ i, (i < 65 ∨ 98 ≤ i) → (aj_mh h S')[i]? = (aj_mh h S)[i]? := fun i hi => by rw [aj_mh_out S' hi, aj_mh_out S hi]
  refine ⟨fun i t x hs ht hn => ?_, fun i c fs hi => ?_, fun i kd n x hi => ?_⟩
  · by_cases hi : i < 65 ∨ 98 ≤ i
    · exact out i hi
    · obtain ⟨k, rfl⟩ : ∃ k, i = 65 + k := ⟨i - 65, by omega⟩
      have hk : k < 33 := by omega
      have hs' := aw_hy_sT hU.2.2 k hk
      rw [hs] at hs'
      cases hs'
      by_cases hk0 : k = 0
      · subst hk0
        rw [if_pos rfl, show ak_TR.1[63]? = some (.inl 11) from rfl] at ht
        cases ht
      · rw [if_neg hk0] at hn
        have hkA : k ∉ A := fun z => hn (hM.2 k z)
        rw [aj_mh_get hl _ hk, aj_mh_get hl _ hk]
        unfold aj_mc
        rw [if_neg hk0, if_neg hk0, (k4.2 k hkA).1, (k4.2 k hkA).2]
  · by_cases ho : i < 65 ∨ 98 ≤ i
    · exact ⟨fs, by rw [out i ho]; exact hi, fun _ _ => rfl⟩
    · obtain ⟨k, rfl⟩ : ∃ k, i = 65 + k := ⟨i - 65, by omega⟩
      have hk : k < 33 := by omega
      rw [aj_mh_get hl _ hk] at hi
      unfold aj_mc at hi
      by_cases hk0 : k = 0
      · subst hk0
        rw [if_pos rfl] at hi
        cases hi
        refine ⟨aj_mf S', aj_mh_get hl S' (k := 0) (by decide), fun j hj => ?_⟩
        have hjF : j ∉ F := fun z => hj (hM.1 j z)
        exact aw_mf_eq (k4.1 j hjF).1 (k4.1 j hjF).2
      · rw [if_neg hk0] at hi
        obtain ⟨kd, n, m1, -⟩ := ar_ml (k := k) (by omega) hk
        rw [m1] at hi
        dsimp only at hi
        split at hi <;> cases hi
  · by_cases ho : i < 65 ∨ 98 ≤ i
    · exact ⟨x, by rw [out i ho]; exact hi⟩
    · obtain ⟨k, rfl⟩ : ∃ k, i = 65 + k := ⟨i - 65, by omega⟩
      have hk : k < 33 := by omega
      rw [aj_mh_get hl _ hk] at hi ⊢
      unfold aj_mc at hi ⊢
      by_cases hk0 : k = 0
      · subst hk0
        rw [if_pos rfl] at hi
        cases hi
      · rw [if_neg hk0] at hi ⊢
        obtain ⟨kd', n', m1, -⟩ := ar_ml (k := k) (by omega) hk
        rw [m1] at hi ⊢
        dsimp only at hi ⊢
        split at hi
        · rename_i e1
          cases hi
          rw [if_pos e1]
          exact ⟨_, rfl⟩
        · rename_i e1
          cases hi
          rw [if_neg e1]
          exact ⟨_, rfl⟩
/-- facts of fields -/
theorem aw_gQ_of (hU : aw_U tb s h) {q : ak_Q} (h0 : ∀ e ∈ q, e.1 ∈ aj_mi ∧ e.2.1 ≤ (S.1 e.1).toInt ∧ (S.1 e.1).toInt ≤ e.2.2) : ak_gQ tb (aj_mh h S) (some (.ref 117)) q := fun e he => ⟨117, 11, aj_mf S, S.1 e.1, rfl, aj_mo hU.1.1 hU.1.2 S, aw_mfk (h0 e he).1, (h0 e he).2⟩
theorem aw_gQ_to (hU : aw_U tb s h) {q : ak_Q} (h0 : ak_gQ tb (aj_mh h S) (some (.ref 117)) q) {e : Nat × (Int × Int)} (he : e ∈ q) (hm : e.1 ∈ aj_mi) : e.2.1 ≤ (S.1 e.1).toInt ∧ (S.1 e.1).toInt ≤ e.2.2 := by
  obtain ⟨r, c, fs, x, k1, k2, k3, k4⟩ := h0 e he
  cases k1
  rw [aj_mo hU.1.1 hU.1.2 S] at k2
  cases k2
  rw [aw_mfk hm] at k3
  cases k3
  exact k4
theorem aw_kap_S (hU : aw_U tb s h) (hT : ak_Ty ak_TN s (aj_mh h S)) : aw_kap (aj_mh h S) = (S.1 30).toInt := by
  have b := aw_bd_f (aw_hy_sT hU.2.2) hT (k := 30) (lo := 0) (hi := 1001) (by decide) rfl
  unfold aw_kap
  rw [aw_xf_mh hU.1.1 (by decide)]
  omega
theorem aw_fv_S (hU : aw_U tb s h) {k : Nat} (hk : k ∈ aj_mi) : ak_fv tb (aj_mh h S) (some (.ref 117)) k = (S.1 k).toInt := by
  change (match aj_obj tb (aj_mh h S) 117 with
    | some q => (match q.2[k]? with
      | some (.int x) => x.toInt
      | _ => 0)
    | none => 0) = _
  rw [aj_mo hU.1.1 hU.1.2 S]
  dsimp only
  rw [aw_mfk hk]
theorem aw_g117 (hy : aw_hy s h) : ak_gam s (.inr (some ([63], false))) (.ref 117) := cw_gR (i := 65) (aw_hy_sT hy 0 (by decide)) (by decide) (by decide)
theorem aw_gar (hy : aw_hy s h) {k : Nat} (h0 : 0 < k) (hk : k < 33) : ak_gam s (.inr (some ([101 + k], false))) (.ref (117 + k)) := by
  have hs := aw_hy_sT hy k hk
  rw [if_neg (by omega)] at hs
  refine ⟨101 + k, List.mem_singleton.mpr rfl, Or.inr ⟨by omega, by omega, ?_⟩⟩
  rw [show 117 + k - 52 = 65 + k by omega]
  exact hs
theorem aw_117 (hy : aw_hy s h) {v : Value} (h0 : ak_gam s (.inr (some ([63], false))) v) : v = .ref 117 := cw_gu (i := 65) hy.2.1 h0 (by decide) (by decide) (by decide)
theorem aw_11k (hy : aw_hy s h) {v : Value} {k : Nat} (hk0 : 0 < k) (h0 : ak_gam s (.inr (some ([101 + k], false))) v) : v = .ref (117 + k) := by
  obtain ⟨p, rfl, hp⟩ := cw_gr h0 (by omega)
  obtain ⟨-, -, p3⟩ := aw_cls hy hp (by omega)
  have h9 : 65 + k + 36 = p + 36 := (Nat.add_right_comm 65 k 36).trans p3
  have e6 : p = 65 + k := (Nat.add_right_cancel h9).symm
  subst e6
  rw [← Nat.add_assoc]
end AR96
