/-! THE REFERENCE BY HAND: its cells are typed; ways to an end, with what holds there -/
def aw_wf (S : aj_S) (k : Nat) (v : Int32) : aj_S := (aj_u S.1 k v, S.2)
def aw_wl (S : aj_S) (k : Nat) (v : Int64) : aj_S := (S.1, aj_u S.2.1 k v, S.2.2)
def aw_wa (S : aj_S) (k j : Nat) (v : Int32) : aj_S := (S.1, S.2.1, aj_u S.2.2.1 k (upd (S.2.2.1 k) j v), S.2.2.2)
def aw_wb (S : aj_S) (k j : Nat) (v : Int64) : aj_S := (S.1, S.2.1, S.2.2.1, aj_u S.2.2.2 k (vp_updL (S.2.2.2 k) j v))
def aw_sT (s : List Nat) : Prop := ∀ k, k < 33 → s[65 + k]? = some (if k = 0 then 63 else 101 + k)
def ak_TN : ak_TT := (ak_ti, ak_ft0, [], [])
section AJTY
variable {tb : aj_T} {s : List Nat} {h : aj_H} {S : aj_S}
theorem aw_tyM (T : ak_TT) (hT1 : T.1 = ak_ti) (hT2 : T.2.1 = ak_ft0) : ak_Ty T s h ↔ ak_Ty ak_TN s h := by
  obtain ⟨t1, t2, t3⟩ := T
  cases hT1
  cases hT2
  exact Iff.rfl
theorem aw_mfk {k : Nat} (hk : k ∈ aj_mi) : (aj_mf S)[k]? = some (.int (S.1 k)) := by
  simp only [aj_mi, List.mem_cons, List.not_mem_nil, or_false] at hk
  repeat' (first | (rcases hk with rfl | hk; rfl) | (subst hk; rfl))
theorem aw_mjk {k : Nat} (hk : k ∈ aj_mj) : (aj_mf S)[k]? = some (.long (S.2.1 k)) := by
  simp only [aj_mj, List.mem_cons, List.not_mem_nil, or_false] at hk
  repeat' (first | (rcases hk with rfl | hk; rfl) | (subst hk; rfl))
def aw_fa : List ak_A := (ak_ft0[11]?).getD []
theorem aw_fa_at : ak_ft0[11]? = some aw_fa := rfl
theorem aw_bd_f (hs : aw_sT s) (hT : ak_Ty ak_TN s (aj_mh h S)) {k : Nat} {lo hi : Int} (hk : k ∈ aj_mi) (hf : aw_fa[k]? = some (.inl (lo, hi))) : lo ≤ (S.1 k).toInt ∧ (S.1 k).toInt ≤ hi := by
  obtain ⟨-, e, he, hc⟩ := hT.2 65 63 (hs 0 (by decide))
  unfold ak_cOK at hc
  have e1 : ak_TN.1[63]? = some (.inl 11) := rfl
  rw [e1] at hc
  obtain ⟨fs, rfl, fa, h1, h2, h3⟩ := hc
  have e2 : ak_TN.2.1[11]? = some aw_fa := aw_fa_at
  rw [e2] at h1
  cases h1
  obtain ⟨v, h4, h5⟩ := h3 k _ hf
  have e3 : (aj_mh h S)[65]? = some (.inr (11, aj_mf S)) := by
    have hl : 65 < h.length := by
      have := (List.getElem?_eq_some_iff.mp he).1
      rwa [aj_mh_len] at this
    unfold aj_mh
    rw [List.getElem?_mapIdx, List.getElem?_eq_getElem hl]
    rfl
  rw [e3] at he
  cases he
  rw [aw_mfk hk] at h4
  cases h4
  exact h5
theorem aw_bd_a (hs : aw_sT s) (hT : ak_Ty ak_TN s (aj_mh h S)) {k kd n j : Nat} {lo hi : Int} (hk : k < 33) (hk0 : k ≠ 0) (hm : aj_ml[k]? = some (kd, n)) (hkd : kd ≠ 1) (hf : ak_ti[101 + k]? = some (.inr (kd, n, n, .inl (lo, hi)))) (hj : j < n) : lo ≤ (S.2.2.1 k j).toInt ∧ (S.2.2.1 k j).toInt ≤ hi := by
  have h0 := hs k hk
  rw [if_neg hk0] at h0
  obtain ⟨-, e, he, hc⟩ := hT.2 _ _ h0
  unfold ak_cOK at hc
  have e1 : ak_TN.1[101 + k]? = some (.inr (kd, n, n, .inl (lo, hi))) := hf
  rw [e1] at hc
  obtain ⟨n', x, rfl, -, -, hx⟩ := hc
  have e3 : (aj_mh h S)[65 + k]? = some (.inl (kd, n, .inl (S.2.2.1 k))) := by
    have hl : 65 + k < h.length := by
      have := (List.getElem?_eq_some_iff.mp he).1
      rwa [aj_mh_len] at this
    unfold aj_mh
    rw [List.getElem?_mapIdx, List.getElem?_eq_getElem hl]
    simp only [Option.map_some]
    rw [if_pos (by omega), Nat.add_sub_cancel_left]
    unfold aj_mc
    rw [if_neg hk0, hm]
    dsimp only
    rw [if_neg hkd]
  rw [e3] at he
  cases he
  exact hx.2.2 j hj
theorem aw_T_f (htb : ak_tbOK ak_TN tb) (hs : aw_sT s) (hl : 98 ≤ h.length) (hT : ak_Ty ak_TN s (aj_mh h S)) {k : Nat} {lo hi : Int} (hk : k ∈ aj_mi) (hf : aw_fa[k]? = some (.inl (lo, hi))) {v : Int32} (hv : lo ≤ v.toInt ∧ v.toInt ≤ hi) : ak_Ty ak_TN s (aj_mh h (aw_wf S k v)) := by
  have e : (aj_mh h S)[65]? = some (.inr (11, aj_mf S)) := aj_mh_get hl S (k := 0) (by decide)
  have k1 := (ak_seto (T := ak_TN) (SP := fun _ _ => True) (M := ([], [(11, k)])) (v := .int v) (y := .inl (lo, hi)) htb hT trivial (fun _ _ _ _ _ _ _ _ => trivial) e (hs 0 (by decide)) (show ak_TN.1[63]? = some (.inl 11) from rfl) (show ak_TN.2.1[11]? = some aw_fa from aw_fa_at) hf hv (List.mem_singleton.mpr rfl) (fun z => by cases z)).1
  rw [aj_mh_fld hk] at k1
  exact k1
theorem aw_T_l (htb : ak_tbOK ak_TN tb) (hs : aw_sT s) (hl : 98 ≤ h.length) (hT : ak_Ty ak_TN s (aj_mh h S)) {k : Nat} (hk : k ∈ aj_mj) {v : Int64} : ak_Ty ak_TN s (aj_mh h (aw_wl S k v)) := by
  have e : (aj_mh h S)[65]? = some (.inr (11, aj_mf S)) := aj_mh_get hl S (k := 0) (by decide)
  have hf : aw_fa[k]? = some (.inr none) := by
    simp only [aj_mj, List.mem_cons, List.not_mem_nil, or_false] at hk
    rcases hk with rfl | rfl | rfl <;> rfl
  have k1 := (ak_seto (T := ak_TN) (SP := fun _ _ => True) (M := ([], [(11, k)])) (v := .long v) (y := .inr none) htb hT trivial (fun _ _ _ _ _ _ _ _ => trivial) e (hs 0 (by decide)) (show ak_TN.1[63]? = some (.inl 11) from rfl) (show ak_TN.2.1[11]? = some aw_fa from aw_fa_at) hf trivial (List.mem_singleton.mpr rfl) (fun z => by cases z)).1
  rw [aj_mh_fll hk] at k1
  exact k1
theorem aw_T_a (htb : ak_tbOK ak_TN tb) (hs : aw_sT s) (hl : 98 ≤ h.length) (hT : ak_Ty ak_TN s (aj_mh h S)) {k kd n j : Nat} {lo hi : Int} (hk : k < 33) (hk0 : k ≠ 0) (hm : aj_ml[k]? = some (kd, n)) (hkd : kd ≠ 1) (hkd5 : kd < 5) (hf : ak_ti[101 + k]? = some (.inr (kd, n, n, .inl (lo, hi)))) {v : Int32} (hv : lo ≤ v.toInt ∧ v.toInt ≤ hi) : ak_Ty ak_TN s (aj_mh h (aw_wa S k j v)) := by
  have e : (aj_mh h S)[65 + k]? = some (.inl (kd, n, .inl (S.2.2.1 k))) := by
    rw [aj_mh_get hl S hk]
    unfold aj_mc
    rw [if_neg hk0, hm]
    dsimp only
    rw [if_neg hkd]
  have h0 := hs k hk
  rw [if_neg hk0] at h0
  have k1 := (ak_seta (T := ak_TN) (SP := fun _ _ => True) (M := ([101 + k], [])) (x' := .inl (upd (S.2.2.1 k) j v)) htb hT trivial (fun _ _ _ _ _ _ _ _ => trivial) e h0 (show ak_TN.1[101 + k]? = _ from hf) ⟨hkd, hkd5, fun i hi => ?_⟩ (List.mem_singleton.mpr rfl) (fun z => by cases z)).1
  · rw [aj_mh_arr hk hk0 hm hkd] at k1
    exact k1
  · show lo ≤ (upd (S.2.2.1 k) j v i).toInt ∧ (upd (S.2.2.1 k) j v i).toInt ≤ _
    unfold upd
    split
    · exact hv
    · exact aw_bd_a hs hT hk hk0 hm hkd hf hi
theorem aw_T_b (htb : ak_tbOK ak_TN tb) (hs : aw_sT s) (hl : 98 ≤ h.length) (hT : ak_Ty ak_TN s (aj_mh h S)) {k n j : Nat} (hk : k < 33) (hk0 : k ≠ 0) (hm : aj_ml[k]? = some (1, n)) (hf : ak_ti[101 + k]? = some (.inr (1, n, n, .inr none))) {v : Int64} : ak_Ty ak_TN s (aj_mh h (aw_wb S k j v)) := by
  have e : (aj_mh h S)[65 + k]? = some (.inl (1, n, .inr (.inl (S.2.2.2 k)))) := by
    rw [aj_mh_get hl S hk]
    unfold aj_mc
    rw [if_neg hk0, hm]
    dsimp only
    rw [if_pos rfl]
  have h0 := hs k hk
  rw [if_neg hk0] at h0
  have k1 := (ak_seta (T := ak_TN) (SP := fun _ _ => True) (M := ([101 + k], [])) (x' := .inr (.inl (vp_updL (S.2.2.2 k) j v))) htb hT trivial (fun _ _ _ _ _ _ _ _ => trivial) e h0 (show ak_TN.1[101 + k]? = _ from hf) ⟨rfl, rfl⟩ (List.mem_singleton.mpr rfl) (fun z => by cases z)).1
  rw [aj_mh_arl hk hk0 hm] at k1
  exact k1
end AJTY
/-- a frame goes on to its end, and there Q holds -/
def aw_W (tb : aj_T) (h : aj_H) (d : Nat) (mm : aj_M) (pc : Nat) (lv : aj_V) (st : List Value) (S : aj_S) (Q : Option Value → aj_S → Prop) : Prop := ∃ r S', aj_TF aj_rc aj_cls tb mm false true (aj_runs aj_rc aj_cls tb aj_mt d) pc lv st (aj_mh h S) 0 0 0 0 r (aj_mh h S') ∧ Q r S'
/-- a method does -/
def aw_K (tb : aj_T) (h : aj_H) (d i : Nat) (as : List Value) (S : aj_S) (Q : Option Value → aj_S → Prop) : Prop := ∃ r S', aj_runs aj_rc aj_cls tb aj_mt d i as (aj_mh h S) 0 0 r (aj_mh h S') ∧ Q r S'
abbrev aw_E (tb : aj_T) (h : aj_H) : Prop := 98 ≤ h.length ∧ tb.length = 52
section AJWP
variable {tb : aj_T} {h : aj_H} {d : Nat} {mm : aj_M} {pc : Nat} {lv : aj_V} {st rest : List Value} {S : aj_S} {Q : Option Value → aj_S → Prop} {ct : List (Nat × Instr × Nat)}
theorem aw_m {i : Nat} {as : List Value} (hm : aj_mt[i]? = some mm) (hi : aj_isI mm = false) (hl : (lg_sl as).length ≤ mm.2.2.1) (k : aw_W tb h d mm 0 (lv_args 0 as) [] S Q) : aw_K tb h (d + 1) i as S Q := by
  obtain ⟨r, S', k1, k2⟩ := k
  exact ⟨r, S', aj_leaf hm hl (by rw [hi]; exact k1), k2⟩
theorem aw_mono {i : Nat} {as : List Value} {Q' : Option Value → aj_S → Prop} (hq : ∀ r S', Q r S' → Q' r S') (k : aw_K tb h d i as S Q) : aw_K tb h d i as S Q' := by
  obtain ⟨r, S', k1, k2⟩ := k
  exact ⟨r, S', k1, hq r S' k2⟩
theorem aw_of {i : Nat} {as : List Value} {r : Option Value} {S' : aj_S} (k : aj_runs aj_rc aj_cls tb aj_mt d i as (aj_mh h S) 0 0 r (aj_mh h S')) : aw_K tb h d i as S (fun r' S1 => r' = r ∧ S1 = S') := ⟨r, S', k, rfl, rfl⟩
theorem aw_hz : 0 ≤ 0 ∧ 0 ≤ 0 := ⟨Nat.le_refl _, Nat.le_refl _⟩
theorem aw_n (hct : aj_ctOK ct mm.2.1) {i : Instr} {len : Nat} (hd : aj_ct ct pc = some (i, len)) {pc' : Nat} {lv' : aj_V} {st' : List Value} (hs : aj_step aj_rc aj_cls tb mm.2.2.2.2.2.1 mm.2.2.1 mm.2.2.2.1 false i len pc lv st (aj_mh h S) = some (.inl ((pc', lv', st'), aj_mh h S, 0, 0))) (k : aw_W tb h d mm pc' lv' st' S Q) : aw_W tb h d mm pc lv st S Q := by
  obtain ⟨r, S', k1, k2⟩ := k
  exact ⟨r, S', aj_tn hct aw_hz hd hs k1, k2⟩
theorem aw_e (hct : aj_ctOK ct mm.2.1) {i : Instr} {len : Nat} (hd : aj_ct ct pc = some (i, len)) {v : Option Value} (hs : aj_step aj_rc aj_cls tb mm.2.2.2.2.2.1 mm.2.2.1 mm.2.2.2.1 false i len pc lv st (aj_mh h S) = some (.inr (.inr v))) (hq : Q v S) : aw_W tb h d mm pc lv st S Q := ⟨v, S, aj_te hct hd hs, hq⟩
/-- getfield of an int -/
theorem aw_g (E : aw_E tb h) (hct : aj_ctOK ct mm.2.1) {idx : Nat} (hd : aj_ct ct pc = some (.getfield idx, 3)) {kind k : Nat} {fin : Int} (hlk : aj_link mm.2.2.2.2.2.1 idx = some (kind, 11, k, fin)) (hk2 : kind < 2) {v : Value} (hv : (aj_mf S)[k]? = some v) (kk : aw_W tb h d mm (pc + 3) lv (v :: rest) S Q) : aw_W tb h d mm pc lv (.ref 117 :: rest) S Q := by
  obtain ⟨r, S', k1, k2⟩ := kk
  exact ⟨r, S', aj_mg E.1 E.2 hct aw_hz hd hlk hk2 hv k1, k2⟩
theorem aw_p (E : aw_E tb h) (hct : aj_ctOK ct mm.2.1) {idx : Nat} (hd : aj_ct ct pc = some (.putfield idx, 3)) {k : Nat} (hlk : aj_link mm.2.2.2.2.2.1 idx = some (0, 11, k, 0)) (hki : k ∈ aj_mi) {v : Int32} (hf : aj_fit (aj_F11 k) (.int v) = true) (kk : aw_W tb h d mm (pc + 3) lv rest (aw_wf S k v) Q) : aw_W tb h d mm pc lv (.int v :: .ref 117 :: rest) S Q := by
  obtain ⟨r, S', k1, k2⟩ := kk
  exact ⟨r, S', aj_mp E.1 E.2 hct aw_hz hd hlk hki (q := ("DimShelfModel", aj_T11, 72, aj_F11)) rfl hf k1, k2⟩
theorem aw_pl (E : aw_E tb h) (hct : aj_ctOK ct mm.2.1) {idx : Nat} (hd : aj_ct ct pc = some (.putfield idx, 3)) {k : Nat} (hlk : aj_link mm.2.2.2.2.2.1 idx = some (0, 11, k, 0)) (hki : k ∈ aj_mj) {v : Int64} (hf : aj_fit (aj_F11 k) (.long v) = true) (kk : aw_W tb h d mm (pc + 3) lv rest (aw_wl S k v) Q) : aw_W tb h d mm pc lv (.long v :: .ref 117 :: rest) S Q := by
  obtain ⟨r, S', k1, k2⟩ := kk
  refine ⟨r, S', aj_tp hct aw_hz hd hlk (by decide) (Or.inl rfl) (aj_mo E.1 E.2 S) (q := ("DimShelfModel", aj_T11, 72, aj_F11)) rfl ?_ hf ?_, k2⟩
  · simp only [aj_mj, List.mem_cons, List.not_mem_nil, or_false] at hki
    rcases hki with rfl | rfl | rfl <;> exact Nat.le_of_ble_eq_true rfl
  · rw [E.2, show 117 - 52 = 65 from rfl, aj_mh_fll hki]
    exact k1
theorem aw_in {x : Int32} {a : Int} {n : Nat} (hx : x.toInt = a) (h0 : 0 ≤ a) (h1 : a < n) : aj_in x n = true ∧ x.toNatClampNeg = a.toNat := by
  subst hx
  have h2 : x.toNatClampNeg = x.toInt.toNat := rfl
  refine ⟨?_, h2⟩
  unfold aj_in
  refine Bool.and_eq_true_iff.mpr ⟨?_, decide_eq_true (by rw [h2]; omega)⟩
  rw [Bool.not_eq_true', decide_eq_false_iff_not, Int32.lt_iff_toInt_lt]
  exact Int.not_lt.mpr h0
theorem aw_ld (E : aw_E tb h) (hct : aj_ctOK ct mm.2.1) {i : Instr} {k kd n : Nat} (hi : i = .iaload ∧ kd = 0 ∨ i = .caload ∧ kd = 3 ∨ i = .baload ∧ kd = 2 ∨ i = .baload ∧ kd = 4) (hd : aj_ct ct pc = some (i, 1)) (hk3 : k < 33) (hk0 : k ≠ 0) (hm : aj_ml[k]? = some (kd, n)) {x : Int32} {a : Int} (hx : x.toInt = a) (h0 : 0 ≤ a) (h1 : a < n) (kk : ∀ v : Int32, v = S.2.2.1 k a.toNat → aw_W tb h d mm (pc + 1) lv (.int v :: rest) S Q) : aw_W tb h d mm pc lv (.int x :: .ref (117 + k) :: rest) S Q := by
  obtain ⟨r, S', k1, k2⟩ := kk _ rfl
  obtain ⟨g1, g2⟩ := aw_in hx h0 h1
  rw [← g2] at k1
  exact ⟨r, S', aj_mld E.1 E.2 hct aw_hz hi hd hk3 hk0 hm g1 k1, k2⟩
theorem aw_ldl (E : aw_E tb h) (hct : aj_ctOK ct mm.2.1) {k n : Nat} (hd : aj_ct ct pc = some (.laload, 1)) (hk3 : k < 33) (hk0 : k ≠ 0) (hm : aj_ml[k]? = some (1, n)) {x : Int32} {a : Int} (hx : x.toInt = a) (h0 : 0 ≤ a) (h1 : a < n) (kk : ∀ v : Int64, v = S.2.2.2 k a.toNat → aw_W tb h d mm (pc + 1) lv (.long v :: rest) S Q) : aw_W tb h d mm pc lv (.int x :: .ref (117 + k) :: rest) S Q := by
  obtain ⟨r, S', k1, k2⟩ := kk _ rfl
  obtain ⟨g1, g2⟩ := aw_in hx h0 h1
  rw [← g2] at k1
  refine ⟨r, S', aj_tn hct aw_hz hd ?_ k1, k2⟩
  unfold aj_step
  dsimp only
  rw [if_pos rfl]
  have e : aj_arr tb (aj_mh h S) (117 + k) = some (1, n, .inr (.inl (S.2.2.2 k))) := by
    unfold aj_arr
    rw [if_neg (by rw [E.2]; omega), E.2, aj_mal E.1 E.2 S hk3 hk0 hm]
  simp only [aj_lld, e]
  exact if_pos g1
theorem aw_st (E : aw_E tb h) (hct : aj_ctOK ct mm.2.1) {i : Instr} {k kd n : Nat} (hi : i = .iastore ∧ kd = 0 ∨ i = .castore ∧ kd = 3 ∨ i = .bastore ∧ kd = 2 ∨ i = .bastore ∧ kd = 4) (hd : aj_ct ct pc = some (i, 1)) (hk3 : k < 33) (hk0 : k ≠ 0) (hm : aj_ml[k]? = some (kd, n)) {x v : Int32} {a : Int} (hx : x.toInt = a) (h0 : 0 ≤ a) (h1 : a < n) (kk : aw_W tb h d mm (pc + 1) lv rest (aw_wa S k a.toNat (aj_nar kd v)) Q) : aw_W tb h d mm pc lv (.int v :: .int x :: .ref (117 + k) :: rest) S Q := by
  obtain ⟨r, S', k1, k2⟩ := kk
  obtain ⟨g1, g2⟩ := aw_in hx h0 h1
  unfold aw_wa at k1
  rw [← g2] at k1
  exact ⟨r, S', aj_mst E.1 E.2 hct aw_hz hi hd hk3 hk0 hm g1 k1, k2⟩
theorem aw_stl (E : aw_E tb h) (hct : aj_ctOK ct mm.2.1) {k n : Nat} (hd : aj_ct ct pc = some (.lastore, 1)) (hk3 : k < 33) (hk0 : k ≠ 0) (hm : aj_ml[k]? = some (1, n)) {x : Int32} {v : Int64} {a : Int} (hx : x.toInt = a) (h0 : 0 ≤ a) (h1 : a < n) (kk : aw_W tb h d mm (pc + 1) lv rest (aw_wb S k a.toNat v) Q) : aw_W tb h d mm pc lv (.long v :: .int x :: .ref (117 + k) :: rest) S Q := by
  obtain ⟨r, S', k1, k2⟩ := kk
  obtain ⟨g1, g2⟩ := aw_in hx h0 h1
  unfold aw_wb at k1
  rw [← g2, ← aj_mh_arl hk3 hk0 hm] at k1
  refine ⟨r, S', aj_tn hct aw_hz hd ?_ k1, k2⟩
  unfold aj_step
  dsimp only
  rw [if_pos rfl]
  simp only [aj_lst]
  have hr : ¬ (117 + k < tb.length) := by
    have := E.2
    omega
  rw [if_neg hr, E.2, aj_mal E.1 E.2 S hk3 hk0 hm, show 117 + k - 52 = 65 + k by omega]
  exact if_pos g1
theorem aw_bmod {z : Int} (h1 : -2147483648 ≤ z) (h2 : z ≤ 2147483647) : z.bmod (2 ^ 32) = z := ak_bm h1 h2
theorem aw_add (hct : aj_ctOK ct mm.2.1) (hd : aj_ct ct pc = some (.iadd, 1)) {x y : Int32} {a b : Int} (hx : x.toInt = a) (hy : y.toInt = b) (h1 : -2147483648 ≤ a + b) (h2 : a + b ≤ 2147483647) (k : ∀ z : Int32, z.toInt = a + b → aw_W tb h d mm (pc + 1) lv (.int z :: rest) S Q) : aw_W tb h d mm pc lv (.int y :: .int x :: rest) S Q :=
  aw_n hct hd rfl (k (x + y) (by rw [Int32.toInt_add, hx, hy]; exact ak_bm h1 h2))
theorem aw_sub (hct : aj_ctOK ct mm.2.1) (hd : aj_ct ct pc = some (.isub, 1)) {x y : Int32} {a b : Int} (hx : x.toInt = a) (hy : y.toInt = b) (h1 : -2147483648 ≤ a - b) (h2 : a - b ≤ 2147483647) (k : ∀ z : Int32, z.toInt = a - b → aw_W tb h d mm (pc + 1) lv (.int z :: rest) S Q) : aw_W tb h d mm pc lv (.int y :: .int x :: rest) S Q :=
  aw_n hct hd rfl (k (x - y) (by rw [Int32.toInt_sub, hx, hy]; exact ak_bm h1 h2))
theorem aw_mul (hct : aj_ctOK ct mm.2.1) (hd : aj_ct ct pc = some (.imul, 1)) {x y : Int32} {a b : Int} (hx : x.toInt = a) (hy : y.toInt = b) (h1 : -2147483648 ≤ a * b) (h2 : a * b ≤ 2147483647) (k : ∀ z : Int32, z.toInt = a * b → aw_W tb h d mm (pc + 1) lv (.int z :: rest) S Q) : aw_W tb h d mm pc lv (.int y :: .int x :: rest) S Q :=
  aw_n hct hd rfl (k (x * y) (by rw [Int32.toInt_mul, hx, hy]; exact ak_bm h1 h2))
/-- any int operation, its value not looked at -/
theorem aw_any (hct : aj_ctOK ct mm.2.1) {i : Instr} {len : Nat} (hd : aj_ct ct pc = some (i, len)) {pc' : Nat} {lv' : aj_V} {rest' : List Value} {v : Int32} (hs : aj_step aj_rc aj_cls tb mm.2.2.2.2.2.1 mm.2.2.1 mm.2.2.2.1 false i len pc lv st (aj_mh h S) = some (.inl ((pc', lv', .int v :: rest'), aj_mh h S, 0, 0))) (k : ∀ z : Int32, z = v → aw_W tb h d mm pc' lv' (.int z :: rest') S Q) : aw_W tb h d mm pc lv st S Q := aw_n hct hd hs (k v rfl)
theorem aw_c (hct : aj_ctOK ct mm.2.1) {c : ClassFile.Cond} {off : Int} {tgt : Nat} (hd : aj_ct ct pc = some (.if_icmp c off, 3)) (ht : (pc : Int) + off = (tgt : Int)) {x y : Int32} (k1 : aj_test c x y = true → aw_W tb h d mm tgt lv rest S Q) (k2 : aj_test c x y = false → aw_W tb h d mm (pc + 3) lv rest S Q) : aw_W tb h d mm pc lv (.int y :: .int x :: rest) S Q := by
  cases hb : aj_test c x y with
  | true =>
    obtain ⟨r, S', q1, q2⟩ := k1 hb
    exact ⟨r, S', aj_tc hct aw_hz hd ht (fun _ => q1) (fun z => by rw [hb] at z; cases z), q2⟩
  | false =>
    obtain ⟨r, S', q1, q2⟩ := k2 hb
    exact ⟨r, S', aj_tc hct aw_hz hd ht (fun z => by rw [hb] at z; cases z) (fun _ => q1), q2⟩
theorem aw_z (hct : aj_ctOK ct mm.2.1) {c : ClassFile.Cond} {off : Int} {tgt : Nat} (hd : aj_ct ct pc = some (.ifCond c off, 3)) (ht : (pc : Int) + off = (tgt : Int)) {x : Int32} (k1 : aj_test c x 0 = true → aw_W tb h d mm tgt lv rest S Q) (k2 : aj_test c x 0 = false → aw_W tb h d mm (pc + 3) lv rest S Q) : aw_W tb h d mm pc lv (.int x :: rest) S Q := by
  cases hb : aj_test c x 0 with
  | true =>
    obtain ⟨r, S', q1, q2⟩ := k1 hb
    exact ⟨r, S', aj_tz hct aw_hz hd ht (fun _ => q1) (fun z => by rw [hb] at z; cases z), q2⟩
  | false =>
    obtain ⟨r, S', q1, q2⟩ := k2 hb
    exact ⟨r, S', aj_tz hct aw_hz hd ht (fun z => by rw [hb] at z; cases z) (fun _ => q1), q2⟩
theorem aw_eqT {x y : Int32} {a b : Int} (hx : x.toInt = a) (hy : y.toInt = b) : x = y ↔ a = b := by
  subst hx
  subst hy
  exact Int32.toInt_inj.symm
theorem aw_t_eq {x y : Int32} {a b : Int} (hx : x.toInt = a) (hy : y.toInt = b) {v : Bool} (h0 : aj_test .eq x y = v) : if v = true then a = b else a ≠ b := by
  have e : aj_test .eq x y = decide (x = y) := by simp [aj_test]
  rw [e] at h0
  subst h0
  by_cases q : x = y
  · rw [decide_eq_true q, if_pos rfl]; exact (aw_eqT hx hy).mp q
  · rw [decide_eq_false q, if_neg (by decide)]; exact fun z => q ((aw_eqT hx hy).mpr z)
theorem aw_t_ne {x y : Int32} {a b : Int} (hx : x.toInt = a) (hy : y.toInt = b) {v : Bool} (h0 : aj_test .ne x y = v) : if v = true then a ≠ b else a = b := by
  have e : aj_test .ne x y = !decide (x = y) := by simp [aj_test, bne, BEq.beq]
  rw [e] at h0
  subst h0
  by_cases q : x = y
  · rw [decide_eq_true q]; exact (aw_eqT hx hy).mp q
  · rw [decide_eq_false q]; exact fun z => q ((aw_eqT hx hy).mpr z)
theorem aw_t_lt {x y : Int32} {a b : Int} (hx : x.toInt = a) (hy : y.toInt = b) {v : Bool} (h0 : aj_test .lt x y = v) : if v = true then a < b else b ≤ a := by
  subst hx
  subst hy
  have h0 : decide (x < y) = v := h0
  subst h0
  by_cases q : x < y
  · rw [decide_eq_true q, if_pos rfl]; exact Int32.lt_iff_toInt_lt.mp q
  · rw [decide_eq_false q, if_neg (by decide)]; exact Int.not_lt.mp fun z => q (Int32.lt_iff_toInt_lt.mpr z)
theorem aw_t_ge {x y : Int32} {a b : Int} (hx : x.toInt = a) (hy : y.toInt = b) {v : Bool} (h0 : aj_test .ge x y = v) : if v = true then b ≤ a else a < b := by
  subst hx
  subst hy
  have h0 : decide (y ≤ x) = v := h0
  subst h0
  by_cases q : y ≤ x
  · rw [decide_eq_true q, if_pos rfl]; exact Int32.le_iff_toInt_le.mp q
  · rw [decide_eq_false q, if_neg (by decide)]; exact Int.not_le.mp fun z => q (Int32.le_iff_toInt_le.mpr z)
theorem aw_t_gt {x y : Int32} {a b : Int} (hx : x.toInt = a) (hy : y.toInt = b) {v : Bool} (h0 : aj_test .gt x y = v) : if v = true then b < a else a ≤ b := by
  subst hx
  subst hy
  have h0 : decide (y < x) = v := h0
  subst h0
  by_cases q : y < x
  · rw [decide_eq_true q, if_pos rfl]; exact Int32.lt_iff_toInt_lt.mp q
  · rw [decide_eq_false q, if_neg (by decide)]; exact Int.not_lt.mp fun z => q (Int32.lt_iff_toInt_lt.mpr z)
theorem aw_t_le {x y : Int32} {a b : Int} (hx : x.toInt = a) (hy : y.toInt = b) {v : Bool} (h0 : aj_test .le x y = v) : if v = true then a ≤ b else b < a := by
  subst hx
  subst hy
  have h0 : decide (x ≤ y) = v := h0
  subst h0
  by_cases q : x ≤ y
  · rw [decide_eq_true q, if_pos rfl]; exact Int32.le_iff_toInt_le.mp q
  · rw [decide_eq_false q, if_neg (by decide)]; exact Int.not_le.mp fun z => q (Int32.le_iff_toInt_le.mpr z)
/-- a call of a method of the reference's object -/
theorem aw_k (E : aw_E tb h) (hct : aj_ctOK ct mm.2.1) {idx mi n : Nat} {v : Int} (hd : aj_ct ct pc = some (.invokevirtual idx, 3)) (hl : aj_link mm.2.2.2.2.2.1 idx = some (2, mi, n, v)) (args : List Value) (hst : st = args ++ .ref 117 :: rest) (hn : args.length = n) (hci : 11 = v.toNat) (hsum : aj_sum rest ≤ 8) {Q' : Option Value → aj_S → Prop} (hc : aw_K tb h d mi (.ref 117 :: args.reverse) S Q') (kk : ∀ r S', Q' r S' → aw_W tb h d mm (pc + 3) lv (r.toList ++ rest) S' Q) : aw_W tb h d mm pc lv st S Q := by
  obtain ⟨r', S1, c1, c2⟩ := hc
  obtain ⟨r, S', k1, k2⟩ := kk r' S1 c2
  exact ⟨r, S', aj_tiv hct hd hl args hst hn (aj_mo E.1 E.2 S) hci hsum rfl c1 (by rw [aj_mh_len, aj_mh_len]; rfl) aw_hz k1, k2⟩
/-- a call of a static method of the reference -/
theorem aw_ks (hct : aj_ctOK ct mm.2.1) {idx mi n : Nat} {v : Int} (hd : aj_ct ct pc = some (.invokestatic idx, 3)) (hnat : aj_isNat mm.2.2.2.2.2.1 idx = false) (hl : aj_link mm.2.2.2.2.2.1 idx = some (6, mi, n, v)) (args : List Value) (hst : st = args ++ rest) (hn : args.length = n) (hsum : aj_sum rest ≤ 8) {Q' : Option Value → aj_S → Prop} (hc : aw_K tb h d mi args.reverse S Q') (kk : ∀ r S', Q' r S' → aw_W tb h d mm (pc + 3) lv (r.toList ++ rest) S' Q) : aw_W tb h d mm pc lv st S Q := by
  obtain ⟨r', S1, c1, c2⟩ := hc
  obtain ⟨r, S', k1, k2⟩ := kk r' S1 c2
  refine ⟨r, S', aj_tk hct hd (pc' := pc + 3) (lv' := lv) (st' := rest) ?_ rfl (kind := 6) (by decide) c1 (by rw [aj_mh_len, aj_mh_len]; rfl) aw_hz k1, k2⟩
  subst hst
  subst hn
  unfold aj_step
  dsimp only
  rw [if_pos rfl, hnat, if_neg (by decide)]
  have e1 : (args ++ rest).drop args.length = rest := by simp
  have e2 : (args ++ rest).take args.length = args := by simp
  simp only [aj_call, hl, e1, e2]
  rw [if_pos ⟨Nat.le_refl _, Nat.le_refl _⟩, if_pos trivial]
  exact if_pos ⟨by simp, hsum⟩
end AJWP
