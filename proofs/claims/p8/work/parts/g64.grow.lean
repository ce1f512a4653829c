/-! WHAT IS MADE LATER: all that was there stays as it was, but for some cells -/
def cw_exb (E : List Nat) (h h' : aj_H) : Prop := ∀ i, i ∉ E → i < h.length → (cw_o h').1 i = (cw_o h).1 i ∧ (cw_o h').2 i = (cw_o h).2 i
section CWG
variable {s : List Nat} {h h' h2 X : aj_H} {E E' : List Nat} {i c k kd n : Nat} {v : Value} {x : cw_X} {Y : Option Nat}
theorem cw_exb_of (hx : cw_ex E (cw_o h) (cw_o h')) : cw_exb E h h' := fun i hi _ => hx i hi
theorem cw_exb_app : cw_exb E h (h ++ X) := fun i _ hl => cw_app_o hl
theorem cw_exb_tr (h1 : cw_exb E h h') (h3 : cw_exb E h' h2) (hl : h.length ≤ h'.length) : cw_exb E h h2 := fun i hi hlt => ⟨(h3 i hi (by omega)).1.trans (h1 i hi hlt).1, (h3 i hi (by omega)).2.trans (h1 i hi hlt).2⟩
theorem cw_ob_lt {q : Nat × (Nat → Option Value)} (h0 : (cw_o h).1 i = some q) : i < h.length := by
  have h0 : cw_ob h i = some q := h0
  unfold cw_ob at h0
  split at h0
  · rename_i c fs he
    exact (List.getElem?_eq_some_iff.mp he).1
  · cases h0
theorem cw_oa_lt {q : Nat × Nat × cw_X} (h0 : (cw_o h).2 i = some q) : i < h.length := by
  have h0 : cw_oa h i = some q := h0
  unfold cw_oa at h0
  split at h0
  · rename_i kd n x he
    exact (List.getElem?_eq_some_iff.mp he).1
  · cases h0
theorem cw_fo_b (h0 : cw_exb E h h') (hi : i ∉ E) (hf : cw_fo (cw_o h) i c k v) : cw_fo (cw_o h') i c k v := by
  obtain ⟨g, g1, g2⟩ := hf
  exact ⟨g, by rw [(h0 i hi (cw_ob_lt g1)).1]; exact g1, g2⟩
theorem cw_oa_b (h0 : cw_exb E h h') (hi : i ∉ E) {q : Nat × Nat × cw_X} (hf : (cw_o h).2 i = some q) : (cw_o h').2 i = some q := by
  rw [(h0 i hi (cw_oa_lt hf)).2]
  exact hf
theorem cw_wds_b (h0 : cw_exb E h h') (hi : 29 ∉ E) (hw : cw_wds (cw_o h)) : cw_wds (cw_o h') := by
  obtain ⟨f, h1, h2⟩ := hw
  exact ⟨f, cw_oa_b h0 hi h1, h2⟩
theorem cw_dis_b (h0 : cw_exb E h h') (hi : 43 ∉ E ∧ 49 ∉ E) (hw : cw_dis (cw_o h)) : cw_dis (cw_o h') := by
  obtain ⟨f, p, h1, h2, h3⟩ := hw
  exact ⟨f, p, cw_oa_b h0 hi.2 h1, cw_fo_b h0 hi.1 h2, h3⟩
theorem cw_gd_b (h0 : cw_exb E h h') (hi : 30 ∉ E ∧ 31 ∉ E) (hl : 98 ≤ h.length) (hw : cw_gd (cw_o h)) : cw_gd (cw_o h') := by
  intro hf
  have hf' : cw_fo (cw_o h) 30 4 5 (.int 0) := by
    obtain ⟨g, g1, g2⟩ := hf
    exact ⟨g, by rw [← (h0 30 hi.1 (by omega)).1]; exact g1, g2⟩
  obtain ⟨f, n, h1, h2, h3⟩ := hw hf'
  exact ⟨f, n, cw_oa_b h0 hi.2 h1, cw_fo_b h0 hi.1 h2, h3⟩
theorem cw_H_b (h0 : cw_exb E h h') (hnew : ∀ i, h.length ≤ i → ∀ q, (cw_o h').1 i ≠ some (6, q)) (hi : E.all (fun j => j != 2 && (j != 14 && (j != 10 && (j != 22 && (j != 50 && decide (j < 98)))))) = true) (hw : cw_H Y (cw_o h)) : cw_H Y (cw_o h') := by
  have key : ∀ j, j = 2 ∨ j = 14 ∨ j = 10 ∨ j = 22 ∨ j = 50 ∨ 98 ≤ j → j ∉ E := by
    intro j hj hm
    have := List.all_eq_true.mp hi j hm
    simp only [Bool.and_eq_true, bne_iff_ne, decide_eq_true_eq] at this
    omega
  intro i hi' g hg
  by_cases hlt : i < h.length
  · rw [(h0 i (key i (by omega)) hlt).1] at hg
    exact hw i hi' g hg
  · exact absurd hg (hnew i (by omega) g)
theorem cw_len_sf : (cw_sf h i k v).length = h.length := by
  unfold cw_sf
  split
  · rw [List.length_set]
  · rfl
theorem cw_len_sa : (cw_sa h i x).length = h.length := by
  unfold cw_sa
  split
  · rw [List.length_set]
  · rfl
theorem cw_F_app (hF : cw_F h i c k v) : cw_F (h ++ X) i c k v := by
  obtain ⟨fs, h1, h2⟩ := hF
  exact ⟨fs, by rw [List.getElem?_append_left (List.getElem?_eq_some_iff.mp h1).1]; exact h1, h2⟩
theorem cw_A_app (hA : cw_A h i kd n x) : cw_A (h ++ X) i kd n x := by
  unfold cw_A at hA ⊢
  rw [List.getElem?_append_left (List.getElem?_eq_some_iff.mp hA).1]
  exact hA
theorem cw_B_len {T : ak_TT} (hB : cw_B s) (hT : ak_Ty T s h) : 98 ≤ h.length := by
  obtain ⟨u, rfl, -⟩ := hB
  rw [hT.1, List.length_append]
  show 98 ≤ 98 + _
  omega
end CWG
theorem aj_frm_ks {rc : Nat} {cls : List aj_C} {tb : aj_T} {m : aj_M} {isI deep : Bool} {call : Nat → List Value → aj_H → Nat → Nat → Option Value → aj_H → Prop} {mc ms : Nat} {r : Option Value} {hF : aj_H} : ∀ (n pc : Nat) (lv : aj_V) (st : List Value) (h : aj_H) (kc ks ks' : Nat), ks' ≤ ks → aj_frm rc cls tb m isI deep call n pc lv st h kc ks mc ms r hF → aj_frm rc cls tb m isI deep call n pc lv st h kc ks' mc ms r hF := by
  intro n
  induction n with
  | zero => intro pc lv st h kc ks ks' _ h0; exact h0.elim
  | succ n ih =>
    intro pc lv st h kc ks ks' hle h0
    unfold aj_frm at h0 ⊢
    cases hd : decode m.2.1 pc with
    | error e => rw [hd] at h0; exact h0.elim
    | ok q =>
      obtain ⟨i, len⟩ := q
      rw [hd] at h0
      dsimp only at h0 ⊢
      cases hs : aj_step rc cls tb m.2.2.2.2.2.1 m.2.2.1 m.2.2.2.1 isI i len pc lv st h with
      | none => rw [hs] at h0; exact h0.elim
      | some out =>
        rw [hs] at h0
        rcases out with ⟨⟨pc', lv', st'⟩, h', dc, ds⟩ | ⟨kind, mi, as, pc', lv', st'⟩ | v
        · exact ⟨h0.1, by have := h0.2.1; omega, ih _ _ _ _ _ _ _ (by omega) h0.2.2⟩
        · refine ⟨h0.1, ?_⟩
          rcases h0.2 with ⟨q1, q2⟩ | ⟨q1, mc', ms', r', h', q2, q3, q4, q5, q6⟩
          · exact Or.inl ⟨q1, ih _ _ _ _ _ _ _ hle q2⟩
          · exact Or.inr ⟨q1, mc', ms', r', h', q2, q3, q4, by omega, ih _ _ _ _ _ _ _ (by omega) q6⟩
        · exact h0
theorem aj_TF_le {rc : Nat} {cls : List aj_C} {tb : aj_T} {m : aj_M} {isI deep : Bool} {call : Nat → List Value → aj_H → Nat → Nat → Option Value → aj_H → Prop} {pc : Nat} {lv : aj_V} {st : List Value} {h : aj_H} {kc ks ks' mc ms : Nat} {r : Option Value} {hF : aj_H} (hle : ks' ≤ ks) (h0 : aj_TF rc cls tb m isI deep call pc lv st h kc ks mc ms r hF) : aj_TF rc cls tb m isI deep call pc lv st h kc ks' mc ms r hF := by
  obtain ⟨n, hn⟩ := h0
  exact ⟨n, aj_frm_ks _ _ _ _ _ _ _ _ hle hn⟩
section CWA
variable {T : ak_TT} {Φ : List Nat → Option Value → aj_H → Prop} {tb : aj_T} {d : Nat} {mm : aj_M} {con : ak_Con} {s : List Nat} {h : aj_H} {kc ks pc : Nat} {lv : aj_V} {st rest : List Value} {ct : List (Nat × Instr × Nat)}
theorem cw_cOK_mono {u : List Nat} (t : Nat) (e : aj_E) (hc : ak_cOK T s t e) : ak_cOK T (s ++ u) t e := by
  unfold ak_cOK at hc ⊢
  split
  · rename_i c hc1
    rw [hc1] at hc
    obtain ⟨fs, rfl, fa, g1, g2, g3⟩ := hc
    refine ⟨fs, rfl, fa, g1, g2, fun k a hk => ?_⟩
    obtain ⟨v, g4, g5⟩ := g3 k a hk
    exact ⟨v, g4, ak_gam_mono g5⟩
  · rename_i kd n1 n2 a hc1
    rw [hc1] at hc
    obtain ⟨n, x, rfl, g1, g2, g3⟩ := hc
    refine ⟨n, x, rfl, g1, g2, ?_⟩
    rcases x with f | f | f | f | f
    · exact ⟨g3.1, g3.2.1, fun j hj => ak_gam_mono (g3.2.2 j hj)⟩
    · exact g3
    · exact g3.elim
    · exact g3.elim
    · exact ⟨g3.1, fun j hj => ak_gam_mono (g3.2 j hj)⟩
  · rename_i hc1
    rw [hc1] at hc
    exact hc
/-- a list of ints more -/
theorem cw_tyL (h1 : T.1 = ak_ti) (hT : ak_Ty T s h) {n : Nat} {f : Nat → Int32} (hn : 64 ≤ n ∧ n ≤ 65536) : ak_Ty T (s ++ [98]) (h ++ [.inl (0, n, .inl f)]) := by
  refine ⟨by rw [List.length_append, List.length_append, hT.1]; rfl, fun i t hi => ?_⟩
  have hl := hT.1
  by_cases hlt : i < s.length
  · rw [List.getElem?_append_left hlt] at hi
    obtain ⟨g1, e, g2, g3⟩ := hT.2 i t hi
    exact ⟨g1, e, by rw [List.getElem?_append_left (by omega)]; exact g2, cw_cOK_mono t e g3⟩
  · rw [List.getElem?_append_right (by omega)] at hi
    have hi0 : i - s.length = 0 := by
      have := (List.getElem?_eq_some_iff.mp hi).1
      have : i - s.length < 1 := this
      omega
    rw [hi0] at hi
    cases hi
    rw [List.getElem?_append_right (by omega), hl, hi0]
    refine ⟨by decide, _, rfl, ?_⟩
    unfold ak_cOK
    rw [h1]
    exact ⟨n, _, rfl, hn.1, hn.2, by decide, by decide, fun j _ => cw_full (f j)⟩
theorem cw_newL (htb : tb.length = 52) (hct : aj_ctOK ct mm.2.1) (h1 : T.1 = ak_ti) (hT : ak_Ty T s h) (hd : aj_ct ct pc = some (.newarray .int, 2)) {n : Nat} {x : Int32} (hx : x.toInt = n) (hn : 64 ≤ n ∧ n ≤ 65536) (kk : ak_Ty T (s ++ [98]) (h ++ [.inl (0, n, .inl (fun _ => 0))]) → cw_W T Φ tb d mm con (s ++ [98]) (h ++ [.inl (0, n, .inl (fun _ => 0))]) (kc + 1) (ks + 65536) (pc + 2) lv (.ref (52 + h.length) :: rest)) : cw_W T Φ tb d mm con s h kc ks pc lv (.int x :: rest) := by
  obtain ⟨u, r, h', k1, k2, k3, k4, k5⟩ := kk (cw_tyL h1 hT hn)
  have hs1 : ak_slo T [98] = 65536 := by
    unfold ak_slo ak_slot
    rw [h1]
    rfl
  refine ⟨[98] ++ u, r, h', ?_, by rw [← List.append_assoc]; exact k2, by rw [← List.append_assoc]; exact k3, ak_Ev_tr (cw_EvR hT _) k4, by rw [← List.append_assoc]; exact k5⟩
  rw [ak_slo_app, hs1, List.length_append]
  have e1 : kc + ([98].length + u.length) = kc + 1 + u.length := by
    show kc + (1 + u.length) = _
    omega
  rw [e1]
  obtain ⟨e2, e3⟩ := cw_in (n := n + 1) hx (by omega) (by omega)
  have e3 : x.toNatClampNeg = n := by rw [e3]; rfl
  have k1 : aj_TF aj_rc aj_cls tb mm (aj_isI mm) true (aj_runs aj_rc aj_cls tb aj_mt d) (pc + 2) lv (.ref (52 + h.length) :: rest) (h ++ [.inl (0, n, .inl (fun _ => 0))]) (kc + 1) (ks + n) (kc + 1 + u.length) (ks + (65536 + ak_slo T u)) r h' := by
    rw [show ks + (65536 + ak_slo T u) = ks + 65536 + ak_slo T u by omega]
    exact aj_TF_le (ks := ks + 65536) (by omega) k1
  refine aj_tm hct (dc := 1) (ds := n) (by omega) hd (pc' := pc + 2) (lv' := lv) (st' := .ref (52 + h.length) :: rest) (h' := h ++ [.inl (0, n, .inl (fun _ => 0))]) ?_ k1
  unfold aj_step aj_newa
  dsimp only
  rw [if_pos ⟨rfl, by decide⟩]
  have hx0 : ¬ x < 0 := by
    rw [Int32.lt_iff_toInt_lt, hx, Int32.toInt_zero]
    omega
  rw [if_pos ⟨by decide, hx0, by rw [e3]; omega⟩, e3, htb]
  rfl
/-- System.arraycopy of ints -/
theorem cw_cpy (htb : ak_tbOK T tb) (hct : aj_ctOK ct mm.2.1) {idx a1 a2 : Nat} {a3 : Int} (hd : aj_ct ct pc = some (.invokestatic idx, 3)) (hl : aj_link mm.2.2.2.2.2.1 idx = some (13, a1, a2, a3)) {i j n0 n1 t t1 t2 : Nat} {f g : Nat → Int32} (hf : cw_A h i 0 n0 (.inl f)) (hg : cw_A h j 0 n1 (.inl g)) (hT : ak_Ty T s h) (hs : s[j]? = some t) (ht : T.1[t]? = some (.inr (0, t1, t2, .inl (-2147483648, 2147483647)))) (hM : t ∈ con.2.2.2.1.1) {x y z : Int32} (hx : x.toInt = 0) (hy : y.toInt = 0) {n : Nat} (hz : z.toInt = n) (h0 : n ≤ n0) (h1 : n ≤ n1) (hsum : aj_sum rest ≤ 8) (kk : ∀ g' : Nat → Int32, ak_Ty T s (cw_sa h j (.inl g')) → cw_W T Φ tb d mm con s (cw_sa h j (.inl g')) kc ks (pc + 3) lv rest) : cw_W T Φ tb d mm con s h kc ks pc lv (.int z :: .int y :: .ref (52 + j) :: .int x :: .ref (52 + i) :: rest) := by
  have ex : x.toNatClampNeg = 0 := by show x.toInt.toNat = 0; rw [hx]; rfl
  have ey : y.toNatClampNeg = 0 := by show y.toInt.toNat = 0; rw [hy]; rfl
  have ez : z.toNatClampNeg = n := by show z.toInt.toNat = n; rw [hz]; rfl
  have lt : ∀ (w : Int32) (a : Int), w.toInt = a → 0 ≤ a → ¬ w < 0 := by
    intro w a hw ha
    rw [Int32.lt_iff_toInt_lt, hw, Int32.toInt_zero]
    omega
  have e := cw_sa_eq (x' := .inl (va_cpy f g 0 0 n)) hg
  obtain ⟨g1, -, g3, -⟩ := ak_seta (T := (T.1, T.2.1, [], [])) (SP := fun _ _ => True) (M := con.2.2.2.1) (x' := .inl (va_cpy f g 0 0 n)) (cw_Tn htb) hT trivial cw_SPt hg hs ht ⟨by decide, by decide, fun q _ => cw_full _⟩ hM (fun z => by cases z)
  have kk := kk _ (by rw [e]; exact g1)
  rw [e] at kk
  refine cw_Wn hct hd ?_ g3 kk
  unfold aj_step aj_isNat
  dsimp only
  rw [if_pos rfl, hl]
  dsimp only
  refine (if_pos (by decide)).trans ?_
  unfold aj_nat
  rw [hl]
  dsimp only
  rw [if_neg (by decide), if_neg (by decide), if_pos rfl]
  unfold aj_ncpy
  dsimp only
  rw [htb.1, if_neg (show ¬ (52 + j < 52 ∨ 52 + i < 52) by omega), Nat.add_sub_cancel_left, Nat.add_sub_cancel_left, show h[i]? = _ from hf, show h[j]? = _ from hg]
  dsimp only
  rw [if_pos ⟨⟨rfl, rfl⟩, ⟨lt x 0 hx (by omega), lt y 0 hy (by omega), lt z n hz (by omega)⟩, by rw [ex, ez]; omega, by rw [ey, ez]; omega, hsum⟩, ex, ey, ez]
  rfl
end CWA
