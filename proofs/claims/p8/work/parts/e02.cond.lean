/-! THE CLASS: a COND worked out, note by note -/
def md_cset (a : Int) : Bool := decide (a < 130) || (decide (138 ≤ a) && decide (a ≤ 144)) || a == 170 || a == 171 || a == 200 || a == 201 || (decide (203 ≤ a) && decide (a ≤ 207))
section CE02
variable {P : md_P} {X X' X0 X1 : fx_X} {v p1 y1 y2 y3 : Int32} {u : Unit} {sr W n k m j near l : Nat} {L : List Nat} {pt : List (Nat → Bool)} {f x : Nat → Bool} {T : md_T} {K : List md_Sy} {c : md_C} {nm : md_Nm} {U : md_U}
theorem md_cset_i {a : Int} (h : md_cset a = true) : a < 130 ∨ (138 ≤ a ∧ a ≤ 144) ∨ a = 170 ∨ a = 171 ∨ a = 200 ∨ a = 201 ∨ (203 ≤ a ∧ a ≤ 207) := by
  unfold md_cset at h
  simp at h
  omega
theorem md_cset_r : ∀ x, x ∈ md_pairs → 138 ≤ x.1 → x.1 ≤ 144 → ∀ a, a ∈ md_rl.getD x.2 [] → md_cset a = true := by decide
theorem md_cset_rule {s k : Int} {r : List Int} (hs : 138 ≤ s ∧ s ≤ 144) (h : md_rule s k = some r) : ∀ a, a ∈ r → md_cset a = true := by
  unfold md_rule at h
  cases hi : md_47 s k with
  | none => rw [hi] at h; cases h
  | some i =>
    rw [hi] at h
    have h : md_rl.getD i [] = r := Option.some.inj h
    subst h
    exact md_cset_r (s, i) (md_47_mem hi) hs.1 hs.2
/-- events of a COND -/
theorem md_am_cond : ∀ (m : Nat) (K : List md_Sy) (j near : Nat) (c : md_C) (nm : md_Nm) (es : List md_Ev), (∀ x, x ∈ K → md_cset x.1 = true) → md_am T m K j near c nm = some (some es) → ∀ e, e ∈ es → md_cset e.1 = true ∧ 170 ≤ e.1
  | 0, _, _, _, _, _, _, _, h => by cases h
  | m + 1, [], _, _, _, _, es, _, h => by
    have h : some (some []) = some (some es) := h
    cases h
    intro e he
    cases he
  | m + 1, (s, l) :: K, j, near, c, nm, es, hK, h => by
    have hs := hK (s, l) List.mem_cons_self
    have hK' : ∀ x, x ∈ K → md_cset x.1 = true := fun x hx => hK x (List.mem_cons_of_mem _ hx)
    rw [md_am_s] at h
    by_cases c1 : 170 ≤ s
    · rw [if_pos c1] at h
      cases hm : md_room s (T.2 near) c nm with
      | none => rw [hm] at h; cases h
      | some q =>
        rw [hm] at h
        dsimp only at h
        obtain ⟨r', e1, e2⟩ := md_cs_i h
        cases r' with
        | none => cases e2
        | some es' =>
          have e2 : es = (s, near, l) :: es' := Option.some.inj e2
          subst e2
          intro e he
          rcases List.mem_cons.mp he with z | z
          · subst z
            exact ⟨hs, c1⟩
          · exact md_am_cond m K j near q.1 q.2 es' hK' e1 e z
    · rw [if_neg c1] at h
      by_cases c2 : 130 ≤ s
      · have hs2 : 138 ≤ s ∧ s ≤ 144 := by
          rcases md_cset_i hs with z | z | z | z | z | z | z <;> omega
        rw [if_pos c2] at h
        cases hr : md_rule s (T.1 j) with
        | none => rw [hr] at h; cases h
        | some r =>
          rw [hr] at h
          dsimp only at h
          rw [if_neg (by omega)] at h
          refine md_am_cond m _ j near c nm es (fun x hx => ?_) h
          rcases List.mem_append.mp hx with z | z
          · obtain ⟨a, ha, e⟩ := List.mem_map.mp z
            subst e
            exact md_cset_rule hs2 hr a ha
          · exact hK' x z
      · rw [if_neg c2] at h
        by_cases c3 : T.1 j = s
        · rw [if_pos c3] at h
          by_cases c4 : 1000 ≤ j ∧ s ≠ 1
          · rw [if_pos c4] at h; cases h
          · rw [if_neg c4] at h
            exact md_am_cond m K (j + 1) j c nm es hK' h
        · rw [if_neg c3] at h; cases h
/-- only the sides, the relation and the bits worked on -/
def cx_kf (X X' : fx_X) : Prop := X'.2 = X.2 ∧ (∀ q k, q ≠ 95 → q ≠ 106 → X'.1 q k = X.1 q k) ∧ ∀ k, k < 8 ∨ 12 < k → X'.1 95 k = X.1 95 k
theorem cx_kf_tr (h1 : cx_kf X X0) (h2 : cx_kf X0 X1) : cx_kf X X1 := ⟨h2.1.trans h1.1, fun q k a b => (h2.2.1 q k a b).trans (h1.2.1 q k a b), fun k a => (h2.2.2 k a).trans (h1.2.2 k a)⟩
theorem cx_kf_tf (h : cx_tf X X') : cx_kf X X' := ⟨h.1, fun q k _ b => h.2 q k b, fun k _ => h.2 95 k (by decide)⟩
theorem cx_kf_Sd (h : X'.2 = X.2 ∧ (∀ q k, q ≠ 95 → X'.1 q k = X.1 q k) ∧ ∀ k, k < 8 ∨ 12 < k → X'.1 95 k = X.1 95 k) : cx_kf X X' := ⟨h.1, fun q k a _ => h.2.1 q k a, h.2.2⟩
theorem cx_kf_ce {val : md_V} (hs : sr = 54 ∨ sr = 66) (h : cx_ce X sr W n val) (hf : cx_kf X X') : cx_ce X' sr W n val := ⟨h.1, h.2.1, fun w u hw hu => by rw [hf.2.1 _ _ (by omega) (by omega)]; exact h.2.2 w u hw hu⟩
def md_sdw (w : md_WS) : md_Sd × md_Sd := w.2.2.2.1
def md_rew (w : md_WS) : Int := w.2.2.2.2.1
/-- one note of a COND -/
theorem cx_140w {val : md_V} {ws ws' : md_WS} {a arg : Int} {wd : Nat} (hs : sr = 54 ∨ sr = 66) (hce : cx_ce X sr W n val) (hSd : cx_Sd X sr W (md_sdw ws) (md_rew ws)) (htr : cx_tr X W (md_tr ws)) (hl : (md_tr ws).length ≤ 32) (ha : a = 200 ∨ a = 201 ∨ (203 ≤ a ∧ a ≤ 207)) (hwk : md_wk W n val wd ws (a, near, l) arg = md_k ws') (h1 : p1.toInt = a) (h2 : y2.toInt = arg) (g : gx_140 p1 y2 X u X') : cx_kf X X' ∧ cx_Sd X' sr W (md_sdw ws') (md_rew ws') ∧ cx_tr X' W (md_tr ws') ∧ (md_tr ws').length ≤ 32 := by
  obtain ⟨tb, sk, tr, sd, rel, pt, rt, pk, fo, fd⟩ := ws
  have hSd : cx_Sd X sr W sd rel := hSd
  have htr : cx_tr X W tr := htr
  have hl : tr.length ≤ 32 := hl
  have ey : y2 = Int32.ofInt arg := by rw [← h2, Int32.ofInt_toInt]
  obtain ⟨k200, k201, k202, k203, k204, k205, k206, k207, kno⟩ := cx_140 (p1 := p1) (p2 := y2) hs hce hSd htr hl g
  have inj : ∀ {z : md_WS}, (md_k z : md_O md_WS) = md_k ws' → z = ws' := fun h => Option.some.inj (Option.some.inj h)
  have trs : cx_kf X X' → ∀ {q : md_Sd × md_Sd}, (∀ w, w < W → X'.1 106 w = X.1 106 w) → cx_tr X' W tr := fun _ _ h i f hf w hw => by rw [h w hw]; exact htr i f hf w hw
  rcases ha with e | e | ⟨e1, e2⟩
  · subst e
    have hwk : md_k (tb, sk, tr, (sd.2, ((0 : Int), Int32.ofInt arg)), rel, pt, rt, pk, fo, fd) = md_k ws' := hwk
    have e := inj hwk
    subst e
    obtain ⟨b1, b2⟩ := k200 h1
    refine ⟨cx_kf_Sd b2, ?_, fun i f hf w hw => ?_, hl⟩
    · show cx_Sd X' sr W (sd.2, (0, Int32.ofInt arg)) rel
      rw [← ey]; exact b1
    · rw [b2.2.1 106 w (by decide)]; exact htr i f hf w hw
  · subst e
    have hwk : md_k (tb, sk, tr, (sd.2, ((1 : Int), Int32.ofInt arg)), rel, pt, rt, pk, fo, fd) = md_k ws' := hwk
    have e := inj hwk
    subst e
    obtain ⟨b1, b2⟩ := k201 h1
    refine ⟨cx_kf_Sd b2, ?_, fun i f hf w hw => ?_, hl⟩
    · show cx_Sd X' sr W (sd.2, (1, Int32.ofInt arg)) rel
      rw [← ey]; exact b1
    · rw [b2.2.1 106 w (by decide)]; exact htr i f hf w hw
  · have e : a = 203 ∨ a = 204 ∨ a = 205 ∨ a = 206 ∨ a = 207 := by omega
    rcases e with e | e | e | e | e
    · subst e
      have hwk : md_k (tb, sk, tr, sd, arg, pt, rt, pk, fo, fd) = md_k ws' := hwk
      have e := inj hwk
      subst e
      obtain ⟨b1, b2⟩ := k203 h1
      refine ⟨cx_kf_Sd b2, ?_, fun i f hf w hw => ?_, hl⟩
      · show cx_Sd X' sr W sd arg
        rw [← h2]; exact b1
      · rw [b2.2.1 106 w (by decide)]; exact htr i f hf w hw
    · subst e
      have hwk : (if 32 ≤ tr.length ∨ md_okb n 0 sd.1 = false ∨ md_okb n 0 sd.2 = false then none else md_k (tb, sk, (fun w => md_cmp rel (md_sv val w [] sd.1) (md_sv val w [] sd.2)) :: tr, sd, rel, pt, rt, pk, fo, fd)) = md_k ws' := hwk
      by_cases z : 32 ≤ tr.length ∨ md_okb n 0 sd.1 = false ∨ md_okb n 0 sd.2 = false
      · rw [if_pos z] at hwk; cases hwk
      rw [if_neg z] at hwk
      have e := inj hwk
      subst e
      have o1 : md_okb n 0 sd.1 = true := by
        cases q : md_okb n 0 sd.1 with
        | true => rfl
        | false => exact absurd (Or.inr (Or.inl q)) z
      have o2 : md_okb n 0 sd.2 = true := by
        cases q : md_okb n 0 sd.2 with
        | true => rfl
        | false => exact absurd (Or.inr (Or.inr q)) z
      have hlt : tr.length < 32 := by
        rcases Nat.lt_or_ge tr.length 32 with q | q
        · exact q
        · exact absurd (Or.inl q) z
      obtain ⟨b1, b2⟩ := k204 h1 hlt (md_okb_s o1) (md_okb_s o2)
      exact ⟨cx_kf_tf b1, cx_tf_Sd hSd hs b1, b2, by show tr.length + 1 ≤ 32; omega⟩
    · subst e
      cases tr with
      | nil => cases hwk
      | cons x tr' =>
        have hwk : md_k (tb, sk, (fun w => !x w) :: tr', sd, rel, pt, rt, pk, fo, fd) = md_k ws' := hwk
        have e := inj hwk
        subst e
        obtain ⟨b1, b2⟩ := k205 h1 x tr' rfl
        exact ⟨cx_kf_tf b1, cx_tf_Sd hSd hs b1, b2, hl⟩
    · subst e
      cases tr with
      | nil => cases hwk
      | cons y tr1 =>
        cases tr1 with
        | nil => cases hwk
        | cons x tr' =>
          have hwk : (if 32 < (y :: x :: tr').length then none else md_k (tb, sk, (fun w => x w && y w) :: tr', sd, rel, pt, rt, pk, fo, fd)) = md_k ws' := hwk
          rw [if_neg (by omega)] at hwk
          have e := inj hwk
          subst e
          obtain ⟨b1, b2⟩ := k206 h1 y x tr' rfl
          refine ⟨cx_kf_tf b1, cx_tf_Sd hSd hs b1, b2, ?_⟩
          have hl : tr'.length + 1 + 1 ≤ 32 := hl
          show tr'.length + 1 ≤ 32
          omega
    · subst e
      cases tr with
      | nil => cases hwk
      | cons y tr1 =>
        cases tr1 with
        | nil => cases hwk
        | cons x tr' =>
          have hwk : (if 32 < (y :: x :: tr').length then none else md_k (tb, sk, (fun w => x w || y w) :: tr', sd, rel, pt, rt, pk, fo, fd)) = md_k ws' := hwk
          rw [if_neg (by omega)] at hwk
          have e := inj hwk
          subst e
          obtain ⟨b1, b2⟩ := k207 h1 y x tr' rfl
          refine ⟨cx_kf_tf b1, cx_tf_Sd hSd hs b1, b2, ?_⟩
          have hl : tr'.length + 1 + 1 ≤ 32 := hl
          show tr'.length + 1 ≤ 32
          omega
end CE02
