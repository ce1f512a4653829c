/-! A ROW: how many TERMS come, how it is counted -/
def md_S9 (s : Int) : Prop := s = 136 ∨ s = 44 ∨ s = 144 ∨ s = 187 ∨ s = 41 ∨ s = 63 ∨ s = 3 ∨ s = 201 ∨ s = 45 ∨ s = 200 ∨ s = 4
def md_c187 : List md_Ev → Nat
  | [] => 0
  | e :: es => (if e.1 = 187 then 1 else 0) + md_c187 es
def md_rtw (w : md_WS) : Nat := w.2.2.2.2.2.2.1
section DD23
variable {P : md_P} {K : List md_Sy} {T : md_T} {s : Int} {l j near t R : Nat} {c : md_C} {nm : md_Nm} {cs : md_CS} {ws w2 : md_WS} {X X' X0 X1 : fx_X} {TB : md_TB} {nn w : Int64} {l8 : List Int64} {k : Int32} {es es1 es2 : List md_Ev} {x : md_Sd}
theorem md_136_S {k : Int} {r : List Int} (hs : md_S9 s) (h : 130 ≤ s) (hs2 : s < 170) (hr : md_rule s k = some r) : (∀ a, a ∈ r → md_S9 a) ∧ s ≠ 137 := by
  have hs' : s = 136 ∨ s = 144 := by unfold md_S9 at hs; omega
  rcases hs' with e | e
  · subst e
    refine ⟨?_, by decide⟩
    replace hr : (md_49 136 k).map (fun i => md_rl.getD i []) = some r := hr
    unfold md_49 at hr
    rw [if_neg (by decide), if_neg (by decide), if_neg (by decide), if_neg (by decide), if_neg (by decide), if_pos rfl] at hr
    by_cases z : k = 44
    · rw [if_pos z] at hr
      cases hr
      intro a ha
      simp [md_rl] at ha
      unfold md_S9
      omega
    · rw [if_neg z] at hr
      cases hr
      intro a ha
      cases ha
  · subst e
    refine ⟨?_, by decide⟩
    replace hr : (md_50 144 k).map (fun i => md_rl.getD i []) = some r := hr
    unfold md_50 at hr
    rw [if_neg (by decide), if_neg (by decide), if_neg (by decide), if_neg (by decide), if_neg (by decide), if_neg (by decide), if_pos rfl] at hr
    by_cases z : k = 63
    · rw [if_pos z] at hr
      cases hr
      intro a ha
      simp [md_rl] at ha
      unfold md_S9
      omega
    · rw [if_neg z] at hr
      by_cases z : k = 45
      · rw [if_pos z] at hr
        cases hr
        intro a ha
        simp [md_rl] at ha
        unfold md_S9
        omega
      · rw [if_neg z] at hr
        by_cases z : k = 4
        · rw [if_pos z] at hr
          cases hr
          intro a ha
          simp [md_rl] at ha
          unfold md_S9
          omega
        · rw [if_neg z] at hr
          cases hr
/-- what comes ahead of the row's end -/
theorem md_am_137 : ∀ (m : Nat) (K1 : List md_Sy) (l : Nat) (K : List md_Sy) (j near : Nat) (c : md_C) (nm : md_Nm) (es : List md_Ev), (∀ x, x ∈ K1 → md_S9 x.1) → md_am T m (K1 ++ (137, l) :: K) j near c nm = some (some es) → ∃ es1 nr es2, es = es1 ++ (137, nr, l) :: es2 ∧ (∀ e, e ∈ es1 → e.1 = 187 ∨ e.1 = 200 ∨ e.1 = 201) ∧ ∀ s l1 K2, K1 = (s, l1) :: K2 → s = 187 → 1 ≤ md_c187 es1
  | 0, _, _, _, _, _, _, _, _, _, h => by cases h
  | m + 1, [], l, K, j, near, c, nm, es, _, h => by
    replace h : md_am T (m + 1) ((137, l) :: K) j near c nm = some (some es) := h
    rw [md_am_s, if_neg (by decide), if_pos (by decide)] at h
    cases hr : md_rule 137 (T.1 j) with
    | none => rw [hr] at h; cases h
    | some r =>
      rw [hr] at h
      dsimp only at h
      rw [if_pos rfl] at h
      obtain ⟨r', e1, e2⟩ := md_cs_i h
      cases r' with
      | none => cases e2
      | some es' =>
        cases e2
        exact ⟨[], near, es', rfl, (fun e he => by cases he), (fun s l1 K2 z => by cases z)⟩
  | m + 1, (s, l1) :: K1, l, K, j, near, c, nm, es, hS, h => by
    have hs := hS _ List.mem_cons_self
    have hS1 : ∀ x, x ∈ K1 → md_S9 x.1 := fun x hx => hS x (List.mem_cons_of_mem _ hx)
    replace h : md_am T (m + 1) ((s, l1) :: (K1 ++ (137, l) :: K)) j near c nm = some (some es) := h
    rw [md_am_s] at h
    by_cases h170 : 170 ≤ s
    · rw [if_pos h170] at h
      cases hm : md_room s (T.2 near) c nm with
      | none => rw [hm] at h; cases h
      | some q =>
        rw [hm] at h
        dsimp only at h
        obtain ⟨r', e1, e2⟩ := md_cs_i h
        cases r' with
        | none => cases e2
        | some es' =>
          cases e2
          obtain ⟨es1, nr, es2, a1, a2, -⟩ := md_am_137 m K1 l K j near q.1 q.2 es' hS1 e1
          refine ⟨(s, near, l1) :: es1, nr, es2, by rw [a1]; rfl, fun e he => ?_, fun s' l1' K2 z zz => ?_⟩
          · rcases List.mem_cons.mp he with y | y
            · rw [y]
              have hs : md_S9 s := hs
              unfold md_S9 at hs
              show s = 187 ∨ s = 200 ∨ s = 201
              omega
            · exact a2 e y
          · cases z
            show 1 ≤ (if s = 187 then 1 else 0) + md_c187 es1
            rw [if_pos zz]
            omega
    · rw [if_neg h170] at h
      have nz : ∀ s' l1' K2, (s, l1) :: K1 = (s', l1') :: K2 → s' = 187 → False := fun s' l1' K2 z zz => by
        cases z
        omega
      by_cases h130 : 130 ≤ s
      · rw [if_pos h130] at h
        cases hr : md_rule s (T.1 j) with
        | none => rw [hr] at h; cases h
        | some r =>
          rw [hr] at h
          dsimp only at h
          obtain ⟨hSr, h137⟩ := md_136_S hs h130 (by omega) hr
          rw [if_neg h137, ← List.append_assoc] at h
          obtain ⟨es1, nr, es2, a1, a2, -⟩ := md_am_137 m (r.map (fun a => (a, j)) ++ K1) l K j near c nm es (fun x hx => by
            rcases List.mem_append.mp hx with y | y
            · obtain ⟨a, ha, e⟩ := List.mem_map.mp y
              rw [← e]
              exact hSr a ha
            · exact hS1 x y) h
          exact ⟨es1, nr, es2, a1, a2, fun s' l1' K2 z zz => (nz s' l1' K2 z zz).elim⟩
      · rw [if_neg h130] at h
        by_cases hT : T.1 j = s
        · rw [if_pos hT] at h
          by_cases hj : 1000 ≤ j ∧ s ≠ 1
          · rw [if_pos hj] at h; cases h
          · rw [if_neg hj] at h
            obtain ⟨es1, nr, es2, a1, a2, -⟩ := md_am_137 m K1 l K (j + 1) j c nm es hS1 h
            exact ⟨es1, nr, es2, a1, a2, fun s' l1' K2 z zz => (nz s' l1' K2 z zz).elim⟩
        · rw [if_neg hT] at h; cases h
theorem md_ck187 : md_ck T cs (187, near, l) = md_k ((cs.1, cs.2.1, cs.2.2.1, (cs.2.2.2.1.1, cs.2.2.2.1.2 + 1), cs.2.2.2.2), 0) := by
  obtain ⟨U, cu, TB, rw, sk, pk, fr⟩ := cs
  exact md_k187
theorem md_ck137 : md_ck T cs (137, near, l) = if cs.2.2.2.1.1 = cs.2.2.2.1.2 then md_k (cs, 0) else some none := by
  obtain ⟨U, cu, TB, rw, sk, pk, fr⟩ := cs
  exact md_k137
theorem md_fa_rw : ∀ (es1 : List md_Ev) (cs : md_CS) (nr l : Nat) (es2 : List md_Ev) (p : md_CS × List Int), (∀ e, e ∈ es1 → e.1 = 187 ∨ e.1 = 200 ∨ e.1 = 201) → md_fa T cs (es1 ++ (137, nr, l) :: es2) = some (some p) → cs.2.2.2.1.2 + (md_c187 es1 : Int) = cs.2.2.2.1.1
  | [], cs, nr, l, es2, p, _, h => by
    replace h : md_bd (md_ck T cs (137, nr, l)) (fun q => md_bd (md_fa T q.1 es2) (fun q2 => md_k (q2.1, if md_quiet 137 = true then q2.2 else q.2 :: q2.2))) = some (some p) := h
    rw [md_ck137] at h
    by_cases z : cs.2.2.2.1.1 = cs.2.2.2.1.2
    · show cs.2.2.2.1.2 + 0 = _
      omega
    · rw [if_neg z] at h; cases h
  | (a, nr1, l1) :: es1, cs, nr, l, es2, p, hS, h => by
    have hS1 : ∀ e, e ∈ es1 → e.1 = 187 ∨ e.1 = 200 ∨ e.1 = 201 := fun x hx => hS x (List.mem_cons_of_mem _ hx)
    replace h : md_bd (md_ck T cs (a, nr1, l1)) (fun q => md_bd (md_fa T q.1 (es1 ++ (137, nr, l) :: es2)) (fun q2 => md_k (q2.1, if md_quiet a = true then q2.2 else q.2 :: q2.2))) = some (some p) := h
    have go : ∀ cs', md_bd (md_fa T cs' (es1 ++ (137, nr, l) :: es2)) (fun q2 => md_k (q2.1, q2.2)) ≠ none → ∀ (f : (md_CS × List Int) → md_O (md_CS × List Int)), md_bd (md_fa T cs' (es1 ++ (137, nr, l) :: es2)) f = some (some p) → cs'.2.2.2.1.2 + (md_c187 es1 : Int) = cs'.2.2.2.1.1 := fun cs' _ f hf => by
      cases hx : md_fa T cs' (es1 ++ (137, nr, l) :: es2) with
      | none => rw [hx] at hf; cases hf
      | some o =>
        cases o with
        | none => rw [hx] at hf; cases hf
        | some p' => exact md_fa_rw es1 cs' nr l es2 p' hS1 hx
    have go : ∀ cs' (f : (md_CS × List Int) → md_O (md_CS × List Int)), md_bd (md_fa T cs' (es1 ++ (137, nr, l) :: es2)) f = some (some p) → cs'.2.2.2.1.2 + (md_c187 es1 : Int) = cs'.2.2.2.1.1 := fun cs' f hf => by
      cases hx : md_fa T cs' (es1 ++ (137, nr, l) :: es2) with
      | none => rw [hx] at hf; cases hf
      | some o =>
        cases o with
        | none => rw [hx] at hf; cases hf
        | some p' => exact md_fa_rw es1 cs' nr l es2 p' hS1 hx
    have e0 : (md_c187 ((a, nr1, l1) :: es1) : Int) = (if a = 187 then 1 else 0) + (md_c187 es1 : Int) := by
      show (((if a = 187 then 1 else 0) + md_c187 es1 : Nat) : Int) = _
      split <;> omega
    rw [e0]
    rcases hS _ List.mem_cons_self with e | e | e
    · have e : a = 187 := e
      subst e
      rw [md_ck187] at h
      have := go _ _ h
      dsimp only at this
      rw [if_pos rfl]
      omega
    · have e : a = 200 := e
      subst e
      rw [md_ck200] at h
      have := go _ _ h
      dsimp only at this
      rw [if_neg (by decide)]
      omega
    · have e : a = 201 := e
      subst e
      rw [md_ck201] at h
      by_cases z : md_ix (T.2 nr1) (cs.1.map (·.1)) 0 < 0
      · rw [if_pos z] at h; cases h
      · rw [if_neg z] at h
        have := go _ _ h
        dsimp only at this
        rw [if_neg (by decide)]
        omega
/-- there is a COLUMN for the TERM -/
theorem md_R_187 {l1 l2 l3 l4 : Nat} (h : md_R P ((187, l1) :: (136, l2) :: (41, l3) :: (137, l4) :: K) j near c nm (cs, ws)) (hb : rp_b P = true) : cs.2.2.2.1.2 + 1 ≤ cs.2.2.2.1.1 := by
  obtain ⟨m, r, h1, h2⟩ := h
  cases r with
  | none => rw [h2.1] at hb; cases hb
  | some es =>
    obtain ⟨es1, nr, es2, a1, a2, a3⟩ := md_am_137 m [(187, l1), (136, l2), (41, l3)] l4 K j near c nm es (fun x hx => by
      simp only [List.mem_cons, List.not_mem_nil, or_false] at hx
      unfold md_S9
      rcases hx with e | e | e <;> (rw [e]; simp)) h1
    obtain ⟨p, hp, -⟩ := h2.1 hb
    rw [a1] at hp
    have := md_fa_rw es1 cs nr l4 es2 p a2 hp
    have := a3 187 l1 _ rfl rfl
    omega
/-- the TABLE's count of ROWS -/
theorem md_rw_at : ∀ (nm : md_Nm) (t : Nat) (k : Int32), nm[t]? = some (w, k) → (∀ i, i < t → ∀ y, nm[i]? = some y → y.1 ≠ w) → md_rw w nm = if 30 < (k + Int32.ofInt 1).toInt then none else some (nm.set t (w, k + Int32.ofInt 1))
  | [], t, k, h, _ => by cases h
  | (n, k0) :: nm, 0, k, h, _ => by
    cases h
    show (if w = w then _ else _) = _
    rw [if_pos rfl]
    rfl
  | (n, k0) :: nm, t + 1, k, h, hn => by
    have hne : n ≠ w := hn 0 (Nat.succ_pos t) (n, k0) rfl
    show (if n = w then _ else (md_rw w nm).map (fun l' => (n, k0) :: l')) = _
    rw [if_neg hne, md_rw_at nm t k h (fun i hi y hy => hn (i + 1) (by omega) y hy)]
    split
    · rfl
    · rfl
theorem md_ck186x (h : md_ix (T.2 near) (cs.2.2.1.map (·.1)) 0 < 0) : md_ck T cs (186, near, l) = some none := by
  obtain ⟨U, cu, TB, rw, sk, pk, fr⟩ := cs
  exact md_k186.trans (if_pos h)
theorem md_ck186a {x : Int64 × Bool × List Int64} (h : ¬ md_ix (T.2 near) (cs.2.2.1.map (·.1)) 0 < 0) (hx : cs.2.2.1[(md_ix (T.2 near) (cs.2.2.1.map (·.1)) 0).toNat]? = some x) (hb : x.2.1 = true) : md_ck T cs (186, near, l) = some none := by
  obtain ⟨U, cu, TB, rw, sk, pk, fr⟩ := cs
  obtain ⟨n, b, cl⟩ := x
  refine (md_k186.trans (if_neg h)).trans ?_
  have hx : TB[(md_ix (T.2 near) (TB.map (·.1)) 0).toNat]? = some (n, b, cl) := hx
  rw [hx]
  exact if_pos (Or.inl hb)
theorem md_ck186b {x : Int64 × Bool × List Int64} (h : ¬ md_ix (T.2 near) (cs.2.2.1.map (·.1)) 0 < 0) (hx : cs.2.2.1[(md_ix (T.2 near) (cs.2.2.1.map (·.1)) 0).toNat]? = some x) (hb : x.2.1 = false) : md_ck T cs (186, near, l) = md_k ((cs.1, cs.2.1, cs.2.2.1, ((x.2.2.length : Int), 0), cs.2.2.2.2), md_ix (T.2 near) (cs.2.2.1.map (·.1)) 0) := by
  obtain ⟨U, cu, TB, rw, sk, pk, fr⟩ := cs
  obtain ⟨n, b, cl⟩ := x
  refine (md_k186.trans (if_neg h)).trans ?_
  have hx : TB[(md_ix (T.2 near) (TB.map (·.1)) 0).toNat]? = some (n, b, cl) := hx
  rw [hx]
  have hb : b = false := hb
  exact if_neg (fun y => by
    rcases y with y | y
    · rw [hb] at y; cases y
    · exact y.1 rfl)
theorem md_wk186 {W n wd : Nat} {val : md_V} (h1 : t < ws.1.length) (h2 : (ws.1.getD t []).length < 30) : md_wk W n val wd ws (186, near, l) (t : Int) = md_k (ws.1.modify t (fun A : List md_Row => A ++ [(([], fun _ => true) : md_Row)]), ws.2.1, ws.2.2.1, ws.2.2.2.1, ws.2.2.2.2.1, ws.2.2.2.2.2.1, t, ws.2.2.2.2.2.2.2) := by
  obtain ⟨tb, sk, tr, sd, rel, pt, rt, pk, fo, fd⟩ := ws
  have h1 : t < tb.length := h1
  have h2 : (tb.getD t []).length < 30 := h2
  show (if tb.length ≤ (t : Int).toNat ∨ 30 ≤ (tb.getD (t : Int).toNat []).length then none else _) = _
  rw [Int.toNat_natCast, if_neg (by omega)]
theorem md_modc {α : Type} {tb : List α} {rt : Nat} {A0 B : α} {g : α → α} (h : tb[rt]? = some A0) (hg : g A0 = B) : tb.modify rt g = tb.modify rt (fun _ => B) := by
  apply List.ext_getElem?
  intro i
  rw [List.getElem?_modify, List.getElem?_modify]
  by_cases e : rt = i
  · subst e
    rw [h]
    simp [hg]
  · simp only [if_neg e]
theorem md_lr1_ap {A : List md_Row} {y : md_Row} {g : md_Row → md_Row} : md_lr1 g (A ++ [y]) = A ++ [g y] := by
  unfold md_lr1
  rw [List.length_append]
  show (A ++ [y]).modify (A.length + 1 - 1) _ = _
  rw [Nat.add_sub_cancel]
  exact md_mod_last g y A
theorem md_wk187 {W n wd : Nat} {val : md_V} {arg : Int} {A : List md_Row} {ts : List md_Tm} {f : Nat → Bool} (h1 : ws.1[md_rtw ws]? = some (A ++ [(ts, f)])) (h2 : ts.length < 6) (h3 : md_okb n 0 ws.2.2.2.1.2 = true) : md_wk W n val wd ws (187, near, l) arg = md_k (ws.1.modify (md_rtw ws) (fun _ => A ++ [(ts ++ [(ws.2.2.2.1.2.1 == 1, ws.2.2.2.1.2.2)], f)]), ws.2) := by
  obtain ⟨tb, sk, tr, sd, rel, pt, rt, pk, fo, fd⟩ := ws
  have h1 : tb[rt]? = some (A ++ [(ts, f)]) := h1
  have hl := (List.getElem?_eq_some_iff.mp h1).1
  have hg : tb.getD rt [] = A ++ [(ts, f)] := by rw [List.getD_eq_getElem?_getD, h1]; rfl
  have h3 : md_okb n 0 sd.2 = true := h3
  show (if tb.length ≤ rt ∨ (tb.getD rt []).length = 0 ∨ 6 ≤ ((tb.getD rt []).getLastD ([], fun _ => true)).1.length ∨ md_okb n 0 sd.2 = false then none else md_k (tb.modify rt (md_lr1 (fun r : md_Row => ((r.1 ++ [(sd.2.1 == 1, sd.2.2)], r.2) : md_Row))), sk, tr, sd, rel, pt, rt, pk, fo, fd)) = _
  have hlast : (A ++ [(ts, f)]).getLastD ([], fun _ => true) = (ts, f) := by
    exact List.getLastD_concat ..
  rw [hg, hlast, if_neg (by
    intro z
    rcases z with z | z | z | z
    · omega
    · rw [List.length_append] at z; exact absurd z (by show ¬ A.length + 1 = 0; omega)
    · have z : 6 ≤ ts.length := z
      omega
    · rw [h3] at z; cases z)]
  rw [md_modc h1 (md_lr1_ap (A := A) (y := (ts, f)))]
  rfl
theorem md_wk188 {W n wd : Nat} {val : md_V} {arg : Int} {A : List md_Row} {ts : List md_Tm} {f x : Nat → Bool} (h1 : ws.1[md_rtw ws]? = some (A ++ [(ts, f)])) (h2 : md_tr ws = [x]) : md_wk W n val wd ws (188, near, l) arg = md_k (ws.1.modify (md_rtw ws) (fun _ => A ++ [(ts, fun w => f w && x w)]), ws.2.1, [], ws.2.2.2) := by
  obtain ⟨tb, sk, tr, sd, rel, pt, rt, pk, fo, fd⟩ := ws
  have h2 : tr = [x] := h2
  subst h2
  have h1 : tb[rt]? = some (A ++ [(ts, f)]) := h1
  have hl := (List.getElem?_eq_some_iff.mp h1).1
  have hg : tb.getD rt [] = A ++ [(ts, f)] := by rw [List.getD_eq_getElem?_getD, h1]; rfl
  show (if tb.length ≤ rt ∨ (tb.getD rt []).length = 0 then none else md_k (tb.modify rt (md_lr1 (fun r : md_Row => ((r.1, fun w => r.2 w && x w) : md_Row))), sk, [], sd, rel, pt, rt, pk, fo, fd)) = _
  rw [hg, if_neg (by
    intro z
    rcases z with z | z
    · omega
    · rw [List.length_append] at z; exact absurd z (by show ¬ A.length + 1 = 0; omega))]
  rw [md_modc h1 (md_lr1_ap (A := A) (y := (ts, f)))]
  rfl
end DD23
