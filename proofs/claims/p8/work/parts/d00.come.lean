/-! WHAT IS STILL TO COME: the model from a place of the text on -/
abbrev md_S : Type := md_CS × md_WS
abbrev md_P : Type := Bool × md_T × md_U × md_O md_S × (Nat → Int32) × Nat × Nat
abbrev rp_b (P : md_P) : Bool := P.1
abbrev rp_T (P : md_P) : md_T := P.2.1
abbrev rp_Uf (P : md_P) : md_U := P.2.2.1
abbrev rp_W (P : md_P) : Nat := md_all (rp_Uf P)
abbrev rp_n (P : md_P) : Nat := (rp_Uf P).length
abbrev rp_v (P : md_P) : md_V := md_val (rp_Uf P)
abbrev rp_r (P : md_P) : md_O md_S := P.2.2.2.1
abbrev rp_f (P : md_P) : Nat → Int32 := P.2.2.2.2.1
abbrev rp_N (P : md_P) : Nat := P.2.2.2.2.2.1
abbrev rp_h (P : md_P) : Nat := P.2.2.2.2.2.2
/-- the width of what is made -/
def md_wd2 (s : md_CS) (e : md_Ev) : Nat := if e.1 = 192 then ((s.2.2.1.getLast?).map (fun x => x.2.2.length)).getD 0 else (s.2.2.2.2.1.headD []).length
def md_step (b : Bool) (P : md_P) (q : md_S) (e : md_Ev) : md_O md_S := md_bd (md_ck (rp_T P) q.1 e) (fun p => if b = true then md_bd (md_wk (rp_W P) (rp_n P) (rp_v P) (md_wd2 p.1 e) q.2 e p.2) (fun w => md_k (p.1, w)) else md_k (p.1, q.2))
def md_fd (b : Bool) (P : md_P) : md_S → List md_Ev → md_O md_S
  | q, [] => md_k q
  | q, e :: es => md_bd (md_step b P q e) (fun q' => md_fd b P q' es)
def md_R (P : md_P) (K : List md_Sy) (j near : Nat) (c : md_C) (nm : md_Nm) (q : md_S) : Prop := ∃ m r, md_am (rp_T P) m K j near c nm = some r ∧ (match r with
  | none => rp_b P = false ∧ rp_r P = some none
  | some es => (rp_b P = true → ∃ p, md_fa (rp_T P) q.1 es = some (some p) ∧ p.1.1 = rp_Uf P) ∧ md_fd (rp_b P) P q es = rp_r P)
/-- a fault of the text -/
def md_F (P : md_P) : Prop := rp_b P = false ∧ rp_r P = some none
section DD0
variable {P : md_P} {K : List md_Sy} {s : Int} {l j near m : Nat} {c c' : md_C} {nm nm' : md_Nm} {q q' : md_S} {r : List Int} {e : md_Ev} {es : List md_Ev} {T : md_T} {s' : md_CS} {w w' : md_WS} {arg : Int}
theorem md_am_s : md_am T (m + 1) ((s, l) :: K) j near c nm = (if 170 ≤ s then (match md_room s (T.2 near) c nm with
      | none => some none
      | some q => md_cs (s, near, l) (md_am T m K j near q.1 q.2))
    else if 130 ≤ s then (match md_rule s (T.1 j) with
      | none => some none
      | some r => if s = 137 then md_cs (137, near, l) (md_am T m (r.map (fun a => (a, j)) ++ K) j near c nm) else md_am T m (r.map (fun a => (a, j)) ++ K) j near c nm)
    else if T.1 j = s then (if 1000 ≤ j ∧ s ≠ 1 then some none else md_am T m K (j + 1) j c nm) else some none) := rfl
theorem md_R_t (h : md_R P ((s, l) :: K) j near c nm q) (hs : s < 130) (hT : (rp_T P).1 j = s) (hj : j < 1000 ∨ s = 1) : md_R P K (j + 1) j c nm q := by
  obtain ⟨m, r, h1, h2⟩ := h
  cases m with
  | zero => cases h1
  | succ m =>
    rw [md_am_s, if_neg (by omega), if_neg (by omega), if_pos hT, if_neg (by omega)] at h1
    exact ⟨m, r, h1, h2⟩
theorem md_R_tx (h : md_R P ((s, l) :: K) j near c nm q) (hs : s < 130) (hT : (rp_T P).1 j ≠ s ∨ (1000 ≤ j ∧ s ≠ 1)) : md_F P := by
  obtain ⟨m, r, h1, h2⟩ := h
  cases m with
  | zero => cases h1
  | succ m =>
    rw [md_am_s, if_neg (by omega), if_neg (by omega)] at h1
    by_cases z : (rp_T P).1 j = s
    · rw [if_pos z, if_pos (by rcases hT with y | y; exact absurd z y; exact y)] at h1
      cases h1
      exact h2
    · rw [if_neg z] at h1
      cases h1
      exact h2
theorem md_R_r (h : md_R P ((s, l) :: K) j near c nm q) (hs : 130 ≤ s) (hs2 : s < 170) (h137 : s ≠ 137) (hr : md_rule s ((rp_T P).1 j) = some r) : md_R P (r.map (fun a => (a, j)) ++ K) j near c nm q := by
  obtain ⟨m, r', h1, h2⟩ := h
  cases m with
  | zero => cases h1
  | succ m =>
    rw [md_am_s, if_neg (by omega), if_pos hs, hr] at h1
    dsimp only at h1
    rw [if_neg h137] at h1
    exact ⟨m, r', h1, h2⟩
theorem md_R_rx (h : md_R P ((s, l) :: K) j near c nm q) (hs : 130 ≤ s) (hs2 : s < 170) (hr : md_rule s ((rp_T P).1 j) = none) : md_F P := by
  obtain ⟨m, r', h1, h2⟩ := h
  cases m with
  | zero => cases h1
  | succ m =>
    rw [md_am_s, if_neg (by omega), if_pos hs, hr] at h1
    cases h1
    exact h2
theorem md_cs_i {x : Option (Option (List md_Ev))} {r : Option (List md_Ev)} (h : md_cs e x = some r) : ∃ r', x = some r' ∧ r = r'.map (fun l => e :: l) := by
  cases x with
  | none => cases h
  | some y => exact ⟨y, rfl, (Option.some.inj h).symm⟩
/-- an event of the text: what is behind it -/
def md_Re (P : md_P) (K : List md_Sy) (j near : Nat) (c : md_C) (nm : md_Nm) (q : md_S) (e : md_Ev) : Prop := ∃ m r', md_am (rp_T P) m K j near c nm = some r' ∧ (match r' with
  | none => md_F P
  | some es => (rp_b P = true → ∃ p, md_fa (rp_T P) q.1 (e :: es) = some (some p) ∧ p.1.1 = rp_Uf P) ∧ md_fd (rp_b P) P q (e :: es) = rp_r P)
theorem md_R_e (h : md_R P ((s, l) :: K) j near c nm q) (hs : 170 ≤ s) : (md_room s ((rp_T P).2 near) c nm = none ∧ md_F P) ∨ ∃ c' nm', md_room s ((rp_T P).2 near) c nm = some (c', nm') ∧ md_Re P K j near c' nm' q (s, near, l) := by
  obtain ⟨m, r', h1, h2⟩ := h
  cases m with
  | zero => cases h1
  | succ m =>
    rw [md_am_s, if_pos hs] at h1
    cases hm : md_room s ((rp_T P).2 near) c nm with
    | none =>
      rw [hm] at h1
      cases h1
      exact Or.inl ⟨rfl, h2⟩
    | some p =>
      rw [hm] at h1
      dsimp only at h1
      obtain ⟨r, e1, e2⟩ := md_cs_i h1
      refine Or.inr ⟨p.1, p.2, rfl, m, r, e1, ?_⟩
      rw [e2] at h2
      cases r with
      | none => exact h2
      | some es => exact h2
theorem md_R_137 (h : md_R P ((137, l) :: K) j near c nm q) (hr : md_rule 137 ((rp_T P).1 j) = some r) : md_Re P (r.map (fun a => (a, j)) ++ K) j near c nm q (137, near, l) := by
  obtain ⟨m, r', h1, h2⟩ := h
  cases m with
  | zero => cases h1
  | succ m =>
    rw [md_am_s, if_neg (by decide), if_pos (by decide), hr] at h1
    dsimp only at h1
    rw [if_pos rfl] at h1
    obtain ⟨r1, e1, e2⟩ := md_cs_i h1
    refine ⟨m, r1, e1, ?_⟩
    rw [e2] at h2
    cases r1 with
    | none => exact h2
    | some es => exact h2
/-- a fault of the check -/
theorem md_Re_f (h : md_Re P K j near c nm q e) (hck : md_ck (rp_T P) q.1 e = some none) : md_F P := by
  obtain ⟨m, r, -, h2⟩ := h
  cases r with
  | none => exact h2
  | some es =>
    obtain ⟨h3, h4⟩ := h2
    cases hb : rp_b P with
    | true =>
      obtain ⟨p, hp, -⟩ := h3 hb
      have : md_bd (md_ck (rp_T P) q.1 e) (fun q => md_bd (md_fa (rp_T P) q.1 es) (fun q2 => md_k (q2.1, if md_quiet e.1 = true then q2.2 else q.2 :: q2.2))) = some (some p) := hp
      rw [hck] at this
      cases this
    | false =>
      refine ⟨hb, ?_⟩
      rw [← h4]
      show md_bd (md_bd (md_ck (rp_T P) q.1 e) _) _ = _
      rw [hck]
      rfl
/-- a fault of the work -/
theorem md_Re_w (h : md_Re P K j near c nm q e) (hb : rp_b P = true) (hck : md_ck (rp_T P) q.1 e = md_k (s', arg)) (hwk : md_wk (rp_W P) (rp_n P) (rp_v P) (md_wd2 s' e) q.2 e arg = some none) : rp_r P = some none := by
  obtain ⟨m, r, -, h2⟩ := h
  cases r with
  | none => exact h2.2
  | some es =>
    obtain ⟨h3, h4⟩ := h2
    rw [← h4]
    show md_bd (md_bd (md_ck (rp_T P) q.1 e) (fun p => if rp_b P = true then md_bd (md_wk (rp_W P) (rp_n P) (rp_v P) (md_wd2 p.1 e) q.2 e p.2) (fun w => md_k (p.1, w)) else md_k (p.1, q.2))) _ = _
    rw [hck]
    show md_bd (if rp_b P = true then md_bd (md_wk (rp_W P) (rp_n P) (rp_v P) (md_wd2 s' e) q.2 e arg) (fun w => md_k (s', w)) else md_k (s', q.2)) _ = _
    rw [if_pos hb, hwk]
    rfl
/-- the event is gone through -/
theorem md_Re_n (h : md_Re P K j near c nm q e) (hck : md_ck (rp_T P) q.1 e = md_k (s', arg)) (hwk : rp_b P = true → md_wk (rp_W P) (rp_n P) (rp_v P) (md_wd2 s' e) q.2 e arg = md_k w') : ∃ w2, md_R P K j near c nm (s', w2) ∧ (rp_b P = true → w2 = w') ∧ (rp_b P = false → w2 = q.2) := by
  obtain ⟨m, r, h1, h2⟩ := h
  cases r with
  | none => exact ⟨if rp_b P = true then w' else q.2, ⟨m, none, h1, h2⟩, fun z => if_pos z, fun z => if_neg (by rw [z]; decide)⟩
  | some es =>
    obtain ⟨h3, h4⟩ := h2
    refine ⟨if rp_b P = true then w' else q.2, ⟨m, some es, h1, fun hb => ?_, ?_⟩, fun z => if_pos z, fun z => if_neg (by rw [z]; decide)⟩
    · obtain ⟨p, hp, hU⟩ := h3 hb
      replace hp : md_bd (md_ck (rp_T P) q.1 e) (fun q => md_bd (md_fa (rp_T P) q.1 es) (fun q2 => md_k (q2.1, if md_quiet e.1 = true then q2.2 else q.2 :: q2.2))) = some (some p) := hp
      rw [hck] at hp
      replace hp : md_bd (md_fa (rp_T P) s' es) (fun q2 => md_k (q2.1, if md_quiet e.1 = true then q2.2 else arg :: q2.2)) = some (some p) := hp
      cases hx : md_fa (rp_T P) s' es with
      | none => rw [hx] at hp; cases hp
      | some o =>
        cases o with
        | none => rw [hx] at hp; cases hp
        | some p' =>
          rw [hx] at hp
          cases hp
          exact ⟨p', rfl, hU⟩
    · rw [← h4]
      show _ = md_bd (md_bd (md_ck (rp_T P) q.1 e) (fun p => if rp_b P = true then md_bd (md_wk (rp_W P) (rp_n P) (rp_v P) (md_wd2 p.1 e) q.2 e p.2) (fun w => md_k (p.1, w)) else md_k (p.1, q.2))) (fun q' => md_fd (rp_b P) P q' es)
      rw [hck]
      show _ = md_bd (if rp_b P = true then md_bd (md_wk (rp_W P) (rp_n P) (rp_v P) (md_wd2 s' e) q.2 e arg) (fun w => md_k (s', w)) else md_k (s', q.2)) (fun q' => md_fd (rp_b P) P q' es)
      by_cases hb : rp_b P = true
      · rw [if_pos hb, if_pos hb, hwk hb]
        rfl
      · rw [if_neg hb, if_neg hb]
        rfl
/-- an event that the worker passes over -/
theorem md_Re_c (h : md_Re P K j near c nm q e) (hck : md_ck (rp_T P) q.1 e = md_k (s', arg)) (hwk : ∀ wd, md_wk (rp_W P) (rp_n P) (rp_v P) wd q.2 e arg = md_k q.2) : md_R P K j near c nm (s', q.2) := by
  obtain ⟨w2, h1, h2, h3⟩ := md_Re_n h hck (fun _ => hwk _)
  cases hb : rp_b P with
  | true => rw [h2 hb] at h1; exact h1
  | false => rw [h3 hb] at h1; exact h1
theorem md_wk_id {W n wd : Nat} {val : md_V} {a : Int} (h : a = 137 ∨ a = 170 ∨ a = 171 ∨ a = 172 ∨ a = 180 ∨ a = 181 ∨ a = 182 ∨ a = 183 ∨ a = 185 ∨ a = 189 ∨ a = 191 ∨ a = 218 ∨ a = 219 ∨ a = 220) : md_wk W n val wd w (a, near, l) arg = md_k w := by
  obtain ⟨tb, sk, tr, sd, rel, pt, rt, pk, fo, fd⟩ := w
  rcases h with h | h | h | h | h | h | h | h | h | h | h | h | h | h <;> (subst h; rfl)
theorem md_R_q (h : md_R P ((s, l) :: K) j near c nm q) (hs : s = 170 ∨ s = 171 ∨ s = 172) : (md_room s ((rp_T P).2 near) c nm = none ∧ md_F P) ∨ ∃ c' nm', md_room s ((rp_T P).2 near) c nm = some (c', nm') ∧ md_R P K j near c' nm' q := by
  rcases md_R_e h (by omega) with y | ⟨c', nm', y1, y2⟩
  · exact Or.inl y
  · exact Or.inr ⟨c', nm', y1, md_Re_c y2 (md_ck_q hs) (fun _ => md_wk_id (by omega))⟩
end DD0
