/-! THE REFERENCE: # of a query, the whole -/
def md_fow (w : md_WS) : Int := w.2.2.2.2.2.2.2.2.1
def md_fdw (w : md_WS) : Int := w.2.2.2.2.2.2.2.2.2
section DD62
variable {P : md_P} {X X' X0 X1 X2 : fx_X} {K : List md_Sy} {n d k s h b R C i c0 a fd j near l l2 : Nat} {v w y2 y3 y4 y5 y6 p1 p2 p3 p4 p5 z : Int32} {u : Unit} {ps : List Nat} {fo b14 : Int} {c c' : md_C} {nm : md_Nm} {cs cs' : md_CS} {ws ws' : md_WS} {nn n8 : Int64} {sk : List (List Int64)} {l8 : List Int64} {q : md_Q} {sq : List md_Q}
theorem md_ck220 {T : md_T} : md_ck T cs (220, near, l) = if 6 ≤ cs.2.2.2.2.2.1.length then some none else md_k (cs, 0) := by
  obtain ⟨U, cu, TB, rw, sk0, pk, fr⟩ := cs
  exact md_k220
theorem md_ck221 {T : md_T} : md_ck T cs (221, near, l) = md_k (cs, T.1 near) := by
  obtain ⟨U, cu, TB, rw, sk0, pk, fr⟩ := cs
  exact md_k221
theorem md_ck222 {T : md_T} (hsk : cs.2.2.2.2.1 = l8 :: sk) : md_ck T cs (222, near, l) = if md_ix (T.2 near) l8 0 < 0 then some none else md_k (cs, md_ix (T.2 near) l8 0) := by
  obtain ⟨U, cu, TB, rw, sk0, pk, fr⟩ := cs
  have hsk : sk0 = l8 :: sk := hsk
  subst hsk
  exact md_k222
theorem md_ck223 {T : md_T} (hsk : cs.2.2.2.2.1 = l8 :: sk) : md_ck T cs (223, near, l) = if T.2 near ∈ cs.2.2.2.2.2.1 then some none else if 6 ≤ cs.2.2.2.2.2.1.length then none else md_k ((cs.1, cs.2.1, cs.2.2.1, cs.2.2.2.1, (cs.2.2.2.2.2.1 ++ [T.2 near]) :: sk, cs.2.2.2.2.2), 0) := by
  obtain ⟨U, cu, TB, rw, sk0, pk, fr⟩ := cs
  have hsk : sk0 = l8 :: sk := hsk
  subst hsk
  exact md_k223
theorem md_wk220 {W n wd : Nat} {val : md_V} {arg : Int} : md_wk W n val wd ws (220, near, l) arg = md_k ws := by
  obtain ⟨tb, sk, tr, sd, rel, pt, rt, pk, fo, fd⟩ := ws
  rfl
theorem md_wk221 {W n wd : Nat} {val : md_V} {arg : Int} : md_wk W n val wd ws (221, near, l) arg = md_k (ws.1, ws.2.1, ws.2.2.1, ws.2.2.2.1, ws.2.2.2.2.1, ws.2.2.2.2.2.1, ws.2.2.2.2.2.2.1, ws.2.2.2.2.2.2.2.1, arg, md_fdw ws) := by
  obtain ⟨tb, sk, tr, sd, rel, pt, rt, pk, fo, fd⟩ := ws
  rfl
theorem md_wk222 {W n wd : Nat} {val : md_V} {arg : Int} : md_wk W n val wd ws (222, near, l) arg = md_k (ws.1, ws.2.1, ws.2.2.1, ws.2.2.2.1, ws.2.2.2.2.1, ws.2.2.2.2.2.1, ws.2.2.2.2.2.2.1, ws.2.2.2.2.2.2.2.1, md_fow ws, arg) := by
  obtain ⟨tb, sk, tr, sd, rel, pt, rt, pk, fo, fd⟩ := ws
  rfl
theorem md_wk223 {W n wd : Nat} {val : md_V} {arg : Int} (h : md_pkw ws = some ps) (hq : ws.2.1 = q :: sq) (h6 : ps.length < 6) (hlt : ∀ c, c ∈ ps → c < q.1) (hfd : md_fow ws = 16 ∨ (0 ≤ md_fdw ws ∧ md_fdw ws < (q.1 : Int))) : md_wk W n val wd ws (223, near, l) arg = if 30 < (md_grs val W ps (md_fow ws) (md_fdw ws).toNat q.2).length then some none else md_k (ws.1, (ps.length + 1, md_gr val W ps (md_fow ws) (md_fdw ws).toNat q.2) :: sq, ws.2.2) := by
  obtain ⟨tb, sk, tr, sd, rel, pt, rt, pk, fo, fd⟩ := ws
  have h : pk = some ps := h
  subst h
  have hq : sk = q :: sq := hq
  subst hq
  have hfd : fo = 16 ∨ (0 ≤ fd ∧ fd < (q.1 : Int)) := hfd
  have ha : ps.all (fun c => decide (c < q.1)) = true := List.all_eq_true.mpr (fun c hc => decide_eq_true (hlt c hc))
  show (if ps.all (fun c => decide (c < q.1)) = false ∨ 6 ≤ ps.length ∨ (fo ≠ 16 ∧ (fd < 0 ∨ (q.1 : Int) ≤ fd)) then none else if 30 < (md_grs val W ps fo fd.toNat q.2).length then some none else md_k (tb, (ps.length + 1, md_gr val W ps fo fd.toNat q.2) :: sq, tr, sd, rel, pt, rt, some ps, fo, fd)) = _
  rw [ha, if_neg (by rintro (z | z | z) <;> first | omega | cases z)]
  rfl
/-- the last NAME read: is it new, and then the reckoning -/
theorem rx_263z (hp : p1.toInt = ((20 + sk.length : Nat) : Int)) (hsk : cs.2.2.2.2.1 = l8 :: sk) (hD : rx_QD P nn X0 X (sk.length + 1) j c cs ws nm) (hR : md_R P ((223, l) :: (150, l2) :: K) j near c nm (cs, ws)) (h14 : (c 14).toInt = b14) (htk : rx_tk P X cs ws l8) (h6 : cs.2.2.2.2.2.1.length < 6) (h33 : X.2.1 117 33 = (rp_T P).2 near) (hfo : y3.toInt = fo - 10 ∧ (fo = 16 ∨ fo = 17 ∨ fo = 18 ∨ fo = 19)) (hfd : fo = 16 ∨ (y4.toInt = (fd : Int) ∧ fd < l8.length)) (hw : rp_b P = true → md_fow ws = fo ∧ (fo = 16 ∨ md_fdw ws = (fd : Int))) (h5 : y5 = Int32.ofInt 0) (h6y : y6 = Int32.ofInt 0) : ∀ (d k n : Nat) (y7 : Int32), k + d = cs.2.2.2.2.2.1.length → y7.toInt = (k : Int) → (∀ (i : Nat) (n : Int64), i < k → cs.2.2.2.2.2.1[i]? = some n → n ≠ (rp_T P).2 near) → gxF_263 p1 n 183 [y2, y3, y4, y5, y6, y7] [] [] X v X' → (rx_X P v X' ∨ rx_Yq P X0 nm v X') ∨ (v = Int32.ofInt 1 ∧ (rx_B P X' ∨ rx_S P nn X0 nm b14 sk K X')) := by
  have hG := hD.1
  obtain ⟨⟨hcl, h20⟩, htop⟩ := rx_QD_top hD hsk
  obtain ⟨t1, ⟨t2, t3⟩, t4, t5⟩ := htk
  have hl6 := hcl.2.1
  have hRe := md_R_e0 hR (by decide)
  have hck := md_ck223 (T := rp_T P) (near := near) (l := l) hsk
  have hix : ∀ (i : Nat) (n8 : Int64), cs.2.2.2.2.2.1[i]? = some n8 → ∃ a : Nat, (X.1 142 i).toInt = (a : Int) ∧ md_ix n8 l8 0 = (a : Int) ∧ l8[a]? = some n8 ∧ a < l8.length := by
    intro i n8 hi
    have h1 := t4 i n8 hi
    have h2 := t3 n8 (List.mem_of_getElem? hi)
    obtain ⟨a, a1, a2, -⟩ := md_ix_at (n := n8) (l := l8) (k := 0) (fun z => md_ix_neg.mp z h2)
    rw [Nat.zero_add] at a1
    exact ⟨a, by rw [h1, a1], a1, a2, (List.getElem?_eq_some_iff.mp a2).1⟩
  intro d
  induction d with
  | zero =>
    intro k n y7 hkd h7 hne g
    cases n with
    | zero => exact g.elim
    | succ n =>
      replace g := gxO_263_183 g
      unfold gxT_263_183 at g
      rw [if_neg (by omega), if_pos (by rw [h5]; rfl), if_pos (by rw [h6y]; rfl)] at g
      obtain ⟨w90, X89, r1, e1, e2⟩ := g
      subst e1
      subst e2
      have hnew : (rp_T P).2 near ∉ cs.2.2.2.2.2.1 := fun hm => by
        obtain ⟨i, hi⟩ := List.getElem?_of_mem hm
        exact hne i _ (by have := (List.getElem?_eq_some_iff.mp hi).1; omega) hi rfl
      rw [if_neg hnew, if_neg (by omega)] at hck
      obtain ⟨psl, hpsl⟩ : ∃ psl, psl = cs.2.2.2.2.2.1.map (fun n => (md_ix n l8 0).toNat) := ⟨_, rfl⟩
      have pl : psl.length = cs.2.2.2.2.2.1.length := by rw [hpsl, List.length_map]
      have pat : ∀ (i a : Nat) (n : Int64), psl[i]? = some a → cs.2.2.2.2.2.1[i]? = some n → l8[a]? = some n ∧ (X.1 142 i).toInt = (a : Int) ∧ a < l8.length := fun i a n h1 h2 => by
        obtain ⟨a', b1, b2, b3, b4⟩ := hix i n h2
        rw [hpsl, List.getElem?_map, h2] at h1
        have h1 : (md_ix n l8 0).toNat = a := Option.some.inj h1
        have : a = a' := by omega
        subst this
        exact ⟨b3, b1, b4⟩
      have hps : rx_ps l8.length psl X := by
        refine ⟨⟨by rw [pl]; exact t1, by omega⟩, fun i a ha => ?_, fun a ha => ?_⟩
        · have hi := (List.getElem?_eq_some_iff.mp ha).1
          exact (pat i a _ ha (List.getElem?_eq_getElem (by omega))).2.1
        · obtain ⟨i, hi⟩ := List.getElem?_of_mem ha
          have hil := (List.getElem?_eq_some_iff.mp hi).1
          exact (pat i a _ hi (List.getElem?_eq_getElem (by omega))).2.2
      have hU := hD.2.1.1.1
      have hV := hD.2.1.1.2.1
      have hcs' : (cs.1, cs.2.1, cs.2.2.1, cs.2.2.2.1, (cs.2.2.2.2.2.1 ++ [(rp_T P).2 near]) :: sk, cs.2.2.2.2.2).2.2.2.2.1 = (cs.2.2.2.2.2.1 ++ [(rp_T P).2 near]) :: sk := rfl
      cases hb : rp_b P with
      | false =>
        rcases rx_265 (pk := cs.2.2.2.2.2.1) (A := []) (fo := fo) (fd := fd) hG hU hV hp (by omega) hcl hps ⟨pl.symm, fun i a n x y => (pat i a n x y).1⟩ hfo hfd (fun z => by rw [hb] at z; cases z) r1 with ⟨z, -⟩ | ⟨hv, t1, t2, t3, t4, -⟩
        · rw [hb] at z; cases z
        · obtain ⟨w3, q1, -, -⟩ := md_Re_n (w' := ws) hRe hck (fun z => by rw [hb] at z; cases z)
          exact Or.inr ⟨hv, Or.inr ⟨_, _, _, c, _, w3, _, hcs', rx_QD_st (d := 1) (q := (0, [])) hD t1 t2 ⟨rfl, rfl, rfl⟩ (by rw [hsk]; rfl) h20 (by rw [t3]; exact hD.2.2.2.1) ⟨rfl, rfl⟩ (by rw [← h33]; exact t4) (fun z => by rw [hb] at z; cases z), q1, h14⟩⟩
      | true =>
        obtain ⟨q, s, q0, q1, q2, q3⟩ := htop hb
        obtain ⟨k1, k2, k3⟩ := hD.2.2.2.2.2.2 hb
        have t5 := t5 hb
        rw [← hpsl] at t5
        obtain ⟨o1, o2⟩ := hw hb
        rcases rx_265 (pk := cs.2.2.2.2.2.1) (A := q.2) (fo := fo) (fd := (md_fdw ws).toNat) hG hU hV hp (by omega) hcl hps ⟨pl.symm, fun i a n x y => (pat i a n x y).1⟩ hfo (by
          rcases hfd with f | ⟨f1, f2⟩
          · exact Or.inl f
          · rcases o2 with o | o
            · exact Or.inl o
            · right
              rw [o]
              exact ⟨f1, f2⟩) (fun _ => ⟨q2, by rw [← q1]; exact q3⟩) r1 with ⟨-, z1, z2, z3, z4⟩ | ⟨hv, t1, t2, t3, t4, z1⟩
        · have hwk := fun wd : Nat => md_wk223 (W := rp_W P) (n := rp_n P) (val := rp_v P) (wd := wd) (near := near) (l := l) (arg := 0) t5 q0 (by omega) (fun a ha => by rw [q1]; exact hps.2.2 a ha) (by
            rw [o1]
            rcases hfd with f | ⟨f1, f2⟩
            · exact Or.inl f
            · rcases o2 with o | o
              · exact Or.inl o
              · right; rw [o, q1]; omega)
          rw [o1] at hwk
          have hY := md_Re_w hRe hb hck ((hwk _).trans (if_pos z1))
          exact Or.inl (Or.inr ⟨z2, ⟨hb, hY⟩, z3, rx_QD_sl hD (rx_lo_le z4 (by omega))⟩)
        · obtain ⟨z1, z2⟩ := z1 hb
          have hwk := fun wd : Nat => md_wk223 (W := rp_W P) (n := rp_n P) (val := rp_v P) (wd := wd) (near := near) (l := l) (arg := 0) t5 q0 (by omega) (fun a ha => by rw [q1]; exact hps.2.2 a ha) (by
            rw [o1]
            rcases hfd with f | ⟨f1, f2⟩
            · exact Or.inl f
            · rcases o2 with o | o
              · exact Or.inl o
              · right; rw [o, q1]; omega)
          rw [o1] at hwk
          obtain ⟨w3, x1, x2, -⟩ := md_Re_n hRe hck (fun _ => (hwk _).trans (if_neg (by omega)))
          have x2 := x2 hb
          refine Or.inr ⟨hv, Or.inr ⟨_, _, _, c, _, w3, _, hcs', rx_QD_st (d := 1) (q := (psl.length + 1, md_gr (rp_v P) (rp_W P) psl fo (md_fdw ws).toNat q.2)) hD t1 t2 ⟨rfl, rfl, rfl⟩ (by rw [hsk]; rfl) h20 (by rw [t3]; exact hD.2.2.2.1) ⟨rfl, rfl⟩ (by rw [← h33]; exact t4) (fun _ => ⟨by rw [x2], by rw [x2]; rfl, by rw [x2]; exact k1, by rw [x2, q0]; rfl, by rw [List.length_append, pl]; rfl, z2, md_okA_gr z1 (by omega)⟩), x1, h14⟩⟩
  | succ d ih =>
    intro k n y7 hkd h7 hne g
    cases n with
    | zero => exact g.elim
    | succ n =>
      replace g := gxO_263_183 g
      unfold gxT_263_183 at g
      have hkl : k < cs.2.2.2.2.2.1.length := by omega
      obtain ⟨n8, hn8⟩ : ∃ n8, cs.2.2.2.2.2.1[k]? = some n8 := ⟨_, List.getElem?_eq_getElem hkl⟩
      obtain ⟨a, a1, a2, a3, a4⟩ := hix k n8 hn8
      have i2 : (p1 * ((Int8.ofInt 8).toInt32) + X.1 142 k).toInt = (((20 + sk.length) * 8 + a : Nat) : Int) := rx_lin hp rfl a1 (by omega)
      rw [if_pos (by omega), if_pos (by rw [h5]; rfl), fx_in h7, fx_in i2, show (20 + sk.length) * 8 + a = 8 * (20 + sk.length) + a by omega, hcl.2.2 a n8 a3, h33] at g
      replace g := g.2.2
      rcases fy_ifd g with ⟨e, g'⟩ | ⟨e, g'⟩
      · obtain ⟨w113, X112, r1, x115, e115, g2⟩ := g'
        rw [if_pos (by rw [← e]; exact List.mem_of_getElem? hn8)] at hck
        have hB : rx_B P X112 := rx_tell (Or.inr ⟨hG, md_Re_f hRe hck⟩) (by decide) r1
        exact (rx_BE (gbl_263 _ _ _ _ _ _ _ v X' hB g2) (gvl_263 _ _ _ _ _ _ _ v X' g2)).imp Or.inl id
      · obtain ⟨x110, e110, g2⟩ := g'
        refine ih (k + 1) n x110 (by omega) (by rw [e110]; exact cx_in1 h7 (by omega)) (fun i n' hi hn' => ?_) g2
        by_cases zz : i = k
        · subst zz
          rw [hn8] at hn'
          cases hn'
          exact e
        · exact hne i n' (by omega) hn'
end DD62
