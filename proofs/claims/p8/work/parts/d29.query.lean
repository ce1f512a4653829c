/-! THE REFERENCE: inside a query -/
def rx_Qc (X : fx_X) : List (List Int64) → Prop
  | [] => True
  | l :: sk => rx_cl X (20 + sk.length) l ∧ rx_Qc X sk
def rx_qe (P : md_P) (X : fx_X) (m n slot : Nat) (q : md_Q) (l : List Int64) : Prop := q.1 = l.length ∧ rx_Rw P X m slot q.2 ∧ md_okA n q.1 q.2
def rx_Qw (P : md_P) (X : fx_X) (m n : Nat) : List md_Q → List (List Int64) → Prop
  | [], [] => True
  | q :: s, l :: sk => rx_qe P X m n (20 + sk.length) q l ∧ rx_Qw P X m n s sk
  | _, _ => False
def rx_QD (P : md_P) (nn : Int64) (X0 X : fx_X) (t j : Nat) (c : md_C) (cs : md_CS) (ws : md_WS) (nm : md_Nm) : Prop := rx_G P X j c ∧ rx_tn P nn 1 cs ws nm.dropLast X0 X ∧ (c 8).toInt = (cs.1.length : Int) ∧ (X.1 117 51).toInt = ((20 + t : Nat) : Int) ∧ cs.2.2.2.2.1.length ≤ 20 ∧ rx_Qc X cs.2.2.2.2.1 ∧ (rp_b P = true → md_tr ws = [] ∧ ((md_ptw ws).length : Int) = (c 11).toInt ∧ rx_Qw P X (md_m P cs.1) cs.1.length ws.2.1 cs.2.2.2.2.1)
section DD29
variable {P : md_P} {X X' X0 X1 X2 : fx_X} {K : List md_Sy} {c c' : md_C} {nm : md_Nm} {cs cs' : md_CS} {ws ws' : md_WS} {j j' near l l2 n m t t' d k s s1 s2 : Nat} {v w p1 p2 z : Int32} {u : Unit} {nn : Int64} {F L : List (Nat × Nat)} {A : List Nat} {sk : List (List Int64)} {sq : List md_Q} {l8 : List Int64} {q : md_Q} {B : List md_Row} {Q : Prop}
theorem rx_cl_lo (h : rx_cl X s l8) (hlo : rx_lo s1 X X') (hs : s < s1) : rx_cl X' s l8 := by
  obtain ⟨a1, a2, a3⟩ := h
  obtain ⟨-, -, -, b4, b5, -, -⟩ := hlo
  refine ⟨by rw [b4 132 _ (Or.inr rfl) hs]; exact a1, a2, fun c n hc => ?_⟩
  have := (List.getElem?_eq_some_iff.mp hc).1
  rw [b5 _ (by omega)]
  exact a3 c n hc
theorem rx_Qc_lo : ∀ {sk : List (List Int64)}, rx_Qc X sk → rx_lo s1 X X' → 20 + sk.length ≤ s1 → rx_Qc X' sk
  | [], _, _, _ => True.intro
  | _ :: sk, h, hlo, hs => by
    have hs : 20 + (sk.length + 1) ≤ s1 := hs
    exact ⟨rx_cl_lo h.1 hlo (by omega), rx_Qc_lo h.2 hlo (by omega)⟩
theorem rx_Rw_lo (h : rx_Rw P X m s B) (hlo : rx_lo s1 X X') (hs : s < s1) (hB : md_okA n d B) (hm : ∀ w, w < rp_W P → w / m < 1024) : rx_Rw P X' m s B := by
  obtain ⟨a1, a2⟩ := h
  obtain ⟨-, -, -, b4, -, b6, b7⟩ := hlo
  refine ⟨by rw [b4 131 _ (Or.inl rfl) hs]; exact a1, fun r x hr => ⟨fun c t hc => ?_, fun w hw => ?_⟩⟩
  · have h1 := (List.getElem?_eq_some_iff.mp hr).1
    have h30 := hB.1
    have h2 := (List.getElem?_eq_some_iff.mp hc).1
    have h6 := (hB.2 x (List.mem_of_getElem? hr)).1.1
    have := (a2 r x hr).1 c t hc
    unfold rx_tm at this ⊢
    rw [b6 134 _ (Or.inl rfl) (by omega), b6 135 _ (Or.inr rfl) (by omega)]
    exact this
  · have h1 := (List.getElem?_eq_some_iff.mp hr).1
    have h30 := hB.1
    rw [b7 _ _ (by omega) (hm w hw)]
    exact (a2 r x hr).2 w hw
theorem rx_qe_lo (h : rx_qe P X m n s q l8) (hlo : rx_lo s1 X X') (hs : s < s1) (hm : ∀ w, w < rp_W P → w / m < 1024) : rx_qe P X' m n s q l8 := ⟨h.1, rx_Rw_lo h.2.1 hlo hs h.2.2 hm, h.2.2⟩
theorem rx_Qw_lo (hm : ∀ w, w < rp_W P → w / m < 1024) : ∀ {sq : List md_Q} {sk : List (List Int64)}, rx_Qw P X m n sq sk → rx_lo s1 X X' → 20 + sk.length ≤ s1 → rx_Qw P X' m n sq sk
  | [], [], _, _, _ => True.intro
  | [], _ :: _, h, _, _ => h.elim
  | _ :: _, [], h, _, _ => h.elim
  | q :: sq, l :: sk, h, hlo, hs => by
    have hs : 20 + (sk.length + 1) ≤ s1 := hs
    exact ⟨rx_qe_lo h.1 hlo (by omega) hm, rx_Qw_lo hm h.2 hlo (by omega)⟩
theorem rx_Qc_dr : ∀ (d : Nat) {sk : List (List Int64)}, rx_Qc X sk → rx_Qc X (sk.drop d)
  | 0, _, h => h
  | _ + 1, [], _ => True.intro
  | d + 1, _ :: _, h => rx_Qc_dr d h.2
theorem rx_Qw_dr : ∀ (d : Nat) {sq : List md_Q} {sk : List (List Int64)}, rx_Qw P X m n sq sk → rx_Qw P X m n (sq.drop d) (sk.drop d)
  | 0, _, _, h => h
  | _ + 1, [], [], _ => True.intro
  | _ + 1, [], _ :: _, h => h.elim
  | _ + 1, _ :: _, [], h => h.elim
  | d + 1, _ :: _, _ :: _, h => rx_Qw_dr d h.2
theorem rx_tn_cs {s : Int} (h : rx_tn P nn s cs ws nm X0 X) (h1 : cs'.1 = cs.1) (h2 : cs'.2.2.1 = cs.2.2.1) (h3 : rp_b P = true → ws'.1 = ws.1 ∧ md_ptw ws' = md_ptw ws) : rx_tn P nn s cs' ws' nm X0 X := by
  obtain ⟨⟨a1, a2, a3, a4⟩, b⟩ := h
  unfold rx_tn
  rw [h2]
  refine ⟨⟨by rw [h1]; exact a1, by rw [h1]; exact a2, by rw [h2]; exact a3, fun hb => ?_⟩, b⟩
  obtain ⟨e1, e2⟩ := h3 hb
  unfold rx_WT
  rw [h1, h2, e1, e2]
  exact a4 hb
theorem rx_tn_lo {s : Int} (h : rx_tn P nn s cs ws nm X0 X) (hlo : rx_lo s1 X X') (hs : 20 ≤ s1) (hh : rp_h P ≤ 1) : rx_tn P nn s cs ws nm X0 X' := rx_tn_sl h (rx_sl_lo hlo hs) hlo.2.2.1 (hlo.1 126 (by decide)) hh
/-- the latest of what is worked on is put anew -/
theorem rx_QD_st (h : rx_QD P nn X0 X t j c cs ws nm) (hG : rx_G P X' j' c') (hlo : rx_lo (20 + sk.length) X X') (hcs : cs'.1 = cs.1 ∧ cs'.2.2.1 = cs.2.2.1 ∧ cs'.2.2.2.2.1 = l8 :: sk) (hsk : cs.2.2.2.2.1.drop d = sk) (h20 : sk.length < 20) (ht : (X'.1 117 51).toInt = ((20 + t' : Nat) : Int)) (hc : c' 8 = c 8 ∧ c' 11 = c 11) (hl : rx_cl X' (20 + sk.length) l8) (hb : rp_b P = true → ws'.1 = ws.1 ∧ md_ptw ws' = md_ptw ws ∧ md_tr ws' = [] ∧ ws'.2.1 = q :: ws.2.1.drop d ∧ rx_qe P X' (md_m P cs.1) cs.1.length (20 + sk.length) q l8) : rx_QD P nn X0 X' t' j' c' cs' ws' nm := by
  obtain ⟨g1, g2, g3, g4, g5, g6, g7⟩ := h
  obtain ⟨e1, e2, e3⟩ := hcs
  have hh := g1.2.2.2.1.2
  refine ⟨hG, rx_tn_cs (rx_tn_lo g2 hlo (by omega) hh) e1 e2 (fun z => ⟨(hb z).1, (hb z).2.1⟩), by rw [hc.1, e1]; exact g3, ht, by rw [e3]; exact h20, ?_, fun z => ?_⟩
  · rw [e3]
    refine ⟨hl, ?_⟩
    rw [← hsk] at hlo ⊢
    exact rx_Qc_lo (rx_Qc_dr d g6) hlo (Nat.le_refl _)
  · obtain ⟨f1, f2, f3, f4, f5⟩ := hb z
    obtain ⟨k1, k2, k3⟩ := g7 z
    have hm : ∀ w, w < rp_W P → w / md_m P cs.1 < 1024 := fun w hw => ((rx_V_m g2.1.2.1 z).2.1 w hw).2
    refine ⟨f3, by rw [f2, hc.2]; exact k2, ?_⟩
    rw [f4, e3, e1]
    refine ⟨f5, ?_⟩
    rw [← hsk] at hlo ⊢
    exact rx_Qw_lo hm (rx_Qw_dr d k3) hlo (Nat.le_refl _)
/-- nothing of it changes -/
theorem rx_QD_fr (h : rx_QD P nn X0 X t j c cs ws nm) (hG : rx_G P X' j' c') (hlo : rx_lo 40 X X') (hcs : cs'.1 = cs.1 ∧ cs'.2.2.1 = cs.2.2.1 ∧ cs'.2.2.2.2.1 = cs.2.2.2.2.1) (ht : (X'.1 117 51).toInt = ((20 + t' : Nat) : Int)) (hc : c' 8 = c 8 ∧ c' 11 = c 11) (hb : rp_b P = true → ws'.1 = ws.1 ∧ md_ptw ws' = md_ptw ws ∧ md_tr ws' = [] ∧ ws'.2.1 = ws.2.1) : rx_QD P nn X0 X' t' j' c' cs' ws' nm := by
  obtain ⟨g1, g2, g3, g4, g5, g6, g7⟩ := h
  obtain ⟨e1, e2, e3⟩ := hcs
  have hh := g1.2.2.2.1.2
  refine ⟨hG, rx_tn_cs (rx_tn_lo g2 hlo (by omega) hh) e1 e2 (fun z => ⟨(hb z).1, (hb z).2.1⟩), by rw [hc.1, e1]; exact g3, ht, by rw [e3]; exact g5, ?_, fun z => ?_⟩
  · rw [e3]
    exact rx_Qc_lo g6 hlo (by omega)
  · obtain ⟨f1, f2, f3, f4⟩ := hb z
    obtain ⟨k1, k2, k3⟩ := g7 z
    have hm : ∀ w, w < rp_W P → w / md_m P cs.1 < 1024 := fun w hw => ((rx_V_m g2.1.2.1 z).2.1 w hw).2
    refine ⟨f3, by rw [f2, hc.2]; exact k2, ?_⟩
    rw [f4, e3, e1]
    exact rx_Qw_lo hm k3 hlo (by omega)
/-- a fault of the work in a question -/
def rx_Yq (P : md_P) (X0 : fx_X) (nm : md_Nm) (v : Int32) (X' : fx_X) : Prop := v = Int32.ofInt 0 ∧ (rp_b P = true ∧ rp_r P = some none) ∧ (X'.1 117 24).toInt ≠ 0 ∧ rx_sl P (nm.length - 1) X0 X'
theorem rx_QD_sl (h : rx_QD P nn X0 X t j c cs ws nm) (hlo : rx_lo 20 X X') : rx_sl P (nm.length - 1) X0 X' := by
  have h1 := h.2.1
  have h2 := congrArg List.length h1.1.2.2.1.2.2.2.2.1
  rw [List.length_map, List.length_map, List.length_dropLast] at h2
  rw [h2]
  exact rx_sl_tr h1.2.2.2.2.2 (rx_sl_lo hlo (Nat.le_refl _))
/-- by frames -/
theorem rx_QD_fy (h : rx_QD P nn X0 X t j c cs ws nm) (hG : rx_G P X' j' c) (hf : fy F L A X X') (hA : ∀ a, a ∈ A → a < 117 ∨ 137 ≤ a) (hF : (∀ q, q ∈ F → q.1 < 118 ∧ q ≠ (117, 51)) ∧ ∀ q, q ∈ L → q.1 < 118) : rx_QD P nn X0 X' t j' c cs ws nm := by
  refine rx_QD_fr h hG (rx_lo_fy hf (fun a ha => by have := hA a ha; omega) ⟨fun q hq => (hF.1 q hq).1, hF.2⟩) ⟨rfl, rfl, rfl⟩ ?_ ⟨rfl, rfl⟩ (fun hb => ⟨rfl, rfl, (h.2.2.2.2.2.2 hb).1, rfl⟩)
  rw [hf.2.2 117 51 (fun z => by have := hA 117 z; omega) (fun z => (hF.1 _ z).2 rfl)]
  exact h.2.2.2.1
/-- ROWS copied are the ROWS -/
theorem rx_cl_cp (h : rx_cl X s1 l8) (hc : rx_cpa X X' s1 s2) : rx_cl X' s2 l8 := by
  obtain ⟨a1, a2, a3⟩ := h
  obtain ⟨-, b2, b3, -⟩ := hc
  refine ⟨by rw [b2]; exact a1, a2, fun c n hc => ?_⟩
  have := (List.getElem?_eq_some_iff.mp hc).1
  rw [b3 c (by omega)]
  exact a3 c n hc
theorem rx_tm_nar {t : md_Tm} (h : (X.1 134 k).toInt = (if t.1 = true then 1 else 0)) : (aj_nar 4 (X.1 134 k)).toInt = (if t.1 = true then 1 else 0) := by
  cases e : t.1 with
  | true =>
    rw [e, if_pos rfl] at h
    have : X.1 134 k = Int32.ofInt 1 := fx_inj (by rw [h]; rfl)
    rw [this]; decide
  | false =>
    rw [e, if_neg (by decide)] at h
    have : X.1 134 k = Int32.ofInt 0 := fx_inj (by rw [h]; rfl)
    rw [this]; decide
/-- a ROW copied is the ROW -/
def rx_row (P : md_P) (X : fx_X) (m a : Nat) (x : md_Row) : Prop := (∀ c t, x.1[c]? = some t → rx_tm X (8 * a + c) t) ∧ ∀ w, w < rp_W P → fx_bt (X.1 136) (32 * a) (w / m) = x.2 w
theorem rx_row_cp {a b : Nat} {x : md_Row} (h : rx_row P X m a x) (hc : rx_cpr X X' a b) (h6 : x.1.length ≤ 8) (hm : ∀ w, w < rp_W P → w / m < 1024) : rx_row P X' m b x := by
  obtain ⟨a1, a2⟩ := h
  obtain ⟨b1, b2⟩ := hc
  refine ⟨fun c t hc => ?_, fun w hw => ?_⟩
  · have := (List.getElem?_eq_some_iff.mp hc).1
    obtain ⟨d1, d2⟩ := a1 c t hc
    obtain ⟨f1, f2⟩ := b1 c (by omega)
    exact ⟨by rw [f1]; exact rx_tm_nar d1, by rw [f2]; exact d2⟩
  · have := hm w hw
    have e := a2 w hw
    unfold fx_bt at e ⊢
    rw [b2 _ (by omega)]
    exact e
theorem rx_Rw_cp (h : rx_Rw P X m s1 B) (hc : rx_cpa X X' s1 s2) (hB : md_okA n d B) (hm : ∀ w, w < rp_W P → w / m < 1024) (hst : (X.1 117 32).toInt ≠ 0) : rx_Rw P X' m s2 B := by
  obtain ⟨a1, a2⟩ := h
  obtain ⟨b1, -, -, b4⟩ := hc
  refine ⟨by rw [b1]; exact a1, fun r x hr => ?_⟩
  have h1 := (List.getElem?_eq_some_iff.mp hr).1
  exact rx_row_cp (a2 r x hr) (b4 hst r (by omega)) (by have := (hB.2 x (List.mem_of_getElem? hr)).1.1; omega) hm
theorem rx_G_on (h : rx_G P X j c) (ho : rx_on s X X') : rx_G P X' j c := by
  have e117 : X'.1 117 = X.1 117 := ho.2.1 117 (by decide) (by decide) (by decide) (by decide) (by decide)
  have e138 : X'.1 138 = X.1 138 := ho.2.1 138 (by decide) (by decide) (by decide) (by decide) (by decide)
  unfold rx_G at h ⊢
  rw [e117, e138]
  obtain ⟨h1, h2, h3, h4, h5, h6, h7, h8, h9⟩ := h
  exact ⟨h1, h2, h3, h4, h5, h6, h7, rx_at_fr h8 ⟨by rw [e117], by rw [e117], by rw [e117], by rw [e117]⟩, h9⟩
theorem md_ck210 {T : md_T} : md_ck T cs (210, near, l) = if md_ix (T.2 near) (cs.2.2.1.map (·.1)) 0 < 0 then some none else match cs.2.2.1[(md_ix (T.2 near) (cs.2.2.1.map (·.1)) 0).toNat]? with
      | none => none
      | some x => if 20 ≤ cs.2.2.2.2.1.length then none else md_k ((cs.1, cs.2.1, cs.2.2.1, cs.2.2.2.1, x.2.2 :: cs.2.2.2.2.1, cs.2.2.2.2.2), md_ix (T.2 near) (cs.2.2.1.map (·.1)) 0) := by
  obtain ⟨U, cu, TB, rw, sk, pk, fr⟩ := cs
  refine md_k210.trans ?_
  dsimp only
  by_cases z : md_ix (T.2 near) (TB.map (·.1)) 0 < 0
  · rw [if_pos z, if_pos z]
  · rw [if_neg z, if_neg z]
    cases TB[(md_ix (T.2 near) (TB.map (·.1)) 0).toNat]? with
    | none => rfl
    | some x => obtain ⟨a, b, c⟩ := x; rfl
theorem md_wk210 {W n wd : Nat} {val : md_V} {arg : Int} (h1 : ws.2.1.length < 20) (h2 : ws.1[arg.toNat]? = some B) (h3 : ∀ x, x ∈ B → x.1.length = wd) (h4 : wd ≤ 6) : md_wk W n val wd ws (210, near, l) arg = md_k (ws.1, (wd, B) :: ws.2.1, ws.2.2) := by
  obtain ⟨tb, sk, tr, sd, rel, pt, rt, pk, fo, fd⟩ := ws
  have h1 : sk.length < 20 := h1
  have h2 : tb[arg.toNat]? = some B := h2
  have h5 := (List.getElem?_eq_some_iff.mp h2).1
  have h6 : tb.getD arg.toNat [] = B := by rw [List.getD_eq_getElem?_getD, h2]; rfl
  show (if 20 ≤ sk.length ∨ tb.length ≤ arg.toNat ∨ (tb.getD arg.toNat []).all (fun r => r.1.length == wd) = false ∨ 6 < wd then none else md_k (tb, (wd, tb.getD arg.toNat []) :: sk, tr, sd, rel, pt, rt, pk, fo, fd)) = _
  rw [h6, if_neg]
  rintro (z | z | z | z)
  · omega
  · omega
  · have : B.all (fun r => r.1.length == wd) = true := List.all_eq_true.mpr (fun x hx => beq_iff_eq.mpr (h3 x hx))
    rw [this] at z
    cases z
  · omega
theorem rx_Qw_len : ∀ {sq : List md_Q} {sk : List (List Int64)}, rx_Qw P X m n sq sk → sq.length = sk.length
  | [], [], _ => rfl
  | [], _ :: _, h => h.elim
  | _ :: _, [], h => h.elim
  | _ :: sq, _ :: sk, h => congrArg (· + 1) (rx_Qw_len (sq := sq) (sk := sk) h.2)
/-- a TABLE is taken -/
theorem rx_250 (h : rx_B P X ∨ (rx_QD P nn X0 X cs.2.2.2.2.1.length j c cs ws nm ∧ md_R P ((3, l) :: (210, l2) :: K) j near c nm (cs, ws) ∧ cs.2.2.2.2.1.length < 20 ∧ p1 = X.1 117 51 ∧ Q)) (g : gx_250 p1 X v X') : rx_X P v X' ∨ (v = Int32.ofInt 1 ∧ (rx_B P X' ∨ ∃ l8 cs' ws', cs'.2.2.2.2.1 = l8 :: cs.2.2.2.2.1 ∧ rx_QD P nn X0 X' cs.2.2.2.2.1.length (j + 1) c cs' ws' nm ∧ md_R P K (j + 1) j c nm (cs', ws') ∧ (cs'.1 = cs.1 ∧ cs'.2.2.1 = cs.2.2.1) ∧ Q)) := by
  obtain ⟨w3, X2, r1, g⟩ := g
  have f1 := gf_216 r1
  have h1 := rx_216 (K := (210, l2) :: K) (Q := rx_QD P nn X0 X cs.2.2.2.2.1.length j c cs ws nm ∧ cs.2.2.2.2.1.length < 20 ∧ p1 = X.1 117 51 ∧ Q) (h.imp id (fun z => ⟨z.1.1, z.2.1, z.1, z.2.2⟩)) r1
  rcases rx_go h1 g with e | ⟨h1, g1⟩
  · exact Or.inl e
  right
  obtain ⟨w6, X5, r2, g2⟩ := g1
  have e5 : X5 = X2 := fy_e (gf_231 r2)
  subst e5
  rcases h1 with hB | ⟨hG, hR, ⟨h33, hT3⟩, hD, h20, hp, hQ⟩
  · rcases fy_ifd g2 with ⟨c1, g3⟩ | ⟨c1, g3⟩
    · obtain ⟨w12, X11, r3, -, X15, e15, -, X18, e18, g4⟩ := g3
      have hB2 := rx_B_218 hB (by decide) r3
      rw [g4.2]
      exact ⟨g4.1, Or.inl (by rw [e18, e15]; exact rx_B_w (rx_B_w hB2 (Or.inl (by decide))) (Or.inl (by decide)))⟩
    · obtain ⟨w10, X9, r3, g4⟩ := g3
      rw [g4.2]
      exact ⟨g4.1, Or.inl (rx_B_fr hB (gf_251 r3) (by decide) (by decide))⟩
  · have hD2 := rx_QD_fy hD hG f1 (by decide) (by decide)
    have hTB := hD2.2.1.1.2.2.1
    have hin := hG.2.2.2.1
    obtain ⟨-, hv⟩ := rx_231 hTB hin.1 hin.2 r2
    rw [h33] at hv
    have hRe := md_R_e0 hR (by decide)
    rcases fy_ifd g2 with ⟨c1, g3⟩ | ⟨c1, g3⟩
    · obtain ⟨w12, X11, r3, -, X15, e15, -, X18, e18, g4⟩ := g3
      have hF := md_Re_f hRe (md_ck210.trans (if_pos (by show md_ix ((rp_T P).2 j) (cs.2.2.1.map (·.1)) 0 < 0; omega)))
      have hB2 := rx_tell (Or.inr ⟨hG, hF⟩) (by decide) r3
      rw [g4.2]
      exact ⟨g4.1, Or.inl (by rw [e18, e15]; exact rx_B_w (rx_B_w hB2 (Or.inl (by decide))) (Or.inl (by decide)))⟩
    · obtain ⟨w10, X9, r3, g4⟩ := g3
      rw [g4.2]
      refine ⟨g4.1, Or.inr ?_⟩
      obtain ⟨i, h1, h2, -⟩ := md_ix_at (by rw [← hv]; exact c1)
      rw [Nat.zero_add] at h1
      rw [List.getElem?_map] at h2
      obtain ⟨t1, t2, t3, -⟩ := hTB
      cases hx : cs.2.2.1[i]? with
      | none => rw [hx] at h2; cases h2
      | some x =>
        have hi := (List.getElem?_eq_some_iff.mp hx).1
        have h10 := hD.2.1.2.1
        have i1 : (X5.1 117 37 * ((Int8.ofInt 10).toInt32) + w6).toInt = ((10 * rp_h P + i : Nat) : Int) := by
          rw [show 10 * rp_h P + i = rp_h P * 10 + i by omega]
          exact rx_lin hin.1 rfl (by omega) (by omega)
        have i2 : p1.toInt = ((20 + cs.2.2.2.2.1.length : Nat) : Int) := by rw [hp]; exact hD.2.2.2.1
        have hst := hG.2.2.2.2.1
        have hcl := (t3 i x hx).2.2
        have hlt : (X5.1 117 32).toInt ≠ 0 → rp_b P = true := fun z => by
          cases hb : rp_b P with
          | true => rfl
          | false => rw [hb, if_neg (by decide)] at hst; exact absurd hst z
        have hix : md_ix ((rp_T P).2 j) (cs.2.2.1.map (·.1)) 0 = (i : Int) := h1
        have hck : md_ck (rp_T P) cs (210, j, l2) = md_k ((cs.1, cs.2.1, cs.2.2.1, cs.2.2.2.1, x.2.2 :: cs.2.2.2.2.1, cs.2.2.2.2.2), (i : Int)) := by
          rw [md_ck210, hix, if_neg (by omega), show ((i : Nat) : Int).toNat = i from rfl, hx]
          exact if_neg (by omega)
        have hA : rp_b P = true → ∃ B, ws.1[i]? = some B ∧ rx_Rw P X5 (md_m P cs.1) (10 * rp_h P + i) B ∧ md_okA cs.1.length x.2.2.length B := fun hb => by
          obtain ⟨o1, o2, -⟩ := hD2.2.1.1.2.2.2 hb
          obtain ⟨B, hB⟩ : ∃ B, ws.1[i]? = some B := ⟨_, List.getElem?_eq_getElem (by omega)⟩
          exact ⟨B, hB, o2 i B x hB hx⟩
        obtain ⟨b1, b2⟩ := rx_251 (s1 := 10 * rp_h P + i) i1 i2 (by omega) (fun z => by
          obtain ⟨B, -, q1, q2⟩ := hA (hlt z)
          have := q1.1
          have := q2.1
          omega) r3
        have hG9 := rx_G_on hG b1
        have hlo := rx_on_lo b1 (Nat.le_refl _)
        have h51 : (X9.1 117 51).toInt = ((20 + cs.2.2.2.2.1.length : Nat) : Int) := by
          rw [b1.2.1 117 (by decide) (by decide) (by decide) (by decide) (by decide)]
          exact hD2.2.2.2.1
        have hcl2 := rx_cl_cp hcl b2
        cases hb : rp_b P with
        | false =>
          obtain ⟨w3, q1, -, -⟩ := md_Re_n (w' := ws) hRe hck (fun z => by rw [hb] at z; cases z)
          exact ⟨x.2.2, (cs.1, cs.2.1, cs.2.2.1, cs.2.2.2.1, x.2.2 :: cs.2.2.2.2.1, cs.2.2.2.2.2), w3, rfl, rx_QD_st (d := 0) (sk := cs.2.2.2.2.1) (q := (0, [])) hD2 hG9 hlo ⟨rfl, rfl, rfl⟩ rfl h20 h51 ⟨rfl, rfl⟩ hcl2 (fun z => by rw [hb] at z; cases z), q1, ⟨rfl, rfl⟩, hQ⟩
        | true =>
          obtain ⟨B, hB, q1, q2⟩ := hA hb
          obtain ⟨k1, k2, k3⟩ := hD2.2.2.2.2.2.2 hb
          have hm : ∀ w, w < rp_W P → w / md_m P cs.1 < 1024 := fun w hw => ((rx_V_m hD2.2.1.1.2.1 hb).2.1 w hw).2
          rw [hb, if_pos rfl] at hst
          have hwk := md_wk210 (W := rp_W P) (n := rp_n P) (val := rp_v P) (wd := x.2.2.length) (near := j) (l := l2) (arg := (i : Int)) (ws := ws) (B := B) (by rw [rx_Qw_len k3]; exact h20) hB (fun y hy => (q2.2 y hy).2) hcl.2.1
          obtain ⟨w3, e1, e2, -⟩ := md_Re_n hRe hck (fun _ => hwk)
          have e2 := e2 hb
          refine ⟨x.2.2, (cs.1, cs.2.1, cs.2.2.1, cs.2.2.2.1, x.2.2 :: cs.2.2.2.2.1, cs.2.2.2.2.2), w3, rfl, rx_QD_st (d := 0) (sk := cs.2.2.2.2.1) (q := (x.2.2.length, B)) hD2 hG9 hlo ⟨rfl, rfl, rfl⟩ rfl h20 h51 ⟨rfl, rfl⟩ hcl2 (fun _ => ⟨by rw [e2], by rw [e2]; rfl, by rw [e2]; exact k1, by rw [e2]; rfl, rfl, rx_Rw_cp q1 b2 q2 hm (by omega), q2⟩), e1, ⟨rfl, rfl⟩, hQ⟩
end DD29
