/-! ROWS OF THE CLASS: small methods -/
/-- the TERMS of a ROW -/
def cx_Rt (X : fx_X) (r i : Nat) (ts : List md_Tm) : Prop := ∀ c t, ts[c]? = some t → X.1 (r + 1) (6 * i + c) = t.2 ∧ (X.1 (r + 2) (6 * i + c)).toInt = (if t.1 = true then 1 else 0)
/-- in which WORLDS it is there -/
def cx_Rb (X : fx_X) (r W i : Nat) (f : Nat → Bool) : Prop := ∀ w, w < W → fx_ib (X.1 (r + 3) w) i = f w
def cx_Rr (X : fx_X) (r W : Nat) (A : List md_Row) : Prop := (X.1 r 4).toInt = (A.length : Int) ∧ ∀ i x, A[i]? = some x → cx_Rt X r i x.1 ∧ cx_Rb X r W i x.2
/-- such TERMS as can be -/
def md_okt (n : Nat) (ts : List md_Tm) : Prop := ts.length ≤ 6 ∧ ∀ t, t ∈ ts → t.1 = true → 0 ≤ t.2.toInt ∧ t.2.toInt < (n : Int)
def md_okA (n wd : Nat) (A : List md_Row) : Prop := A.length ≤ 30 ∧ ∀ x, x ∈ A → md_okt n x.1 ∧ x.1.length = wd
def cx_ce (X : fx_X) (sr W n : Nat) (val : md_V) : Prop := W ≤ 1024 ∧ n ≤ 8 ∧ ∀ w u, w < W → u < n → X.1 (sr + 4) (8 * w + u) = val w u
/-- these ROWS alone change -/
def cx_rf (r : Nat) (X X' : fx_X) : Prop := X'.2 = X.2 ∧ ∀ q k, (q < r ∨ r + 4 ≤ q) → X'.1 q k = X.1 q k
section CX32
variable {X X' X1 : fx_X} {v p p0 p1 p2 p3 p4 : Int32} {u : Unit} {sr r r' W n i j c w m : Nat} {ts us : List md_Tm} {t : md_Tm} {val : md_V} {f : Nat → Bool}
theorem cx_rf_rf : cx_rf r X X := ⟨rfl, fun _ _ _ => rfl⟩
theorem cx_rf_tr (h1 : cx_rf r X X1) (h2 : cx_rf r X1 X') : cx_rf r X X' := ⟨h2.1.trans h1.1, fun q k h => (h2.2 q k h).trans (h1.2 q k h)⟩
theorem cx_rf_w (h : cx_rf r X X1) {q k : Nat} {v : Int32} (hq : r ≤ q ∧ q < r + 4) : cx_rf r X (fx_wI X1 q k v) := ⟨h.1, fun q' k' h' => by rw [fx_rIn (by omega)]; exact h.2 q' k' h'⟩
theorem cx_8 {x y : Int32} {a b : Nat} (hx : x.toInt = (a : Int)) (hy : y.toInt = (b : Int)) (h : a ≤ 2000) (h2 : b ≤ 2000) : (x * ((Int8.ofInt 8).toInt32) + y).toInt = ((8 * a + b : Nat) : Int) := by
  have e : ((Int8.ofInt 8).toInt32).toInt = 8 := by decide
  have e2 : (x * ((Int8.ofInt 8).toInt32)).toInt = (a : Int) * 8 := by
    rw [fx_mul (by rw [hx, e]; omega) (by rw [hx, e]; omega), hx, e]
  rw [fx_add (by rw [e2, hy]; omega) (by rw [e2, hy]; omega), e2, hy]
  omega
theorem cx_103 (h : cx_Rt X r i ts) (hi : i < 30) (hc : c < 6) (hp1 : p1.toInt = (i : Int)) (hp2 : p2.toInt = (c : Int)) (ht : ts[c]? = some t) (g : gx_103 r p1 p2 X v X') : X = X' ∧ v = (if t.1 = true then Int32.ofInt 1 else Int32.ofInt 0) := by
  obtain ⟨x2, rfl, g⟩ := g
  have e := cx_6 hp1 hp2 (by omega) (by omega)
  rw [if_neg (by omega), if_neg (by omega), if_pos (by omega), if_pos (by omega), fx_in e] at g
  replace g := g.2
  have h2 := (h c t ht).2
  cases hb : t.1 with
  | true => rw [hb] at h2; rw [h2] at g; exact ⟨g.2.symm, g.1⟩
  | false => rw [hb] at h2; rw [h2] at g; exact ⟨g.2.symm, g.1⟩
theorem cx_104 (h : cx_Rt X r i ts) (hi : i < 30) (hc : c < 6) (hp1 : p1.toInt = (i : Int)) (hp2 : p2.toInt = (c : Int)) (ht : ts[c]? = some t) (g : gx_104 r p1 p2 X v X') : X = X' ∧ v = t.2 := by
  obtain ⟨x2, rfl, g⟩ := g
  have e := cx_6 hp1 hp2 (by omega) (by omega)
  rw [if_neg (by omega), if_pos (by omega), if_neg (by omega), if_pos (by omega), if_pos (by omega), fx_in e] at g
  exact ⟨g.2.2.symm, by rw [g.2.1]; exact (h c t ht).1⟩
/-- a TERM set -/
def cx_st (X : fx_X) (r i c : Nat) (t : md_Tm) : fx_X := fx_wI (fx_wI X (r + 1) (6 * i + c) t.2) (r + 2) (6 * i + c) (if t.1 = true then Int32.ofInt 1 else Int32.ofInt 0)
theorem cx_105 (hi : i < 30) (hc : c < 6) (hp1 : p1.toInt = (i : Int)) (hp2 : p2.toInt = (c : Int)) (hp3 : p3 = (if t.1 = true then Int32.ofInt 1 else Int32.ofInt 0)) (hp4 : p4 = t.2) (g : gx_105 r p1 p2 p3 p4 X u X') : X' = cx_st X r i c t := by
  obtain ⟨x2, rfl, g⟩ := g
  have e := cx_6 hp1 hp2 (by omega) (by omega)
  rw [if_neg (by omega), if_pos (by omega), if_neg (by omega), if_pos (by omega), if_pos (by omega), if_pos (by omega), fx_in e] at g
  obtain ⟨-, X14, rfl, -, X17, rfl, rfl⟩ := g
  have e3 : aj_nar 2 p3 = (if t.1 = true then Int32.ofInt 1 else Int32.ofInt 0) := by
    rw [hp3]
    cases t.1 <;> decide
  rw [e3, hp4]
  rfl
theorem cx_st_rf : cx_rf r X (cx_st X r i c t) := cx_rf_w (cx_rf_w cx_rf_rf (by omega)) (by omega)
theorem cx_st_f : (∀ k, (cx_st X r i c t).1 r k = X.1 r k) ∧ ∀ k, (cx_st X r i c t).1 (r + 3) k = X.1 (r + 3) k := by
  unfold cx_st
  exact ⟨fun k => by rw [fx_rIn (by omega), fx_rIn (by omega)], fun k => by rw [fx_rIn (by omega), fx_rIn (by omega)]⟩
/-- one TERM more at the end -/
theorem cx_st_Rt (h : cx_Rt X r i ts) : cx_Rt (cx_st X r i ts.length t) r i (ts ++ [t]) := by
  intro c' t' ht
  unfold cx_st
  rw [fx_rIn (by omega), fx_rI, fx_rI]
  rw [List.getElem?_append] at ht
  split at ht
  · rw [if_neg (by omega), if_neg (by omega), fx_rIn (by omega)]
    exact h c' t' ht
  · have e1 : c' = ts.length := by
      have := (List.getElem?_eq_some_iff.mp ht).1
      have : c' - ts.length < 1 := this
      omega
    subst e1
    rw [Nat.sub_self] at ht
    cases ht
    rw [if_pos ⟨rfl, rfl⟩, if_pos ⟨rfl, rfl⟩]
    refine ⟨rfl, ?_⟩
    cases t.1 <;> rfl
/-- other ROWS of the same -/
theorem cx_st_Ro (hj : j ≠ i) (hc : c < 6) (hl : us.length ≤ 6) (h : cx_Rt X r j us) : cx_Rt (cx_st X r i c t) r j us := by
  intro c' t' ht
  have := (List.getElem?_eq_some_iff.mp ht).1
  unfold cx_st
  rw [fx_rIn (by omega), fx_rIk (by omega), fx_rIk (by omega), fx_rIn (by omega)]
  exact h c' t' ht
theorem cx_Rt_e (h : cx_Rt X r i ts) (h1 : ∀ k, X'.1 (r + 1) k = X.1 (r + 1) k) (h2 : ∀ k, X'.1 (r + 2) k = X.1 (r + 2) k) : cx_Rt X' r i ts := fun c t ht => by rw [h1, h2]; exact h c t ht
theorem cx_Rb_e (h : cx_Rb X r W i f) (h1 : ∀ k, X'.1 (r + 3) k = X.1 (r + 3) k) : cx_Rb X' r W i f := fun w hw => by rw [h1]; exact h w hw
theorem cx_Rr_e {A : List md_Row} (h : cx_Rr X r W A) (h0 : X'.1 r 4 = X.1 r 4) (h1 : ∀ k, X'.1 (r + 1) k = X.1 (r + 1) k) (h2 : ∀ k, X'.1 (r + 2) k = X.1 (r + 2) k) (h3 : ∀ k, X'.1 (r + 3) k = X.1 (r + 3) k) : cx_Rr X' r W A := ⟨by rw [h0]; exact h.1, fun i x hx => ⟨cx_Rt_e (h.2 i x hx).1 h1 h2, cx_Rb_e (h.2 i x hx).2 h3⟩⟩
theorem cx_Rr_rf {A : List md_Row} (h : cx_Rr X r W A) (hf : cx_rf r' X X') (ha : r + 4 ≤ r' ∨ r' + 4 ≤ r) : cx_Rr X' r W A := cx_Rr_e h (hf.2 _ _ (by omega)) (fun k => hf.2 _ _ (by omega)) (fun k => hf.2 _ _ (by omega)) (fun k => hf.2 _ _ (by omega))
theorem cx_108 (h : cx_Rb X r W i f) (hW : W ≤ 1024) (hi : i < 32) (hw : w < W) (hp1 : p1.toInt = (i : Int)) (hp2 : p2.toInt = (w : Int)) (g : gx_108 r p1 p2 X v X') : X = X' ∧ v = (if f w = true then Int32.ofInt 1 else Int32.ofInt 0) := by
  unfold gx_108 at g
  rw [if_neg (by omega), if_pos (by omega), fx_in hp2] at g
  replace g := g.2
  have hh := h w hw
  rcases fy_ifd g with ⟨c, g⟩ | ⟨c, g⟩
  · rw [fx_ib_has hp1 hi, hh] at c
    rw [c]; exact ⟨g.2.symm, g.1⟩
  · rw [fx_ib_has hp1 hi, hh] at c
    have : f w = true := by simpa using c
    rw [this]; exact ⟨g.2.symm, g.1⟩
/-- a bit set or taken -/
def cx_sb (X : fx_X) (r w : Nat) (x : Int32) : fx_X := fx_wI X (r + 3) w x
theorem cx_109 (hw : w < 1024) (hi : i < 32) (hp1 : p1.toInt = (i : Int)) (hp2 : p2.toInt = (w : Int)) (g : gx_109 r p1 p2 X u X') : ∃ x, X' = cx_sb X r w x ∧ ∀ j, j < 32 → fx_ib x j = (decide (j = i) || fx_ib (X.1 (r + 3) w) j) := by
  unfold gx_109 at g
  rw [if_neg (by omega), if_pos (by omega), fx_in hp2] at g
  obtain ⟨-, -, X8, rfl, rfl⟩ := g
  exact ⟨_, rfl, fun j hj => fx_ib_put hp1 hi hj⟩
theorem cx_110 (hw : w < 1024) (hi : i < 32) (hp1 : p1.toInt = (i : Int)) (hp2 : p2.toInt = (w : Int)) (g : gx_110 r p1 p2 X u X') : ∃ x, X' = cx_sb X r w x ∧ ∀ j, j < 32 → fx_ib x j = (!decide (j = i) && fx_ib (X.1 (r + 3) w) j) := by
  unfold gx_110 at g
  rw [if_neg (by omega), if_pos (by omega), fx_in hp2] at g
  obtain ⟨-, -, X8, rfl, rfl⟩ := g
  exact ⟨_, rfl, fun j hj => fx_ib_drop hp1 hi hj⟩
theorem cx_sb_rf {x : Int32} : cx_rf r X (cx_sb X r w x) := cx_rf_w cx_rf_rf (by omega)
theorem cx_114 (hce : cx_ce X sr W n val) (h : cx_Rt X r i ts) (hok : md_okt n ts) (hi : i < 30) (hw : w < W) (hp2 : p2.toInt = (i : Int)) (hp3 : p3.toInt = (c : Int)) (hp4 : p4.toInt = (w : Int)) (ht : ts[c]? = some t) (g : gx_114_2 r sr p2 p3 p4 X v X') : X = X' ∧ v = md_cv val w t := by
  have hc : c < 6 := by
    have := (List.getElem?_eq_some_iff.mp ht).1
    have := hok.1
    omega
  have h1 := h c t ht
  have hW := hce.1
  have hn := hce.2.1
  obtain ⟨x2, rfl, g⟩ := g
  have e := cx_6 hp2 hp3 (by omega) (by omega)
  rw [if_neg (by omega), if_pos (by omega), if_neg (by omega), if_pos (by omega), if_pos (by omega), if_pos (by omega), fx_in e] at g
  obtain ⟨-, x14, rfl, -, g⟩ := g
  unfold md_cv
  cases hb : t.1 with
  | false =>
    rw [hb] at h1
    have h12 : (X.1 (r + 2) (6 * i + c)).toInt = 0 := h1.2
    rw [if_pos h12] at g
    rw [if_neg (by decide)]
    exact ⟨g.2.symm, by rw [g.1]; exact h1.1⟩
  | true =>
    rw [hb] at h1
    have h12 : (X.1 (r + 2) (6 * i + c)).toInt = 1 := h1.2
    rw [if_neg (by omega)] at g
    rw [if_pos rfl]
    obtain ⟨x19, rfl, g⟩ := g
    obtain ⟨o1, o2⟩ := hok.2 t (List.mem_of_getElem? ht) hb
    rw [h1.1] at g
    obtain ⟨q, hq⟩ : ∃ q : Nat, t.2.toInt = (q : Int) := ⟨t.2.toInt.toNat, by omega⟩
    have e8 := cx_8 hp4 hq (by omega) (by omega)
    rw [if_neg (by omega), if_pos (by omega), if_neg (by omega), if_pos (by omega), if_pos (by omega), fx_in e8] at g
    refine ⟨g.2.2.symm, ?_⟩
    rw [g.2.1, hce.2.2 w q hw (by omega), hq]
    rfl
theorem cx_124 (hce : cx_ce X sr W n val) (hw : w < W) (hm : m < n) (hp1 : p1.toInt = (w : Int)) (hp2 : p2.toInt = (m : Int)) (g : gx_124 sr p1 p2 X v X') : X = X' ∧ v = val w m := by
  have hW := hce.1
  have hn := hce.2.1
  obtain ⟨x2, rfl, g⟩ := g
  have e8 := cx_8 hp1 hp2 (by omega) (by omega)
  rw [if_neg (by omega), if_pos (by omega), if_neg (by omega), if_pos (by omega), if_pos (by omega), fx_in e8] at g
  exact ⟨g.2.2.symm, by rw [g.2.1]; exact hce.2.2 w m hw hm⟩
/-- a side as can be -/
def md_oks (n wd : Nat) (s : md_Sd) : Prop := s.1 = 0 ∨ (s.1 = 1 ∧ 0 ≤ s.2.toInt ∧ s.2.toInt < (n : Int)) ∨ (s.1 = 2 ∧ 0 ≤ s.2.toInt ∧ s.2.toInt < (wd : Int))
theorem cx_123 {s : md_Sd} (hce : cx_ce X sr W n val) (h : cx_Rt X r i ts) (hok : md_okt n ts) (hi : i < 30) (hw : w < W) (hs : md_oks n ts.length s) (h7 : X.2.2.1 95 7 = some sr) (hp1 : p1.toInt = s.1) (hp2 : p2 = s.2) (hp4 : p3.toInt = (i : Int)) (hp5 : p4.toInt = (w : Int)) (g : gx_123 p1 p2 r p3 p4 X v X') : X = X' ∧ v = md_sv val w ts s := by
  unfold gx_123 at g
  unfold md_sv
  rw [hp1] at g
  subst hp2
  rcases hs with hs | ⟨hs, h1, h2⟩ | ⟨hs, h1, h2⟩
  · rw [if_pos hs] at g
    rw [if_pos hs]
    exact ⟨g.2.symm, g.1⟩
  · rw [if_neg (by omega), if_pos hs] at g
    rw [if_neg (by omega), if_pos hs]
    obtain ⟨b, eb, w13, X12, r1, rfl, rfl⟩ := g
    rw [h7] at eb
    cases eb
    exact cx_124 hce hw (by omega) hp5 (by omega) r1
  · rw [if_neg (by omega), if_neg (by omega)] at g
    rw [if_neg (by omega), if_neg (by omega)]
    obtain ⟨q, hq⟩ : ∃ q : Nat, s.2.toInt = (q : Int) := ⟨s.2.toInt.toNat, by omega⟩
    obtain ⟨t, ht⟩ : ∃ t, ts[q]? = some t := ⟨ts[q]'(by omega), List.getElem?_eq_getElem (by omega)⟩
    rcases g with ⟨z, -⟩ | ⟨b, eb, w9, X8, r1, rfl, rfl⟩
    · rw [h7] at z; cases z
    · rw [h7] at eb
      cases eb
      obtain ⟨e1, e2⟩ := cx_114 hce h hok hi hw hp4 hq hp5 ht r1
      refine ⟨e1, ?_⟩
      rw [e2, hq, Int.toNat_natCast, List.getD_eq_getElem?_getD, ht]
      rfl
/-- two sides compared -/
theorem cx_122 {sd : md_Sd × md_Sd} {rel : Int} (hce : cx_ce X sr W n val) (h : cx_Rt X r i ts) (hok : md_okt n ts) (hi : i < 30) (hw : w < W) (hs : md_oks n ts.length sd.1) (hs2 : md_oks n ts.length sd.2) (h7 : X.2.2.1 95 7 = some sr) (h8 : (X.1 95 8).toInt = sd.1.1) (h9 : X.1 95 9 = sd.1.2) (h10 : (X.1 95 10).toInt = sd.2.1) (h11 : X.1 95 11 = sd.2.2) (h12 : (X.1 95 12).toInt = rel) (hp2 : p2.toInt = (i : Int)) (hp3 : p3.toInt = (w : Int)) (g : gx_122 r p2 p3 X v X') : X = X' ∧ v = (if md_cmp rel (md_sv val w ts sd.1) (md_sv val w ts sd.2) = true then Int32.ofInt 1 else Int32.ofInt 0) := by
  obtain ⟨w3, X2, r1, w6, X5, r2, g⟩ := g
  obtain ⟨rfl, rfl⟩ := cx_123 hce h hok hi hw hs h7 h8 h9 hp2 hp3 r1
  obtain ⟨rfl, rfl⟩ := cx_123 hce h hok hi hw hs2 h7 h10 h11 hp2 hp3 r2
  rw [h12] at g
  have inj : ∀ {a b : Int32}, a.toInt = b.toInt ↔ a = b := fun {a b} => Int32.toInt_inj
  obtain ⟨a, ha⟩ : ∃ a, a = md_sv val w ts sd.1 := ⟨_, rfl⟩
  obtain ⟨b, hb⟩ : ∃ b, b = md_sv val w ts sd.2 := ⟨_, rfl⟩
  rw [← ha, ← hb] at g
  rw [← ha, ← hb]
  have fin : ∀ {c : Prop} [Decidable c] {x : Bool}, (c ↔ x = true) → ((if c then (v = Int32.ofInt 1 ∧ X' = X) else (v = Int32.ofInt 0 ∧ X' = X)) → X = X' ∧ v = (if x = true then Int32.ofInt 1 else Int32.ofInt 0)) := by
    intro c _ x hx gg
    rcases fy_ifd gg with ⟨d, gg⟩ | ⟨d, gg⟩
    · rw [if_pos (hx.mp d)]; exact ⟨gg.2.symm, gg.1⟩
    · rw [if_neg (fun z => d (hx.mpr z))]; exact ⟨gg.2.symm, gg.1⟩
  have fin2 : ∀ {c : Prop} [Decidable c] {x : Bool}, (¬ c ↔ x = true) → ((if c then (v = Int32.ofInt 0 ∧ X' = X) else (v = Int32.ofInt 1 ∧ X' = X)) → X = X' ∧ v = (if x = true then Int32.ofInt 1 else Int32.ofInt 0)) := by
    intro c _ x hx gg
    rcases fy_ifd gg with ⟨d, gg⟩ | ⟨d, gg⟩
    · rw [if_neg (fun z => hx.mpr z d)]; exact ⟨gg.2.symm, gg.1⟩
    · rw [if_pos (hx.mp d)]; exact ⟨gg.2.symm, gg.1⟩
  by_cases c6 : rel = 6
  · rw [if_pos c6] at g
    refine fin2 ?_ g
    have e : md_cmp rel a b = (a != b) := by rw [c6]; rfl
    rw [e, inj, bne_iff_ne]
  · rw [if_neg c6] at g
    by_cases c60 : rel = 60
    · rw [if_pos c60] at g
      refine fin ?_ g
      have e : md_cmp rel a b = decide (a.toInt < b.toInt) := by rw [c60]; rfl
      rw [e, decide_eq_true_iff]
    · rw [if_neg c60] at g
      by_cases c61 : rel = 61
      · rw [if_pos c61] at g
        refine fin ?_ g
        have e : md_cmp rel a b = (a == b) := by rw [c61]; rfl
        rw [e, inj, beq_iff_eq]
      · rw [if_neg c61] at g
        refine fin2 ?_ g
        have e : md_cmp rel a b = decide (a.toInt ≤ b.toInt) := by unfold md_cmp; rw [if_neg c61, if_neg c6, if_neg c60]
        rw [e, decide_eq_true_iff]
        omega
end CX32
