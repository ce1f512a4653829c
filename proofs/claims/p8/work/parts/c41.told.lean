/-! THE CLASS'S WORKER: what is told -/
section CX41
variable {X X' X0 X1 : fx_X} {v p p0 p1 p2 p3 p4 : Int32} {u : Unit} {sr r r' rs W n i j c w m wd k : Nat} {val : md_V} {tr tr' pt : List (Nat → Bool)} {sd : md_Sd × md_Sd} {rel : Int} {f h : Nat → Bool} {A : List md_Row} {ts : List md_Tm}
/-- a ROW begins: there in all WORLDS -/
theorem cx_144w {X0 : fx_X} (hs : sr = 54 ∨ sr = 66) (hr : r = 102 ∨ 150 ≤ r) (hW : W ≤ 1024) (h7 : X0.2.2.1 95 7 = some sr) (h13 : (X0.1 sr 13).toInt = (W : Int)) (h4 : (X0.1 r 4).toInt = ((i + 1 : Nat) : Int)) (hi : i < 30) : ∀ (q k : Nat) (y2 : Int32) (X : fx_X), y2.toInt = (k : Int) → k ≤ W → cx_bp r i k (fun _ => true) X0 X → gxF_144_2 r q 17 [y2] [] [] X u X' → cx_bp r i W (fun _ => true) X0 X' := by
  intro q
  induction q with
  | zero => intro k y2 X _ _ _ g; exact g.elim
  | succ q ih =>
    intro k y2 X hk hkl hb g
    replace g := gxO_144_2_17 g
    have hrf := cx_bp_rf hb
    obtain ⟨b5, eb, g⟩ := g
    rw [hrf.1, h7] at eb
    cases eb
    have h13' : (X.1 sr 13).toInt = (W : Int) := by rw [hrf.2 _ _ (by omega)]; exact h13
    by_cases z : k < W
    · rw [if_pos (by omega)] at g
      obtain ⟨w8, X7, r1, x9, rfl, g⟩ := g
      have hd : (X.1 r 4 - Int32.ofInt 1).toInt = (i : Int) := cx_dec (by rw [hb.2.1 _ _ (by omega)]; exact h4) (by omega)
      obtain ⟨x, rfl, hx⟩ := cx_109 (by omega) (by omega) hd hk r1
      refine ih (k + 1) _ _ (cx_inc hk (by omega)) (by omega) (cx_bp_w hb (fun l hl => ?_)) g
      rw [hx l hl]
      by_cases y : l = i
      · rw [if_pos y, decide_eq_true y]; rfl
      · rw [if_neg y, decide_eq_false y]; rfl
    · rw [if_neg (by omega)] at g
      have e : k = W := by omega
      subst e
      rw [g]; exact hb
theorem cx_144 (hs : sr = 54 ∨ sr = 66) (hr : r = 102 ∨ 150 ≤ r) (hW : W ≤ 1024) (h7 : X.2.2.1 95 7 = some sr) (h13 : (X.1 sr 13).toInt = (W : Int)) (hA : A.length < 30) (hR : cx_Rr X r W A) (g : gx_144_2 r X u X') : cx_Rr X' r W (A ++ [([], fun _ => true)]) ∧ cx_rf r X X' ∧ X'.1 r 3 = X.1 r 3 := by
  obtain ⟨q, X2, rfl, g⟩ := g
  have f2 : cx_rf r X (fx_wI X r 4 (X.1 r 4 + Int32.ofInt 1)) := cx_rf_w cx_rf_rf (by omega)
  have h4 : ((fx_wI X r 4 (X.1 r 4 + Int32.ofInt 1)).1 r 4).toInt = ((A.length + 1 : Nat) : Int) := by rw [fx_rIe, cx_inc hR.1 (by omega)]
  have hb := cx_144w (i := A.length) hs hr hW (by rw [f2.1]; exact h7) (by rw [f2.2 _ _ (by omega)]; exact h13) h4 hA q 0 _ _ rfl (Nat.zero_le _) cx_bp_0 g
  refine ⟨⟨by rw [hb.2.1 _ _ (by omega), h4, List.length_append]; rfl, fun l x hx => ?_⟩, cx_rf_tr f2 (cx_bp_rf hb), by rw [hb.2.1 _ _ (by omega), fx_rIk (by decide)]⟩
  rw [List.getElem?_append] at hx
  split at hx
  · rename_i hl
    obtain ⟨e1, e2⟩ := hR.2 l x hx
    exact ⟨cx_Rt_e e1 (fun j => by rw [hb.2.1 _ _ (by omega), fx_rIn (by omega)]) (fun j => by rw [hb.2.1 _ _ (by omega), fx_rIn (by omega)]), cx_bp_o hb (by omega) (by omega) (cx_Rb_e e2 (fun j => by rw [fx_rIn (by omega)]))⟩
  · have e1 : l = A.length := by
      have := (List.getElem?_eq_some_iff.mp hx).1
      have : l - A.length < 1 := this
      omega
    subst e1
    rw [Nat.sub_self] at hx
    cases hx
    exact ⟨(fun c t ht => by cases ht), cx_bp_i hb (by omega)⟩
/-- a TERM of the last ROW -/
theorem cx_145 (hr : r = 102 ∨ 150 ≤ r) (h10 : (X.1 95 10).toInt = sd.2.1) (h11 : X.1 95 11 = sd.2.2) (hA : md_okA' n (A ++ [(ts, f)])) (h6 : ts.length < 6) (h14 : (X.1 95 14).toInt = (ts.length : Int)) (hR : cx_Rr X r W (A ++ [(ts, f)])) (g : gx_145_2 r X u X') : cx_Rr X' r W (A ++ [(ts ++ [(sd.2.1 == 1, sd.2.2)], f)]) ∧ (X'.1 95 14).toInt = ((ts.length + 1 : Nat) : Int) ∧ X'.2 = X.2 ∧ (∀ q k, ¬ (q = 95 ∧ k = 14) → (q < r ∨ r + 4 ≤ q) → X'.1 q k = X.1 q k) ∧ X'.1 r 3 = X.1 r 3 := by
  have h30 := hA.1
  rw [List.length_append] at h30
  have h30' : A.length + 1 ≤ 30 := h30
  have hlen : (A ++ [(ts, f)]).length = A.length + 1 := by rw [List.length_append]; rfl
  have h4 : (X.1 r 4).toInt = ((A.length + 1 : Nat) : Int) := by rw [← hlen]; exact hR.1
  have hd := cx_dec h4 (by omega)
  have hlast : (A ++ [(ts, f)])[A.length]? = some (ts, f) := by rw [List.getElem?_append_right (Nat.le_refl _), Nat.sub_self]; rfl
  obtain ⟨t1, t2⟩ := hR.2 A.length _ hlast
  have key : ∀ {b : Int32}, b = (if (sd.2.1 == 1) = true then Int32.ofInt 1 else Int32.ofInt 0) → (∃ (w7 : Unit) (X6 : fx_X), gx_105 r ((X.1 r 4) - (Int32.ofInt 1)) (X.1 95 14) b (X.1 95 11) X w7 X6 ∧ ∃ X8 : fx_X, X8 = (fx_wI X6 95 14 ((X6.1 95 14) + (Int32.ofInt 1))) ∧ X' = X8) → cx_Rr X' r W (A ++ [(ts ++ [(sd.2.1 == 1, sd.2.2)], f)]) ∧ (X'.1 95 14).toInt = ((ts.length + 1 : Nat) : Int) ∧ X'.2 = X.2 ∧ (∀ q k, ¬ (q = 95 ∧ k = 14) → (q < r ∨ r + 4 ≤ q) → X'.1 q k = X.1 q k) ∧ X'.1 r 3 = X.1 r 3 := by
    rintro b hb ⟨w7, X6, r1, X8, rfl, rfl⟩
    have e6 := cx_105 (t := (sd.2.1 == 1, sd.2.2)) (by omega) h6 hd h14 hb h11 r1
    have hst : cx_rf r X X6 := by rw [e6]; exact cx_st_rf
    have f1 := cx_st_f (X := X) (r := r) (i := A.length) (c := ts.length) (t := (sd.2.1 == 1, sd.2.2))
    rw [← e6] at f1
    refine ⟨⟨?_, fun l x hx => ?_⟩, ?_, hst.1, fun q k h1 h2 => ?_, ?_⟩
    · rw [fx_rIn (by omega), f1.1, h4, List.length_append]; rfl
    · rw [List.getElem?_append] at hx
      split at hx
      · rename_i hl
        have hx' : (A ++ [(ts, f)])[l]? = some x := by rw [List.getElem?_append_left hl]; exact hx
        obtain ⟨e1, e2⟩ := hR.2 l x hx'
        have hl6 := (hA.2 x (List.mem_of_getElem? hx')).1
        refine ⟨?_, cx_Rb_e e2 (fun j => by rw [fx_rIn (by omega), f1.2])⟩
        have : cx_Rt X6 r l x.1 := by rw [e6]; exact cx_st_Ro (by omega) h6 hl6 e1
        exact cx_Rt_e this (fun j => by rw [fx_rIn (by omega)]) (fun j => by rw [fx_rIn (by omega)])
      · have e1 : l = A.length := by
          have := (List.getElem?_eq_some_iff.mp hx).1
          have : l - A.length < 1 := this
          omega
        subst e1
        rw [Nat.sub_self] at hx
        cases hx
        refine ⟨?_, cx_Rb_e t2 (fun j => by rw [fx_rIn (by omega), f1.2])⟩
        have : cx_Rt X6 r A.length (ts ++ [(sd.2.1 == 1, sd.2.2)]) := by rw [e6]; exact cx_st_Rt t1
        exact cx_Rt_e this (fun j => by rw [fx_rIn (by omega)]) (fun j => by rw [fx_rIn (by omega)])
    · rw [fx_rIe, hst.2 _ _ (by omega), cx_inc h14 (by omega)]
    · rw [fx_rI, if_neg h1, hst.2 q k h2]
    · rw [fx_rIn (by omega), f1.1]
  unfold gx_145_2 at g
  rw [h10] at g
  rcases fy_ifd g with ⟨c, g⟩ | ⟨c, g⟩
  · exact key (by rw [c]; rfl) g
  · have : (sd.2.1 == 1) = false := by rw [beq_eq_false_iff_ne]; exact c
    exact key (by rw [this]; rfl) g
/-- the last ROW holds only where the COND does -/
theorem cx_146w {X0 : fx_X} (hs : sr = 54 ∨ sr = 66) (hr : r = 102 ∨ 150 ≤ r) (hW : W ≤ 1024) (h7 : X0.2.2.1 95 7 = some sr) (h13 : (X0.1 sr 13).toInt = (W : Int)) (h4 : (X0.1 r 4).toInt = ((i + 1 : Nat) : Int)) (hi : i < 30) (hB : cx_Rb X0 r W i h) (ht : ∀ w, w < W → fx_ib (X0.1 106 w) 0 = f w) : ∀ (q k : Nat) (y2 : Int32) (X : fx_X), y2.toInt = (k : Int) → k ≤ W → cx_bp r i k (fun w => h w && f w) X0 X → gxF_146_2 r q 7 [y2] [] [] X u X' → cx_bp r i W (fun w => h w && f w) X0 X' := by
  intro q
  induction q with
  | zero => intro k y2 X _ _ _ g; exact g.elim
  | succ q ih =>
    intro k y2 X hk hkl hb g
    replace g := gxO_146_2_7 g
    have hrf := cx_bp_rf hb
    obtain ⟨b5, eb, g⟩ := g
    rw [hrf.1, h7] at eb
    cases eb
    have h13' : (X.1 sr 13).toInt = (W : Int) := by rw [hrf.2 _ _ (by omega)]; exact h13
    by_cases z : k < W
    · rw [if_pos (by omega)] at g
      obtain ⟨w7, X6, r1, g⟩ := g
      obtain ⟨rfl, rfl⟩ := cx_147 (f := f) (fun w hw => by rw [hb.2.1 _ _ (by omega)]; exact ht w hw) hW z hk r1
      have hbit : fx_ib (X.1 (r + 3) k) i = h k := by rw [hb.2.2.2 k (Nat.le_refl _)]; exact hB k z
      cases hf : f k with
      | true =>
        rw [hf, if_neg (by decide)] at g
        obtain ⟨x9, rfl, g⟩ := g
        exact ih (k + 1) _ X (cx_inc hk (by omega)) (by omega) (cx_bp_s hb (by rw [hbit, hf, Bool.and_true])) g
      | false =>
        rw [hf, if_pos (by decide)] at g
        obtain ⟨w12, X11, r2, x13, rfl, g⟩ := g
        have hd : (X.1 r 4 - Int32.ofInt 1).toInt = (i : Int) := cx_dec (by rw [hb.2.1 _ _ (by omega)]; exact h4) (by omega)
        obtain ⟨x, rfl, hx⟩ := cx_110 (by omega) (by omega) hd hk r2
        refine ih (k + 1) _ _ (cx_inc hk (by omega)) (by omega) (cx_bp_w hb (fun l hl => ?_)) g
        rw [hx l hl]
        by_cases y : l = i
        · rw [if_pos y, hf, Bool.and_false, decide_eq_true y]; rfl
        · rw [if_neg y, decide_eq_false y]; rfl
    · rw [if_neg (by omega)] at g
      have e : k = W := by omega
      subst e
      rw [g]; exact hb
theorem cx_146 (hs : sr = 54 ∨ sr = 66) (hr : r = 102 ∨ 150 ≤ r) (hW : W ≤ 1024) (h7 : X.2.2.1 95 7 = some sr) (h13 : (X.1 sr 13).toInt = (W : Int)) (hA : A.length < 30) (ht : ∀ w, w < W → fx_ib (X.1 106 w) 0 = f w) (hR : cx_Rr X r W (A ++ [(ts, h)])) (g : gx_146_2 r X u X') : cx_Rr X' r W (A ++ [(ts, fun w => h w && f w)]) ∧ cx_rf r X X' ∧ X'.1 r 3 = X.1 r 3 := by
  obtain ⟨q, g⟩ := g
  have hlen : (A ++ [(ts, h)]).length = A.length + 1 := by rw [List.length_append]; rfl
  have h4 : (X.1 r 4).toInt = ((A.length + 1 : Nat) : Int) := by rw [← hlen]; exact hR.1
  have hlast : (A ++ [(ts, h)])[A.length]? = some (ts, h) := by rw [List.getElem?_append_right (Nat.le_refl _), Nat.sub_self]; rfl
  obtain ⟨t1, t2⟩ := hR.2 A.length _ hlast
  have hb := cx_146w hs hr hW h7 h13 h4 hA t2 ht q 0 _ X rfl (Nat.zero_le _) cx_bp_0 g
  refine ⟨⟨by rw [hb.2.1 _ _ (by omega), h4, List.length_append]; rfl, fun l x hx => ?_⟩, cx_bp_rf hb, by rw [hb.2.1 _ _ (by omega)]⟩
  rw [List.getElem?_append] at hx
  split at hx
  · rename_i hl
    have hx' : (A ++ [(ts, h)])[l]? = some x := by rw [List.getElem?_append_left hl]; exact hx
    obtain ⟨e1, e2⟩ := hR.2 l x hx'
    exact ⟨cx_Rt_e e1 (fun j => hb.2.1 _ _ (by omega)) (fun j => hb.2.1 _ _ (by omega)), cx_bp_o hb (by omega) (by omega) e2⟩
  · have e1 : l = A.length := by
      have := (List.getElem?_eq_some_iff.mp hx).1
      have : l - A.length < 1 := this
      omega
    subst e1
    rw [Nat.sub_self] at hx
    cases hx
    exact ⟨cx_Rt_e t1 (fun j => hb.2.1 _ _ (by omega)) (fun j => hb.2.1 _ _ (by omega)), cx_bp_i hb (by omega)⟩
/-! the WORLDS that hold -/
theorem md_hl_0 (hpt : cx_pt X sr W pt) (hw : w < W) : X.1 (sr + 5) w = Int32.ofInt 0 ↔ pt.all (fun p => p w) = true := by
  obtain ⟨h1, h2, h3⟩ := hpt
  constructor
  · intro h
    rw [List.all_eq_true]
    intro f hf
    obtain ⟨p, hp, rfl⟩ := List.mem_iff_getElem.mp hf
    have := h3 w p hw (by omega)
    rw [h, fx_ib_0, List.getElem?_eq_getElem hp] at this
    have e : false = !pt[p] w := this
    cases hh : pt[p] w
    · rw [hh] at e; cases e
    · rfl
  · intro h
    rw [List.all_eq_true] at h
    apply fx_ib_ext
    intro p hp
    rw [h3 w p hw hp, fx_ib_0]
    cases e : pt[p]? with
    | none => rfl
    | some f =>
      have := h f (List.mem_of_getElem? e)
      show (!f w) = false
      rw [this]; rfl
/-- hold -/
theorem cx_holdl (hs : sr = 54 ∨ sr = 66) (hW : W ≤ 1024) : ∀ (q k : Nat) (y1 : Int32) (X : fx_X), y1.toInt = (k : Int) → k ≤ W → (X.1 sr 13).toInt = (W : Int) → cx_pt X sr W pt → cx_hd X sr ((List.range k).filter (fun w => pt.all (fun p => p w))) → gxF_6 sr q 7 [y1] [] [] X u X' → cx_hd X' sr (md_hl W pt) ∧ X'.2 = X.2 ∧ ∀ q k, q ≠ sr + 6 → ¬ (q = sr ∧ k = 14) → X'.1 q k = X.1 q k := by
  intro q
  induction q with
  | zero => intro k y1 X _ _ _ _ _ g; exact g.elim
  | succ q ih =>
    intro k y1 X hk hkl h13 hpt hhd g
    replace g := gxO_6_7 g
    unfold gxT_6_7 at g
    by_cases z : k < W
    · rw [if_pos (by omega), if_pos (by omega), fx_in hk] at g
      replace g := g.2
      have hrange : (List.range (k + 1)).filter (fun w => pt.all (fun p => p w)) = (List.range k).filter (fun w => pt.all (fun p => p w)) ++ (if pt.all (fun p => p k) = true then [k] else []) := by
        rw [List.range_succ, List.filter_append]
        congr 1
        by_cases y : pt.all (fun p => p k) = true
        · rw [if_pos y]; simp only [List.filter, y]
        · rw [if_neg y]
          have : pt.all (fun p => p k) = false := by simpa using y
          simp only [List.filter, this]
      have hle : ((List.range k).filter (fun w => pt.all (fun p => p w))).length ≤ k := by
        have := List.length_filter_le (fun w => pt.all (fun p => p w)) (List.range k)
        rw [List.length_range] at this
        exact this
      have h14 := hhd.1
      rcases fy_ifd g with ⟨c, gg⟩ | ⟨c, gg⟩
      · have hc : X.1 (sr + 5) k = Int32.ofInt 0 := fx_inj (by rw [c]; rfl)
        have hall := (md_hl_0 hpt z).mp hc
        rw [if_pos (by omega), fx_in h14] at gg
        obtain ⟨-, X18, rfl, X19, rfl, x20, rfl, gg⟩ := gg
        obtain ⟨a1, a2, a3⟩ := ih (k + 1) _ _ (cx_inc hk (by omega)) (by omega) (by rw [fx_rIk (by decide), fx_rIn (by omega)]; exact h13) ⟨by rw [fx_rIk (by decide), fx_rIn (by omega)]; exact hpt.1, hpt.2.1, fun w p hw hp => by rw [fx_rIn (by omega), fx_rIn (by omega)]; exact hpt.2.2 w p hw hp⟩ (by
          rw [hrange, if_pos hall]
          refine ⟨by rw [fx_rIe, fx_rIn (by omega), cx_inc h14 (by omega), List.length_append]; rfl, fun l w' hl => ?_⟩
          rw [fx_rIn (by omega)]
          rw [List.getElem?_append] at hl
          split at hl
          · rw [fx_rIk (by omega)]; exact hhd.2 l w' hl
          · have e1 : l = ((List.range k).filter (fun w => pt.all (fun p => p w))).length := by
              have := (List.getElem?_eq_some_iff.mp hl).1
              have : l - ((List.range k).filter (fun w => pt.all (fun p => p w))).length < 1 := this
              omega
            rw [e1, Nat.sub_self] at hl
            cases hl
            rw [e1, fx_rIe]; exact hk) gg
        exact ⟨a1, a2, fun q j h1 h2 => by rw [a3 q j h1 h2, fx_rI, if_neg h2, fx_rIn h1]⟩
      · obtain ⟨x10, rfl, gg⟩ := gg
        have hall : ¬ pt.all (fun p => p k) = true := fun y => c (by rw [(md_hl_0 hpt z).mpr y]; rfl)
        exact ih (k + 1) _ X (cx_inc hk (by omega)) (by omega) h13 hpt (by rw [hrange, if_neg hall, List.append_nil]; exact hhd) gg
    · rw [if_neg (by omega)] at g
      have e : k = W := by omega
      subst e
      subst g
      exact ⟨hhd, rfl, fun _ _ _ _ => rfl⟩
theorem cx_hold (hs : sr = 54 ∨ sr = 66) (hW : W ≤ 1024) (h13 : (X.1 sr 13).toInt = (W : Int)) (hpt : cx_pt X sr W pt) (g : gx_6 sr X u X') : cx_hd X' sr (md_hl W pt) ∧ X'.2 = X.2 ∧ ∀ q k, q ≠ sr + 6 → ¬ (q = sr ∧ k = 14) → X'.1 q k = X.1 q k := by
  obtain ⟨q, X2, rfl, g⟩ := g
  obtain ⟨a1, a2, a3⟩ := cx_holdl hs hW q 0 _ _ rfl (Nat.zero_le _) (by rw [fx_rIk (by decide)]; exact h13) ⟨by rw [fx_rIk (by decide)]; exact hpt.1, hpt.2.1, fun w p hw hp => by rw [fx_rIn (by omega)]; exact hpt.2.2 w p hw hp⟩ ⟨by rw [fx_rIe]; rfl, fun l w hl => by cases hl⟩ g
  exact ⟨a1, a2, fun q k h1 h2 => by rw [a3 q k h1 h2, fx_rI, if_neg h2]⟩
end CX41
