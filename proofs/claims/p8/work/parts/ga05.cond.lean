/-! CONDS, the whole (printed by wip/p2/ref/r05.py) -/
def ar_cn (f : Nat → Int32) : Nat → Nat
  | 0 => 0
  | n + 1 => ar_cn f n + (if (f n).toInt = 33 ∨ (f n).toInt = 40 then 1 else 0)
def ar_on (f : Nat → Int32) : Nat → Nat
  | 0 => 0
  | n + 1 => ar_on f n + (if (f n).toInt = 40 then 1 else 0)
def ar_bn (f : Nat → Int32) : Nat → Nat
  | 0 => 0
  | n + 1 => ar_bn f n + (if (f n).toInt = 38 ∨ (f n).toInt = 124 then 1 else 0)
def ar_tt (f : Nat → Int32) : Nat → Nat
  | 0 => 0
  | n + 1 => if (f n).toInt = 38 then 2 else if (f n).toInt = 124 then 1 else 0
/-- what waits in a COND: w of it, c of ! and (, hd conditions held, o of ( ; a: an operand has come -/
def ar_CI (f : Nat → Int32) (w : Nat) (c hd o a : Int) : Prop := (∀ i, i < w → (f i).toInt = 33 ∨ (f i).toInt = 40 ∨ (f i).toInt = 38 ∨ (f i).toInt = 124) ∧ c = ar_cn f w ∧ hd = ar_bn f w + a ∧ o = ar_on f w ∧ ∀ m, m ≤ w → ar_bn f m ≤ 2 * ar_cn f m + ar_tt f m
section ARA5
variable {tb : aj_T} {s : List Nat} {h : aj_H} {S S' S1 : aj_S} {d n : Nat} {g g' : aw_gh} {F A : List Nat} {G : aj_S → Prop} {nm : Int64 → Prop} {fl : Bool} {la ho hu ht q : Nat} {f f' : Nat → Int32} {w w' c c' hd hd' o a : Int}
theorem ar_cg : ∀ n, (∀ i, i < n → f' i = f i) → ar_cn f' n = ar_cn f n ∧ ar_on f' n = ar_on f n ∧ ar_bn f' n = ar_bn f n ∧ ar_tt f' n = ar_tt f n := by
  intro n
  induction n with
  | zero => intro _; exact ⟨rfl, rfl, rfl, rfl⟩
  | succ n ih =>
    intro hh
    obtain ⟨e1, e2, e3, -⟩ := ih (fun i hi => hh i (by omega))
    have e5 : ar_tt f' (n + 1) = ar_tt f (n + 1) := by
      show (if (f' n).toInt = 38 then 2 else if (f' n).toInt = 124 then 1 else 0) = (if (f n).toInt = 38 then 2 else if (f n).toInt = 124 then 1 else 0)
      rw [hh n (by omega)]
    unfold ar_cn ar_on ar_bn
    rw [e1, e2, e3, hh n (by omega)]
    exact ⟨rfl, rfl, rfl, e5⟩
theorem ar_CI_0 : ar_CI f 0 0 0 0 0 := ⟨fun _ z => absurd z (Nat.not_lt_zero _), rfl, rfl, rfl, fun m hm => by
  obtain rfl : m = 0 := by omega
  exact Nat.le_refl _⟩
theorem ar_tt2 (n : Nat) : ar_tt f n ≤ 2 := by
  cases n with
  | zero => exact Nat.zero_le _
  | succ n =>
    show (if (f n).toInt = 38 then 2 else if (f n).toInt = 124 then 1 else 0) ≤ 2
    split
    · omega
    · split <;> omega
theorem ar_CI_n : ∀ n : Nat, (∀ i, i < n → (f i).toInt = 33 ∨ (f i).toInt = 40 ∨ (f i).toInt = 38 ∨ (f i).toInt = 124) → n = ar_cn f n + ar_bn f n ∧ ar_on f n ≤ ar_cn f n := by
  intro n
  induction n with
  | zero => intro _; exact ⟨rfl, Nat.le_refl _⟩
  | succ n ih =>
    intro hh
    obtain ⟨e1, e2⟩ := ih (fun i hi => hh i (by omega))
    have := hh n (by omega)
    unfold ar_cn ar_bn ar_on
    by_cases h1 : (f n).toInt = 33
    · rw [if_pos (Or.inl h1), if_neg (by omega), if_neg (by omega)]
      omega
    · by_cases h2 : (f n).toInt = 40
      · rw [if_pos (Or.inr h2), if_neg (by omega), if_pos h2]
        omega
      · rw [if_neg (by omega), if_pos (by omega), if_neg h2]
        omega
theorem ar_CI_b (ci : ar_CI f n c hd o a) (hc : c ≤ 8) : n ≤ 26 ∧ hd ≤ 18 + a ∧ 0 ≤ o ∧ o ≤ c ∧ 0 ≤ c ∧ a ≤ hd := by
  obtain ⟨k1, k2, k3, k4, k5⟩ := ci
  have e := ar_CI_n n k1
  have e2 := k5 n (Nat.le_refl _)
  have e3 := ar_tt2 (f := f) n
  omega
theorem ar_upd {v : Int32} : ∀ i, i < n → upd f n v i = f i := fun i hi => if_neg (by omega)
theorem ar_upd1 {v : Int32} : upd f n v n = v := if_pos rfl
theorem ar_CI_all {v : Int32} (ci : ar_CI f n c hd o a) (hv : v.toInt = 33 ∨ v.toInt = 40 ∨ v.toInt = 38 ∨ v.toInt = 124) : ∀ i, i < n + 1 → (upd f n v i).toInt = 33 ∨ (upd f n v i).toInt = 40 ∨ (upd f n v i).toInt = 38 ∨ (upd f n v i).toInt = 124 := by
  intro i hi
  by_cases e : i = n
  · subst e
    rw [ar_upd1]
    exact hv
  · rw [ar_upd i (by omega)]
    exact ci.1 i (by omega)
theorem ar_CI_push {v : Int32} (ci : ar_CI f n c hd o a) (hv : v.toInt = 33 ∨ v.toInt = 40) {c' o' : Int} (hc : c' = c + 1) (ho : o' = if v.toInt = 40 then o + 1 else o) : ar_CI (upd f n v) (n + 1) c' hd o' a := by
  obtain ⟨e1, e2, e3, e4⟩ := ar_cg n (ar_upd (f := f) (n := n) (v := v))
  have al := ar_CI_all (v := v) ci (by omega)
  obtain ⟨k1, k2, k3, k4, k5⟩ := ci
  have p1 : ar_cn (upd f n v) (n + 1) = ar_cn f n + 1 := by
    show ar_cn (upd f n v) n + (if (upd f n v n).toInt = 33 ∨ (upd f n v n).toInt = 40 then 1 else 0) = _
    rw [ar_upd1, e1, if_pos hv]
  have p2 : ar_bn (upd f n v) (n + 1) = ar_bn f n := by
    show ar_bn (upd f n v) n + (if (upd f n v n).toInt = 38 ∨ (upd f n v n).toInt = 124 then 1 else 0) = _
    rw [ar_upd1, e3, if_neg (by omega)]
    rfl
  have p3 : ar_on (upd f n v) (n + 1) = ar_on f n + (if v.toInt = 40 then 1 else 0) := by
    show ar_on (upd f n v) n + (if (upd f n v n).toInt = 40 then 1 else 0) = _
    rw [ar_upd1, e2]
  refine ⟨al, by rw [p1]; omega, by rw [p2]; exact k3, ?_, fun m hm => ?_⟩
  · rw [p3, ho]
    split <;> omega
  · by_cases em : m = n + 1
    · subst em
      rw [p1, p2]
      have := k5 n (Nat.le_refl _)
      have := ar_tt2 (f := f) n
      omega
    · obtain ⟨q1, q2, q3, q4⟩ := ar_cg m (fun i hi => ar_upd (f := f) (n := n) (v := v) i (by omega))
      rw [q1, q3, q4]
      exact k5 m (by omega)
theorem ar_CI_op {v : Int32} (ci : ar_CI f n c hd o 1) (hv : (v.toInt = 38 ∧ ¬ (1 ≤ n ∧ (f (n - 1)).toInt = 38)) ∨ (v.toInt = 124 ∧ ¬ (1 ≤ n ∧ (f (n - 1)).toInt = 38) ∧ ¬ (1 ≤ n ∧ (f (n - 1)).toInt = 124))) : ar_CI (upd f n v) (n + 1) c hd o 0 := by
  obtain ⟨e1, e2, e3, e4⟩ := ar_cg n (ar_upd (f := f) (n := n) (v := v))
  have al := ar_CI_all (v := v) ci (by omega)
  obtain ⟨k1, k2, k3, k4, k5⟩ := ci
  have p1 : ar_cn (upd f n v) (n + 1) = ar_cn f n := by
    show ar_cn (upd f n v) n + (if (upd f n v n).toInt = 33 ∨ (upd f n v n).toInt = 40 then 1 else 0) = _
    rw [ar_upd1, e1, if_neg (by omega)]
    rfl
  have p2 : ar_bn (upd f n v) (n + 1) = ar_bn f n + 1 := by
    show ar_bn (upd f n v) n + (if (upd f n v n).toInt = 38 ∨ (upd f n v n).toInt = 124 then 1 else 0) = _
    rw [ar_upd1, e3, if_pos (by omega)]
  have p3 : ar_on (upd f n v) (n + 1) = ar_on f n := by
    show ar_on (upd f n v) n + (if (upd f n v n).toInt = 40 then 1 else 0) = _
    rw [ar_upd1, e2, if_neg (by omega)]
    rfl
  have p4 : ar_tt (upd f n v) (n + 1) = if v.toInt = 38 then 2 else 1 := by
    show (if (upd f n v n).toInt = 38 then 2 else if (upd f n v n).toInt = 124 then 1 else 0) = _
    rw [ar_upd1]
    split
    · rfl
    · rw [if_pos (by omega)]
  have p5 : v.toInt = 38 → ar_tt f n ≤ 1 := by
    intro z
    cases n with
    | zero => exact Nat.zero_le _
    | succ n =>
      have hv : ¬ (f n).toInt = 38 := fun y => by
        rcases hv with q | q
        · exact q.2 ⟨by omega, y⟩
        · exact q.2.1 ⟨by omega, y⟩
      show (if (f n).toInt = 38 then 2 else if (f n).toInt = 124 then 1 else 0) ≤ 1
      rw [if_neg hv]
      split <;> omega
  have p6 : v.toInt = 124 → ar_tt f n = 0 := by
    intro z
    cases n with
    | zero => rfl
    | succ n =>
      have q : ¬ (1 ≤ n + 1 ∧ (f n).toInt = 38) ∧ ¬ (1 ≤ n + 1 ∧ (f n).toInt = 124) := by
        rcases hv with q | q
        · omega
        · exact q.2
      show (if (f n).toInt = 38 then 2 else if (f n).toInt = 124 then 1 else 0) = 0
      rw [if_neg (fun y => q.1 ⟨by omega, y⟩), if_neg (fun y => q.2 ⟨by omega, y⟩)]
  refine ⟨al, by rw [p1]; exact k2, by rw [p2]; omega, by rw [p3]; exact k4, fun m hm => ?_⟩
  by_cases em : m = n + 1
  · subst em
    rw [p1, p2, p4]
    have := k5 n (Nat.le_refl _)
    split
    · rename_i z
      have := p5 z
      omega
    · have := p6 (by omega)
      omega
  · obtain ⟨q1, q2, q3, q4⟩ := ar_cg m (fun i hi => ar_upd (f := f) (n := n) (v := v) i (by omega))
    rw [q1, q3, q4]
    exact k5 m (by omega)
theorem ar_CI_pre (ci : ar_CI f w.toNat c hd o 1) (hw : 1 ≤ w) (ht : (f (w - 1).toNat).toInt ≠ 40) : ((f (w - 1).toNat).toInt = 33 → 1 ≤ c ∧ 1 ≤ hd) ∧ ((f (w - 1).toNat).toInt ≠ 33 → 2 ≤ hd) := by
  obtain ⟨k1, k2, k3, k4, k5⟩ := ci
  obtain ⟨n, rfl⟩ : ∃ n : Nat, w = n + 1 := ⟨(w - 1).toNat, by omega⟩
  rw [show ((n : Int) + 1).toNat = n + 1 by omega] at k1 k2 k3
  rw [show ((n : Int) + 1 - 1).toNat = n by omega] at ht ⊢
  have e := k1 n (by omega)
  unfold ar_cn at k2
  unfold ar_bn at k3
  refine ⟨fun z => ?_, fun z => ?_⟩
  · rw [if_pos (Or.inl z)] at k2
    omega
  · rw [if_pos (by omega)] at k3
    omega
theorem ar_CI_red (ci : ar_CI f w.toNat c hd o 1) (hw : 1 ≤ w) (ht : (f (w - 1).toNat).toInt ≠ 40) (hw' : w' = w - 1) (h1 : (f (w - 1).toNat).toInt = 33 → c' = c - 1 ∧ hd' = hd) (h2 : (f (w - 1).toNat).toInt ≠ 33 → c' = c ∧ hd' = hd - 1) : ar_CI f w'.toNat c' hd' o 1 := by
  obtain ⟨k1, k2, k3, k4, k5⟩ := ci
  obtain ⟨n, rfl⟩ : ∃ n : Nat, w = n + 1 := ⟨(w - 1).toNat, by omega⟩
  rw [show ((n : Int) + 1).toNat = n + 1 by omega] at k1 k2 k3 k4 k5
  rw [show ((n : Int) + 1 - 1).toNat = n by omega] at ht h1 h2
  rw [show w'.toNat = n by omega]
  have e := k1 n (by omega)
  unfold ar_cn at k2
  unfold ar_bn at k3
  unfold ar_on at k4
  rw [if_neg ht] at k4
  refine ⟨fun i hi => k1 i (by omega), ?_, ?_, k4, fun m hm => k5 m (by omega)⟩
  · by_cases z : (f n).toInt = 33
    · rw [if_pos (Or.inl z)] at k2
      have := h1 z
      omega
    · rw [if_neg (by omega)] at k2
      have := h2 z
      omega
  · by_cases z : (f n).toInt = 33
    · rw [if_neg (by omega)] at k3
      have := h1 z
      omega
    · rw [if_pos (by omega)] at k3
      have := h2 z
      omega
theorem ar_CI_40 (ci : ar_CI f w.toNat c hd o 1) (hw : 1 ≤ w) (ht : (f (w - 1).toNat).toInt = 40) (hw' : w' = w - 1) {o' : Int} (hc : c' = c - 1) (ho : o' = o - 1) : ar_CI f w'.toNat c' hd o' 1 ∧ 1 ≤ c ∧ 1 ≤ o := by
  obtain ⟨k1, k2, k3, k4, k5⟩ := ci
  obtain ⟨n, rfl⟩ : ∃ n : Nat, w = n + 1 := ⟨(w - 1).toNat, by omega⟩
  rw [show ((n : Int) + 1).toNat = n + 1 by omega] at k1 k2 k3 k4 k5
  rw [show ((n : Int) + 1 - 1).toNat = n by omega] at ht
  rw [show w'.toNat = n by omega]
  unfold ar_cn at k2
  unfold ar_bn at k3
  unfold ar_on at k4
  rw [if_pos ht] at k4
  rw [if_pos (Or.inr ht)] at k2
  rw [if_neg (by omega)] at k3
  exact ⟨⟨fun i hi => k1 i (by omega), by omega, k3, by omega, fun m hm => k5 m (by omega)⟩, by omega, by omega⟩
theorem ar_CI_o1 (ci : ar_CI f w.toNat c hd o a) (ho : 1 ≤ o) : 1 ≤ w := by
  by_cases z : 1 ≤ w
  · exact z
  · exfalso
    rw [show w.toNat = 0 by omega] at ci
    have := ci.2.2.2.1
    unfold ar_on at this
    omega
theorem ar_CI_o0 (ci : ar_CI f w.toNat c hd o a) (ho : o ≤ 0) (hw : 1 ≤ w) : (f (w - 1).toNat).toInt ≠ 40 := by
  obtain ⟨n, rfl⟩ : ∃ n : Nat, w = n + 1 := ⟨(w - 1).toNat, by omega⟩
  have k4 := ci.2.2.2.1
  rw [show ((n : Int) + 1).toNat = n + 1 by omega] at k4
  rw [show ((n : Int) + 1 - 1).toNat = n by omega]
  intro z
  unfold ar_on at k4
  rw [if_pos z] at k4
  omega
theorem ar_cond_L249_192 (hU : aw_U tb s h) (hd : 8 ≤ d + 1) (N23 : Nat) (S15 : aj_S) (x17 : Int32) (ihL23_13 : ∀ (S15 : aj_S) (lv16 : aj_V) (x17 : Int32), (aj_lv lv16 0 = some (.ref 117)) → (aj_lv lv16 1 = some (.int x17)) → (aw_I s h (aw_G (nm, fl, la, 0, 0, ht)) S15) → (aw_fr [24, 25, 26, 27, 28, 29, 30, 31, 33, 34, 35, 36, 38, 39, 40, 41, 43, 44] [20, 22] S S15) → (ar_CI (S15.2.2.1 22) ((S15.1 43).toInt).toNat (S15.1 41).toInt (S15.1 44).toInt x17.toInt 0) → ((S.1 30).toInt + 0 ≤ (S15.1 30).toInt) → (1001 - (S15.1 30).toInt).toNat < N23 → aw_W tb h d aj_m237 23 lv16 [] S15 ((ar_QT s h (nm, fl, la, 0, 0, ht) [24, 25, 26, 27, 28, 29, 30, 31, 33, 34, 35, 36, 38, 39, 40, 41, 43, 44] [20, 22] S (fun _ => True)))) (hm23 : (1001 - (S15.1 30).toInt).toNat < N23 + 1) (N128 : Nat) (S160 : aj_S) (x162 : Int32) (ihL128_158 : ∀ (S160 : aj_S) (lv161 : aj_V) (x162 : Int32), (aj_lv lv161 0 = some (.ref 117)) → (aj_lv lv161 1 = some (.int x162)) → (aw_I s h (aw_G (nm, fl, la, 0, 0, ht)) S160) → (aw_fr [24, 25, 26, 27, 28, 29, 30, 31, 33, 34, 35, 36, 38, 39, 40, 41, 43, 44] [20, 22] S S160) → (ar_CI (S160.2.2.1 22) ((S160.1 43).toInt).toNat (S160.1 41).toInt (S160.1 44).toInt x162.toInt 1) → ((S.1 30).toInt + 1 ≤ (S160.1 30).toInt) → ((S15.1 30).toInt + 1 ≤ (S160.1 30).toInt) → ((S160.1 43).toInt).toNat < N128 → aw_W tb h d aj_m237 128 lv161 [] S160 ((ar_QT s h (nm, fl, la, 0, 0, ht) [24, 25, 26, 27, 28, 29, 30, 31, 33, 34, 35, 36, 38, 39, 40, 41, 43, 44] [20, 22] S (fun _ => True)))) (hm128 : ((S160.1 43).toInt).toNat < N128 + 1) (S183 : aj_S) : ∀ (N : Nat) (S194 : aj_S) (lv195 : aj_V) (x196 : Int32) (x197 : Int32), (aj_lv lv195 0 = some (.ref 117)) → (aj_lv lv195 1 = some (.int x196)) → (aj_lv lv195 2 = some (.int x197)) → (aw_I s h (aw_G (nm, fl, la, 0, 0, ht)) S194) → (aw_fr [24, 25, 26, 27, 28, 29, 30, 31, 33, 34, 35, 36, 38, 39, 40, 41, 43, 44] [20, 22] S S194) → (1 ≤ x197.toInt ∧ x197.toInt ≤ 1) → (ar_CI (S194.2.2.1 22) ((S194.1 43).toInt).toNat (S194.1 41).toInt (S194.1 44).toInt x196.toInt 1) → ((S.1 30).toInt + 1 ≤ (S194.1 30).toInt) → ((S15.1 30).toInt + 1 ≤ (S194.1 30).toInt) → ((S194.1 26).toInt = 3 ∧ ((S194.1 29).toInt = 38 ∨ (S194.1 29).toInt = 124)) → ((S194.1 43).toInt).toNat < N → aw_W tb h d aj_m237 249 lv195 [] S194 ((ar_QT s h (nm, fl, la, 0, 0, ht) [24, 25, 26, 27, 28, 29, 30, 31, 33, 34, 35, 36, 38, 39, 40, 41, 43, 44] [20, 22] S (fun _ => True))) := by
  have hs : aw_sT s := aw_hy_sT hU.2.2
  intro N249
  induction N249 with
  | zero =>
    intro S194 lv195 x196 x197 hlv195_0 hlv195_1 hlv195_2 hI198 fr199 bx197 ci249 ck249 cA249 k249 hm249
    omega
  | succ N249 ihL249_192 =>
    intro S194 lv195 x196 x197 hlv195_0 hlv195_1 hlv195_2 hI198 fr199 bx197 ci249 ck249 cA249 k249 hm249
    have hI200 : aw_I s h (aw_sm S194) S194 := ⟨hI198.1, aw_sm_rf⟩
    have b201 : 0 ≤ (S194.1 41).toInt ∧ (S194.1 41).toInt ≤ 8 := aw_bd_f hs (hI200).1 (by decide) rfl
    have b202 : 0 ≤ (S194.1 43).toInt ∧ (S194.1 43).toInt ≤ 39 := aw_bd_f hs (hI200).1 (by decide) rfl
    have b203 : 0 ≤ (S194.1 44).toInt ∧ (S194.1 44).toInt ≤ 31 := aw_bd_f hs (hI200).1 (by decide) rfl
    have b204 : 0 ≤ (S194.1 30).toInt ∧ (S194.1 30).toInt ≤ 1001 := aw_bd_f hs (hI200).1 (by decide) rfl
    have cbci249 := ar_CI_b ci249 (by omega)
    refine aw_l2 aj_d237 rfl rfl hlv195_0 ?_
    refine aw_n aj_d237 rfl rfl ?_
    refine aw_k hU.1 aj_d237 rfl rfl [_] rfl rfl rfl (Nat.le_of_ble_eq_true rfl) (ar_isWaiting hU (hI200).1 (by omega)) ?_
    rintro _ zb205 ⟨fb205, b205, rfl, kb205⟩
    rw [fb205]
    rcases kb205 with ⟨hb205, pb205, qb205⟩ | ⟨hb205, pb205⟩
    · skip
      have qb205 : (S194.2.2.1 22 ((S194.1 43).toInt - 1).toNat).toInt = (38 : Int) := qb205
      have pb205 : 1 ≤ (S194.1 43).toInt := pb205
      show aw_W _ _ _ _ 255 lv195 [.int b205] _ _
      refine aw_z (tgt := 276) aj_d237 rfl rfl (fun q206 => ?_) (fun q206 => ?_)
      · have q206 : (1 : Int) ≠ (0 : Int) := aw_t_ne (a := (1 : Int)) (b := (0 : Int)) hb205 rfl q206
        refine aw_l2 aj_d237 rfl rfl hlv195_0 ?_
        have pr207 := ar_CI_pre ci249 (by omega) (by rw [qb205]; decide)
        refine aw_k hU.1 aj_d237 rfl rfl [] rfl rfl rfl (Nat.le_of_ble_eq_true rfl) (ar_reduce hU (hI200).1 (by omega) (show 1 ≤ (S194.1 43).toInt by omega) pr207.1 pr207.2) ?_
        rintro _ S207 ⟨hT207, fc207, rfl, r1207, r2207, r3207⟩
        have r1207 : (S207.1 43).toInt = (S194.1 43).toInt - 1 := r1207
        have fr209 := aw_fr_tr fr199 (aw_fr_sub (F := [41, 43, 44]) (A := [20]) (by decide) (by decide) fc207)
        have hI210 : aw_I s h (aw_sm S194) S207 := ⟨hT207, aw_sm_tr hI200.2 (aw_fr_sm (by decide) (by decide) (by decide) (F := [41, 43, 44]) (A := [20]) fc207)⟩
        have ci208 : ar_CI (S207.2.2.1 22) ((S207.1 43).toInt).toNat (S207.1 41).toInt (S207.1 44).toInt x196.toInt 1 := by
          rw [(fc207.2 22 (by decide)).1]
          exact ar_CI_red ci249 (by omega) (by rw [qb205]; decide) r1207 r2207 r3207
        have b211 : 0 ≤ (S207.1 41).toInt ∧ (S207.1 41).toInt ≤ 8 := aw_bd_f hs (hI210).1 (by decide) rfl
        have b212 : 0 ≤ (S207.1 43).toInt ∧ (S207.1 43).toInt ≤ 39 := aw_bd_f hs (hI210).1 (by decide) rfl
        have b213 : 0 ≤ (S207.1 44).toInt ∧ (S207.1 44).toInt ≤ 31 := aw_bd_f hs (hI210).1 (by decide) rfl
        have c214 : (S207.1 30).toInt = (S194.1 30).toInt := (congrArg Int32.toInt (fc207.1 30 (by decide)).1).trans rfl
        have b215 : 0 ≤ (S207.1 30).toInt ∧ (S207.1 30).toInt ≤ 1001 := aw_bd_f hs (hI210).1 (by decide) rfl
        have cbci208 := ar_CI_b ci208 (by omega)
        show aw_W _ _ _ _ 280 lv195 [] _ _
        refine aw_n aj_d237 rfl rfl ?_
        have b216 : 0 ≤ (S194.1 26).toInt ∧ (S194.1 26).toInt ≤ 5 := aw_bd_f hs (hI200).1 (by decide) rfl
        have c217 : (S207.1 26).toInt = (S194.1 26).toInt := (congrArg Int32.toInt (fc207.1 26 (by decide)).1).trans rfl
        have b218 : 0 ≤ (S207.1 26).toInt ∧ (S207.1 26).toInt ≤ 5 := aw_bd_f hs (hI210).1 (by decide) rfl
        have c219 : (S207.1 29).toInt = (S194.1 29).toInt := (congrArg Int32.toInt (fc207.1 29 (by decide)).1).trans rfl
        exact ihL249_192 S207 lv195 (x196) (x197) hlv195_0 hlv195_1 hlv195_2 ⟨(hI210).1, (aw_G_sm hI210.2 hI198.2)⟩ fr209 (by first | omega | decide) ci208 (show _ ≤ ((S207.1 30)).toInt by omega) (show _ ≤ ((S207.1 30)).toInt by omega) (show ((S207.1 26)).toInt = 3 ∧ (((S207.1 29)).toInt = 38 ∨ ((S207.1 29)).toInt = 124) by omega) (show (((S207.1 43)).toInt).toNat < _ by omega)
      · have q206 : (1 : Int) = (0 : Int) := aw_t_ne (a := (1 : Int)) (b := (0 : Int)) hb205 rfl q206
        exfalso
        omega
    · skip
      have pb205 : ¬ (1 ≤ (S194.1 43).toInt ∧ (S194.2.2.1 22 ((S194.1 43).toInt - 1).toNat).toInt = (38 : Int)) := pb205
      show aw_W _ _ _ _ 255 lv195 [.int b205] _ _
      refine aw_z (tgt := 276) aj_d237 rfl rfl (fun q220 => ?_) (fun q220 => ?_)
      · have q220 : (0 : Int) ≠ (0 : Int) := aw_t_ne (a := (0 : Int)) (b := (0 : Int)) hb205 rfl q220
        exfalso
        omega
      · have q220 : (0 : Int) = (0 : Int) := aw_t_ne (a := (0 : Int)) (b := (0 : Int)) hb205 rfl q220
        refine aw_l2 aj_d237 rfl rfl hlv195_0 ?_
        refine aw_n aj_d237 rfl rfl ?_
        refine aw_k hU.1 aj_d237 rfl rfl [_] rfl rfl rfl (Nat.le_of_ble_eq_true rfl) (ar_isSign hU (by omega) (b := (124 : Int)) rfl) ?_
        have b223 : 0 ≤ (S194.1 26).toInt ∧ (S194.1 26).toInt ≤ 5 := aw_bd_f hs (hI200).1 (by decide) rfl
        rintro _ S222 ⟨eS222, b221, rfl, kb221⟩
        rw [eS222]
        rcases kb221 with ⟨hb221, pb221, qb221⟩ | ⟨hb221, pb221⟩
        · skip
          have pb221 : ((S194.1 26)).toInt = 3 := pb221
          have qb221 : ((S194.1 29)).toInt = (124 : Int) := qb221
          show aw_W _ _ _ _ 264 lv195 [.int b221] _ _
          refine aw_z (tgt := 283) aj_d237 rfl rfl (fun q224 => ?_) (fun q224 => ?_)
          · have q224 : (1 : Int) = (0 : Int) := aw_t_eq (a := (1 : Int)) (b := (0 : Int)) hb221 rfl q224
            exfalso
            omega
          · have q224 : (1 : Int) ≠ (0 : Int) := aw_t_eq (a := (1 : Int)) (b := (0 : Int)) hb221 rfl q224
            refine aw_l2 aj_d237 rfl rfl hlv195_0 ?_
            refine aw_n aj_d237 rfl rfl ?_
            refine aw_k hU.1 aj_d237 rfl rfl [_] rfl rfl rfl (Nat.le_of_ble_eq_true rfl) (ar_isWaiting hU (hI200).1 (by omega)) ?_
            rintro _ zb225 ⟨fb225, b225, rfl, kb225⟩
            rw [fb225]
            rcases kb225 with ⟨hb225, pb225, qb225⟩ | ⟨hb225, pb225⟩
            · skip
              have qb225 : (S194.2.2.1 22 ((S194.1 43).toInt - 1).toNat).toInt = (124 : Int) := qb225
              have pb225 : 1 ≤ (S194.1 43).toInt := pb225
              show aw_W _ _ _ _ 273 lv195 [.int b225] _ _
              refine aw_z (tgt := 283) aj_d237 rfl rfl (fun q226 => ?_) (fun q226 => ?_)
              · have q226 : (1 : Int) = (0 : Int) := aw_t_eq (a := (1 : Int)) (b := (0 : Int)) hb225 rfl q226
                exfalso
                omega
              · have q226 : (1 : Int) ≠ (0 : Int) := aw_t_eq (a := (1 : Int)) (b := (0 : Int)) hb225 rfl q226
                refine aw_l2 aj_d237 rfl rfl hlv195_0 ?_
                have pr227 := ar_CI_pre ci249 (by omega) (by rw [qb225]; decide)
                refine aw_k hU.1 aj_d237 rfl rfl [] rfl rfl rfl (Nat.le_of_ble_eq_true rfl) (ar_reduce hU (hI200).1 (by omega) (show 1 ≤ (S194.1 43).toInt by omega) pr227.1 pr227.2) ?_
                rintro _ S227 ⟨hT227, fc227, rfl, r1227, r2227, r3227⟩
                have r1227 : (S227.1 43).toInt = (S194.1 43).toInt - 1 := r1227
                have fr229 := aw_fr_tr fr199 (aw_fr_sub (F := [41, 43, 44]) (A := [20]) (by decide) (by decide) fc227)
                have hI230 : aw_I s h (aw_sm S194) S227 := ⟨hT227, aw_sm_tr hI200.2 (aw_fr_sm (by decide) (by decide) (by decide) (F := [41, 43, 44]) (A := [20]) fc227)⟩
                have ci228 : ar_CI (S227.2.2.1 22) ((S227.1 43).toInt).toNat (S227.1 41).toInt (S227.1 44).toInt x196.toInt 1 := by
                  rw [(fc227.2 22 (by decide)).1]
                  exact ar_CI_red ci249 (by omega) (by rw [qb225]; decide) r1227 r2227 r3227
                have b231 : 0 ≤ (S227.1 41).toInt ∧ (S227.1 41).toInt ≤ 8 := aw_bd_f hs (hI230).1 (by decide) rfl
                have b232 : 0 ≤ (S227.1 43).toInt ∧ (S227.1 43).toInt ≤ 39 := aw_bd_f hs (hI230).1 (by decide) rfl
                have b233 : 0 ≤ (S227.1 44).toInt ∧ (S227.1 44).toInt ≤ 31 := aw_bd_f hs (hI230).1 (by decide) rfl
                have c234 : (S227.1 30).toInt = (S194.1 30).toInt := (congrArg Int32.toInt (fc227.1 30 (by decide)).1).trans rfl
                have b235 : 0 ≤ (S227.1 30).toInt ∧ (S227.1 30).toInt ≤ 1001 := aw_bd_f hs (hI230).1 (by decide) rfl
                have cbci228 := ar_CI_b ci228 (by omega)
                show aw_W _ _ _ _ 280 lv195 [] _ _
                refine aw_n aj_d237 rfl rfl ?_
                have c236 : (S227.1 26).toInt = (S194.1 26).toInt := (congrArg Int32.toInt (fc227.1 26 (by decide)).1).trans rfl
                have b237 : 0 ≤ (S227.1 26).toInt ∧ (S227.1 26).toInt ≤ 5 := aw_bd_f hs (hI230).1 (by decide) rfl
                have c238 : (S227.1 29).toInt = (S194.1 29).toInt := (congrArg Int32.toInt (fc227.1 29 (by decide)).1).trans rfl
                exact ihL249_192 S227 lv195 (x196) (x197) hlv195_0 hlv195_1 hlv195_2 ⟨(hI230).1, (aw_G_sm hI230.2 hI198.2)⟩ fr229 (by first | omega | decide) ci228 (show _ ≤ ((S227.1 30)).toInt by omega) (show _ ≤ ((S227.1 30)).toInt by omega) (show ((S227.1 26)).toInt = 3 ∧ (((S227.1 29)).toInt = 38 ∨ ((S227.1 29)).toInt = 124) by omega) (show (((S227.1 43)).toInt).toNat < _ by omega)
            · skip
              have pb225 : ¬ (1 ≤ (S194.1 43).toInt ∧ (S194.2.2.1 22 ((S194.1 43).toInt - 1).toNat).toInt = (124 : Int)) := pb225
              show aw_W _ _ _ _ 273 lv195 [.int b225] _ _
              refine aw_z (tgt := 283) aj_d237 rfl rfl (fun q239 => ?_) (fun q239 => ?_)
              · have q239 : (0 : Int) = (0 : Int) := aw_t_eq (a := (0 : Int)) (b := (0 : Int)) hb225 rfl q239
                refine aw_l2 aj_d237 rfl rfl hlv195_0 ?_
                refine aw_g hU.1 aj_d237 rfl rfl (by decide) (v := .ref 139) rfl ?_
                refine aw_l2 aj_d237 rfl rfl hlv195_0 ?_
                refine aw_g hU.1 aj_d237 rfl rfl (by decide) (v := .int (S194.1 43)) rfl ?_
                refine aw_l2 aj_d237 rfl rfl hlv195_0 ?_
                refine aw_g hU.1 aj_d237 rfl rfl (by decide) (v := .int (S194.1 29)) rfl ?_
                refine aw_st (k := 22) hU.1 aj_d237 (Or.inl ⟨rfl, rfl⟩) rfl (by decide) (by decide) rfl (a := (S194.1 43).toInt) rfl (by omega) (by omega) ?_
                have hI240 := aw_I_a (aw_UV hU aw_Gs_sm) (k := 22) (j := ((S194.1 43).toInt).toNat) (v := aj_nar 0 (S194.1 29)) hI200 (by decide) (by decide) (by decide) rfl (by decide) (by decide) rfl (aw_full _)
                have fr241 := aw_fr_a (k := 22) (j := ((S194.1 43).toInt).toNat) (v := aj_nar 0 (S194.1 29)) (by decide) fr199
                refine aw_l2 aj_d237 rfl rfl hlv195_0 ?_
                refine aw_n aj_d237 rfl rfl ?_
                refine aw_g hU.1 aj_d237 rfl rfl (by decide) (v := .int (S194.1 43)) rfl ?_
                refine aw_n aj_d237 rfl rfl ?_
                refine aw_add aj_d237 rfl (a := (S194.1 43).toInt) (b := (1 : Int)) rfl rfl (by omega) (by omega) (fun x242 ex242 => ?_)
                refine aw_p hU.1 aj_d237 rfl rfl (by decide) rfl ?_
                have hI243 := aw_I_f (aw_UV hU aw_Gs_sm) (k := 43) (v := x242) hI240 (by decide) (by decide) rfl (aw_bp (a := x242.toInt) rfl (by omega) (by omega))
                have fr244 := aw_fr_f (k := 43) (v := x242) (by decide) fr241
                have ci245 : ar_CI (((aw_wf (aw_wa S194 22 ((S194.1 43).toInt).toNat (aj_nar 0 (S194.1 29))) 43 x242)).2.2.1 22) ((((aw_wf (aw_wa S194 22 ((S194.1 43).toInt).toNat (aj_nar 0 (S194.1 29))) 43 x242)).1 43).toInt).toNat (((aw_wf (aw_wa S194 22 ((S194.1 43).toInt).toNat (aj_nar 0 (S194.1 29))) 43 x242)).1 41).toInt (((aw_wf (aw_wa S194 22 ((S194.1 43).toInt).toNat (aj_nar 0 (S194.1 29))) 43 x242)).1 44).toInt x196.toInt 0 := by
                  show ar_CI (upd (S194.2.2.1 22) ((S194.1 43).toInt).toNat ((S194.1 29))) ((x242).toInt).toNat ((S194.1 41).toInt) (S194.1 44).toInt x196.toInt 0
                  rw [show ((x242).toInt).toNat = ((S194.1 43).toInt).toNat + 1 by omega]
                  have e7 : ((S194.1 43).toInt - 1).toNat = ((S194.1 43).toInt).toNat - 1 := by omega
                  rw [e7] at pb205 pb225
                  refine ar_CI_op ci249 ?_
                  rcases k249 with ⟨-, k9 | k9⟩
                  · exact Or.inl ⟨k9, fun z => pb205 ⟨by omega, z.2⟩⟩
                  · exact Or.inr ⟨k9, fun z => pb205 ⟨by omega, z.2⟩, fun z => pb225 ⟨by omega, z.2⟩⟩
                refine aw_l2 aj_d237 rfl rfl hlv195_0 ?_
                refine aw_k hU.1 aj_d237 rfl rfl [] rfl rfl rfl (Nat.le_of_ble_eq_true rfl) (ar_pass hU (hI243).1 (aw_G_sm hI243.2 hI198.2) (by omega) (show ((S194.1 26)).toInt ≠ 0 by omega) (show ¬ (((S194.1 26)).toInt = 3 ∧ ((S194.1 29)).toInt = 63) by omega) (show ((S194.1 26)).toInt = 4 → ((S194.1 29)).toInt = 3 ∨ 6 ≤ ((S194.1 29)).toInt by omega)) ?_
                rintro _ S246 ⟨hT246, fc246, ⟨b246, rfl, hb246, hG246, fd246, hz246⟩ | ⟨b246, rfl, hb246, hG246, ck246, fd246, cj246⟩⟩
                · skip
                  have fr247 := aw_fr_tr fr244 (aw_fr_sub (F := [24, 25, 31]) (A := []) (by decide) (by decide) fd246)
                  have hI248 : aw_I s h (aw_sm S246) S246 := ⟨hT246, aw_sm_rf⟩
                  show aw_W _ _ _ _ 310 lv195 [.int b246] _ _
                  refine aw_z (tgt := 19) aj_d237 rfl rfl (fun q249 => ?_) (fun q249 => ?_)
                  · have q249 : (0 : Int) ≠ (0 : Int) := aw_t_ne (a := (0 : Int)) (b := (0 : Int)) hb246 rfl q249
                    exfalso
                    omega
                  · have q249 : (0 : Int) = (0 : Int) := aw_t_ne (a := (0 : Int)) (b := (0 : Int)) hb246 rfl q249
                    refine aw_n aj_d237 rfl rfl ?_
                    refine aw_e aj_d237 rfl rfl ?_
                    have c250 : (S246.1 30).toInt = (S194.1 30).toInt := (congrArg Int32.toInt (fd246.1 30 (by decide)).1).trans rfl
                    have b251 : 0 ≤ (S246.1 30).toInt ∧ (S246.1 30).toInt ≤ 1001 := aw_bd_f hs (hI248).1 (by decide) rfl
                    exact ⟨(hI248).1, fr247, Or.inl ⟨_, rfl, rfl, hG246, (show _ ≤ ((S246.1 30)).toInt by omega)⟩⟩
                · skip
                  have cj246 : (S246.1 30).toInt = ((S194.1 30)).toInt + 1 := cj246
                  have fr252 := aw_fr_tr fr244 (aw_fr_sub (F := [26, 27, 28, 29, 30]) (A := []) (by decide) (by decide) fd246)
                  have hI253 : aw_I s h (aw_sm S246) S246 := ⟨hT246, aw_sm_rf⟩
                  have ci254 : ar_CI (S246.2.2.1 22) ((S246.1 43).toInt).toNat (S246.1 41).toInt (S246.1 44).toInt x196.toInt 0 := by
                    rw [(fd246.2 22 (by decide)).1, (fd246.1 43 (by decide)).1, (fd246.1 41 (by decide)).1, (fd246.1 44 (by decide)).1]
                    exact ci245
                  have c255 : (S246.1 41).toInt = (S194.1 41).toInt := (congrArg Int32.toInt (fd246.1 41 (by decide)).1).trans rfl
                  have b256 : 0 ≤ (S246.1 41).toInt ∧ (S246.1 41).toInt ≤ 8 := aw_bd_f hs (hI253).1 (by decide) rfl
                  have c257 : (S246.1 43).toInt = x242.toInt := (congrArg Int32.toInt (fd246.1 43 (by decide)).1).trans rfl
                  have b258 : 0 ≤ (S246.1 43).toInt ∧ (S246.1 43).toInt ≤ 39 := aw_bd_f hs (hI253).1 (by decide) rfl
                  have c259 : (S246.1 44).toInt = (S194.1 44).toInt := (congrArg Int32.toInt (fd246.1 44 (by decide)).1).trans rfl
                  have b260 : 0 ≤ (S246.1 44).toInt ∧ (S246.1 44).toInt ≤ 31 := aw_bd_f hs (hI253).1 (by decide) rfl
                  have b261 : 0 ≤ (S246.1 30).toInt ∧ (S246.1 30).toInt ≤ 1001 := aw_bd_f hs (hI253).1 (by decide) rfl
                  have cbci254 := ar_CI_b ci254 (by omega)
                  show aw_W _ _ _ _ 310 lv195 [.int b246] _ _
                  refine aw_z (tgt := 19) aj_d237 rfl rfl (fun q262 => ?_) (fun q262 => ?_)
                  · have q262 : (1 : Int) ≠ (0 : Int) := aw_t_ne (a := (1 : Int)) (b := (0 : Int)) hb246 rfl q262
                    refine aw_l0 aj_d237 rfl rfl hlv195_2 ?_
                    refine aw_z (tgt := 315) aj_d237 rfl rfl (fun q263 => ?_) (fun q263 => ?_)
                    · have q263 : (1 : Int) = (0 : Int) := aw_t_eq (a := (1 : Int)) (b := (0 : Int)) (by omega) rfl q263
                      exfalso
                      omega
                    · have q263 : (1 : Int) ≠ (0 : Int) := aw_t_eq (a := (1 : Int)) (b := (0 : Int)) (by omega) rfl q263
                      exact ihL23_13 S246 lv195 (x196) hlv195_0 hlv195_1 ⟨(hI253).1, hG246⟩ fr252 ci254 (show _ ≤ ((S246.1 30)).toInt by omega) (show (1001 - ((S246.1 30)).toInt).toNat < _ by omega)
                  · have q262 : (1 : Int) = (0 : Int) := aw_t_ne (a := (1 : Int)) (b := (0 : Int)) hb246 rfl q262
                    exfalso
                    omega
              · have q239 : (0 : Int) ≠ (0 : Int) := aw_t_eq (a := (0 : Int)) (b := (0 : Int)) hb225 rfl q239
                exfalso
                omega
        · skip
          have pb221 : ¬ (((S194.1 26)).toInt = 3 ∧ ((S194.1 29)).toInt = (124 : Int)) := pb221
          show aw_W _ _ _ _ 264 lv195 [.int b221] _ _
          refine aw_z (tgt := 283) aj_d237 rfl rfl (fun q264 => ?_) (fun q264 => ?_)
          · have q264 : (0 : Int) = (0 : Int) := aw_t_eq (a := (0 : Int)) (b := (0 : Int)) hb221 rfl q264
            refine aw_l2 aj_d237 rfl rfl hlv195_0 ?_
            refine aw_g hU.1 aj_d237 rfl rfl (by decide) (v := .ref 139) rfl ?_
            refine aw_l2 aj_d237 rfl rfl hlv195_0 ?_
            refine aw_g hU.1 aj_d237 rfl rfl (by decide) (v := .int (S194.1 43)) rfl ?_
            refine aw_l2 aj_d237 rfl rfl hlv195_0 ?_
            refine aw_g hU.1 aj_d237 rfl rfl (by decide) (v := .int (S194.1 29)) rfl ?_
            refine aw_st (k := 22) hU.1 aj_d237 (Or.inl ⟨rfl, rfl⟩) rfl (by decide) (by decide) rfl (a := (S194.1 43).toInt) rfl (by omega) (by omega) ?_
            have hI265 := aw_I_a (aw_UV hU aw_Gs_sm) (k := 22) (j := ((S194.1 43).toInt).toNat) (v := aj_nar 0 (S194.1 29)) hI200 (by decide) (by decide) (by decide) rfl (by decide) (by decide) rfl (aw_full _)
            have fr266 := aw_fr_a (k := 22) (j := ((S194.1 43).toInt).toNat) (v := aj_nar 0 (S194.1 29)) (by decide) fr199
            refine aw_l2 aj_d237 rfl rfl hlv195_0 ?_
            refine aw_n aj_d237 rfl rfl ?_
            refine aw_g hU.1 aj_d237 rfl rfl (by decide) (v := .int (S194.1 43)) rfl ?_
            refine aw_n aj_d237 rfl rfl ?_
            refine aw_add aj_d237 rfl (a := (S194.1 43).toInt) (b := (1 : Int)) rfl rfl (by omega) (by omega) (fun x267 ex267 => ?_)
            refine aw_p hU.1 aj_d237 rfl rfl (by decide) rfl ?_
            have hI268 := aw_I_f (aw_UV hU aw_Gs_sm) (k := 43) (v := x267) hI265 (by decide) (by decide) rfl (aw_bp (a := x267.toInt) rfl (by omega) (by omega))
            have fr269 := aw_fr_f (k := 43) (v := x267) (by decide) fr266
            have ci270 : ar_CI (((aw_wf (aw_wa S194 22 ((S194.1 43).toInt).toNat (aj_nar 0 (S194.1 29))) 43 x267)).2.2.1 22) ((((aw_wf (aw_wa S194 22 ((S194.1 43).toInt).toNat (aj_nar 0 (S194.1 29))) 43 x267)).1 43).toInt).toNat (((aw_wf (aw_wa S194 22 ((S194.1 43).toInt).toNat (aj_nar 0 (S194.1 29))) 43 x267)).1 41).toInt (((aw_wf (aw_wa S194 22 ((S194.1 43).toInt).toNat (aj_nar 0 (S194.1 29))) 43 x267)).1 44).toInt x196.toInt 0 := by
              show ar_CI (upd (S194.2.2.1 22) ((S194.1 43).toInt).toNat ((S194.1 29))) ((x267).toInt).toNat ((S194.1 41).toInt) (S194.1 44).toInt x196.toInt 0
              rw [show ((x267).toInt).toNat = ((S194.1 43).toInt).toNat + 1 by omega]
              have e7 : ((S194.1 43).toInt - 1).toNat = ((S194.1 43).toInt).toNat - 1 := by omega
              rw [e7] at pb205
              refine ar_CI_op ci249 ?_
              exact Or.inl ⟨by omega, fun z => pb205 ⟨by omega, z.2⟩⟩
            refine aw_l2 aj_d237 rfl rfl hlv195_0 ?_
            refine aw_k hU.1 aj_d237 rfl rfl [] rfl rfl rfl (Nat.le_of_ble_eq_true rfl) (ar_pass hU (hI268).1 (aw_G_sm hI268.2 hI198.2) (by omega) (show ((S194.1 26)).toInt ≠ 0 by omega) (show ¬ (((S194.1 26)).toInt = 3 ∧ ((S194.1 29)).toInt = 63) by omega) (show ((S194.1 26)).toInt = 4 → ((S194.1 29)).toInt = 3 ∨ 6 ≤ ((S194.1 29)).toInt by omega)) ?_
            rintro _ S271 ⟨hT271, fc271, ⟨b271, rfl, hb271, hG271, fd271, hz271⟩ | ⟨b271, rfl, hb271, hG271, ck271, fd271, cj271⟩⟩
            · skip
              have fr272 := aw_fr_tr fr269 (aw_fr_sub (F := [24, 25, 31]) (A := []) (by decide) (by decide) fd271)
              have hI273 : aw_I s h (aw_sm S271) S271 := ⟨hT271, aw_sm_rf⟩
              show aw_W _ _ _ _ 310 lv195 [.int b271] _ _
              refine aw_z (tgt := 19) aj_d237 rfl rfl (fun q274 => ?_) (fun q274 => ?_)
              · have q274 : (0 : Int) ≠ (0 : Int) := aw_t_ne (a := (0 : Int)) (b := (0 : Int)) hb271 rfl q274
                exfalso
                omega
              · have q274 : (0 : Int) = (0 : Int) := aw_t_ne (a := (0 : Int)) (b := (0 : Int)) hb271 rfl q274
                refine aw_n aj_d237 rfl rfl ?_
                refine aw_e aj_d237 rfl rfl ?_
                have c275 : (S271.1 30).toInt = (S194.1 30).toInt := (congrArg Int32.toInt (fd271.1 30 (by decide)).1).trans rfl
                have b276 : 0 ≤ (S271.1 30).toInt ∧ (S271.1 30).toInt ≤ 1001 := aw_bd_f hs (hI273).1 (by decide) rfl
                exact ⟨(hI273).1, fr272, Or.inl ⟨_, rfl, rfl, hG271, (show _ ≤ ((S271.1 30)).toInt by omega)⟩⟩
            · skip
              have cj271 : (S271.1 30).toInt = ((S194.1 30)).toInt + 1 := cj271
              have fr277 := aw_fr_tr fr269 (aw_fr_sub (F := [26, 27, 28, 29, 30]) (A := []) (by decide) (by decide) fd271)
              have hI278 : aw_I s h (aw_sm S271) S271 := ⟨hT271, aw_sm_rf⟩
              have ci279 : ar_CI (S271.2.2.1 22) ((S271.1 43).toInt).toNat (S271.1 41).toInt (S271.1 44).toInt x196.toInt 0 := by
                rw [(fd271.2 22 (by decide)).1, (fd271.1 43 (by decide)).1, (fd271.1 41 (by decide)).1, (fd271.1 44 (by decide)).1]
                exact ci270
              have c280 : (S271.1 41).toInt = (S194.1 41).toInt := (congrArg Int32.toInt (fd271.1 41 (by decide)).1).trans rfl
              have b281 : 0 ≤ (S271.1 41).toInt ∧ (S271.1 41).toInt ≤ 8 := aw_bd_f hs (hI278).1 (by decide) rfl
              have c282 : (S271.1 43).toInt = x267.toInt := (congrArg Int32.toInt (fd271.1 43 (by decide)).1).trans rfl
              have b283 : 0 ≤ (S271.1 43).toInt ∧ (S271.1 43).toInt ≤ 39 := aw_bd_f hs (hI278).1 (by decide) rfl
              have c284 : (S271.1 44).toInt = (S194.1 44).toInt := (congrArg Int32.toInt (fd271.1 44 (by decide)).1).trans rfl
              have b285 : 0 ≤ (S271.1 44).toInt ∧ (S271.1 44).toInt ≤ 31 := aw_bd_f hs (hI278).1 (by decide) rfl
              have b286 : 0 ≤ (S271.1 30).toInt ∧ (S271.1 30).toInt ≤ 1001 := aw_bd_f hs (hI278).1 (by decide) rfl
              have cbci279 := ar_CI_b ci279 (by omega)
              show aw_W _ _ _ _ 310 lv195 [.int b271] _ _
              refine aw_z (tgt := 19) aj_d237 rfl rfl (fun q287 => ?_) (fun q287 => ?_)
              · have q287 : (1 : Int) ≠ (0 : Int) := aw_t_ne (a := (1 : Int)) (b := (0 : Int)) hb271 rfl q287
                refine aw_l0 aj_d237 rfl rfl hlv195_2 ?_
                refine aw_z (tgt := 315) aj_d237 rfl rfl (fun q288 => ?_) (fun q288 => ?_)
                · have q288 : (1 : Int) = (0 : Int) := aw_t_eq (a := (1 : Int)) (b := (0 : Int)) (by omega) rfl q288
                  exfalso
                  omega
                · have q288 : (1 : Int) ≠ (0 : Int) := aw_t_eq (a := (1 : Int)) (b := (0 : Int)) (by omega) rfl q288
                  exact ihL23_13 S271 lv195 (x196) hlv195_0 hlv195_1 ⟨(hI278).1, hG271⟩ fr277 ci279 (show _ ≤ ((S271.1 30)).toInt by omega) (show (1001 - ((S271.1 30)).toInt).toNat < _ by omega)
              · have q287 : (1 : Int) = (0 : Int) := aw_t_ne (a := (1 : Int)) (b := (0 : Int)) hb271 rfl q287
                exfalso
                omega
          · have q264 : (0 : Int) ≠ (0 : Int) := aw_t_eq (a := (0 : Int)) (b := (0 : Int)) hb221 rfl q264
            exfalso
            omega
theorem ar_cond_L329_305 (hU : aw_U tb s h) (hd : 8 ≤ d + 1) (N23 : Nat) (S15 : aj_S) (x17 : Int32) (ihL23_13 : ∀ (S15 : aj_S) (lv16 : aj_V) (x17 : Int32), (aj_lv lv16 0 = some (.ref 117)) → (aj_lv lv16 1 = some (.int x17)) → (aw_I s h (aw_G (nm, fl, la, 0, 0, ht)) S15) → (aw_fr [24, 25, 26, 27, 28, 29, 30, 31, 33, 34, 35, 36, 38, 39, 40, 41, 43, 44] [20, 22] S S15) → (ar_CI (S15.2.2.1 22) ((S15.1 43).toInt).toNat (S15.1 41).toInt (S15.1 44).toInt x17.toInt 0) → ((S.1 30).toInt + 0 ≤ (S15.1 30).toInt) → (1001 - (S15.1 30).toInt).toNat < N23 → aw_W tb h d aj_m237 23 lv16 [] S15 ((ar_QT s h (nm, fl, la, 0, 0, ht) [24, 25, 26, 27, 28, 29, 30, 31, 33, 34, 35, 36, 38, 39, 40, 41, 43, 44] [20, 22] S (fun _ => True)))) (hm23 : (1001 - (S15.1 30).toInt).toNat < N23 + 1) (N128 : Nat) (S160 : aj_S) (x162 : Int32) (ihL128_158 : ∀ (S160 : aj_S) (lv161 : aj_V) (x162 : Int32), (aj_lv lv161 0 = some (.ref 117)) → (aj_lv lv161 1 = some (.int x162)) → (aw_I s h (aw_G (nm, fl, la, 0, 0, ht)) S160) → (aw_fr [24, 25, 26, 27, 28, 29, 30, 31, 33, 34, 35, 36, 38, 39, 40, 41, 43, 44] [20, 22] S S160) → (ar_CI (S160.2.2.1 22) ((S160.1 43).toInt).toNat (S160.1 41).toInt (S160.1 44).toInt x162.toInt 1) → ((S.1 30).toInt + 1 ≤ (S160.1 30).toInt) → ((S15.1 30).toInt + 1 ≤ (S160.1 30).toInt) → ((S160.1 43).toInt).toNat < N128 → aw_W tb h d aj_m237 128 lv161 [] S160 ((ar_QT s h (nm, fl, la, 0, 0, ht) [24, 25, 26, 27, 28, 29, 30, 31, 33, 34, 35, 36, 38, 39, 40, 41, 43, 44] [20, 22] S (fun _ => True)))) (hm128 : ((S160.1 43).toInt).toNat < N128 + 1) (S183 : aj_S) : ∀ (N : Nat) (S307 : aj_S) (lv308 : aj_V) (x309 : Int32), (aj_lv lv308 0 = some (.ref 117)) → (aj_lv lv308 1 = some (.int x309)) → (aw_I s h (aw_G (nm, fl, la, 0, 0, ht)) S307) → (aw_fr [24, 25, 26, 27, 28, 29, 30, 31, 33, 34, 35, 36, 38, 39, 40, 41, 43, 44] [20, 22] S S307) → (ar_CI (S307.2.2.1 22) ((S307.1 43).toInt).toNat (S307.1 41).toInt (S307.1 44).toInt x309.toInt 1) → ((S.1 30).toInt + 1 ≤ (S307.1 30).toInt) → (x309.toInt ≤ 0) → ((S307.1 43).toInt).toNat < N → aw_W tb h d aj_m237 329 lv308 [] S307 ((ar_QT s h (nm, fl, la, 0, 0, ht) [24, 25, 26, 27, 28, 29, 30, 31, 33, 34, 35, 36, 38, 39, 40, 41, 43, 44] [20, 22] S (fun _ => True))) := by
  have hs : aw_sT s := aw_hy_sT hU.2.2
  intro N329
  induction N329 with
  | zero =>
    intro S307 lv308 x309 hlv308_0 hlv308_1 hI310 fr311 ci329 ck329 o329 hm329
    omega
  | succ N329 ihL329_305 =>
    intro S307 lv308 x309 hlv308_0 hlv308_1 hI310 fr311 ci329 ck329 o329 hm329
    have hI312 : aw_I s h (aw_sm S307) S307 := ⟨hI310.1, aw_sm_rf⟩
    have b313 : 0 ≤ (S307.1 41).toInt ∧ (S307.1 41).toInt ≤ 8 := aw_bd_f hs (hI312).1 (by decide) rfl
    have b314 : 0 ≤ (S307.1 43).toInt ∧ (S307.1 43).toInt ≤ 39 := aw_bd_f hs (hI312).1 (by decide) rfl
    have b315 : 0 ≤ (S307.1 44).toInt ∧ (S307.1 44).toInt ≤ 31 := aw_bd_f hs (hI312).1 (by decide) rfl
    have b316 : 0 ≤ (S307.1 30).toInt ∧ (S307.1 30).toInt ≤ 1001 := aw_bd_f hs (hI312).1 (by decide) rfl
    have cbci329 := ar_CI_b ci329 (by omega)
    refine aw_l2 aj_d237 rfl rfl hlv308_0 ?_
    refine aw_g hU.1 aj_d237 rfl rfl (by decide) (v := .int (S307.1 43)) rfl ?_
    refine aw_z (tgt := 343) aj_d237 rfl rfl (fun q317 => ?_) (fun q317 => ?_)
    · have q317 : (S307.1 43).toInt ≤ (0 : Int) := aw_t_le (a := (S307.1 43).toInt) (b := (0 : Int)) rfl rfl q317
      refine aw_n aj_d237 rfl rfl ?_
      refine aw_e aj_d237 rfl rfl ?_
      exact ⟨(hI312).1, fr311, Or.inr ⟨_, rfl, rfl, hI310.2, (show _ + 1 ≤ ((S307.1 30)).toInt by omega), trivial⟩⟩
    · have q317 : (S307.1 43).toInt > (0 : Int) := aw_t_le (a := (S307.1 43).toInt) (b := (0 : Int)) rfl rfl q317
      refine aw_l2 aj_d237 rfl rfl hlv308_0 ?_
      have hw318 : 1 ≤ (S307.1 43).toInt := by omega
      have pr318 := ar_CI_pre ci329 hw318 (ar_CI_o0 ci329 (by omega) hw318)
      refine aw_k hU.1 aj_d237 rfl rfl [] rfl rfl rfl (Nat.le_of_ble_eq_true rfl) (ar_reduce hU (hI312).1 (by omega) (show 1 ≤ (S307.1 43).toInt by omega) pr318.1 pr318.2) ?_
      rintro _ S318 ⟨hT318, fc318, rfl, r1318, r2318, r3318⟩
      have r1318 : (S318.1 43).toInt = (S307.1 43).toInt - 1 := r1318
      have fr320 := aw_fr_tr fr311 (aw_fr_sub (F := [41, 43, 44]) (A := [20]) (by decide) (by decide) fc318)
      have hI321 : aw_I s h (aw_sm S307) S318 := ⟨hT318, aw_sm_tr hI312.2 (aw_fr_sm (by decide) (by decide) (by decide) (F := [41, 43, 44]) (A := [20]) fc318)⟩
      have ci319 : ar_CI (S318.2.2.1 22) ((S318.1 43).toInt).toNat (S318.1 41).toInt (S318.1 44).toInt x309.toInt 1 := by
        rw [(fc318.2 22 (by decide)).1]
        exact ar_CI_red ci329 hw318 (ar_CI_o0 ci329 (by omega) hw318) r1318 r2318 r3318
      have b322 : 0 ≤ (S318.1 41).toInt ∧ (S318.1 41).toInt ≤ 8 := aw_bd_f hs (hI321).1 (by decide) rfl
      have b323 : 0 ≤ (S318.1 43).toInt ∧ (S318.1 43).toInt ≤ 39 := aw_bd_f hs (hI321).1 (by decide) rfl
      have b324 : 0 ≤ (S318.1 44).toInt ∧ (S318.1 44).toInt ≤ 31 := aw_bd_f hs (hI321).1 (by decide) rfl
      have c325 : (S318.1 30).toInt = (S307.1 30).toInt := (congrArg Int32.toInt (fc318.1 30 (by decide)).1).trans rfl
      have b326 : 0 ≤ (S318.1 30).toInt ∧ (S318.1 30).toInt ≤ 1001 := aw_bd_f hs (hI321).1 (by decide) rfl
      have cbci319 := ar_CI_b ci319 (by omega)
      show aw_W _ _ _ _ 340 lv308 [] _ _
      refine aw_n aj_d237 rfl rfl ?_
      exact ihL329_305 S318 lv308 (x309) hlv308_0 hlv308_1 ⟨(hI321).1, (aw_G_sm hI321.2 hI310.2)⟩ fr320 ci319 (show _ ≤ ((S318.1 30)).toInt by omega) (by omega) (show (((S318.1 43)).toInt).toNat < _ by omega)
theorem ar_cond_L221_181 (hU : aw_U tb s h) (hd : 8 ≤ d + 1) (N23 : Nat) (S15 : aj_S) (x17 : Int32) (ihL23_13 : ∀ (S15 : aj_S) (lv16 : aj_V) (x17 : Int32), (aj_lv lv16 0 = some (.ref 117)) → (aj_lv lv16 1 = some (.int x17)) → (aw_I s h (aw_G (nm, fl, la, 0, 0, ht)) S15) → (aw_fr [24, 25, 26, 27, 28, 29, 30, 31, 33, 34, 35, 36, 38, 39, 40, 41, 43, 44] [20, 22] S S15) → (ar_CI (S15.2.2.1 22) ((S15.1 43).toInt).toNat (S15.1 41).toInt (S15.1 44).toInt x17.toInt 0) → ((S.1 30).toInt + 0 ≤ (S15.1 30).toInt) → (1001 - (S15.1 30).toInt).toNat < N23 → aw_W tb h d aj_m237 23 lv16 [] S15 ((ar_QT s h (nm, fl, la, 0, 0, ht) [24, 25, 26, 27, 28, 29, 30, 31, 33, 34, 35, 36, 38, 39, 40, 41, 43, 44] [20, 22] S (fun _ => True)))) (hm23 : (1001 - (S15.1 30).toInt).toNat < N23 + 1) (N128 : Nat) (S160 : aj_S) (x162 : Int32) (ihL128_158 : ∀ (S160 : aj_S) (lv161 : aj_V) (x162 : Int32), (aj_lv lv161 0 = some (.ref 117)) → (aj_lv lv161 1 = some (.int x162)) → (aw_I s h (aw_G (nm, fl, la, 0, 0, ht)) S160) → (aw_fr [24, 25, 26, 27, 28, 29, 30, 31, 33, 34, 35, 36, 38, 39, 40, 41, 43, 44] [20, 22] S S160) → (ar_CI (S160.2.2.1 22) ((S160.1 43).toInt).toNat (S160.1 41).toInt (S160.1 44).toInt x162.toInt 1) → ((S.1 30).toInt + 1 ≤ (S160.1 30).toInt) → ((S15.1 30).toInt + 1 ≤ (S160.1 30).toInt) → ((S160.1 43).toInt).toNat < N128 → aw_W tb h d aj_m237 128 lv161 [] S160 ((ar_QT s h (nm, fl, la, 0, 0, ht) [24, 25, 26, 27, 28, 29, 30, 31, 33, 34, 35, 36, 38, 39, 40, 41, 43, 44] [20, 22] S (fun _ => True)))) (hm128 : ((S160.1 43).toInt).toNat < N128 + 1) : ∀ (S183 : aj_S) (lv184 : aj_V) (x185 : Int32), (aj_lv lv184 0 = some (.ref 117)) → (aj_lv lv184 1 = some (.int x185)) → (aw_I s h (aw_G (nm, fl, la, 0, 0, ht)) S183) → (aw_fr [24, 25, 26, 27, 28, 29, 30, 31, 33, 34, 35, 36, 38, 39, 40, 41, 43, 44] [20, 22] S S183) → (ar_CI (S183.2.2.1 22) ((S183.1 43).toInt).toNat (S183.1 41).toInt (S183.1 44).toInt x185.toInt 1) → ((S.1 30).toInt + 1 ≤ (S183.1 30).toInt) → ((S15.1 30).toInt + 1 ≤ (S183.1 30).toInt) → aw_W tb h d aj_m237 221 lv184 [] S183 ((ar_QT s h (nm, fl, la, 0, 0, ht) [24, 25, 26, 27, 28, 29, 30, 31, 33, 34, 35, 36, 38, 39, 40, 41, 43, 44] [20, 22] S (fun _ => True))) := by
  have hs : aw_sT s := aw_hy_sT hU.2.2
  intro S183 lv184 x185 hlv184_0 hlv184_1 hI186 fr187 ci221 ck221 cA221
  have hI188 : aw_I s h (aw_sm S183) S183 := ⟨hI186.1, aw_sm_rf⟩
  have b189 : 0 ≤ (S183.1 41).toInt ∧ (S183.1 41).toInt ≤ 8 := aw_bd_f hs (hI188).1 (by decide) rfl
  have b190 : 0 ≤ (S183.1 43).toInt ∧ (S183.1 43).toInt ≤ 39 := aw_bd_f hs (hI188).1 (by decide) rfl
  have b191 : 0 ≤ (S183.1 44).toInt ∧ (S183.1 44).toInt ≤ 31 := aw_bd_f hs (hI188).1 (by decide) rfl
  have b192 : 0 ≤ (S183.1 30).toInt ∧ (S183.1 30).toInt ≤ 1001 := aw_bd_f hs (hI188).1 (by decide) rfl
  have cbci221 := ar_CI_b ci221 (by omega)
  refine aw_l2 aj_d237 rfl rfl hlv184_0 ?_
  refine aw_n aj_d237 rfl rfl ?_
  refine aw_k hU.1 aj_d237 rfl rfl [_] rfl rfl rfl (Nat.le_of_ble_eq_true rfl) (ar_isSign hU (by omega) (b := (38 : Int)) rfl) ?_
  have b291 : 0 ≤ (S183.1 26).toInt ∧ (S183.1 26).toInt ≤ 5 := aw_bd_f hs (hI188).1 (by decide) rfl
  rintro _ S290 ⟨eS290, b289, rfl, kb289⟩
  rw [eS290]
  rcases kb289 with ⟨hb289, pb289, qb289⟩ | ⟨hb289, pb289⟩
  · skip
    have pb289 : ((S183.1 26)).toInt = 3 := pb289
    have qb289 : ((S183.1 29)).toInt = (38 : Int) := qb289
    show aw_W _ _ _ _ 227 lv184 [.int b289] _ _
    refine aw_z (tgt := 239) aj_d237 rfl rfl (fun q292 => ?_) (fun q292 => ?_)
    · have q292 : (1 : Int) ≠ (0 : Int) := aw_t_ne (a := (1 : Int)) (b := (0 : Int)) hb289 rfl q292
      refine aw_n aj_d237 rfl rfl ?_
      refine aw_n aj_d237 rfl rfl ?_
      refine aw_t0 (j := 2) aj_d237 rfl (by decide) rfl ?_
      obtain ⟨lv293, elv293⟩ : ∃ l, l = aj_set1 lv184 2 (.int (Int32.ofInt 1)) := ⟨_, rfl⟩
      rw [← elv293]
      have hlv293_0 : aj_lv lv293 0 = some (.ref 117) := cw_e1 elv293 hlv184_0 (by decide) (Or.inl (by decide))
      have hlv293_1 : aj_lv lv293 1 = some (.int x185) := cw_e1 elv293 hlv184_1 (by decide) (Or.inr rfl)
      have hlv293_2 : aj_lv lv293 2 = some (.int (Int32.ofInt 1)) := by rw [elv293]; exact ak_set1_eq _ _ _
      show aw_W _ _ _ _ 245 lv293 [] _ _
      refine aw_l0 aj_d237 rfl rfl hlv293_2 ?_
      refine aw_z (tgt := 19) aj_d237 rfl rfl (fun q294 => ?_) (fun q294 => ?_)
      · have q294 : (1 : Int) = (0 : Int) := aw_t_eq (a := (1 : Int)) (b := (0 : Int)) rfl rfl q294
        exfalso
        omega
      · have q294 : (1 : Int) ≠ (0 : Int) := aw_t_eq (a := (1 : Int)) (b := (0 : Int)) rfl rfl q294
        exact (ar_cond_L249_192 hU hd N23 S15 x17 ihL23_13 hm23 N128 S160 x162 ihL128_158 hm128 S183) _ S183 lv293 (x185) ((Int32.ofInt 1)) hlv293_0 hlv293_1 hlv293_2 ⟨(hI188).1, hI186.2⟩ fr187 (by first | omega | decide) ci221 (show _ ≤ ((S183.1 30)).toInt by omega) (show _ ≤ ((S183.1 30)).toInt by omega) (show ((S183.1 26)).toInt = 3 ∧ (((S183.1 29)).toInt = 38 ∨ ((S183.1 29)).toInt = 124) by omega) (Nat.lt_succ_self _)
    · have q292 : (1 : Int) = (0 : Int) := aw_t_ne (a := (1 : Int)) (b := (0 : Int)) hb289 rfl q292
      exfalso
      omega
  · skip
    have pb289 : ¬ (((S183.1 26)).toInt = 3 ∧ ((S183.1 29)).toInt = (38 : Int)) := pb289
    show aw_W _ _ _ _ 227 lv184 [.int b289] _ _
    refine aw_z (tgt := 239) aj_d237 rfl rfl (fun q295 => ?_) (fun q295 => ?_)
    · have q295 : (0 : Int) ≠ (0 : Int) := aw_t_ne (a := (0 : Int)) (b := (0 : Int)) hb289 rfl q295
      exfalso
      omega
    · have q295 : (0 : Int) = (0 : Int) := aw_t_ne (a := (0 : Int)) (b := (0 : Int)) hb289 rfl q295
      refine aw_l2 aj_d237 rfl rfl hlv184_0 ?_
      refine aw_n aj_d237 rfl rfl ?_
      refine aw_k hU.1 aj_d237 rfl rfl [_] rfl rfl rfl (Nat.le_of_ble_eq_true rfl) (ar_isSign hU (by omega) (b := (124 : Int)) rfl) ?_
      rintro _ S297 ⟨eS297, b296, rfl, kb296⟩
      rw [eS297]
      rcases kb296 with ⟨hb296, pb296, qb296⟩ | ⟨hb296, pb296⟩
      · skip
        have pb296 : ((S183.1 26)).toInt = 3 := pb296
        have qb296 : ((S183.1 29)).toInt = (124 : Int) := qb296
        show aw_W _ _ _ _ 236 lv184 [.int b296] _ _
        refine aw_z (tgt := 243) aj_d237 rfl rfl (fun q298 => ?_) (fun q298 => ?_)
        · have q298 : (1 : Int) = (0 : Int) := aw_t_eq (a := (1 : Int)) (b := (0 : Int)) hb296 rfl q298
          exfalso
          omega
        · have q298 : (1 : Int) ≠ (0 : Int) := aw_t_eq (a := (1 : Int)) (b := (0 : Int)) hb296 rfl q298
          refine aw_n aj_d237 rfl rfl ?_
          refine aw_n aj_d237 rfl rfl ?_
          refine aw_t0 (j := 2) aj_d237 rfl (by decide) rfl ?_
          obtain ⟨lv299, elv299⟩ : ∃ l, l = aj_set1 lv184 2 (.int (Int32.ofInt 1)) := ⟨_, rfl⟩
          rw [← elv299]
          have hlv299_0 : aj_lv lv299 0 = some (.ref 117) := cw_e1 elv299 hlv184_0 (by decide) (Or.inl (by decide))
          have hlv299_1 : aj_lv lv299 1 = some (.int x185) := cw_e1 elv299 hlv184_1 (by decide) (Or.inr rfl)
          have hlv299_2 : aj_lv lv299 2 = some (.int (Int32.ofInt 1)) := by rw [elv299]; exact ak_set1_eq _ _ _
          show aw_W _ _ _ _ 245 lv299 [] _ _
          refine aw_l0 aj_d237 rfl rfl hlv299_2 ?_
          refine aw_z (tgt := 19) aj_d237 rfl rfl (fun q300 => ?_) (fun q300 => ?_)
          · have q300 : (1 : Int) = (0 : Int) := aw_t_eq (a := (1 : Int)) (b := (0 : Int)) rfl rfl q300
            exfalso
            omega
          · have q300 : (1 : Int) ≠ (0 : Int) := aw_t_eq (a := (1 : Int)) (b := (0 : Int)) rfl rfl q300
            exact (ar_cond_L249_192 hU hd N23 S15 x17 ihL23_13 hm23 N128 S160 x162 ihL128_158 hm128 S183) _ S183 lv299 (x185) ((Int32.ofInt 1)) hlv299_0 hlv299_1 hlv299_2 ⟨(hI188).1, hI186.2⟩ fr187 (by first | omega | decide) ci221 (show _ ≤ ((S183.1 30)).toInt by omega) (show _ ≤ ((S183.1 30)).toInt by omega) (show ((S183.1 26)).toInt = 3 ∧ (((S183.1 29)).toInt = 38 ∨ ((S183.1 29)).toInt = 124) by omega) (Nat.lt_succ_self _)
      · skip
        have pb296 : ¬ (((S183.1 26)).toInt = 3 ∧ ((S183.1 29)).toInt = (124 : Int)) := pb296
        show aw_W _ _ _ _ 236 lv184 [.int b296] _ _
        refine aw_z (tgt := 243) aj_d237 rfl rfl (fun q301 => ?_) (fun q301 => ?_)
        · have q301 : (0 : Int) = (0 : Int) := aw_t_eq (a := (0 : Int)) (b := (0 : Int)) hb296 rfl q301
          refine aw_n aj_d237 rfl rfl ?_
          refine aw_t0 (j := 2) aj_d237 rfl (by decide) rfl ?_
          obtain ⟨lv302, elv302⟩ : ∃ l, l = aj_set1 lv184 2 (.int (Int32.ofInt 0)) := ⟨_, rfl⟩
          rw [← elv302]
          have hlv302_0 : aj_lv lv302 0 = some (.ref 117) := cw_e1 elv302 hlv184_0 (by decide) (Or.inl (by decide))
          have hlv302_1 : aj_lv lv302 1 = some (.int x185) := cw_e1 elv302 hlv184_1 (by decide) (Or.inr rfl)
          have hlv302_2 : aj_lv lv302 2 = some (.int (Int32.ofInt 0)) := by rw [elv302]; exact ak_set1_eq _ _ _
          show aw_W _ _ _ _ 245 lv302 [] _ _
          refine aw_l0 aj_d237 rfl rfl hlv302_2 ?_
          refine aw_z (tgt := 19) aj_d237 rfl rfl (fun q303 => ?_) (fun q303 => ?_)
          · have q303 : (0 : Int) = (0 : Int) := aw_t_eq (a := (0 : Int)) (b := (0 : Int)) rfl rfl q303
            refine aw_l0 aj_d237 rfl rfl hlv302_2 ?_
            refine aw_z (tgt := 315) aj_d237 rfl rfl (fun q304 => ?_) (fun q304 => ?_)
            · have q304 : (0 : Int) = (0 : Int) := aw_t_eq (a := (0 : Int)) (b := (0 : Int)) rfl rfl q304
              refine aw_l0 aj_d237 rfl rfl hlv302_1 ?_
              refine aw_z (tgt := 329) aj_d237 rfl rfl (fun q305 => ?_) (fun q305 => ?_)
              · have q305 : x185.toInt ≤ (0 : Int) := aw_t_le (a := x185.toInt) (b := (0 : Int)) rfl rfl q305
                exact (ar_cond_L329_305 hU hd N23 S15 x17 ihL23_13 hm23 N128 S160 x162 ihL128_158 hm128 S183) _ S183 lv302 (x185) hlv302_0 hlv302_1 ⟨(hI188).1, hI186.2⟩ fr187 ci221 (show _ ≤ ((S183.1 30)).toInt by omega) (by omega) (Nat.lt_succ_self _)
              · have q305 : x185.toInt > (0 : Int) := aw_t_le (a := x185.toInt) (b := (0 : Int)) rfl rfl q305
                refine aw_l2 aj_d237 rfl rfl hlv302_0 ?_
                refine aw_n aj_d237 rfl rfl ?_
                refine aw_l2 aj_d237 rfl rfl hlv302_0 ?_
                have b327 : 0 ≤ (S183.1 27).toInt ∧ (S183.1 27).toInt ≤ 4000 := aw_bd_f hs (hI188).1 (by decide) rfl
                refine aw_g hU.1 aj_d237 rfl rfl (by decide) (v := .int (S183.1 27)) rfl ?_
                refine aw_k hU.1 aj_d237 rfl rfl [_, _] rfl rfl rfl (Nat.le_of_ble_eq_true rfl) (ar_stop hU (hI188).1 (by omega) (a := (1 : Int)) rfl) ?_
                rintro _ S328 ⟨hT328, fc328, rfl, hz328⟩
                have hG328 := aw_G_stop hI186.2 fc328 (by omega)
                have fr329 := aw_fr_tr fr187 (aw_fr_sub (F := [24, 25, 31]) (A := []) (by decide) (by decide) fc328)
                have hI330 : aw_I s h (aw_sm S328) S328 := ⟨hT328, aw_sm_rf⟩
                show aw_W _ _ _ _ 328 lv302 [.int (Int32.ofInt 0)] _ _
                refine aw_e aj_d237 rfl rfl ?_
                have c331 : (S328.1 30).toInt = (S183.1 30).toInt := (congrArg Int32.toInt (fc328.1 30 (by decide)).1).trans rfl
                have b332 : 0 ≤ (S328.1 30).toInt ∧ (S328.1 30).toInt ≤ 1001 := aw_bd_f hs (hI330).1 (by decide) rfl
                exact ⟨(hI330).1, fr329, Or.inl ⟨_, rfl, rfl, hG328, (show _ ≤ ((S328.1 30)).toInt by omega)⟩⟩
            · have q304 : (0 : Int) ≠ (0 : Int) := aw_t_eq (a := (0 : Int)) (b := (0 : Int)) rfl rfl q304
              exfalso
              omega
          · have q303 : (0 : Int) ≠ (0 : Int) := aw_t_eq (a := (0 : Int)) (b := (0 : Int)) rfl rfl q303
            exfalso
            omega
        · have q301 : (0 : Int) ≠ (0 : Int) := aw_t_eq (a := (0 : Int)) (b := (0 : Int)) hb296 rfl q301
          exfalso
          omega
theorem ar_cond_L249_344 (hU : aw_U tb s h) (hd : 8 ≤ d + 1) (N23 : Nat) (S15 : aj_S) (x17 : Int32) (ihL23_13 : ∀ (S15 : aj_S) (lv16 : aj_V) (x17 : Int32), (aj_lv lv16 0 = some (.ref 117)) → (aj_lv lv16 1 = some (.int x17)) → (aw_I s h (aw_G (nm, fl, la, 0, 0, ht)) S15) → (aw_fr [24, 25, 26, 27, 28, 29, 30, 31, 33, 34, 35, 36, 38, 39, 40, 41, 43, 44] [20, 22] S S15) → (ar_CI (S15.2.2.1 22) ((S15.1 43).toInt).toNat (S15.1 41).toInt (S15.1 44).toInt x17.toInt 0) → ((S.1 30).toInt + 0 ≤ (S15.1 30).toInt) → (1001 - (S15.1 30).toInt).toNat < N23 → aw_W tb h d aj_m237 23 lv16 [] S15 ((ar_QT s h (nm, fl, la, 0, 0, ht) [24, 25, 26, 27, 28, 29, 30, 31, 33, 34, 35, 36, 38, 39, 40, 41, 43, 44] [20, 22] S (fun _ => True)))) (hm23 : (1001 - (S15.1 30).toInt).toNat < N23 + 1) (N128 : Nat) (S160 : aj_S) (x162 : Int32) (ihL128_158 : ∀ (S160 : aj_S) (lv161 : aj_V) (x162 : Int32), (aj_lv lv161 0 = some (.ref 117)) → (aj_lv lv161 1 = some (.int x162)) → (aw_I s h (aw_G (nm, fl, la, 0, 0, ht)) S160) → (aw_fr [24, 25, 26, 27, 28, 29, 30, 31, 33, 34, 35, 36, 38, 39, 40, 41, 43, 44] [20, 22] S S160) → (ar_CI (S160.2.2.1 22) ((S160.1 43).toInt).toNat (S160.1 41).toInt (S160.1 44).toInt x162.toInt 1) → ((S.1 30).toInt + 1 ≤ (S160.1 30).toInt) → ((S15.1 30).toInt + 1 ≤ (S160.1 30).toInt) → ((S160.1 43).toInt).toNat < N128 → aw_W tb h d aj_m237 128 lv161 [] S160 ((ar_QT s h (nm, fl, la, 0, 0, ht) [24, 25, 26, 27, 28, 29, 30, 31, 33, 34, 35, 36, 38, 39, 40, 41, 43, 44] [20, 22] S (fun _ => True)))) (hm128 : ((S160.1 43).toInt).toNat < N128 + 1) (N144 : Nat) (S334 : aj_S) (x336 : Int32) (ihL144_332 : ∀ (S334 : aj_S) (lv335 : aj_V) (x336 : Int32), (aj_lv lv335 0 = some (.ref 117)) → (aj_lv lv335 1 = some (.int x336)) → (aw_I s h (aw_G (nm, fl, la, 0, 0, ht)) S334) → (aw_fr [24, 25, 26, 27, 28, 29, 30, 31, 33, 34, 35, 36, 38, 39, 40, 41, 43, 44] [20, 22] S S334) → (ar_CI (S334.2.2.1 22) ((S334.1 43).toInt).toNat (S334.1 41).toInt (S334.1 44).toInt x336.toInt 1) → ((S.1 30).toInt + 1 ≤ (S334.1 30).toInt) → ((S15.1 30).toInt + 1 ≤ (S334.1 30).toInt) → (1001 - (S334.1 30).toInt).toNat < N144 → aw_W tb h d aj_m237 144 lv335 [] S334 ((ar_QT s h (nm, fl, la, 0, 0, ht) [24, 25, 26, 27, 28, 29, 30, 31, 33, 34, 35, 36, 38, 39, 40, 41, 43, 44] [20, 22] S (fun _ => True)))) (hm144 : (1001 - (S334.1 30).toInt).toNat < N144 + 1) : ∀ (N : Nat) (S346 : aj_S) (lv347 : aj_V) (x348 : Int32) (x349 : Int32), (aj_lv lv347 0 = some (.ref 117)) → (aj_lv lv347 1 = some (.int x348)) → (aj_lv lv347 2 = some (.int x349)) → (aw_I s h (aw_G (nm, fl, la, 0, 0, ht)) S346) → (aw_fr [24, 25, 26, 27, 28, 29, 30, 31, 33, 34, 35, 36, 38, 39, 40, 41, 43, 44] [20, 22] S S346) → (1 ≤ x349.toInt ∧ x349.toInt ≤ 1) → (ar_CI (S346.2.2.1 22) ((S346.1 43).toInt).toNat (S346.1 41).toInt (S346.1 44).toInt x348.toInt 1) → ((S.1 30).toInt + 1 ≤ (S346.1 30).toInt) → ((S15.1 30).toInt + 1 ≤ (S346.1 30).toInt) → ((S346.1 26).toInt = 3 ∧ ((S346.1 29).toInt = 38 ∨ (S346.1 29).toInt = 124)) → ((S346.1 43).toInt).toNat < N → aw_W tb h d aj_m237 249 lv347 [] S346 ((ar_QT s h (nm, fl, la, 0, 0, ht) [24, 25, 26, 27, 28, 29, 30, 31, 33, 34, 35, 36, 38, 39, 40, 41, 43, 44] [20, 22] S (fun _ => True))) := by
  have hs : aw_sT s := aw_hy_sT hU.2.2
  intro N249
  induction N249 with
  | zero =>
    intro S346 lv347 x348 x349 hlv347_0 hlv347_1 hlv347_2 hI350 fr351 bx349 ci249 ck249 cA249 k249 hm249
    omega
  | succ N249 ihL249_344 =>
    intro S346 lv347 x348 x349 hlv347_0 hlv347_1 hlv347_2 hI350 fr351 bx349 ci249 ck249 cA249 k249 hm249
    have hI352 : aw_I s h (aw_sm S346) S346 := ⟨hI350.1, aw_sm_rf⟩
    have b353 : 0 ≤ (S346.1 41).toInt ∧ (S346.1 41).toInt ≤ 8 := aw_bd_f hs (hI352).1 (by decide) rfl
    have b354 : 0 ≤ (S346.1 43).toInt ∧ (S346.1 43).toInt ≤ 39 := aw_bd_f hs (hI352).1 (by decide) rfl
    have b355 : 0 ≤ (S346.1 44).toInt ∧ (S346.1 44).toInt ≤ 31 := aw_bd_f hs (hI352).1 (by decide) rfl
    have b356 : 0 ≤ (S346.1 30).toInt ∧ (S346.1 30).toInt ≤ 1001 := aw_bd_f hs (hI352).1 (by decide) rfl
    have cbci249 := ar_CI_b ci249 (by omega)
    refine aw_l2 aj_d237 rfl rfl hlv347_0 ?_
    refine aw_n aj_d237 rfl rfl ?_
    refine aw_k hU.1 aj_d237 rfl rfl [_] rfl rfl rfl (Nat.le_of_ble_eq_true rfl) (ar_isWaiting hU (hI352).1 (by omega)) ?_
    rintro _ zb357 ⟨fb357, b357, rfl, kb357⟩
    rw [fb357]
    rcases kb357 with ⟨hb357, pb357, qb357⟩ | ⟨hb357, pb357⟩
    · skip
      have qb357 : (S346.2.2.1 22 ((S346.1 43).toInt - 1).toNat).toInt = (38 : Int) := qb357
      have pb357 : 1 ≤ (S346.1 43).toInt := pb357
      show aw_W _ _ _ _ 255 lv347 [.int b357] _ _
      refine aw_z (tgt := 276) aj_d237 rfl rfl (fun q358 => ?_) (fun q358 => ?_)
      · have q358 : (1 : Int) ≠ (0 : Int) := aw_t_ne (a := (1 : Int)) (b := (0 : Int)) hb357 rfl q358
        refine aw_l2 aj_d237 rfl rfl hlv347_0 ?_
        have pr359 := ar_CI_pre ci249 (by omega) (by rw [qb357]; decide)
        refine aw_k hU.1 aj_d237 rfl rfl [] rfl rfl rfl (Nat.le_of_ble_eq_true rfl) (ar_reduce hU (hI352).1 (by omega) (show 1 ≤ (S346.1 43).toInt by omega) pr359.1 pr359.2) ?_
        rintro _ S359 ⟨hT359, fc359, rfl, r1359, r2359, r3359⟩
        have r1359 : (S359.1 43).toInt = (S346.1 43).toInt - 1 := r1359
        have fr361 := aw_fr_tr fr351 (aw_fr_sub (F := [41, 43, 44]) (A := [20]) (by decide) (by decide) fc359)
        have hI362 : aw_I s h (aw_sm S346) S359 := ⟨hT359, aw_sm_tr hI352.2 (aw_fr_sm (by decide) (by decide) (by decide) (F := [41, 43, 44]) (A := [20]) fc359)⟩
        have ci360 : ar_CI (S359.2.2.1 22) ((S359.1 43).toInt).toNat (S359.1 41).toInt (S359.1 44).toInt x348.toInt 1 := by
          rw [(fc359.2 22 (by decide)).1]
          exact ar_CI_red ci249 (by omega) (by rw [qb357]; decide) r1359 r2359 r3359
        have b363 : 0 ≤ (S359.1 41).toInt ∧ (S359.1 41).toInt ≤ 8 := aw_bd_f hs (hI362).1 (by decide) rfl
        have b364 : 0 ≤ (S359.1 43).toInt ∧ (S359.1 43).toInt ≤ 39 := aw_bd_f hs (hI362).1 (by decide) rfl
        have b365 : 0 ≤ (S359.1 44).toInt ∧ (S359.1 44).toInt ≤ 31 := aw_bd_f hs (hI362).1 (by decide) rfl
        have c366 : (S359.1 30).toInt = (S346.1 30).toInt := (congrArg Int32.toInt (fc359.1 30 (by decide)).1).trans rfl
        have b367 : 0 ≤ (S359.1 30).toInt ∧ (S359.1 30).toInt ≤ 1001 := aw_bd_f hs (hI362).1 (by decide) rfl
        have cbci360 := ar_CI_b ci360 (by omega)
        show aw_W _ _ _ _ 280 lv347 [] _ _
        refine aw_n aj_d237 rfl rfl ?_
        have b368 : 0 ≤ (S346.1 26).toInt ∧ (S346.1 26).toInt ≤ 5 := aw_bd_f hs (hI352).1 (by decide) rfl
        have c369 : (S359.1 26).toInt = (S346.1 26).toInt := (congrArg Int32.toInt (fc359.1 26 (by decide)).1).trans rfl
        have b370 : 0 ≤ (S359.1 26).toInt ∧ (S359.1 26).toInt ≤ 5 := aw_bd_f hs (hI362).1 (by decide) rfl
        have c371 : (S359.1 29).toInt = (S346.1 29).toInt := (congrArg Int32.toInt (fc359.1 29 (by decide)).1).trans rfl
        exact ihL249_344 S359 lv347 (x348) (x349) hlv347_0 hlv347_1 hlv347_2 ⟨(hI362).1, (aw_G_sm hI362.2 hI350.2)⟩ fr361 (by first | omega | decide) ci360 (show _ ≤ ((S359.1 30)).toInt by omega) (show _ ≤ ((S359.1 30)).toInt by omega) (show ((S359.1 26)).toInt = 3 ∧ (((S359.1 29)).toInt = 38 ∨ ((S359.1 29)).toInt = 124) by omega) (show (((S359.1 43)).toInt).toNat < _ by omega)
      · have q358 : (1 : Int) = (0 : Int) := aw_t_ne (a := (1 : Int)) (b := (0 : Int)) hb357 rfl q358
        exfalso
        omega
    · skip
      have pb357 : ¬ (1 ≤ (S346.1 43).toInt ∧ (S346.2.2.1 22 ((S346.1 43).toInt - 1).toNat).toInt = (38 : Int)) := pb357
      show aw_W _ _ _ _ 255 lv347 [.int b357] _ _
      refine aw_z (tgt := 276) aj_d237 rfl rfl (fun q372 => ?_) (fun q372 => ?_)
      · have q372 : (0 : Int) ≠ (0 : Int) := aw_t_ne (a := (0 : Int)) (b := (0 : Int)) hb357 rfl q372
        exfalso
        omega
      · have q372 : (0 : Int) = (0 : Int) := aw_t_ne (a := (0 : Int)) (b := (0 : Int)) hb357 rfl q372
        refine aw_l2 aj_d237 rfl rfl hlv347_0 ?_
        refine aw_n aj_d237 rfl rfl ?_
        refine aw_k hU.1 aj_d237 rfl rfl [_] rfl rfl rfl (Nat.le_of_ble_eq_true rfl) (ar_isSign hU (by omega) (b := (124 : Int)) rfl) ?_
        have b375 : 0 ≤ (S346.1 26).toInt ∧ (S346.1 26).toInt ≤ 5 := aw_bd_f hs (hI352).1 (by decide) rfl
        rintro _ S374 ⟨eS374, b373, rfl, kb373⟩
        rw [eS374]
        rcases kb373 with ⟨hb373, pb373, qb373⟩ | ⟨hb373, pb373⟩
        · skip
          have pb373 : ((S346.1 26)).toInt = 3 := pb373
          have qb373 : ((S346.1 29)).toInt = (124 : Int) := qb373
          show aw_W _ _ _ _ 264 lv347 [.int b373] _ _
          refine aw_z (tgt := 283) aj_d237 rfl rfl (fun q376 => ?_) (fun q376 => ?_)
          · have q376 : (1 : Int) = (0 : Int) := aw_t_eq (a := (1 : Int)) (b := (0 : Int)) hb373 rfl q376
            exfalso
            omega
          · have q376 : (1 : Int) ≠ (0 : Int) := aw_t_eq (a := (1 : Int)) (b := (0 : Int)) hb373 rfl q376
            refine aw_l2 aj_d237 rfl rfl hlv347_0 ?_
            refine aw_n aj_d237 rfl rfl ?_
            refine aw_k hU.1 aj_d237 rfl rfl [_] rfl rfl rfl (Nat.le_of_ble_eq_true rfl) (ar_isWaiting hU (hI352).1 (by omega)) ?_
            rintro _ zb377 ⟨fb377, b377, rfl, kb377⟩
            rw [fb377]
            rcases kb377 with ⟨hb377, pb377, qb377⟩ | ⟨hb377, pb377⟩
            · skip
              have qb377 : (S346.2.2.1 22 ((S346.1 43).toInt - 1).toNat).toInt = (124 : Int) := qb377
              have pb377 : 1 ≤ (S346.1 43).toInt := pb377
              show aw_W _ _ _ _ 273 lv347 [.int b377] _ _
              refine aw_z (tgt := 283) aj_d237 rfl rfl (fun q378 => ?_) (fun q378 => ?_)
              · have q378 : (1 : Int) = (0 : Int) := aw_t_eq (a := (1 : Int)) (b := (0 : Int)) hb377 rfl q378
                exfalso
                omega
              · have q378 : (1 : Int) ≠ (0 : Int) := aw_t_eq (a := (1 : Int)) (b := (0 : Int)) hb377 rfl q378
                refine aw_l2 aj_d237 rfl rfl hlv347_0 ?_
                have pr379 := ar_CI_pre ci249 (by omega) (by rw [qb377]; decide)
                refine aw_k hU.1 aj_d237 rfl rfl [] rfl rfl rfl (Nat.le_of_ble_eq_true rfl) (ar_reduce hU (hI352).1 (by omega) (show 1 ≤ (S346.1 43).toInt by omega) pr379.1 pr379.2) ?_
                rintro _ S379 ⟨hT379, fc379, rfl, r1379, r2379, r3379⟩
                have r1379 : (S379.1 43).toInt = (S346.1 43).toInt - 1 := r1379
                have fr381 := aw_fr_tr fr351 (aw_fr_sub (F := [41, 43, 44]) (A := [20]) (by decide) (by decide) fc379)
                have hI382 : aw_I s h (aw_sm S346) S379 := ⟨hT379, aw_sm_tr hI352.2 (aw_fr_sm (by decide) (by decide) (by decide) (F := [41, 43, 44]) (A := [20]) fc379)⟩
                have ci380 : ar_CI (S379.2.2.1 22) ((S379.1 43).toInt).toNat (S379.1 41).toInt (S379.1 44).toInt x348.toInt 1 := by
                  rw [(fc379.2 22 (by decide)).1]
                  exact ar_CI_red ci249 (by omega) (by rw [qb377]; decide) r1379 r2379 r3379
                have b383 : 0 ≤ (S379.1 41).toInt ∧ (S379.1 41).toInt ≤ 8 := aw_bd_f hs (hI382).1 (by decide) rfl
                have b384 : 0 ≤ (S379.1 43).toInt ∧ (S379.1 43).toInt ≤ 39 := aw_bd_f hs (hI382).1 (by decide) rfl
                have b385 : 0 ≤ (S379.1 44).toInt ∧ (S379.1 44).toInt ≤ 31 := aw_bd_f hs (hI382).1 (by decide) rfl
                have c386 : (S379.1 30).toInt = (S346.1 30).toInt := (congrArg Int32.toInt (fc379.1 30 (by decide)).1).trans rfl
                have b387 : 0 ≤ (S379.1 30).toInt ∧ (S379.1 30).toInt ≤ 1001 := aw_bd_f hs (hI382).1 (by decide) rfl
                have cbci380 := ar_CI_b ci380 (by omega)
                show aw_W _ _ _ _ 280 lv347 [] _ _
                refine aw_n aj_d237 rfl rfl ?_
                have c388 : (S379.1 26).toInt = (S346.1 26).toInt := (congrArg Int32.toInt (fc379.1 26 (by decide)).1).trans rfl
                have b389 : 0 ≤ (S379.1 26).toInt ∧ (S379.1 26).toInt ≤ 5 := aw_bd_f hs (hI382).1 (by decide) rfl
                have c390 : (S379.1 29).toInt = (S346.1 29).toInt := (congrArg Int32.toInt (fc379.1 29 (by decide)).1).trans rfl
                exact ihL249_344 S379 lv347 (x348) (x349) hlv347_0 hlv347_1 hlv347_2 ⟨(hI382).1, (aw_G_sm hI382.2 hI350.2)⟩ fr381 (by first | omega | decide) ci380 (show _ ≤ ((S379.1 30)).toInt by omega) (show _ ≤ ((S379.1 30)).toInt by omega) (show ((S379.1 26)).toInt = 3 ∧ (((S379.1 29)).toInt = 38 ∨ ((S379.1 29)).toInt = 124) by omega) (show (((S379.1 43)).toInt).toNat < _ by omega)
            · skip
              have pb377 : ¬ (1 ≤ (S346.1 43).toInt ∧ (S346.2.2.1 22 ((S346.1 43).toInt - 1).toNat).toInt = (124 : Int)) := pb377
              show aw_W _ _ _ _ 273 lv347 [.int b377] _ _
              refine aw_z (tgt := 283) aj_d237 rfl rfl (fun q391 => ?_) (fun q391 => ?_)
              · have q391 : (0 : Int) = (0 : Int) := aw_t_eq (a := (0 : Int)) (b := (0 : Int)) hb377 rfl q391
                refine aw_l2 aj_d237 rfl rfl hlv347_0 ?_
                refine aw_g hU.1 aj_d237 rfl rfl (by decide) (v := .ref 139) rfl ?_
                refine aw_l2 aj_d237 rfl rfl hlv347_0 ?_
                refine aw_g hU.1 aj_d237 rfl rfl (by decide) (v := .int (S346.1 43)) rfl ?_
                refine aw_l2 aj_d237 rfl rfl hlv347_0 ?_
                refine aw_g hU.1 aj_d237 rfl rfl (by decide) (v := .int (S346.1 29)) rfl ?_
                refine aw_st (k := 22) hU.1 aj_d237 (Or.inl ⟨rfl, rfl⟩) rfl (by decide) (by decide) rfl (a := (S346.1 43).toInt) rfl (by omega) (by omega) ?_
                have hI392 := aw_I_a (aw_UV hU aw_Gs_sm) (k := 22) (j := ((S346.1 43).toInt).toNat) (v := aj_nar 0 (S346.1 29)) hI352 (by decide) (by decide) (by decide) rfl (by decide) (by decide) rfl (aw_full _)
                have fr393 := aw_fr_a (k := 22) (j := ((S346.1 43).toInt).toNat) (v := aj_nar 0 (S346.1 29)) (by decide) fr351
                refine aw_l2 aj_d237 rfl rfl hlv347_0 ?_
                refine aw_n aj_d237 rfl rfl ?_
                refine aw_g hU.1 aj_d237 rfl rfl (by decide) (v := .int (S346.1 43)) rfl ?_
                refine aw_n aj_d237 rfl rfl ?_
                refine aw_add aj_d237 rfl (a := (S346.1 43).toInt) (b := (1 : Int)) rfl rfl (by omega) (by omega) (fun x394 ex394 => ?_)
                refine aw_p hU.1 aj_d237 rfl rfl (by decide) rfl ?_
                have hI395 := aw_I_f (aw_UV hU aw_Gs_sm) (k := 43) (v := x394) hI392 (by decide) (by decide) rfl (aw_bp (a := x394.toInt) rfl (by omega) (by omega))
                have fr396 := aw_fr_f (k := 43) (v := x394) (by decide) fr393
                have ci397 : ar_CI (((aw_wf (aw_wa S346 22 ((S346.1 43).toInt).toNat (aj_nar 0 (S346.1 29))) 43 x394)).2.2.1 22) ((((aw_wf (aw_wa S346 22 ((S346.1 43).toInt).toNat (aj_nar 0 (S346.1 29))) 43 x394)).1 43).toInt).toNat (((aw_wf (aw_wa S346 22 ((S346.1 43).toInt).toNat (aj_nar 0 (S346.1 29))) 43 x394)).1 41).toInt (((aw_wf (aw_wa S346 22 ((S346.1 43).toInt).toNat (aj_nar 0 (S346.1 29))) 43 x394)).1 44).toInt x348.toInt 0 := by
                  show ar_CI (upd (S346.2.2.1 22) ((S346.1 43).toInt).toNat ((S346.1 29))) ((x394).toInt).toNat ((S346.1 41).toInt) (S346.1 44).toInt x348.toInt 0
                  rw [show ((x394).toInt).toNat = ((S346.1 43).toInt).toNat + 1 by omega]
                  have e7 : ((S346.1 43).toInt - 1).toNat = ((S346.1 43).toInt).toNat - 1 := by omega
                  rw [e7] at pb357 pb377
                  refine ar_CI_op ci249 ?_
                  rcases k249 with ⟨-, k9 | k9⟩
                  · exact Or.inl ⟨k9, fun z => pb357 ⟨by omega, z.2⟩⟩
                  · exact Or.inr ⟨k9, fun z => pb357 ⟨by omega, z.2⟩, fun z => pb377 ⟨by omega, z.2⟩⟩
                refine aw_l2 aj_d237 rfl rfl hlv347_0 ?_
                refine aw_k hU.1 aj_d237 rfl rfl [] rfl rfl rfl (Nat.le_of_ble_eq_true rfl) (ar_pass hU (hI395).1 (aw_G_sm hI395.2 hI350.2) (by omega) (show ((S346.1 26)).toInt ≠ 0 by omega) (show ¬ (((S346.1 26)).toInt = 3 ∧ ((S346.1 29)).toInt = 63) by omega) (show ((S346.1 26)).toInt = 4 → ((S346.1 29)).toInt = 3 ∨ 6 ≤ ((S346.1 29)).toInt by omega)) ?_
                rintro _ S398 ⟨hT398, fc398, ⟨b398, rfl, hb398, hG398, fd398, hz398⟩ | ⟨b398, rfl, hb398, hG398, ck398, fd398, cj398⟩⟩
                · skip
                  have fr399 := aw_fr_tr fr396 (aw_fr_sub (F := [24, 25, 31]) (A := []) (by decide) (by decide) fd398)
                  have hI400 : aw_I s h (aw_sm S398) S398 := ⟨hT398, aw_sm_rf⟩
                  show aw_W _ _ _ _ 310 lv347 [.int b398] _ _
                  refine aw_z (tgt := 19) aj_d237 rfl rfl (fun q401 => ?_) (fun q401 => ?_)
                  · have q401 : (0 : Int) ≠ (0 : Int) := aw_t_ne (a := (0 : Int)) (b := (0 : Int)) hb398 rfl q401
                    exfalso
                    omega
                  · have q401 : (0 : Int) = (0 : Int) := aw_t_ne (a := (0 : Int)) (b := (0 : Int)) hb398 rfl q401
                    refine aw_n aj_d237 rfl rfl ?_
                    refine aw_e aj_d237 rfl rfl ?_
                    have c402 : (S398.1 30).toInt = (S346.1 30).toInt := (congrArg Int32.toInt (fd398.1 30 (by decide)).1).trans rfl
                    have b403 : 0 ≤ (S398.1 30).toInt ∧ (S398.1 30).toInt ≤ 1001 := aw_bd_f hs (hI400).1 (by decide) rfl
                    exact ⟨(hI400).1, fr399, Or.inl ⟨_, rfl, rfl, hG398, (show _ ≤ ((S398.1 30)).toInt by omega)⟩⟩
                · skip
                  have cj398 : (S398.1 30).toInt = ((S346.1 30)).toInt + 1 := cj398
                  have fr404 := aw_fr_tr fr396 (aw_fr_sub (F := [26, 27, 28, 29, 30]) (A := []) (by decide) (by decide) fd398)
                  have hI405 : aw_I s h (aw_sm S398) S398 := ⟨hT398, aw_sm_rf⟩
                  have ci406 : ar_CI (S398.2.2.1 22) ((S398.1 43).toInt).toNat (S398.1 41).toInt (S398.1 44).toInt x348.toInt 0 := by
                    rw [(fd398.2 22 (by decide)).1, (fd398.1 43 (by decide)).1, (fd398.1 41 (by decide)).1, (fd398.1 44 (by decide)).1]
                    exact ci397
                  have c407 : (S398.1 41).toInt = (S346.1 41).toInt := (congrArg Int32.toInt (fd398.1 41 (by decide)).1).trans rfl
                  have b408 : 0 ≤ (S398.1 41).toInt ∧ (S398.1 41).toInt ≤ 8 := aw_bd_f hs (hI405).1 (by decide) rfl
                  have c409 : (S398.1 43).toInt = x394.toInt := (congrArg Int32.toInt (fd398.1 43 (by decide)).1).trans rfl
                  have b410 : 0 ≤ (S398.1 43).toInt ∧ (S398.1 43).toInt ≤ 39 := aw_bd_f hs (hI405).1 (by decide) rfl
                  have c411 : (S398.1 44).toInt = (S346.1 44).toInt := (congrArg Int32.toInt (fd398.1 44 (by decide)).1).trans rfl
                  have b412 : 0 ≤ (S398.1 44).toInt ∧ (S398.1 44).toInt ≤ 31 := aw_bd_f hs (hI405).1 (by decide) rfl
                  have b413 : 0 ≤ (S398.1 30).toInt ∧ (S398.1 30).toInt ≤ 1001 := aw_bd_f hs (hI405).1 (by decide) rfl
                  have cbci406 := ar_CI_b ci406 (by omega)
                  show aw_W _ _ _ _ 310 lv347 [.int b398] _ _
                  refine aw_z (tgt := 19) aj_d237 rfl rfl (fun q414 => ?_) (fun q414 => ?_)
                  · have q414 : (1 : Int) ≠ (0 : Int) := aw_t_ne (a := (1 : Int)) (b := (0 : Int)) hb398 rfl q414
                    refine aw_l0 aj_d237 rfl rfl hlv347_2 ?_
                    refine aw_z (tgt := 315) aj_d237 rfl rfl (fun q415 => ?_) (fun q415 => ?_)
                    · have q415 : (1 : Int) = (0 : Int) := aw_t_eq (a := (1 : Int)) (b := (0 : Int)) (by omega) rfl q415
                      exfalso
                      omega
                    · have q415 : (1 : Int) ≠ (0 : Int) := aw_t_eq (a := (1 : Int)) (b := (0 : Int)) (by omega) rfl q415
                      exact ihL23_13 S398 lv347 (x348) hlv347_0 hlv347_1 ⟨(hI405).1, hG398⟩ fr404 ci406 (show _ ≤ ((S398.1 30)).toInt by omega) (show (1001 - ((S398.1 30)).toInt).toNat < _ by omega)
                  · have q414 : (1 : Int) = (0 : Int) := aw_t_ne (a := (1 : Int)) (b := (0 : Int)) hb398 rfl q414
                    exfalso
                    omega
              · have q391 : (0 : Int) ≠ (0 : Int) := aw_t_eq (a := (0 : Int)) (b := (0 : Int)) hb377 rfl q391
                exfalso
                omega
        · skip
          have pb373 : ¬ (((S346.1 26)).toInt = 3 ∧ ((S346.1 29)).toInt = (124 : Int)) := pb373
          show aw_W _ _ _ _ 264 lv347 [.int b373] _ _
          refine aw_z (tgt := 283) aj_d237 rfl rfl (fun q416 => ?_) (fun q416 => ?_)
          · have q416 : (0 : Int) = (0 : Int) := aw_t_eq (a := (0 : Int)) (b := (0 : Int)) hb373 rfl q416
            refine aw_l2 aj_d237 rfl rfl hlv347_0 ?_
            refine aw_g hU.1 aj_d237 rfl rfl (by decide) (v := .ref 139) rfl ?_
            refine aw_l2 aj_d237 rfl rfl hlv347_0 ?_
            refine aw_g hU.1 aj_d237 rfl rfl (by decide) (v := .int (S346.1 43)) rfl ?_
            refine aw_l2 aj_d237 rfl rfl hlv347_0 ?_
            refine aw_g hU.1 aj_d237 rfl rfl (by decide) (v := .int (S346.1 29)) rfl ?_
            refine aw_st (k := 22) hU.1 aj_d237 (Or.inl ⟨rfl, rfl⟩) rfl (by decide) (by decide) rfl (a := (S346.1 43).toInt) rfl (by omega) (by omega) ?_
            have hI417 := aw_I_a (aw_UV hU aw_Gs_sm) (k := 22) (j := ((S346.1 43).toInt).toNat) (v := aj_nar 0 (S346.1 29)) hI352 (by decide) (by decide) (by decide) rfl (by decide) (by decide) rfl (aw_full _)
            have fr418 := aw_fr_a (k := 22) (j := ((S346.1 43).toInt).toNat) (v := aj_nar 0 (S346.1 29)) (by decide) fr351
            refine aw_l2 aj_d237 rfl rfl hlv347_0 ?_
            refine aw_n aj_d237 rfl rfl ?_
            refine aw_g hU.1 aj_d237 rfl rfl (by decide) (v := .int (S346.1 43)) rfl ?_
            refine aw_n aj_d237 rfl rfl ?_
            refine aw_add aj_d237 rfl (a := (S346.1 43).toInt) (b := (1 : Int)) rfl rfl (by omega) (by omega) (fun x419 ex419 => ?_)
            refine aw_p hU.1 aj_d237 rfl rfl (by decide) rfl ?_
            have hI420 := aw_I_f (aw_UV hU aw_Gs_sm) (k := 43) (v := x419) hI417 (by decide) (by decide) rfl (aw_bp (a := x419.toInt) rfl (by omega) (by omega))
            have fr421 := aw_fr_f (k := 43) (v := x419) (by decide) fr418
            have ci422 : ar_CI (((aw_wf (aw_wa S346 22 ((S346.1 43).toInt).toNat (aj_nar 0 (S346.1 29))) 43 x419)).2.2.1 22) ((((aw_wf (aw_wa S346 22 ((S346.1 43).toInt).toNat (aj_nar 0 (S346.1 29))) 43 x419)).1 43).toInt).toNat (((aw_wf (aw_wa S346 22 ((S346.1 43).toInt).toNat (aj_nar 0 (S346.1 29))) 43 x419)).1 41).toInt (((aw_wf (aw_wa S346 22 ((S346.1 43).toInt).toNat (aj_nar 0 (S346.1 29))) 43 x419)).1 44).toInt x348.toInt 0 := by
              show ar_CI (upd (S346.2.2.1 22) ((S346.1 43).toInt).toNat ((S346.1 29))) ((x419).toInt).toNat ((S346.1 41).toInt) (S346.1 44).toInt x348.toInt 0
              rw [show ((x419).toInt).toNat = ((S346.1 43).toInt).toNat + 1 by omega]
              have e7 : ((S346.1 43).toInt - 1).toNat = ((S346.1 43).toInt).toNat - 1 := by omega
              rw [e7] at pb357
              refine ar_CI_op ci249 ?_
              exact Or.inl ⟨by omega, fun z => pb357 ⟨by omega, z.2⟩⟩
            refine aw_l2 aj_d237 rfl rfl hlv347_0 ?_
            refine aw_k hU.1 aj_d237 rfl rfl [] rfl rfl rfl (Nat.le_of_ble_eq_true rfl) (ar_pass hU (hI420).1 (aw_G_sm hI420.2 hI350.2) (by omega) (show ((S346.1 26)).toInt ≠ 0 by omega) (show ¬ (((S346.1 26)).toInt = 3 ∧ ((S346.1 29)).toInt = 63) by omega) (show ((S346.1 26)).toInt = 4 → ((S346.1 29)).toInt = 3 ∨ 6 ≤ ((S346.1 29)).toInt by omega)) ?_
            rintro _ S423 ⟨hT423, fc423, ⟨b423, rfl, hb423, hG423, fd423, hz423⟩ | ⟨b423, rfl, hb423, hG423, ck423, fd423, cj423⟩⟩
            · skip
              have fr424 := aw_fr_tr fr421 (aw_fr_sub (F := [24, 25, 31]) (A := []) (by decide) (by decide) fd423)
              have hI425 : aw_I s h (aw_sm S423) S423 := ⟨hT423, aw_sm_rf⟩
              show aw_W _ _ _ _ 310 lv347 [.int b423] _ _
              refine aw_z (tgt := 19) aj_d237 rfl rfl (fun q426 => ?_) (fun q426 => ?_)
              · have q426 : (0 : Int) ≠ (0 : Int) := aw_t_ne (a := (0 : Int)) (b := (0 : Int)) hb423 rfl q426
                exfalso
                omega
              · have q426 : (0 : Int) = (0 : Int) := aw_t_ne (a := (0 : Int)) (b := (0 : Int)) hb423 rfl q426
                refine aw_n aj_d237 rfl rfl ?_
                refine aw_e aj_d237 rfl rfl ?_
                have c427 : (S423.1 30).toInt = (S346.1 30).toInt := (congrArg Int32.toInt (fd423.1 30 (by decide)).1).trans rfl
                have b428 : 0 ≤ (S423.1 30).toInt ∧ (S423.1 30).toInt ≤ 1001 := aw_bd_f hs (hI425).1 (by decide) rfl
                exact ⟨(hI425).1, fr424, Or.inl ⟨_, rfl, rfl, hG423, (show _ ≤ ((S423.1 30)).toInt by omega)⟩⟩
            · skip
              have cj423 : (S423.1 30).toInt = ((S346.1 30)).toInt + 1 := cj423
              have fr429 := aw_fr_tr fr421 (aw_fr_sub (F := [26, 27, 28, 29, 30]) (A := []) (by decide) (by decide) fd423)
              have hI430 : aw_I s h (aw_sm S423) S423 := ⟨hT423, aw_sm_rf⟩
              have ci431 : ar_CI (S423.2.2.1 22) ((S423.1 43).toInt).toNat (S423.1 41).toInt (S423.1 44).toInt x348.toInt 0 := by
                rw [(fd423.2 22 (by decide)).1, (fd423.1 43 (by decide)).1, (fd423.1 41 (by decide)).1, (fd423.1 44 (by decide)).1]
                exact ci422
              have c432 : (S423.1 41).toInt = (S346.1 41).toInt := (congrArg Int32.toInt (fd423.1 41 (by decide)).1).trans rfl
              have b433 : 0 ≤ (S423.1 41).toInt ∧ (S423.1 41).toInt ≤ 8 := aw_bd_f hs (hI430).1 (by decide) rfl
              have c434 : (S423.1 43).toInt = x419.toInt := (congrArg Int32.toInt (fd423.1 43 (by decide)).1).trans rfl
              have b435 : 0 ≤ (S423.1 43).toInt ∧ (S423.1 43).toInt ≤ 39 := aw_bd_f hs (hI430).1 (by decide) rfl
              have c436 : (S423.1 44).toInt = (S346.1 44).toInt := (congrArg Int32.toInt (fd423.1 44 (by decide)).1).trans rfl
              have b437 : 0 ≤ (S423.1 44).toInt ∧ (S423.1 44).toInt ≤ 31 := aw_bd_f hs (hI430).1 (by decide) rfl
              have b438 : 0 ≤ (S423.1 30).toInt ∧ (S423.1 30).toInt ≤ 1001 := aw_bd_f hs (hI430).1 (by decide) rfl
              have cbci431 := ar_CI_b ci431 (by omega)
              show aw_W _ _ _ _ 310 lv347 [.int b423] _ _
              refine aw_z (tgt := 19) aj_d237 rfl rfl (fun q439 => ?_) (fun q439 => ?_)
              · have q439 : (1 : Int) ≠ (0 : Int) := aw_t_ne (a := (1 : Int)) (b := (0 : Int)) hb423 rfl q439
                refine aw_l0 aj_d237 rfl rfl hlv347_2 ?_
                refine aw_z (tgt := 315) aj_d237 rfl rfl (fun q440 => ?_) (fun q440 => ?_)
                · have q440 : (1 : Int) = (0 : Int) := aw_t_eq (a := (1 : Int)) (b := (0 : Int)) (by omega) rfl q440
                  exfalso
                  omega
                · have q440 : (1 : Int) ≠ (0 : Int) := aw_t_eq (a := (1 : Int)) (b := (0 : Int)) (by omega) rfl q440
                  exact ihL23_13 S423 lv347 (x348) hlv347_0 hlv347_1 ⟨(hI430).1, hG423⟩ fr429 ci431 (show _ ≤ ((S423.1 30)).toInt by omega) (show (1001 - ((S423.1 30)).toInt).toNat < _ by omega)
              · have q439 : (1 : Int) = (0 : Int) := aw_t_ne (a := (1 : Int)) (b := (0 : Int)) hb423 rfl q439
                exfalso
                omega
          · have q416 : (0 : Int) ≠ (0 : Int) := aw_t_eq (a := (0 : Int)) (b := (0 : Int)) hb373 rfl q416
            exfalso
            omega
theorem ar_cond_L205_484 (hU : aw_U tb s h) (hd : 8 ≤ d + 1) (N23 : Nat) (S15 : aj_S) (x17 : Int32) (ihL23_13 : ∀ (S15 : aj_S) (lv16 : aj_V) (x17 : Int32), (aj_lv lv16 0 = some (.ref 117)) → (aj_lv lv16 1 = some (.int x17)) → (aw_I s h (aw_G (nm, fl, la, 0, 0, ht)) S15) → (aw_fr [24, 25, 26, 27, 28, 29, 30, 31, 33, 34, 35, 36, 38, 39, 40, 41, 43, 44] [20, 22] S S15) → (ar_CI (S15.2.2.1 22) ((S15.1 43).toInt).toNat (S15.1 41).toInt (S15.1 44).toInt x17.toInt 0) → ((S.1 30).toInt + 0 ≤ (S15.1 30).toInt) → (1001 - (S15.1 30).toInt).toNat < N23 → aw_W tb h d aj_m237 23 lv16 [] S15 ((ar_QT s h (nm, fl, la, 0, 0, ht) [24, 25, 26, 27, 28, 29, 30, 31, 33, 34, 35, 36, 38, 39, 40, 41, 43, 44] [20, 22] S (fun _ => True)))) (hm23 : (1001 - (S15.1 30).toInt).toNat < N23 + 1) (N128 : Nat) (S160 : aj_S) (x162 : Int32) (ihL128_158 : ∀ (S160 : aj_S) (lv161 : aj_V) (x162 : Int32), (aj_lv lv161 0 = some (.ref 117)) → (aj_lv lv161 1 = some (.int x162)) → (aw_I s h (aw_G (nm, fl, la, 0, 0, ht)) S160) → (aw_fr [24, 25, 26, 27, 28, 29, 30, 31, 33, 34, 35, 36, 38, 39, 40, 41, 43, 44] [20, 22] S S160) → (ar_CI (S160.2.2.1 22) ((S160.1 43).toInt).toNat (S160.1 41).toInt (S160.1 44).toInt x162.toInt 1) → ((S.1 30).toInt + 1 ≤ (S160.1 30).toInt) → ((S15.1 30).toInt + 1 ≤ (S160.1 30).toInt) → ((S160.1 43).toInt).toNat < N128 → aw_W tb h d aj_m237 128 lv161 [] S160 ((ar_QT s h (nm, fl, la, 0, 0, ht) [24, 25, 26, 27, 28, 29, 30, 31, 33, 34, 35, 36, 38, 39, 40, 41, 43, 44] [20, 22] S (fun _ => True)))) (hm128 : ((S160.1 43).toInt).toNat < N128 + 1) (N144 : Nat) (S334 : aj_S) (x336 : Int32) (ihL144_332 : ∀ (S334 : aj_S) (lv335 : aj_V) (x336 : Int32), (aj_lv lv335 0 = some (.ref 117)) → (aj_lv lv335 1 = some (.int x336)) → (aw_I s h (aw_G (nm, fl, la, 0, 0, ht)) S334) → (aw_fr [24, 25, 26, 27, 28, 29, 30, 31, 33, 34, 35, 36, 38, 39, 40, 41, 43, 44] [20, 22] S S334) → (ar_CI (S334.2.2.1 22) ((S334.1 43).toInt).toNat (S334.1 41).toInt (S334.1 44).toInt x336.toInt 1) → ((S.1 30).toInt + 1 ≤ (S334.1 30).toInt) → ((S15.1 30).toInt + 1 ≤ (S334.1 30).toInt) → (1001 - (S334.1 30).toInt).toNat < N144 → aw_W tb h d aj_m237 144 lv335 [] S334 ((ar_QT s h (nm, fl, la, 0, 0, ht) [24, 25, 26, 27, 28, 29, 30, 31, 33, 34, 35, 36, 38, 39, 40, 41, 43, 44] [20, 22] S (fun _ => True)))) (hm144 : (1001 - (S334.1 30).toInt).toNat < N144 + 1) (N157 : Nat) (S446 : aj_S) (x448 : Int32) (ihL157_444 : ∀ (S446 : aj_S) (lv447 : aj_V) (x448 : Int32), (aj_lv lv447 0 = some (.ref 117)) → (aj_lv lv447 1 = some (.int x448)) → (aw_I s h (aw_G (nm, fl, la, 0, 0, ht)) S446) → (aw_fr [24, 25, 26, 27, 28, 29, 30, 31, 33, 34, 35, 36, 38, 39, 40, 41, 43, 44] [20, 22] S S446) → (ar_CI (S446.2.2.1 22) ((S446.1 43).toInt).toNat (S446.1 41).toInt (S446.1 44).toInt x448.toInt 1) → ((S.1 30).toInt + 1 ≤ (S446.1 30).toInt) → ((S15.1 30).toInt + 1 ≤ (S446.1 30).toInt) → ((S334.1 30).toInt ≤ (S446.1 30).toInt) → (1 ≤ x448.toInt) → ((S446.1 26).toInt = 3) → ((S446.1 29).toInt = 41) → ((S446.1 43).toInt).toNat < N157 → aw_W tb h d aj_m237 157 lv447 [] S446 ((ar_QT s h (nm, fl, la, 0, 0, ht) [24, 25, 26, 27, 28, 29, 30, 31, 33, 34, 35, 36, 38, 39, 40, 41, 43, 44] [20, 22] S (fun _ => True)))) (hm157 : ((S446.1 43).toInt).toNat < N157 + 1) : ∀ (N : Nat) (S486 : aj_S) (lv487 : aj_V) (x488 : Int32), (aj_lv lv487 0 = some (.ref 117)) → (aj_lv lv487 1 = some (.int x488)) → (aw_I s h (aw_G (nm, fl, la, 0, 0, ht)) S486) → (aw_fr [24, 25, 26, 27, 28, 29, 30, 31, 33, 34, 35, 36, 38, 39, 40, 41, 43, 44] [20, 22] S S486) → (ar_CI (S486.2.2.1 22) ((S486.1 43).toInt).toNat (S486.1 41).toInt (S486.1 44).toInt x488.toInt 1) → ((S.1 30).toInt + 1 ≤ (S486.1 30).toInt) → ((S15.1 30).toInt + 1 ≤ (S486.1 30).toInt) → ((S334.1 30).toInt + 1 ≤ (S486.1 30).toInt) → ((S486.1 43).toInt).toNat < N → aw_W tb h d aj_m237 205 lv487 [] S486 ((ar_QT s h (nm, fl, la, 0, 0, ht) [24, 25, 26, 27, 28, 29, 30, 31, 33, 34, 35, 36, 38, 39, 40, 41, 43, 44] [20, 22] S (fun _ => True))) := by
  have hs : aw_sT s := aw_hy_sT hU.2.2
  intro N205
  induction N205 with
  | zero =>
    intro S486 lv487 x488 hlv487_0 hlv487_1 hI489 fr490 ci205 ck205 cA205 cB205 hm205
    omega
  | succ N205 ihL205_484 =>
    intro S486 lv487 x488 hlv487_0 hlv487_1 hI489 fr490 ci205 ck205 cA205 cB205 hm205
    have hI491 : aw_I s h (aw_sm S486) S486 := ⟨hI489.1, aw_sm_rf⟩
    have b492 : 0 ≤ (S486.1 41).toInt ∧ (S486.1 41).toInt ≤ 8 := aw_bd_f hs (hI491).1 (by decide) rfl
    have b493 : 0 ≤ (S486.1 43).toInt ∧ (S486.1 43).toInt ≤ 39 := aw_bd_f hs (hI491).1 (by decide) rfl
    have b494 : 0 ≤ (S486.1 44).toInt ∧ (S486.1 44).toInt ≤ 31 := aw_bd_f hs (hI491).1 (by decide) rfl
    have b495 : 0 ≤ (S486.1 30).toInt ∧ (S486.1 30).toInt ≤ 1001 := aw_bd_f hs (hI491).1 (by decide) rfl
    have cbci205 := ar_CI_b ci205 (by omega)
    refine aw_l2 aj_d237 rfl rfl hlv487_0 ?_
    refine aw_n aj_d237 rfl rfl ?_
    refine aw_k hU.1 aj_d237 rfl rfl [_] rfl rfl rfl (Nat.le_of_ble_eq_true rfl) (ar_isWaiting hU (hI491).1 (by omega)) ?_
    rintro _ zb496 ⟨fb496, b496, rfl, kb496⟩
    rw [fb496]
    rcases kb496 with ⟨hb496, pb496, qb496⟩ | ⟨hb496, pb496⟩
    · skip
      have qb496 : (S486.2.2.1 22 ((S486.1 43).toInt - 1).toNat).toInt = (33 : Int) := qb496
      have pb496 : 1 ≤ (S486.1 43).toInt := pb496
      show aw_W _ _ _ _ 211 lv487 [.int b496] _ _
      refine aw_z (tgt := 144) aj_d237 rfl rfl (fun q497 => ?_) (fun q497 => ?_)
      · have q497 : (1 : Int) = (0 : Int) := aw_t_eq (a := (1 : Int)) (b := (0 : Int)) hb496 rfl q497
        exfalso
        omega
      · have q497 : (1 : Int) ≠ (0 : Int) := aw_t_eq (a := (1 : Int)) (b := (0 : Int)) hb496 rfl q497
        refine aw_l2 aj_d237 rfl rfl hlv487_0 ?_
        have pr498 := ar_CI_pre ci205 (by omega) (by rw [qb496]; decide)
        refine aw_k hU.1 aj_d237 rfl rfl [] rfl rfl rfl (Nat.le_of_ble_eq_true rfl) (ar_reduce hU (hI491).1 (by omega) (show 1 ≤ (S486.1 43).toInt by omega) pr498.1 pr498.2) ?_
        rintro _ S498 ⟨hT498, fc498, rfl, r1498, r2498, r3498⟩
        have r1498 : (S498.1 43).toInt = (S486.1 43).toInt - 1 := r1498
        have fr500 := aw_fr_tr fr490 (aw_fr_sub (F := [41, 43, 44]) (A := [20]) (by decide) (by decide) fc498)
        have hI501 : aw_I s h (aw_sm S486) S498 := ⟨hT498, aw_sm_tr hI491.2 (aw_fr_sm (by decide) (by decide) (by decide) (F := [41, 43, 44]) (A := [20]) fc498)⟩
        have ci499 : ar_CI (S498.2.2.1 22) ((S498.1 43).toInt).toNat (S498.1 41).toInt (S498.1 44).toInt x488.toInt 1 := by
          rw [(fc498.2 22 (by decide)).1]
          exact ar_CI_red ci205 (by omega) (by rw [qb496]; decide) r1498 r2498 r3498
        have b502 : 0 ≤ (S498.1 41).toInt ∧ (S498.1 41).toInt ≤ 8 := aw_bd_f hs (hI501).1 (by decide) rfl
        have b503 : 0 ≤ (S498.1 43).toInt ∧ (S498.1 43).toInt ≤ 39 := aw_bd_f hs (hI501).1 (by decide) rfl
        have b504 : 0 ≤ (S498.1 44).toInt ∧ (S498.1 44).toInt ≤ 31 := aw_bd_f hs (hI501).1 (by decide) rfl
        have c505 : (S498.1 30).toInt = (S486.1 30).toInt := (congrArg Int32.toInt (fc498.1 30 (by decide)).1).trans rfl
        have b506 : 0 ≤ (S498.1 30).toInt ∧ (S498.1 30).toInt ≤ 1001 := aw_bd_f hs (hI501).1 (by decide) rfl
        have cbci499 := ar_CI_b ci499 (by omega)
        show aw_W _ _ _ _ 218 lv487 [] _ _
        refine aw_n aj_d237 rfl rfl ?_
        exact ihL205_484 S498 lv487 (x488) hlv487_0 hlv487_1 ⟨(hI501).1, (aw_G_sm hI501.2 hI489.2)⟩ fr500 ci499 (show _ ≤ ((S498.1 30)).toInt by omega) (show _ ≤ ((S498.1 30)).toInt by omega) (show _ ≤ ((S498.1 30)).toInt by omega) (show (((S498.1 43)).toInt).toNat < _ by omega)
    · skip
      have pb496 : ¬ (1 ≤ (S486.1 43).toInt ∧ (S486.2.2.1 22 ((S486.1 43).toInt - 1).toNat).toInt = (33 : Int)) := pb496
      show aw_W _ _ _ _ 211 lv487 [.int b496] _ _
      refine aw_z (tgt := 144) aj_d237 rfl rfl (fun q507 => ?_) (fun q507 => ?_)
      · have q507 : (0 : Int) = (0 : Int) := aw_t_eq (a := (0 : Int)) (b := (0 : Int)) hb496 rfl q507
        exact ihL144_332 S486 lv487 (x488) hlv487_0 hlv487_1 ⟨(hI491).1, hI489.2⟩ fr490 ci205 (show _ ≤ ((S486.1 30)).toInt by omega) (show _ ≤ ((S486.1 30)).toInt by omega) (show (1001 - ((S486.1 30)).toInt).toNat < _ by omega)
      · have q507 : (0 : Int) ≠ (0 : Int) := aw_t_eq (a := (0 : Int)) (b := (0 : Int)) hb496 rfl q507
        exfalso
        omega
theorem ar_cond_L157_444 (hU : aw_U tb s h) (hd : 8 ≤ d + 1) (N23 : Nat) (S15 : aj_S) (x17 : Int32) (ihL23_13 : ∀ (S15 : aj_S) (lv16 : aj_V) (x17 : Int32), (aj_lv lv16 0 = some (.ref 117)) → (aj_lv lv16 1 = some (.int x17)) → (aw_I s h (aw_G (nm, fl, la, 0, 0, ht)) S15) → (aw_fr [24, 25, 26, 27, 28, 29, 30, 31, 33, 34, 35, 36, 38, 39, 40, 41, 43, 44] [20, 22] S S15) → (ar_CI (S15.2.2.1 22) ((S15.1 43).toInt).toNat (S15.1 41).toInt (S15.1 44).toInt x17.toInt 0) → ((S.1 30).toInt + 0 ≤ (S15.1 30).toInt) → (1001 - (S15.1 30).toInt).toNat < N23 → aw_W tb h d aj_m237 23 lv16 [] S15 ((ar_QT s h (nm, fl, la, 0, 0, ht) [24, 25, 26, 27, 28, 29, 30, 31, 33, 34, 35, 36, 38, 39, 40, 41, 43, 44] [20, 22] S (fun _ => True)))) (hm23 : (1001 - (S15.1 30).toInt).toNat < N23 + 1) (N128 : Nat) (S160 : aj_S) (x162 : Int32) (ihL128_158 : ∀ (S160 : aj_S) (lv161 : aj_V) (x162 : Int32), (aj_lv lv161 0 = some (.ref 117)) → (aj_lv lv161 1 = some (.int x162)) → (aw_I s h (aw_G (nm, fl, la, 0, 0, ht)) S160) → (aw_fr [24, 25, 26, 27, 28, 29, 30, 31, 33, 34, 35, 36, 38, 39, 40, 41, 43, 44] [20, 22] S S160) → (ar_CI (S160.2.2.1 22) ((S160.1 43).toInt).toNat (S160.1 41).toInt (S160.1 44).toInt x162.toInt 1) → ((S.1 30).toInt + 1 ≤ (S160.1 30).toInt) → ((S15.1 30).toInt + 1 ≤ (S160.1 30).toInt) → ((S160.1 43).toInt).toNat < N128 → aw_W tb h d aj_m237 128 lv161 [] S160 ((ar_QT s h (nm, fl, la, 0, 0, ht) [24, 25, 26, 27, 28, 29, 30, 31, 33, 34, 35, 36, 38, 39, 40, 41, 43, 44] [20, 22] S (fun _ => True)))) (hm128 : ((S160.1 43).toInt).toNat < N128 + 1) (N144 : Nat) (S334 : aj_S) (x336 : Int32) (ihL144_332 : ∀ (S334 : aj_S) (lv335 : aj_V) (x336 : Int32), (aj_lv lv335 0 = some (.ref 117)) → (aj_lv lv335 1 = some (.int x336)) → (aw_I s h (aw_G (nm, fl, la, 0, 0, ht)) S334) → (aw_fr [24, 25, 26, 27, 28, 29, 30, 31, 33, 34, 35, 36, 38, 39, 40, 41, 43, 44] [20, 22] S S334) → (ar_CI (S334.2.2.1 22) ((S334.1 43).toInt).toNat (S334.1 41).toInt (S334.1 44).toInt x336.toInt 1) → ((S.1 30).toInt + 1 ≤ (S334.1 30).toInt) → ((S15.1 30).toInt + 1 ≤ (S334.1 30).toInt) → (1001 - (S334.1 30).toInt).toNat < N144 → aw_W tb h d aj_m237 144 lv335 [] S334 ((ar_QT s h (nm, fl, la, 0, 0, ht) [24, 25, 26, 27, 28, 29, 30, 31, 33, 34, 35, 36, 38, 39, 40, 41, 43, 44] [20, 22] S (fun _ => True)))) (hm144 : (1001 - (S334.1 30).toInt).toNat < N144 + 1) : ∀ (N : Nat) (S446 : aj_S) (lv447 : aj_V) (x448 : Int32), (aj_lv lv447 0 = some (.ref 117)) → (aj_lv lv447 1 = some (.int x448)) → (aw_I s h (aw_G (nm, fl, la, 0, 0, ht)) S446) → (aw_fr [24, 25, 26, 27, 28, 29, 30, 31, 33, 34, 35, 36, 38, 39, 40, 41, 43, 44] [20, 22] S S446) → (ar_CI (S446.2.2.1 22) ((S446.1 43).toInt).toNat (S446.1 41).toInt (S446.1 44).toInt x448.toInt 1) → ((S.1 30).toInt + 1 ≤ (S446.1 30).toInt) → ((S15.1 30).toInt + 1 ≤ (S446.1 30).toInt) → ((S334.1 30).toInt ≤ (S446.1 30).toInt) → (1 ≤ x448.toInt) → ((S446.1 26).toInt = 3) → ((S446.1 29).toInt = 41) → ((S446.1 43).toInt).toNat < N → aw_W tb h d aj_m237 157 lv447 [] S446 ((ar_QT s h (nm, fl, la, 0, 0, ht) [24, 25, 26, 27, 28, 29, 30, 31, 33, 34, 35, 36, 38, 39, 40, 41, 43, 44] [20, 22] S (fun _ => True))) := by
  have hs : aw_sT s := aw_hy_sT hU.2.2
  intro N157
  induction N157 with
  | zero =>
    intro S446 lv447 x448 hlv447_0 hlv447_1 hI449 fr450 ci157 ck157 cA157 cB157 op157 k157 m157 hm157
    omega
  | succ N157 ihL157_444 =>
    intro S446 lv447 x448 hlv447_0 hlv447_1 hI449 fr450 ci157 ck157 cA157 cB157 op157 k157 m157 hm157
    have hI451 : aw_I s h (aw_sm S446) S446 := ⟨hI449.1, aw_sm_rf⟩
    have b452 : 0 ≤ (S446.1 41).toInt ∧ (S446.1 41).toInt ≤ 8 := aw_bd_f hs (hI451).1 (by decide) rfl
    have b453 : 0 ≤ (S446.1 43).toInt ∧ (S446.1 43).toInt ≤ 39 := aw_bd_f hs (hI451).1 (by decide) rfl
    have b454 : 0 ≤ (S446.1 44).toInt ∧ (S446.1 44).toInt ≤ 31 := aw_bd_f hs (hI451).1 (by decide) rfl
    have b455 : 0 ≤ (S446.1 30).toInt ∧ (S446.1 30).toInt ≤ 1001 := aw_bd_f hs (hI451).1 (by decide) rfl
    have cbci157 := ar_CI_b ci157 (by omega)
    refine aw_l2 aj_d237 rfl rfl hlv447_0 ?_
    refine aw_n aj_d237 rfl rfl ?_
    refine aw_k hU.1 aj_d237 rfl rfl [_] rfl rfl rfl (Nat.le_of_ble_eq_true rfl) (ar_isWaiting hU (hI451).1 (by omega)) ?_
    rintro _ zb456 ⟨fb456, b456, rfl, kb456⟩
    rw [fb456]
    rcases kb456 with ⟨hb456, pb456, qb456⟩ | ⟨hb456, pb456⟩
    · skip
      have qb456 : (S446.2.2.1 22 ((S446.1 43).toInt - 1).toNat).toInt = (40 : Int) := qb456
      have pb456 : 1 ≤ (S446.1 43).toInt := pb456
      show aw_W _ _ _ _ 163 lv447 [.int b456] _ _
      refine aw_z (tgt := 173) aj_d237 rfl rfl (fun q457 => ?_) (fun q457 => ?_)
      · have q457 : (1 : Int) ≠ (0 : Int) := aw_t_ne (a := (1 : Int)) (b := (0 : Int)) hb456 rfl q457
        refine aw_l2 aj_d237 rfl rfl hlv447_0 ?_
        refine aw_n aj_d237 rfl rfl ?_
        refine aw_g hU.1 aj_d237 rfl rfl (by decide) (v := .int (S446.1 43)) rfl ?_
        refine aw_n aj_d237 rfl rfl ?_
        refine aw_sub aj_d237 rfl (a := (S446.1 43).toInt) (b := (1 : Int)) rfl rfl (by omega) (by omega) (fun x458 ex458 => ?_)
        refine aw_p hU.1 aj_d237 rfl rfl (by decide) rfl ?_
        have hI459 := aw_I_f (aw_UV hU aw_Gs_sm) (k := 43) (v := x458) hI451 (by decide) (by decide) rfl (aw_bp (a := x458.toInt) rfl (by omega) (by omega))
        have fr460 := aw_fr_f (k := 43) (v := x458) (by decide) fr450
        refine aw_inc aj_d237 rfl hlv447_1 (a := x448.toInt) rfl (by omega) (by omega) (by decide) (by decide) (fun x461 ex461 => ?_)
        obtain ⟨lv462, elv462⟩ : ∃ l, l = aj_set1 lv447 1 (.int x461) := ⟨_, rfl⟩
        rw [← elv462]
        have hlv462_0 : aj_lv lv462 0 = some (.ref 117) := cw_e1 elv462 hlv447_0 (by decide) (Or.inr rfl)
        have hlv462_1 : aj_lv lv462 1 = some (.int x461) := by rw [elv462]; exact ak_set1_eq _ _ _
        show aw_W _ _ _ _ 186 lv462 [] _ _
        have g40 := (ar_CI_40 ci157 (by omega) qb456 rfl rfl rfl).2
        refine aw_l2 aj_d237 rfl rfl hlv462_0 ?_
        refine aw_n aj_d237 rfl rfl ?_
        refine aw_g hU.1 aj_d237 rfl rfl (by decide) (v := .int (S446.1 41)) rfl ?_
        refine aw_n aj_d237 rfl rfl ?_
        refine aw_sub aj_d237 rfl (a := (S446.1 41).toInt) (b := (1 : Int)) rfl rfl (by omega) (by omega) (fun x463 ex463 => ?_)
        refine aw_p hU.1 aj_d237 rfl rfl (by decide) rfl ?_
        have hI464 := aw_I_f (aw_UV hU aw_Gs_sm) (k := 41) (v := x463) hI459 (by decide) (by decide) rfl (aw_bp (a := x463.toInt) rfl (by omega) (by omega))
        have fr465 := aw_fr_f (k := 41) (v := x463) (by decide) fr460
        have ci466 : ar_CI (((aw_wf (aw_wf S446 43 x458) 41 x463)).2.2.1 22) ((((aw_wf (aw_wf S446 43 x458) 41 x463)).1 43).toInt).toNat (((aw_wf (aw_wf S446 43 x458) 41 x463)).1 41).toInt (((aw_wf (aw_wf S446 43 x458) 41 x463)).1 44).toInt x461.toInt 1 := (ar_CI_40 ci157 (by omega) qb456 (show (x458).toInt = (S446.1 43).toInt - 1 by omega) (show (x463).toInt = (S446.1 41).toInt - 1 by omega) (by omega)).1
        refine aw_l2 aj_d237 rfl rfl hlv462_0 ?_
        have b467 : 0 ≤ (S446.1 26).toInt ∧ (S446.1 26).toInt ≤ 5 := aw_bd_f hs (hI451).1 (by decide) rfl
        refine aw_k hU.1 aj_d237 rfl rfl [] rfl rfl rfl (Nat.le_of_ble_eq_true rfl) (ar_pass hU (hI464).1 (aw_G_sm hI464.2 hI449.2) (by omega) (show ((S446.1 26)).toInt ≠ 0 by omega) (show ¬ (((S446.1 26)).toInt = 3 ∧ ((S446.1 29)).toInt = 63) by omega) (show ((S446.1 26)).toInt = 4 → ((S446.1 29)).toInt = 3 ∨ 6 ≤ ((S446.1 29)).toInt by omega)) ?_
        rintro _ S468 ⟨hT468, fc468, ⟨b468, rfl, hb468, hG468, fd468, hz468⟩ | ⟨b468, rfl, hb468, hG468, ck468, fd468, cj468⟩⟩
        · skip
          have fr469 := aw_fr_tr fr465 (aw_fr_sub (F := [24, 25, 31]) (A := []) (by decide) (by decide) fd468)
          have hI470 : aw_I s h (aw_sm S468) S468 := ⟨hT468, aw_sm_rf⟩
          show aw_W _ _ _ _ 200 lv462 [.int b468] _ _
          refine aw_z (tgt := 205) aj_d237 rfl rfl (fun q471 => ?_) (fun q471 => ?_)
          · have q471 : (0 : Int) ≠ (0 : Int) := aw_t_ne (a := (0 : Int)) (b := (0 : Int)) hb468 rfl q471
            exfalso
            omega
          · have q471 : (0 : Int) = (0 : Int) := aw_t_ne (a := (0 : Int)) (b := (0 : Int)) hb468 rfl q471
            refine aw_n aj_d237 rfl rfl ?_
            refine aw_e aj_d237 rfl rfl ?_
            have c472 : (S468.1 30).toInt = (S446.1 30).toInt := (congrArg Int32.toInt (fd468.1 30 (by decide)).1).trans rfl
            have b473 : 0 ≤ (S468.1 30).toInt ∧ (S468.1 30).toInt ≤ 1001 := aw_bd_f hs (hI470).1 (by decide) rfl
            exact ⟨(hI470).1, fr469, Or.inl ⟨_, rfl, rfl, hG468, (show _ ≤ ((S468.1 30)).toInt by omega)⟩⟩
        · skip
          have cj468 : (S468.1 30).toInt = ((S446.1 30)).toInt + 1 := cj468
          have fr474 := aw_fr_tr fr465 (aw_fr_sub (F := [26, 27, 28, 29, 30]) (A := []) (by decide) (by decide) fd468)
          have hI475 : aw_I s h (aw_sm S468) S468 := ⟨hT468, aw_sm_rf⟩
          have ci476 : ar_CI (S468.2.2.1 22) ((S468.1 43).toInt).toNat (S468.1 41).toInt (S468.1 44).toInt x461.toInt 1 := by
            rw [(fd468.2 22 (by decide)).1, (fd468.1 43 (by decide)).1, (fd468.1 41 (by decide)).1, (fd468.1 44 (by decide)).1]
            exact ci466
          have c477 : (S468.1 41).toInt = x463.toInt := (congrArg Int32.toInt (fd468.1 41 (by decide)).1).trans rfl
          have b478 : 0 ≤ (S468.1 41).toInt ∧ (S468.1 41).toInt ≤ 8 := aw_bd_f hs (hI475).1 (by decide) rfl
          have c479 : (S468.1 43).toInt = x458.toInt := (congrArg Int32.toInt (fd468.1 43 (by decide)).1).trans rfl
          have b480 : 0 ≤ (S468.1 43).toInt ∧ (S468.1 43).toInt ≤ 39 := aw_bd_f hs (hI475).1 (by decide) rfl
          have c481 : (S468.1 44).toInt = (S446.1 44).toInt := (congrArg Int32.toInt (fd468.1 44 (by decide)).1).trans rfl
          have b482 : 0 ≤ (S468.1 44).toInt ∧ (S468.1 44).toInt ≤ 31 := aw_bd_f hs (hI475).1 (by decide) rfl
          have b483 : 0 ≤ (S468.1 30).toInt ∧ (S468.1 30).toInt ≤ 1001 := aw_bd_f hs (hI475).1 (by decide) rfl
          have cbci476 := ar_CI_b ci476 (by omega)
          show aw_W _ _ _ _ 200 lv462 [.int b468] _ _
          refine aw_z (tgt := 205) aj_d237 rfl rfl (fun q484 => ?_) (fun q484 => ?_)
          · have q484 : (1 : Int) ≠ (0 : Int) := aw_t_ne (a := (1 : Int)) (b := (0 : Int)) hb468 rfl q484
            exact (ar_cond_L205_484 hU hd N23 S15 x17 ihL23_13 hm23 N128 S160 x162 ihL128_158 hm128 N144 S334 x336 ihL144_332 hm144 N157 S446 x448 ihL157_444 hm157) _ S468 lv462 (x461) hlv462_0 hlv462_1 ⟨(hI475).1, hG468⟩ fr474 ci476 (show _ ≤ ((S468.1 30)).toInt by omega) (show _ ≤ ((S468.1 30)).toInt by omega) (show _ ≤ ((S468.1 30)).toInt by omega) (Nat.lt_succ_self _)
          · have q484 : (1 : Int) = (0 : Int) := aw_t_ne (a := (1 : Int)) (b := (0 : Int)) hb468 rfl q484
            exfalso
            omega
      · have q457 : (1 : Int) = (0 : Int) := aw_t_ne (a := (1 : Int)) (b := (0 : Int)) hb456 rfl q457
        exfalso
        omega
    · skip
      have pb456 : ¬ (1 ≤ (S446.1 43).toInt ∧ (S446.2.2.1 22 ((S446.1 43).toInt - 1).toNat).toInt = (40 : Int)) := pb456
      show aw_W _ _ _ _ 163 lv447 [.int b456] _ _
      refine aw_z (tgt := 173) aj_d237 rfl rfl (fun q508 => ?_) (fun q508 => ?_)
      · have q508 : (0 : Int) ≠ (0 : Int) := aw_t_ne (a := (0 : Int)) (b := (0 : Int)) hb456 rfl q508
        exfalso
        omega
      · have q508 : (0 : Int) = (0 : Int) := aw_t_ne (a := (0 : Int)) (b := (0 : Int)) hb456 rfl q508
        refine aw_l2 aj_d237 rfl rfl hlv447_0 ?_
        have hw509 := ar_CI_o1 ci157 (by omega)
        have pr509 := ar_CI_pre ci157 hw509 (fun z => pb456 ⟨hw509, z⟩)
        refine aw_k hU.1 aj_d237 rfl rfl [] rfl rfl rfl (Nat.le_of_ble_eq_true rfl) (ar_reduce hU (hI451).1 (by omega) (show 1 ≤ (S446.1 43).toInt by omega) pr509.1 pr509.2) ?_
        rintro _ S509 ⟨hT509, fc509, rfl, r1509, r2509, r3509⟩
        have r1509 : (S509.1 43).toInt = (S446.1 43).toInt - 1 := r1509
        have fr511 := aw_fr_tr fr450 (aw_fr_sub (F := [41, 43, 44]) (A := [20]) (by decide) (by decide) fc509)
        have hI512 : aw_I s h (aw_sm S446) S509 := ⟨hT509, aw_sm_tr hI451.2 (aw_fr_sm (by decide) (by decide) (by decide) (F := [41, 43, 44]) (A := [20]) fc509)⟩
        have ci510 : ar_CI (S509.2.2.1 22) ((S509.1 43).toInt).toNat (S509.1 41).toInt (S509.1 44).toInt x448.toInt 1 := by
          rw [(fc509.2 22 (by decide)).1]
          exact ar_CI_red ci157 hw509 (fun z => pb456 ⟨hw509, z⟩) r1509 r2509 r3509
        have b513 : 0 ≤ (S509.1 41).toInt ∧ (S509.1 41).toInt ≤ 8 := aw_bd_f hs (hI512).1 (by decide) rfl
        have b514 : 0 ≤ (S509.1 43).toInt ∧ (S509.1 43).toInt ≤ 39 := aw_bd_f hs (hI512).1 (by decide) rfl
        have b515 : 0 ≤ (S509.1 44).toInt ∧ (S509.1 44).toInt ≤ 31 := aw_bd_f hs (hI512).1 (by decide) rfl
        have c516 : (S509.1 30).toInt = (S446.1 30).toInt := (congrArg Int32.toInt (fc509.1 30 (by decide)).1).trans rfl
        have b517 : 0 ≤ (S509.1 30).toInt ∧ (S509.1 30).toInt ≤ 1001 := aw_bd_f hs (hI512).1 (by decide) rfl
        have cbci510 := ar_CI_b ci510 (by omega)
        show aw_W _ _ _ _ 170 lv447 [] _ _
        refine aw_n aj_d237 rfl rfl ?_
        have b518 : 0 ≤ (S446.1 26).toInt ∧ (S446.1 26).toInt ≤ 5 := aw_bd_f hs (hI451).1 (by decide) rfl
        have c519 : (S509.1 26).toInt = (S446.1 26).toInt := (congrArg Int32.toInt (fc509.1 26 (by decide)).1).trans rfl
        have b520 : 0 ≤ (S509.1 26).toInt ∧ (S509.1 26).toInt ≤ 5 := aw_bd_f hs (hI512).1 (by decide) rfl
        have c521 : (S509.1 29).toInt = (S446.1 29).toInt := (congrArg Int32.toInt (fc509.1 29 (by decide)).1).trans rfl
        exact ihL157_444 S509 lv447 (x448) hlv447_0 hlv447_1 ⟨(hI512).1, (aw_G_sm hI512.2 hI449.2)⟩ fr511 ci510 (show _ ≤ ((S509.1 30)).toInt by omega) (show _ ≤ ((S509.1 30)).toInt by omega) (show _ ≤ ((S509.1 30)).toInt by omega) (by omega) (show ((S509.1 26)).toInt = _ by omega) (show ((S509.1 29)).toInt = _ by omega) (show (((S509.1 43)).toInt).toNat < _ by omega)
theorem ar_cond_L249_522 (hU : aw_U tb s h) (hd : 8 ≤ d + 1) (N23 : Nat) (S15 : aj_S) (x17 : Int32) (ihL23_13 : ∀ (S15 : aj_S) (lv16 : aj_V) (x17 : Int32), (aj_lv lv16 0 = some (.ref 117)) → (aj_lv lv16 1 = some (.int x17)) → (aw_I s h (aw_G (nm, fl, la, 0, 0, ht)) S15) → (aw_fr [24, 25, 26, 27, 28, 29, 30, 31, 33, 34, 35, 36, 38, 39, 40, 41, 43, 44] [20, 22] S S15) → (ar_CI (S15.2.2.1 22) ((S15.1 43).toInt).toNat (S15.1 41).toInt (S15.1 44).toInt x17.toInt 0) → ((S.1 30).toInt + 0 ≤ (S15.1 30).toInt) → (1001 - (S15.1 30).toInt).toNat < N23 → aw_W tb h d aj_m237 23 lv16 [] S15 ((ar_QT s h (nm, fl, la, 0, 0, ht) [24, 25, 26, 27, 28, 29, 30, 31, 33, 34, 35, 36, 38, 39, 40, 41, 43, 44] [20, 22] S (fun _ => True)))) (hm23 : (1001 - (S15.1 30).toInt).toNat < N23 + 1) (N128 : Nat) (S160 : aj_S) (x162 : Int32) (ihL128_158 : ∀ (S160 : aj_S) (lv161 : aj_V) (x162 : Int32), (aj_lv lv161 0 = some (.ref 117)) → (aj_lv lv161 1 = some (.int x162)) → (aw_I s h (aw_G (nm, fl, la, 0, 0, ht)) S160) → (aw_fr [24, 25, 26, 27, 28, 29, 30, 31, 33, 34, 35, 36, 38, 39, 40, 41, 43, 44] [20, 22] S S160) → (ar_CI (S160.2.2.1 22) ((S160.1 43).toInt).toNat (S160.1 41).toInt (S160.1 44).toInt x162.toInt 1) → ((S.1 30).toInt + 1 ≤ (S160.1 30).toInt) → ((S15.1 30).toInt + 1 ≤ (S160.1 30).toInt) → ((S160.1 43).toInt).toNat < N128 → aw_W tb h d aj_m237 128 lv161 [] S160 ((ar_QT s h (nm, fl, la, 0, 0, ht) [24, 25, 26, 27, 28, 29, 30, 31, 33, 34, 35, 36, 38, 39, 40, 41, 43, 44] [20, 22] S (fun _ => True)))) (hm128 : ((S160.1 43).toInt).toNat < N128 + 1) (N144 : Nat) (S334 : aj_S) (x336 : Int32) (ihL144_332 : ∀ (S334 : aj_S) (lv335 : aj_V) (x336 : Int32), (aj_lv lv335 0 = some (.ref 117)) → (aj_lv lv335 1 = some (.int x336)) → (aw_I s h (aw_G (nm, fl, la, 0, 0, ht)) S334) → (aw_fr [24, 25, 26, 27, 28, 29, 30, 31, 33, 34, 35, 36, 38, 39, 40, 41, 43, 44] [20, 22] S S334) → (ar_CI (S334.2.2.1 22) ((S334.1 43).toInt).toNat (S334.1 41).toInt (S334.1 44).toInt x336.toInt 1) → ((S.1 30).toInt + 1 ≤ (S334.1 30).toInt) → ((S15.1 30).toInt + 1 ≤ (S334.1 30).toInt) → (1001 - (S334.1 30).toInt).toNat < N144 → aw_W tb h d aj_m237 144 lv335 [] S334 ((ar_QT s h (nm, fl, la, 0, 0, ht) [24, 25, 26, 27, 28, 29, 30, 31, 33, 34, 35, 36, 38, 39, 40, 41, 43, 44] [20, 22] S (fun _ => True)))) (hm144 : (1001 - (S334.1 30).toInt).toNat < N144 + 1) : ∀ (N : Nat) (S524 : aj_S) (lv525 : aj_V) (x526 : Int32) (x527 : Int32), (aj_lv lv525 0 = some (.ref 117)) → (aj_lv lv525 1 = some (.int x526)) → (aj_lv lv525 2 = some (.int x527)) → (aw_I s h (aw_G (nm, fl, la, 0, 0, ht)) S524) → (aw_fr [24, 25, 26, 27, 28, 29, 30, 31, 33, 34, 35, 36, 38, 39, 40, 41, 43, 44] [20, 22] S S524) → (1 ≤ x527.toInt ∧ x527.toInt ≤ 1) → (ar_CI (S524.2.2.1 22) ((S524.1 43).toInt).toNat (S524.1 41).toInt (S524.1 44).toInt x526.toInt 1) → ((S.1 30).toInt + 1 ≤ (S524.1 30).toInt) → ((S15.1 30).toInt + 1 ≤ (S524.1 30).toInt) → ((S524.1 26).toInt = 3 ∧ ((S524.1 29).toInt = 38 ∨ (S524.1 29).toInt = 124)) → ((S524.1 43).toInt).toNat < N → aw_W tb h d aj_m237 249 lv525 [] S524 ((ar_QT s h (nm, fl, la, 0, 0, ht) [24, 25, 26, 27, 28, 29, 30, 31, 33, 34, 35, 36, 38, 39, 40, 41, 43, 44] [20, 22] S (fun _ => True))) := by
  have hs : aw_sT s := aw_hy_sT hU.2.2
  intro N249
  induction N249 with
  | zero =>
    intro S524 lv525 x526 x527 hlv525_0 hlv525_1 hlv525_2 hI528 fr529 bx527 ci249 ck249 cA249 k249 hm249
    omega
  | succ N249 ihL249_522 =>
    intro S524 lv525 x526 x527 hlv525_0 hlv525_1 hlv525_2 hI528 fr529 bx527 ci249 ck249 cA249 k249 hm249
    have hI530 : aw_I s h (aw_sm S524) S524 := ⟨hI528.1, aw_sm_rf⟩
    have b531 : 0 ≤ (S524.1 41).toInt ∧ (S524.1 41).toInt ≤ 8 := aw_bd_f hs (hI530).1 (by decide) rfl
    have b532 : 0 ≤ (S524.1 43).toInt ∧ (S524.1 43).toInt ≤ 39 := aw_bd_f hs (hI530).1 (by decide) rfl
    have b533 : 0 ≤ (S524.1 44).toInt ∧ (S524.1 44).toInt ≤ 31 := aw_bd_f hs (hI530).1 (by decide) rfl
    have b534 : 0 ≤ (S524.1 30).toInt ∧ (S524.1 30).toInt ≤ 1001 := aw_bd_f hs (hI530).1 (by decide) rfl
    have cbci249 := ar_CI_b ci249 (by omega)
    refine aw_l2 aj_d237 rfl rfl hlv525_0 ?_
    refine aw_n aj_d237 rfl rfl ?_
    refine aw_k hU.1 aj_d237 rfl rfl [_] rfl rfl rfl (Nat.le_of_ble_eq_true rfl) (ar_isWaiting hU (hI530).1 (by omega)) ?_
    rintro _ zb535 ⟨fb535, b535, rfl, kb535⟩
    rw [fb535]
    rcases kb535 with ⟨hb535, pb535, qb535⟩ | ⟨hb535, pb535⟩
    · skip
      have qb535 : (S524.2.2.1 22 ((S524.1 43).toInt - 1).toNat).toInt = (38 : Int) := qb535
      have pb535 : 1 ≤ (S524.1 43).toInt := pb535
      show aw_W _ _ _ _ 255 lv525 [.int b535] _ _
      refine aw_z (tgt := 276) aj_d237 rfl rfl (fun q536 => ?_) (fun q536 => ?_)
      · have q536 : (1 : Int) ≠ (0 : Int) := aw_t_ne (a := (1 : Int)) (b := (0 : Int)) hb535 rfl q536
        refine aw_l2 aj_d237 rfl rfl hlv525_0 ?_
        have pr537 := ar_CI_pre ci249 (by omega) (by rw [qb535]; decide)
        refine aw_k hU.1 aj_d237 rfl rfl [] rfl rfl rfl (Nat.le_of_ble_eq_true rfl) (ar_reduce hU (hI530).1 (by omega) (show 1 ≤ (S524.1 43).toInt by omega) pr537.1 pr537.2) ?_
        rintro _ S537 ⟨hT537, fc537, rfl, r1537, r2537, r3537⟩
        have r1537 : (S537.1 43).toInt = (S524.1 43).toInt - 1 := r1537
        have fr539 := aw_fr_tr fr529 (aw_fr_sub (F := [41, 43, 44]) (A := [20]) (by decide) (by decide) fc537)
        have hI540 : aw_I s h (aw_sm S524) S537 := ⟨hT537, aw_sm_tr hI530.2 (aw_fr_sm (by decide) (by decide) (by decide) (F := [41, 43, 44]) (A := [20]) fc537)⟩
        have ci538 : ar_CI (S537.2.2.1 22) ((S537.1 43).toInt).toNat (S537.1 41).toInt (S537.1 44).toInt x526.toInt 1 := by
          rw [(fc537.2 22 (by decide)).1]
          exact ar_CI_red ci249 (by omega) (by rw [qb535]; decide) r1537 r2537 r3537
        have b541 : 0 ≤ (S537.1 41).toInt ∧ (S537.1 41).toInt ≤ 8 := aw_bd_f hs (hI540).1 (by decide) rfl
        have b542 : 0 ≤ (S537.1 43).toInt ∧ (S537.1 43).toInt ≤ 39 := aw_bd_f hs (hI540).1 (by decide) rfl
        have b543 : 0 ≤ (S537.1 44).toInt ∧ (S537.1 44).toInt ≤ 31 := aw_bd_f hs (hI540).1 (by decide) rfl
        have c544 : (S537.1 30).toInt = (S524.1 30).toInt := (congrArg Int32.toInt (fc537.1 30 (by decide)).1).trans rfl
        have b545 : 0 ≤ (S537.1 30).toInt ∧ (S537.1 30).toInt ≤ 1001 := aw_bd_f hs (hI540).1 (by decide) rfl
        have cbci538 := ar_CI_b ci538 (by omega)
        show aw_W _ _ _ _ 280 lv525 [] _ _
        refine aw_n aj_d237 rfl rfl ?_
        have b546 : 0 ≤ (S524.1 26).toInt ∧ (S524.1 26).toInt ≤ 5 := aw_bd_f hs (hI530).1 (by decide) rfl
        have c547 : (S537.1 26).toInt = (S524.1 26).toInt := (congrArg Int32.toInt (fc537.1 26 (by decide)).1).trans rfl
        have b548 : 0 ≤ (S537.1 26).toInt ∧ (S537.1 26).toInt ≤ 5 := aw_bd_f hs (hI540).1 (by decide) rfl
        have c549 : (S537.1 29).toInt = (S524.1 29).toInt := (congrArg Int32.toInt (fc537.1 29 (by decide)).1).trans rfl
        exact ihL249_522 S537 lv525 (x526) (x527) hlv525_0 hlv525_1 hlv525_2 ⟨(hI540).1, (aw_G_sm hI540.2 hI528.2)⟩ fr539 (by first | omega | decide) ci538 (show _ ≤ ((S537.1 30)).toInt by omega) (show _ ≤ ((S537.1 30)).toInt by omega) (show ((S537.1 26)).toInt = 3 ∧ (((S537.1 29)).toInt = 38 ∨ ((S537.1 29)).toInt = 124) by omega) (show (((S537.1 43)).toInt).toNat < _ by omega)
      · have q536 : (1 : Int) = (0 : Int) := aw_t_ne (a := (1 : Int)) (b := (0 : Int)) hb535 rfl q536
        exfalso
        omega
    · skip
      have pb535 : ¬ (1 ≤ (S524.1 43).toInt ∧ (S524.2.2.1 22 ((S524.1 43).toInt - 1).toNat).toInt = (38 : Int)) := pb535
      show aw_W _ _ _ _ 255 lv525 [.int b535] _ _
      refine aw_z (tgt := 276) aj_d237 rfl rfl (fun q550 => ?_) (fun q550 => ?_)
      · have q550 : (0 : Int) ≠ (0 : Int) := aw_t_ne (a := (0 : Int)) (b := (0 : Int)) hb535 rfl q550
        exfalso
        omega
      · have q550 : (0 : Int) = (0 : Int) := aw_t_ne (a := (0 : Int)) (b := (0 : Int)) hb535 rfl q550
        refine aw_l2 aj_d237 rfl rfl hlv525_0 ?_
        refine aw_n aj_d237 rfl rfl ?_
        refine aw_k hU.1 aj_d237 rfl rfl [_] rfl rfl rfl (Nat.le_of_ble_eq_true rfl) (ar_isSign hU (by omega) (b := (124 : Int)) rfl) ?_
        have b553 : 0 ≤ (S524.1 26).toInt ∧ (S524.1 26).toInt ≤ 5 := aw_bd_f hs (hI530).1 (by decide) rfl
        rintro _ S552 ⟨eS552, b551, rfl, kb551⟩
        rw [eS552]
        rcases kb551 with ⟨hb551, pb551, qb551⟩ | ⟨hb551, pb551⟩
        · skip
          have pb551 : ((S524.1 26)).toInt = 3 := pb551
          have qb551 : ((S524.1 29)).toInt = (124 : Int) := qb551
          show aw_W _ _ _ _ 264 lv525 [.int b551] _ _
          refine aw_z (tgt := 283) aj_d237 rfl rfl (fun q554 => ?_) (fun q554 => ?_)
          · have q554 : (1 : Int) = (0 : Int) := aw_t_eq (a := (1 : Int)) (b := (0 : Int)) hb551 rfl q554
            exfalso
            omega
          · have q554 : (1 : Int) ≠ (0 : Int) := aw_t_eq (a := (1 : Int)) (b := (0 : Int)) hb551 rfl q554
            refine aw_l2 aj_d237 rfl rfl hlv525_0 ?_
            refine aw_n aj_d237 rfl rfl ?_
            refine aw_k hU.1 aj_d237 rfl rfl [_] rfl rfl rfl (Nat.le_of_ble_eq_true rfl) (ar_isWaiting hU (hI530).1 (by omega)) ?_
            rintro _ zb555 ⟨fb555, b555, rfl, kb555⟩
            rw [fb555]
            rcases kb555 with ⟨hb555, pb555, qb555⟩ | ⟨hb555, pb555⟩
            · skip
              have qb555 : (S524.2.2.1 22 ((S524.1 43).toInt - 1).toNat).toInt = (124 : Int) := qb555
              have pb555 : 1 ≤ (S524.1 43).toInt := pb555
              show aw_W _ _ _ _ 273 lv525 [.int b555] _ _
              refine aw_z (tgt := 283) aj_d237 rfl rfl (fun q556 => ?_) (fun q556 => ?_)
              · have q556 : (1 : Int) = (0 : Int) := aw_t_eq (a := (1 : Int)) (b := (0 : Int)) hb555 rfl q556
                exfalso
                omega
              · have q556 : (1 : Int) ≠ (0 : Int) := aw_t_eq (a := (1 : Int)) (b := (0 : Int)) hb555 rfl q556
                refine aw_l2 aj_d237 rfl rfl hlv525_0 ?_
                have pr557 := ar_CI_pre ci249 (by omega) (by rw [qb555]; decide)
                refine aw_k hU.1 aj_d237 rfl rfl [] rfl rfl rfl (Nat.le_of_ble_eq_true rfl) (ar_reduce hU (hI530).1 (by omega) (show 1 ≤ (S524.1 43).toInt by omega) pr557.1 pr557.2) ?_
                rintro _ S557 ⟨hT557, fc557, rfl, r1557, r2557, r3557⟩
                have r1557 : (S557.1 43).toInt = (S524.1 43).toInt - 1 := r1557
                have fr559 := aw_fr_tr fr529 (aw_fr_sub (F := [41, 43, 44]) (A := [20]) (by decide) (by decide) fc557)
                have hI560 : aw_I s h (aw_sm S524) S557 := ⟨hT557, aw_sm_tr hI530.2 (aw_fr_sm (by decide) (by decide) (by decide) (F := [41, 43, 44]) (A := [20]) fc557)⟩
                have ci558 : ar_CI (S557.2.2.1 22) ((S557.1 43).toInt).toNat (S557.1 41).toInt (S557.1 44).toInt x526.toInt 1 := by
                  rw [(fc557.2 22 (by decide)).1]
                  exact ar_CI_red ci249 (by omega) (by rw [qb555]; decide) r1557 r2557 r3557
                have b561 : 0 ≤ (S557.1 41).toInt ∧ (S557.1 41).toInt ≤ 8 := aw_bd_f hs (hI560).1 (by decide) rfl
                have b562 : 0 ≤ (S557.1 43).toInt ∧ (S557.1 43).toInt ≤ 39 := aw_bd_f hs (hI560).1 (by decide) rfl
                have b563 : 0 ≤ (S557.1 44).toInt ∧ (S557.1 44).toInt ≤ 31 := aw_bd_f hs (hI560).1 (by decide) rfl
                have c564 : (S557.1 30).toInt = (S524.1 30).toInt := (congrArg Int32.toInt (fc557.1 30 (by decide)).1).trans rfl
                have b565 : 0 ≤ (S557.1 30).toInt ∧ (S557.1 30).toInt ≤ 1001 := aw_bd_f hs (hI560).1 (by decide) rfl
                have cbci558 := ar_CI_b ci558 (by omega)
                show aw_W _ _ _ _ 280 lv525 [] _ _
                refine aw_n aj_d237 rfl rfl ?_
                have c566 : (S557.1 26).toInt = (S524.1 26).toInt := (congrArg Int32.toInt (fc557.1 26 (by decide)).1).trans rfl
                have b567 : 0 ≤ (S557.1 26).toInt ∧ (S557.1 26).toInt ≤ 5 := aw_bd_f hs (hI560).1 (by decide) rfl
                have c568 : (S557.1 29).toInt = (S524.1 29).toInt := (congrArg Int32.toInt (fc557.1 29 (by decide)).1).trans rfl
                exact ihL249_522 S557 lv525 (x526) (x527) hlv525_0 hlv525_1 hlv525_2 ⟨(hI560).1, (aw_G_sm hI560.2 hI528.2)⟩ fr559 (by first | omega | decide) ci558 (show _ ≤ ((S557.1 30)).toInt by omega) (show _ ≤ ((S557.1 30)).toInt by omega) (show ((S557.1 26)).toInt = 3 ∧ (((S557.1 29)).toInt = 38 ∨ ((S557.1 29)).toInt = 124) by omega) (show (((S557.1 43)).toInt).toNat < _ by omega)
            · skip
              have pb555 : ¬ (1 ≤ (S524.1 43).toInt ∧ (S524.2.2.1 22 ((S524.1 43).toInt - 1).toNat).toInt = (124 : Int)) := pb555
              show aw_W _ _ _ _ 273 lv525 [.int b555] _ _
              refine aw_z (tgt := 283) aj_d237 rfl rfl (fun q569 => ?_) (fun q569 => ?_)
              · have q569 : (0 : Int) = (0 : Int) := aw_t_eq (a := (0 : Int)) (b := (0 : Int)) hb555 rfl q569
                refine aw_l2 aj_d237 rfl rfl hlv525_0 ?_
                refine aw_g hU.1 aj_d237 rfl rfl (by decide) (v := .ref 139) rfl ?_
                refine aw_l2 aj_d237 rfl rfl hlv525_0 ?_
                refine aw_g hU.1 aj_d237 rfl rfl (by decide) (v := .int (S524.1 43)) rfl ?_
                refine aw_l2 aj_d237 rfl rfl hlv525_0 ?_
                refine aw_g hU.1 aj_d237 rfl rfl (by decide) (v := .int (S524.1 29)) rfl ?_
                refine aw_st (k := 22) hU.1 aj_d237 (Or.inl ⟨rfl, rfl⟩) rfl (by decide) (by decide) rfl (a := (S524.1 43).toInt) rfl (by omega) (by omega) ?_
                have hI570 := aw_I_a (aw_UV hU aw_Gs_sm) (k := 22) (j := ((S524.1 43).toInt).toNat) (v := aj_nar 0 (S524.1 29)) hI530 (by decide) (by decide) (by decide) rfl (by decide) (by decide) rfl (aw_full _)
                have fr571 := aw_fr_a (k := 22) (j := ((S524.1 43).toInt).toNat) (v := aj_nar 0 (S524.1 29)) (by decide) fr529
                refine aw_l2 aj_d237 rfl rfl hlv525_0 ?_
                refine aw_n aj_d237 rfl rfl ?_
                refine aw_g hU.1 aj_d237 rfl rfl (by decide) (v := .int (S524.1 43)) rfl ?_
                refine aw_n aj_d237 rfl rfl ?_
                refine aw_add aj_d237 rfl (a := (S524.1 43).toInt) (b := (1 : Int)) rfl rfl (by omega) (by omega) (fun x572 ex572 => ?_)
                refine aw_p hU.1 aj_d237 rfl rfl (by decide) rfl ?_
                have hI573 := aw_I_f (aw_UV hU aw_Gs_sm) (k := 43) (v := x572) hI570 (by decide) (by decide) rfl (aw_bp (a := x572.toInt) rfl (by omega) (by omega))
                have fr574 := aw_fr_f (k := 43) (v := x572) (by decide) fr571
                have ci575 : ar_CI (((aw_wf (aw_wa S524 22 ((S524.1 43).toInt).toNat (aj_nar 0 (S524.1 29))) 43 x572)).2.2.1 22) ((((aw_wf (aw_wa S524 22 ((S524.1 43).toInt).toNat (aj_nar 0 (S524.1 29))) 43 x572)).1 43).toInt).toNat (((aw_wf (aw_wa S524 22 ((S524.1 43).toInt).toNat (aj_nar 0 (S524.1 29))) 43 x572)).1 41).toInt (((aw_wf (aw_wa S524 22 ((S524.1 43).toInt).toNat (aj_nar 0 (S524.1 29))) 43 x572)).1 44).toInt x526.toInt 0 := by
                  show ar_CI (upd (S524.2.2.1 22) ((S524.1 43).toInt).toNat ((S524.1 29))) ((x572).toInt).toNat ((S524.1 41).toInt) (S524.1 44).toInt x526.toInt 0
                  rw [show ((x572).toInt).toNat = ((S524.1 43).toInt).toNat + 1 by omega]
                  have e7 : ((S524.1 43).toInt - 1).toNat = ((S524.1 43).toInt).toNat - 1 := by omega
                  rw [e7] at pb535 pb555
                  refine ar_CI_op ci249 ?_
                  rcases k249 with ⟨-, k9 | k9⟩
                  · exact Or.inl ⟨k9, fun z => pb535 ⟨by omega, z.2⟩⟩
                  · exact Or.inr ⟨k9, fun z => pb535 ⟨by omega, z.2⟩, fun z => pb555 ⟨by omega, z.2⟩⟩
                refine aw_l2 aj_d237 rfl rfl hlv525_0 ?_
                refine aw_k hU.1 aj_d237 rfl rfl [] rfl rfl rfl (Nat.le_of_ble_eq_true rfl) (ar_pass hU (hI573).1 (aw_G_sm hI573.2 hI528.2) (by omega) (show ((S524.1 26)).toInt ≠ 0 by omega) (show ¬ (((S524.1 26)).toInt = 3 ∧ ((S524.1 29)).toInt = 63) by omega) (show ((S524.1 26)).toInt = 4 → ((S524.1 29)).toInt = 3 ∨ 6 ≤ ((S524.1 29)).toInt by omega)) ?_
                rintro _ S576 ⟨hT576, fc576, ⟨b576, rfl, hb576, hG576, fd576, hz576⟩ | ⟨b576, rfl, hb576, hG576, ck576, fd576, cj576⟩⟩
                · skip
                  have fr577 := aw_fr_tr fr574 (aw_fr_sub (F := [24, 25, 31]) (A := []) (by decide) (by decide) fd576)
                  have hI578 : aw_I s h (aw_sm S576) S576 := ⟨hT576, aw_sm_rf⟩
                  show aw_W _ _ _ _ 310 lv525 [.int b576] _ _
                  refine aw_z (tgt := 19) aj_d237 rfl rfl (fun q579 => ?_) (fun q579 => ?_)
                  · have q579 : (0 : Int) ≠ (0 : Int) := aw_t_ne (a := (0 : Int)) (b := (0 : Int)) hb576 rfl q579
                    exfalso
                    omega
                  · have q579 : (0 : Int) = (0 : Int) := aw_t_ne (a := (0 : Int)) (b := (0 : Int)) hb576 rfl q579
                    refine aw_n aj_d237 rfl rfl ?_
                    refine aw_e aj_d237 rfl rfl ?_
                    have c580 : (S576.1 30).toInt = (S524.1 30).toInt := (congrArg Int32.toInt (fd576.1 30 (by decide)).1).trans rfl
                    have b581 : 0 ≤ (S576.1 30).toInt ∧ (S576.1 30).toInt ≤ 1001 := aw_bd_f hs (hI578).1 (by decide) rfl
                    exact ⟨(hI578).1, fr577, Or.inl ⟨_, rfl, rfl, hG576, (show _ ≤ ((S576.1 30)).toInt by omega)⟩⟩
                · skip
                  have cj576 : (S576.1 30).toInt = ((S524.1 30)).toInt + 1 := cj576
                  have fr582 := aw_fr_tr fr574 (aw_fr_sub (F := [26, 27, 28, 29, 30]) (A := []) (by decide) (by decide) fd576)
                  have hI583 : aw_I s h (aw_sm S576) S576 := ⟨hT576, aw_sm_rf⟩
                  have ci584 : ar_CI (S576.2.2.1 22) ((S576.1 43).toInt).toNat (S576.1 41).toInt (S576.1 44).toInt x526.toInt 0 := by
                    rw [(fd576.2 22 (by decide)).1, (fd576.1 43 (by decide)).1, (fd576.1 41 (by decide)).1, (fd576.1 44 (by decide)).1]
                    exact ci575
                  have c585 : (S576.1 41).toInt = (S524.1 41).toInt := (congrArg Int32.toInt (fd576.1 41 (by decide)).1).trans rfl
                  have b586 : 0 ≤ (S576.1 41).toInt ∧ (S576.1 41).toInt ≤ 8 := aw_bd_f hs (hI583).1 (by decide) rfl
                  have c587 : (S576.1 43).toInt = x572.toInt := (congrArg Int32.toInt (fd576.1 43 (by decide)).1).trans rfl
                  have b588 : 0 ≤ (S576.1 43).toInt ∧ (S576.1 43).toInt ≤ 39 := aw_bd_f hs (hI583).1 (by decide) rfl
                  have c589 : (S576.1 44).toInt = (S524.1 44).toInt := (congrArg Int32.toInt (fd576.1 44 (by decide)).1).trans rfl
                  have b590 : 0 ≤ (S576.1 44).toInt ∧ (S576.1 44).toInt ≤ 31 := aw_bd_f hs (hI583).1 (by decide) rfl
                  have b591 : 0 ≤ (S576.1 30).toInt ∧ (S576.1 30).toInt ≤ 1001 := aw_bd_f hs (hI583).1 (by decide) rfl
                  have cbci584 := ar_CI_b ci584 (by omega)
                  show aw_W _ _ _ _ 310 lv525 [.int b576] _ _
                  refine aw_z (tgt := 19) aj_d237 rfl rfl (fun q592 => ?_) (fun q592 => ?_)
                  · have q592 : (1 : Int) ≠ (0 : Int) := aw_t_ne (a := (1 : Int)) (b := (0 : Int)) hb576 rfl q592
                    refine aw_l0 aj_d237 rfl rfl hlv525_2 ?_
                    refine aw_z (tgt := 315) aj_d237 rfl rfl (fun q593 => ?_) (fun q593 => ?_)
                    · have q593 : (1 : Int) = (0 : Int) := aw_t_eq (a := (1 : Int)) (b := (0 : Int)) (by omega) rfl q593
                      exfalso
                      omega
                    · have q593 : (1 : Int) ≠ (0 : Int) := aw_t_eq (a := (1 : Int)) (b := (0 : Int)) (by omega) rfl q593
                      exact ihL23_13 S576 lv525 (x526) hlv525_0 hlv525_1 ⟨(hI583).1, hG576⟩ fr582 ci584 (show _ ≤ ((S576.1 30)).toInt by omega) (show (1001 - ((S576.1 30)).toInt).toNat < _ by omega)
                  · have q592 : (1 : Int) = (0 : Int) := aw_t_ne (a := (1 : Int)) (b := (0 : Int)) hb576 rfl q592
                    exfalso
                    omega
              · have q569 : (0 : Int) ≠ (0 : Int) := aw_t_eq (a := (0 : Int)) (b := (0 : Int)) hb555 rfl q569
                exfalso
                omega
        · skip
          have pb551 : ¬ (((S524.1 26)).toInt = 3 ∧ ((S524.1 29)).toInt = (124 : Int)) := pb551
          show aw_W _ _ _ _ 264 lv525 [.int b551] _ _
          refine aw_z (tgt := 283) aj_d237 rfl rfl (fun q594 => ?_) (fun q594 => ?_)
          · have q594 : (0 : Int) = (0 : Int) := aw_t_eq (a := (0 : Int)) (b := (0 : Int)) hb551 rfl q594
            refine aw_l2 aj_d237 rfl rfl hlv525_0 ?_
            refine aw_g hU.1 aj_d237 rfl rfl (by decide) (v := .ref 139) rfl ?_
            refine aw_l2 aj_d237 rfl rfl hlv525_0 ?_
            refine aw_g hU.1 aj_d237 rfl rfl (by decide) (v := .int (S524.1 43)) rfl ?_
            refine aw_l2 aj_d237 rfl rfl hlv525_0 ?_
            refine aw_g hU.1 aj_d237 rfl rfl (by decide) (v := .int (S524.1 29)) rfl ?_
            refine aw_st (k := 22) hU.1 aj_d237 (Or.inl ⟨rfl, rfl⟩) rfl (by decide) (by decide) rfl (a := (S524.1 43).toInt) rfl (by omega) (by omega) ?_
            have hI595 := aw_I_a (aw_UV hU aw_Gs_sm) (k := 22) (j := ((S524.1 43).toInt).toNat) (v := aj_nar 0 (S524.1 29)) hI530 (by decide) (by decide) (by decide) rfl (by decide) (by decide) rfl (aw_full _)
            have fr596 := aw_fr_a (k := 22) (j := ((S524.1 43).toInt).toNat) (v := aj_nar 0 (S524.1 29)) (by decide) fr529
            refine aw_l2 aj_d237 rfl rfl hlv525_0 ?_
            refine aw_n aj_d237 rfl rfl ?_
            refine aw_g hU.1 aj_d237 rfl rfl (by decide) (v := .int (S524.1 43)) rfl ?_
            refine aw_n aj_d237 rfl rfl ?_
            refine aw_add aj_d237 rfl (a := (S524.1 43).toInt) (b := (1 : Int)) rfl rfl (by omega) (by omega) (fun x597 ex597 => ?_)
            refine aw_p hU.1 aj_d237 rfl rfl (by decide) rfl ?_
            have hI598 := aw_I_f (aw_UV hU aw_Gs_sm) (k := 43) (v := x597) hI595 (by decide) (by decide) rfl (aw_bp (a := x597.toInt) rfl (by omega) (by omega))
            have fr599 := aw_fr_f (k := 43) (v := x597) (by decide) fr596
            have ci600 : ar_CI (((aw_wf (aw_wa S524 22 ((S524.1 43).toInt).toNat (aj_nar 0 (S524.1 29))) 43 x597)).2.2.1 22) ((((aw_wf (aw_wa S524 22 ((S524.1 43).toInt).toNat (aj_nar 0 (S524.1 29))) 43 x597)).1 43).toInt).toNat (((aw_wf (aw_wa S524 22 ((S524.1 43).toInt).toNat (aj_nar 0 (S524.1 29))) 43 x597)).1 41).toInt (((aw_wf (aw_wa S524 22 ((S524.1 43).toInt).toNat (aj_nar 0 (S524.1 29))) 43 x597)).1 44).toInt x526.toInt 0 := by
              show ar_CI (upd (S524.2.2.1 22) ((S524.1 43).toInt).toNat ((S524.1 29))) ((x597).toInt).toNat ((S524.1 41).toInt) (S524.1 44).toInt x526.toInt 0
              rw [show ((x597).toInt).toNat = ((S524.1 43).toInt).toNat + 1 by omega]
              have e7 : ((S524.1 43).toInt - 1).toNat = ((S524.1 43).toInt).toNat - 1 := by omega
              rw [e7] at pb535
              refine ar_CI_op ci249 ?_
              exact Or.inl ⟨by omega, fun z => pb535 ⟨by omega, z.2⟩⟩
            refine aw_l2 aj_d237 rfl rfl hlv525_0 ?_
            refine aw_k hU.1 aj_d237 rfl rfl [] rfl rfl rfl (Nat.le_of_ble_eq_true rfl) (ar_pass hU (hI598).1 (aw_G_sm hI598.2 hI528.2) (by omega) (show ((S524.1 26)).toInt ≠ 0 by omega) (show ¬ (((S524.1 26)).toInt = 3 ∧ ((S524.1 29)).toInt = 63) by omega) (show ((S524.1 26)).toInt = 4 → ((S524.1 29)).toInt = 3 ∨ 6 ≤ ((S524.1 29)).toInt by omega)) ?_
            rintro _ S601 ⟨hT601, fc601, ⟨b601, rfl, hb601, hG601, fd601, hz601⟩ | ⟨b601, rfl, hb601, hG601, ck601, fd601, cj601⟩⟩
            · skip
              have fr602 := aw_fr_tr fr599 (aw_fr_sub (F := [24, 25, 31]) (A := []) (by decide) (by decide) fd601)
              have hI603 : aw_I s h (aw_sm S601) S601 := ⟨hT601, aw_sm_rf⟩
              show aw_W _ _ _ _ 310 lv525 [.int b601] _ _
              refine aw_z (tgt := 19) aj_d237 rfl rfl (fun q604 => ?_) (fun q604 => ?_)
              · have q604 : (0 : Int) ≠ (0 : Int) := aw_t_ne (a := (0 : Int)) (b := (0 : Int)) hb601 rfl q604
                exfalso
                omega
              · have q604 : (0 : Int) = (0 : Int) := aw_t_ne (a := (0 : Int)) (b := (0 : Int)) hb601 rfl q604
                refine aw_n aj_d237 rfl rfl ?_
                refine aw_e aj_d237 rfl rfl ?_
                have c605 : (S601.1 30).toInt = (S524.1 30).toInt := (congrArg Int32.toInt (fd601.1 30 (by decide)).1).trans rfl
                have b606 : 0 ≤ (S601.1 30).toInt ∧ (S601.1 30).toInt ≤ 1001 := aw_bd_f hs (hI603).1 (by decide) rfl
                exact ⟨(hI603).1, fr602, Or.inl ⟨_, rfl, rfl, hG601, (show _ ≤ ((S601.1 30)).toInt by omega)⟩⟩
            · skip
              have cj601 : (S601.1 30).toInt = ((S524.1 30)).toInt + 1 := cj601
              have fr607 := aw_fr_tr fr599 (aw_fr_sub (F := [26, 27, 28, 29, 30]) (A := []) (by decide) (by decide) fd601)
              have hI608 : aw_I s h (aw_sm S601) S601 := ⟨hT601, aw_sm_rf⟩
              have ci609 : ar_CI (S601.2.2.1 22) ((S601.1 43).toInt).toNat (S601.1 41).toInt (S601.1 44).toInt x526.toInt 0 := by
                rw [(fd601.2 22 (by decide)).1, (fd601.1 43 (by decide)).1, (fd601.1 41 (by decide)).1, (fd601.1 44 (by decide)).1]
                exact ci600
              have c610 : (S601.1 41).toInt = (S524.1 41).toInt := (congrArg Int32.toInt (fd601.1 41 (by decide)).1).trans rfl
              have b611 : 0 ≤ (S601.1 41).toInt ∧ (S601.1 41).toInt ≤ 8 := aw_bd_f hs (hI608).1 (by decide) rfl
              have c612 : (S601.1 43).toInt = x597.toInt := (congrArg Int32.toInt (fd601.1 43 (by decide)).1).trans rfl
              have b613 : 0 ≤ (S601.1 43).toInt ∧ (S601.1 43).toInt ≤ 39 := aw_bd_f hs (hI608).1 (by decide) rfl
              have c614 : (S601.1 44).toInt = (S524.1 44).toInt := (congrArg Int32.toInt (fd601.1 44 (by decide)).1).trans rfl
              have b615 : 0 ≤ (S601.1 44).toInt ∧ (S601.1 44).toInt ≤ 31 := aw_bd_f hs (hI608).1 (by decide) rfl
              have b616 : 0 ≤ (S601.1 30).toInt ∧ (S601.1 30).toInt ≤ 1001 := aw_bd_f hs (hI608).1 (by decide) rfl
              have cbci609 := ar_CI_b ci609 (by omega)
              show aw_W _ _ _ _ 310 lv525 [.int b601] _ _
              refine aw_z (tgt := 19) aj_d237 rfl rfl (fun q617 => ?_) (fun q617 => ?_)
              · have q617 : (1 : Int) ≠ (0 : Int) := aw_t_ne (a := (1 : Int)) (b := (0 : Int)) hb601 rfl q617
                refine aw_l0 aj_d237 rfl rfl hlv525_2 ?_
                refine aw_z (tgt := 315) aj_d237 rfl rfl (fun q618 => ?_) (fun q618 => ?_)
                · have q618 : (1 : Int) = (0 : Int) := aw_t_eq (a := (1 : Int)) (b := (0 : Int)) (by omega) rfl q618
                  exfalso
                  omega
                · have q618 : (1 : Int) ≠ (0 : Int) := aw_t_eq (a := (1 : Int)) (b := (0 : Int)) (by omega) rfl q618
                  exact ihL23_13 S601 lv525 (x526) hlv525_0 hlv525_1 ⟨(hI608).1, hG601⟩ fr607 ci609 (show _ ≤ ((S601.1 30)).toInt by omega) (show (1001 - ((S601.1 30)).toInt).toNat < _ by omega)
              · have q617 : (1 : Int) = (0 : Int) := aw_t_ne (a := (1 : Int)) (b := (0 : Int)) hb601 rfl q617
                exfalso
                omega
          · have q594 : (0 : Int) ≠ (0 : Int) := aw_t_eq (a := (0 : Int)) (b := (0 : Int)) hb551 rfl q594
            exfalso
            omega
theorem ar_cond_L144_332 (hU : aw_U tb s h) (hd : 8 ≤ d + 1) (N23 : Nat) (S15 : aj_S) (x17 : Int32) (ihL23_13 : ∀ (S15 : aj_S) (lv16 : aj_V) (x17 : Int32), (aj_lv lv16 0 = some (.ref 117)) → (aj_lv lv16 1 = some (.int x17)) → (aw_I s h (aw_G (nm, fl, la, 0, 0, ht)) S15) → (aw_fr [24, 25, 26, 27, 28, 29, 30, 31, 33, 34, 35, 36, 38, 39, 40, 41, 43, 44] [20, 22] S S15) → (ar_CI (S15.2.2.1 22) ((S15.1 43).toInt).toNat (S15.1 41).toInt (S15.1 44).toInt x17.toInt 0) → ((S.1 30).toInt + 0 ≤ (S15.1 30).toInt) → (1001 - (S15.1 30).toInt).toNat < N23 → aw_W tb h d aj_m237 23 lv16 [] S15 ((ar_QT s h (nm, fl, la, 0, 0, ht) [24, 25, 26, 27, 28, 29, 30, 31, 33, 34, 35, 36, 38, 39, 40, 41, 43, 44] [20, 22] S (fun _ => True)))) (hm23 : (1001 - (S15.1 30).toInt).toNat < N23 + 1) (N128 : Nat) (S160 : aj_S) (x162 : Int32) (ihL128_158 : ∀ (S160 : aj_S) (lv161 : aj_V) (x162 : Int32), (aj_lv lv161 0 = some (.ref 117)) → (aj_lv lv161 1 = some (.int x162)) → (aw_I s h (aw_G (nm, fl, la, 0, 0, ht)) S160) → (aw_fr [24, 25, 26, 27, 28, 29, 30, 31, 33, 34, 35, 36, 38, 39, 40, 41, 43, 44] [20, 22] S S160) → (ar_CI (S160.2.2.1 22) ((S160.1 43).toInt).toNat (S160.1 41).toInt (S160.1 44).toInt x162.toInt 1) → ((S.1 30).toInt + 1 ≤ (S160.1 30).toInt) → ((S15.1 30).toInt + 1 ≤ (S160.1 30).toInt) → ((S160.1 43).toInt).toNat < N128 → aw_W tb h d aj_m237 128 lv161 [] S160 ((ar_QT s h (nm, fl, la, 0, 0, ht) [24, 25, 26, 27, 28, 29, 30, 31, 33, 34, 35, 36, 38, 39, 40, 41, 43, 44] [20, 22] S (fun _ => True)))) (hm128 : ((S160.1 43).toInt).toNat < N128 + 1) : ∀ (N : Nat) (S334 : aj_S) (lv335 : aj_V) (x336 : Int32), (aj_lv lv335 0 = some (.ref 117)) → (aj_lv lv335 1 = some (.int x336)) → (aw_I s h (aw_G (nm, fl, la, 0, 0, ht)) S334) → (aw_fr [24, 25, 26, 27, 28, 29, 30, 31, 33, 34, 35, 36, 38, 39, 40, 41, 43, 44] [20, 22] S S334) → (ar_CI (S334.2.2.1 22) ((S334.1 43).toInt).toNat (S334.1 41).toInt (S334.1 44).toInt x336.toInt 1) → ((S.1 30).toInt + 1 ≤ (S334.1 30).toInt) → ((S15.1 30).toInt + 1 ≤ (S334.1 30).toInt) → (1001 - (S334.1 30).toInt).toNat < N → aw_W tb h d aj_m237 144 lv335 [] S334 ((ar_QT s h (nm, fl, la, 0, 0, ht) [24, 25, 26, 27, 28, 29, 30, 31, 33, 34, 35, 36, 38, 39, 40, 41, 43, 44] [20, 22] S (fun _ => True))) := by
  have hs : aw_sT s := aw_hy_sT hU.2.2
  intro N144
  induction N144 with
  | zero =>
    intro S334 lv335 x336 hlv335_0 hlv335_1 hI337 fr338 ci144 ck144 cA144 hm144
    omega
  | succ N144 ihL144_332 =>
    intro S334 lv335 x336 hlv335_0 hlv335_1 hI337 fr338 ci144 ck144 cA144 hm144
    have hI339 : aw_I s h (aw_sm S334) S334 := ⟨hI337.1, aw_sm_rf⟩
    have b340 : 0 ≤ (S334.1 41).toInt ∧ (S334.1 41).toInt ≤ 8 := aw_bd_f hs (hI339).1 (by decide) rfl
    have b341 : 0 ≤ (S334.1 43).toInt ∧ (S334.1 43).toInt ≤ 39 := aw_bd_f hs (hI339).1 (by decide) rfl
    have b342 : 0 ≤ (S334.1 44).toInt ∧ (S334.1 44).toInt ≤ 31 := aw_bd_f hs (hI339).1 (by decide) rfl
    have b343 : 0 ≤ (S334.1 30).toInt ∧ (S334.1 30).toInt ≤ 1001 := aw_bd_f hs (hI339).1 (by decide) rfl
    have cbci144 := ar_CI_b ci144 (by omega)
    refine aw_l0 aj_d237 rfl rfl hlv335_1 ?_
    refine aw_z (tgt := 221) aj_d237 rfl rfl (fun q344 => ?_) (fun q344 => ?_)
    · have q344 : x336.toInt ≤ (0 : Int) := aw_t_le (a := x336.toInt) (b := (0 : Int)) rfl rfl q344
      exact (ar_cond_L221_181 hU hd N23 S15 x17 ihL23_13 hm23 N128 S160 x162 ihL128_158 hm128) S334 lv335 (x336) hlv335_0 hlv335_1 ⟨(hI339).1, hI337.2⟩ fr338 ci144 (show _ ≤ ((S334.1 30)).toInt by omega) (show _ ≤ ((S334.1 30)).toInt by omega)
    · have q344 : x336.toInt > (0 : Int) := aw_t_le (a := x336.toInt) (b := (0 : Int)) rfl rfl q344
      refine aw_l2 aj_d237 rfl rfl hlv335_0 ?_
      refine aw_n aj_d237 rfl rfl ?_
      refine aw_k hU.1 aj_d237 rfl rfl [_] rfl rfl rfl (Nat.le_of_ble_eq_true rfl) (ar_isSign hU (by omega) (b := (41 : Int)) rfl) ?_
      have b443 : 0 ≤ (S334.1 26).toInt ∧ (S334.1 26).toInt ≤ 5 := aw_bd_f hs (hI339).1 (by decide) rfl
      rintro _ S442 ⟨eS442, b441, rfl, kb441⟩
      rw [eS442]
      rcases kb441 with ⟨hb441, pb441, qb441⟩ | ⟨hb441, pb441⟩
      · skip
        have pb441 : ((S334.1 26)).toInt = 3 := pb441
        have qb441 : ((S334.1 29)).toInt = (41 : Int) := qb441
        show aw_W _ _ _ _ 154 lv335 [.int b441] _ _
        refine aw_z (tgt := 221) aj_d237 rfl rfl (fun q444 => ?_) (fun q444 => ?_)
        · have q444 : (1 : Int) = (0 : Int) := aw_t_eq (a := (1 : Int)) (b := (0 : Int)) hb441 rfl q444
          exfalso
          omega
        · have q444 : (1 : Int) ≠ (0 : Int) := aw_t_eq (a := (1 : Int)) (b := (0 : Int)) hb441 rfl q444
          exact (ar_cond_L157_444 hU hd N23 S15 x17 ihL23_13 hm23 N128 S160 x162 ihL128_158 hm128 N144 S334 x336 ihL144_332 hm144) _ S334 lv335 (x336) hlv335_0 hlv335_1 ⟨(hI339).1, hI337.2⟩ fr338 ci144 (show _ ≤ ((S334.1 30)).toInt by omega) (show _ ≤ ((S334.1 30)).toInt by omega) (show _ ≤ ((S334.1 30)).toInt by omega) (by omega) (show ((S334.1 26)).toInt = _ by omega) (show ((S334.1 29)).toInt = _ by omega) (Nat.lt_succ_self _)
      · skip
        have pb441 : ¬ (((S334.1 26)).toInt = 3 ∧ ((S334.1 29)).toInt = (41 : Int)) := pb441
        show aw_W _ _ _ _ 154 lv335 [.int b441] _ _
        refine aw_z (tgt := 221) aj_d237 rfl rfl (fun q522 => ?_) (fun q522 => ?_)
        · have q522 : (0 : Int) = (0 : Int) := aw_t_eq (a := (0 : Int)) (b := (0 : Int)) hb441 rfl q522
          exact (ar_cond_L221_181 hU hd N23 S15 x17 ihL23_13 hm23 N128 S160 x162 ihL128_158 hm128) S334 lv335 (x336) hlv335_0 hlv335_1 ⟨(hI339).1, hI337.2⟩ fr338 ci144 (show _ ≤ ((S334.1 30)).toInt by omega) (show _ ≤ ((S334.1 30)).toInt by omega)
        · have q522 : (0 : Int) ≠ (0 : Int) := aw_t_eq (a := (0 : Int)) (b := (0 : Int)) hb441 rfl q522
          exfalso
          omega
theorem ar_cond_L128_158 (hU : aw_U tb s h) (hd : 8 ≤ d + 1) (N23 : Nat) (S15 : aj_S) (x17 : Int32) (ihL23_13 : ∀ (S15 : aj_S) (lv16 : aj_V) (x17 : Int32), (aj_lv lv16 0 = some (.ref 117)) → (aj_lv lv16 1 = some (.int x17)) → (aw_I s h (aw_G (nm, fl, la, 0, 0, ht)) S15) → (aw_fr [24, 25, 26, 27, 28, 29, 30, 31, 33, 34, 35, 36, 38, 39, 40, 41, 43, 44] [20, 22] S S15) → (ar_CI (S15.2.2.1 22) ((S15.1 43).toInt).toNat (S15.1 41).toInt (S15.1 44).toInt x17.toInt 0) → ((S.1 30).toInt + 0 ≤ (S15.1 30).toInt) → (1001 - (S15.1 30).toInt).toNat < N23 → aw_W tb h d aj_m237 23 lv16 [] S15 ((ar_QT s h (nm, fl, la, 0, 0, ht) [24, 25, 26, 27, 28, 29, 30, 31, 33, 34, 35, 36, 38, 39, 40, 41, 43, 44] [20, 22] S (fun _ => True)))) (hm23 : (1001 - (S15.1 30).toInt).toNat < N23 + 1) : ∀ (N : Nat) (S160 : aj_S) (lv161 : aj_V) (x162 : Int32), (aj_lv lv161 0 = some (.ref 117)) → (aj_lv lv161 1 = some (.int x162)) → (aw_I s h (aw_G (nm, fl, la, 0, 0, ht)) S160) → (aw_fr [24, 25, 26, 27, 28, 29, 30, 31, 33, 34, 35, 36, 38, 39, 40, 41, 43, 44] [20, 22] S S160) → (ar_CI (S160.2.2.1 22) ((S160.1 43).toInt).toNat (S160.1 41).toInt (S160.1 44).toInt x162.toInt 1) → ((S.1 30).toInt + 1 ≤ (S160.1 30).toInt) → ((S15.1 30).toInt + 1 ≤ (S160.1 30).toInt) → ((S160.1 43).toInt).toNat < N → aw_W tb h d aj_m237 128 lv161 [] S160 ((ar_QT s h (nm, fl, la, 0, 0, ht) [24, 25, 26, 27, 28, 29, 30, 31, 33, 34, 35, 36, 38, 39, 40, 41, 43, 44] [20, 22] S (fun _ => True))) := by
  have hs : aw_sT s := aw_hy_sT hU.2.2
  intro N128
  induction N128 with
  | zero =>
    intro S160 lv161 x162 hlv161_0 hlv161_1 hI163 fr164 ci128 ck128 cA128 hm128
    omega
  | succ N128 ihL128_158 =>
    intro S160 lv161 x162 hlv161_0 hlv161_1 hI163 fr164 ci128 ck128 cA128 hm128
    have hI165 : aw_I s h (aw_sm S160) S160 := ⟨hI163.1, aw_sm_rf⟩
    have b166 : 0 ≤ (S160.1 41).toInt ∧ (S160.1 41).toInt ≤ 8 := aw_bd_f hs (hI165).1 (by decide) rfl
    have b167 : 0 ≤ (S160.1 43).toInt ∧ (S160.1 43).toInt ≤ 39 := aw_bd_f hs (hI165).1 (by decide) rfl
    have b168 : 0 ≤ (S160.1 44).toInt ∧ (S160.1 44).toInt ≤ 31 := aw_bd_f hs (hI165).1 (by decide) rfl
    have b169 : 0 ≤ (S160.1 30).toInt ∧ (S160.1 30).toInt ≤ 1001 := aw_bd_f hs (hI165).1 (by decide) rfl
    have cbci128 := ar_CI_b ci128 (by omega)
    refine aw_l2 aj_d237 rfl rfl hlv161_0 ?_
    refine aw_n aj_d237 rfl rfl ?_
    refine aw_k hU.1 aj_d237 rfl rfl [_] rfl rfl rfl (Nat.le_of_ble_eq_true rfl) (ar_isWaiting hU (hI165).1 (by omega)) ?_
    rintro _ zb170 ⟨fb170, b170, rfl, kb170⟩
    rw [fb170]
    rcases kb170 with ⟨hb170, pb170, qb170⟩ | ⟨hb170, pb170⟩
    · skip
      have qb170 : (S160.2.2.1 22 ((S160.1 43).toInt - 1).toNat).toInt = (33 : Int) := qb170
      have pb170 : 1 ≤ (S160.1 43).toInt := pb170
      show aw_W _ _ _ _ 134 lv161 [.int b170] _ _
      refine aw_z (tgt := 144) aj_d237 rfl rfl (fun q171 => ?_) (fun q171 => ?_)
      · have q171 : (1 : Int) = (0 : Int) := aw_t_eq (a := (1 : Int)) (b := (0 : Int)) hb170 rfl q171
        exfalso
        omega
      · have q171 : (1 : Int) ≠ (0 : Int) := aw_t_eq (a := (1 : Int)) (b := (0 : Int)) hb170 rfl q171
        refine aw_l2 aj_d237 rfl rfl hlv161_0 ?_
        have pr172 := ar_CI_pre ci128 (by omega) (by rw [qb170]; decide)
        refine aw_k hU.1 aj_d237 rfl rfl [] rfl rfl rfl (Nat.le_of_ble_eq_true rfl) (ar_reduce hU (hI165).1 (by omega) (show 1 ≤ (S160.1 43).toInt by omega) pr172.1 pr172.2) ?_
        rintro _ S172 ⟨hT172, fc172, rfl, r1172, r2172, r3172⟩
        have r1172 : (S172.1 43).toInt = (S160.1 43).toInt - 1 := r1172
        have fr174 := aw_fr_tr fr164 (aw_fr_sub (F := [41, 43, 44]) (A := [20]) (by decide) (by decide) fc172)
        have hI175 : aw_I s h (aw_sm S160) S172 := ⟨hT172, aw_sm_tr hI165.2 (aw_fr_sm (by decide) (by decide) (by decide) (F := [41, 43, 44]) (A := [20]) fc172)⟩
        have ci173 : ar_CI (S172.2.2.1 22) ((S172.1 43).toInt).toNat (S172.1 41).toInt (S172.1 44).toInt x162.toInt 1 := by
          rw [(fc172.2 22 (by decide)).1]
          exact ar_CI_red ci128 (by omega) (by rw [qb170]; decide) r1172 r2172 r3172
        have b176 : 0 ≤ (S172.1 41).toInt ∧ (S172.1 41).toInt ≤ 8 := aw_bd_f hs (hI175).1 (by decide) rfl
        have b177 : 0 ≤ (S172.1 43).toInt ∧ (S172.1 43).toInt ≤ 39 := aw_bd_f hs (hI175).1 (by decide) rfl
        have b178 : 0 ≤ (S172.1 44).toInt ∧ (S172.1 44).toInt ≤ 31 := aw_bd_f hs (hI175).1 (by decide) rfl
        have c179 : (S172.1 30).toInt = (S160.1 30).toInt := (congrArg Int32.toInt (fc172.1 30 (by decide)).1).trans rfl
        have b180 : 0 ≤ (S172.1 30).toInt ∧ (S172.1 30).toInt ≤ 1001 := aw_bd_f hs (hI175).1 (by decide) rfl
        have cbci173 := ar_CI_b ci173 (by omega)
        show aw_W _ _ _ _ 141 lv161 [] _ _
        refine aw_n aj_d237 rfl rfl ?_
        exact ihL128_158 S172 lv161 (x162) hlv161_0 hlv161_1 ⟨(hI175).1, (aw_G_sm hI175.2 hI163.2)⟩ fr174 ci173 (show _ ≤ ((S172.1 30)).toInt by omega) (show _ ≤ ((S172.1 30)).toInt by omega) (show (((S172.1 43)).toInt).toNat < _ by omega)
    · skip
      have pb170 : ¬ (1 ≤ (S160.1 43).toInt ∧ (S160.2.2.1 22 ((S160.1 43).toInt - 1).toNat).toInt = (33 : Int)) := pb170
      show aw_W _ _ _ _ 134 lv161 [.int b170] _ _
      refine aw_z (tgt := 144) aj_d237 rfl rfl (fun q181 => ?_) (fun q181 => ?_)
      · have q181 : (0 : Int) = (0 : Int) := aw_t_eq (a := (0 : Int)) (b := (0 : Int)) hb170 rfl q181
        exact (ar_cond_L144_332 hU hd N23 S15 x17 ihL23_13 hm23 N128 S160 x162 ihL128_158 hm128) _ S160 lv161 (x162) hlv161_0 hlv161_1 ⟨(hI165).1, hI163.2⟩ fr164 ci128 (show _ ≤ ((S160.1 30)).toInt by omega) (show _ ≤ ((S160.1 30)).toInt by omega) (Nat.lt_succ_self _)
      · have q181 : (0 : Int) ≠ (0 : Int) := aw_t_eq (a := (0 : Int)) (b := (0 : Int)) hb170 rfl q181
        exfalso
        omega
theorem ar_cond_L23_13 (hU : aw_U tb s h) (hd : 8 ≤ d + 1)  : ∀ (N : Nat) (S15 : aj_S) (lv16 : aj_V) (x17 : Int32), (aj_lv lv16 0 = some (.ref 117)) → (aj_lv lv16 1 = some (.int x17)) → (aw_I s h (aw_G (nm, fl, la, 0, 0, ht)) S15) → (aw_fr [24, 25, 26, 27, 28, 29, 30, 31, 33, 34, 35, 36, 38, 39, 40, 41, 43, 44] [20, 22] S S15) → (ar_CI (S15.2.2.1 22) ((S15.1 43).toInt).toNat (S15.1 41).toInt (S15.1 44).toInt x17.toInt 0) → ((S.1 30).toInt + 0 ≤ (S15.1 30).toInt) → (1001 - (S15.1 30).toInt).toNat < N → aw_W tb h d aj_m237 23 lv16 [] S15 ((ar_QT s h (nm, fl, la, 0, 0, ht) [24, 25, 26, 27, 28, 29, 30, 31, 33, 34, 35, 36, 38, 39, 40, 41, 43, 44] [20, 22] S (fun _ => True))) := by
  have hs : aw_sT s := aw_hy_sT hU.2.2
  intro N23
  induction N23 with
  | zero =>
    intro S15 lv16 x17 hlv16_0 hlv16_1 hI18 fr19 ci23 ck23 hm23
    omega
  | succ N23 ihL23_13 =>
    intro S15 lv16 x17 hlv16_0 hlv16_1 hI18 fr19 ci23 ck23 hm23
    have hI20 : aw_I s h (aw_sm S15) S15 := ⟨hI18.1, aw_sm_rf⟩
    have b21 : 0 ≤ (S15.1 41).toInt ∧ (S15.1 41).toInt ≤ 8 := aw_bd_f hs (hI20).1 (by decide) rfl
    have b22 : 0 ≤ (S15.1 43).toInt ∧ (S15.1 43).toInt ≤ 39 := aw_bd_f hs (hI20).1 (by decide) rfl
    have b23 : 0 ≤ (S15.1 44).toInt ∧ (S15.1 44).toInt ≤ 31 := aw_bd_f hs (hI20).1 (by decide) rfl
    have b24 : 0 ≤ (S15.1 30).toInt ∧ (S15.1 30).toInt ≤ 1001 := aw_bd_f hs (hI20).1 (by decide) rfl
    have cbci23 := ar_CI_b ci23 (by omega)
    refine aw_l2 aj_d237 rfl rfl hlv16_0 ?_
    refine aw_n aj_d237 rfl rfl ?_
    refine aw_k hU.1 aj_d237 rfl rfl [_] rfl rfl rfl (Nat.le_of_ble_eq_true rfl) (ar_isSign hU (by omega) (b := (33 : Int)) rfl) ?_
    have b27 : 0 ≤ (S15.1 26).toInt ∧ (S15.1 26).toInt ≤ 5 := aw_bd_f hs (hI20).1 (by decide) rfl
    rintro _ S26 ⟨eS26, b25, rfl, kb25⟩
    rw [eS26]
    rcases kb25 with ⟨hb25, pb25, qb25⟩ | ⟨hb25, pb25⟩
    · skip
      have pb25 : ((S15.1 26)).toInt = 3 := pb25
      have qb25 : ((S15.1 29)).toInt = (33 : Int) := qb25
      show aw_W _ _ _ _ 29 lv16 [.int b25] _ _
      refine aw_z (tgt := 41) aj_d237 rfl rfl (fun q28 => ?_) (fun q28 => ?_)
      · have q28 : (1 : Int) ≠ (0 : Int) := aw_t_ne (a := (1 : Int)) (b := (0 : Int)) hb25 rfl q28
        refine aw_l2 aj_d237 rfl rfl hlv16_0 ?_
        refine aw_g hU.1 aj_d237 rfl rfl (by decide) (v := .int (S15.1 41)) rfl ?_
        refine aw_n aj_d237 rfl rfl ?_
        refine aw_c (tgt := 60) aj_d237 rfl rfl (fun q29 => ?_) (fun q29 => ?_)
        · have q29 : (S15.1 41).toInt ≠ (8 : Int) := aw_t_ne (a := (S15.1 41).toInt) (b := (8 : Int)) rfl rfl q29
          refine aw_l2 aj_d237 rfl rfl hlv16_0 ?_
          refine aw_n aj_d237 rfl rfl ?_
          refine aw_g hU.1 aj_d237 rfl rfl (by decide) (v := .int (S15.1 41)) rfl ?_
          refine aw_n aj_d237 rfl rfl ?_
          refine aw_add aj_d237 rfl (a := (S15.1 41).toInt) (b := (1 : Int)) rfl rfl (by omega) (by omega) (fun x30 ex30 => ?_)
          refine aw_p hU.1 aj_d237 rfl rfl (by decide) rfl ?_
          have hI31 := aw_I_f (aw_UV hU aw_Gs_sm) (k := 41) (v := x30) hI20 (by decide) (by decide) rfl (aw_bp (a := x30.toInt) rfl (by omega) (by omega))
          have fr32 := aw_fr_f (k := 41) (v := x30) (by decide) fr19
          refine aw_l2 aj_d237 rfl rfl hlv16_0 ?_
          refine aw_g hU.1 aj_d237 rfl rfl (by decide) (v := .ref 139) rfl ?_
          refine aw_l2 aj_d237 rfl rfl hlv16_0 ?_
          refine aw_g hU.1 aj_d237 rfl rfl (by decide) (v := .int (S15.1 43)) rfl ?_
          refine aw_l2 aj_d237 rfl rfl hlv16_0 ?_
          refine aw_g hU.1 aj_d237 rfl rfl (by decide) (v := .int (S15.1 29)) rfl ?_
          refine aw_st (k := 22) hU.1 aj_d237 (Or.inl ⟨rfl, rfl⟩) rfl (by decide) (by decide) rfl (a := (S15.1 43).toInt) rfl (by omega) (by omega) ?_
          have hI33 := aw_I_a (aw_UV hU aw_Gs_sm) (k := 22) (j := ((S15.1 43).toInt).toNat) (v := aj_nar 0 (S15.1 29)) hI31 (by decide) (by decide) (by decide) rfl (by decide) (by decide) rfl (aw_full _)
          have fr34 := aw_fr_a (k := 22) (j := ((S15.1 43).toInt).toNat) (v := aj_nar 0 (S15.1 29)) (by decide) fr32
          refine aw_l2 aj_d237 rfl rfl hlv16_0 ?_
          refine aw_n aj_d237 rfl rfl ?_
          refine aw_g hU.1 aj_d237 rfl rfl (by decide) (v := .int (S15.1 43)) rfl ?_
          refine aw_n aj_d237 rfl rfl ?_
          refine aw_add aj_d237 rfl (a := (S15.1 43).toInt) (b := (1 : Int)) rfl rfl (by omega) (by omega) (fun x35 ex35 => ?_)
          refine aw_p hU.1 aj_d237 rfl rfl (by decide) rfl ?_
          have hI36 := aw_I_f (aw_UV hU aw_Gs_sm) (k := 43) (v := x35) hI33 (by decide) (by decide) rfl (aw_bp (a := x35.toInt) rfl (by omega) (by omega))
          have fr37 := aw_fr_f (k := 43) (v := x35) (by decide) fr34
          refine aw_l2 aj_d237 rfl rfl hlv16_0 ?_
          refine aw_g hU.1 aj_d237 rfl rfl (by decide) (v := .int (S15.1 29)) rfl ?_
          refine aw_n aj_d237 rfl rfl ?_
          refine aw_c (tgt := 108) aj_d237 rfl rfl (fun q38 => ?_) (fun q38 => ?_)
          · have q38 : (S15.1 29).toInt ≠ (40 : Int) := aw_t_ne (a := (S15.1 29).toInt) (b := (40 : Int)) rfl rfl q38
            refine aw_l0 aj_d237 rfl rfl hlv16_1 ?_
            refine aw_t0 (j := 1) aj_d237 rfl (by decide) rfl ?_
            obtain ⟨lv39, elv39⟩ : ∃ l, l = aj_set1 lv16 1 (.int x17) := ⟨_, rfl⟩
            rw [← elv39]
            have hlv39_0 : aj_lv lv39 0 = some (.ref 117) := cw_e1 elv39 hlv16_0 (by decide) (Or.inr rfl)
            have hlv39_1 : aj_lv lv39 1 = some (.int x17) := by rw [elv39]; exact ak_set1_eq _ _ _
            show aw_W _ _ _ _ 110 lv39 [] _ _
            have ci40 : ar_CI (((aw_wf (aw_wa (aw_wf S15 41 x30) 22 ((S15.1 43).toInt).toNat (aj_nar 0 (S15.1 29))) 43 x35)).2.2.1 22) ((((aw_wf (aw_wa (aw_wf S15 41 x30) 22 ((S15.1 43).toInt).toNat (aj_nar 0 (S15.1 29))) 43 x35)).1 43).toInt).toNat (((aw_wf (aw_wa (aw_wf S15 41 x30) 22 ((S15.1 43).toInt).toNat (aj_nar 0 (S15.1 29))) 43 x35)).1 41).toInt (((aw_wf (aw_wa (aw_wf S15 41 x30) 22 ((S15.1 43).toInt).toNat (aj_nar 0 (S15.1 29))) 43 x35)).1 44).toInt x17.toInt 0 := by
              show ar_CI (upd (S15.2.2.1 22) ((S15.1 43).toInt).toNat ((S15.1 29))) ((x35).toInt).toNat ((x30).toInt) (S15.1 44).toInt x17.toInt 0
              rw [show ((x35).toInt).toNat = ((S15.1 43).toInt).toNat + 1 by omega]
              exact ar_CI_push ci23 (by omega) (by omega) (by split <;> omega)
            refine aw_l2 aj_d237 rfl rfl hlv39_0 ?_
            refine aw_k hU.1 aj_d237 rfl rfl [] rfl rfl rfl (Nat.le_of_ble_eq_true rfl) (ar_pass hU (hI36).1 (aw_G_sm hI36.2 hI18.2) (by omega) (show ((S15.1 26)).toInt ≠ 0 by omega) (show ¬ (((S15.1 26)).toInt = 3 ∧ ((S15.1 29)).toInt = 63) by omega) (show ((S15.1 26)).toInt = 4 → ((S15.1 29)).toInt = 3 ∨ 6 ≤ ((S15.1 29)).toInt by omega)) ?_
            rintro _ S41 ⟨hT41, fc41, ⟨b41, rfl, hb41, hG41, fd41, hz41⟩ | ⟨b41, rfl, hb41, hG41, ck41, fd41, cj41⟩⟩
            · skip
              have fr42 := aw_fr_tr fr37 (aw_fr_sub (F := [24, 25, 31]) (A := []) (by decide) (by decide) fd41)
              have hI43 : aw_I s h (aw_sm S41) S41 := ⟨hT41, aw_sm_rf⟩
              show aw_W _ _ _ _ 114 lv39 [.int b41] _ _
              refine aw_z (tgt := 23) aj_d237 rfl rfl (fun q44 => ?_) (fun q44 => ?_)
              · have q44 : (0 : Int) ≠ (0 : Int) := aw_t_ne (a := (0 : Int)) (b := (0 : Int)) hb41 rfl q44
                exfalso
                omega
              · have q44 : (0 : Int) = (0 : Int) := aw_t_ne (a := (0 : Int)) (b := (0 : Int)) hb41 rfl q44
                refine aw_n aj_d237 rfl rfl ?_
                refine aw_e aj_d237 rfl rfl ?_
                have c45 : (S41.1 30).toInt = (S15.1 30).toInt := (congrArg Int32.toInt (fd41.1 30 (by decide)).1).trans rfl
                have b46 : 0 ≤ (S41.1 30).toInt ∧ (S41.1 30).toInt ≤ 1001 := aw_bd_f hs (hI43).1 (by decide) rfl
                exact ⟨(hI43).1, fr42, Or.inl ⟨_, rfl, rfl, hG41, (show _ ≤ ((S41.1 30)).toInt by omega)⟩⟩
            · skip
              have cj41 : (S41.1 30).toInt = ((S15.1 30)).toInt + 1 := cj41
              have fr47 := aw_fr_tr fr37 (aw_fr_sub (F := [26, 27, 28, 29, 30]) (A := []) (by decide) (by decide) fd41)
              have hI48 : aw_I s h (aw_sm S41) S41 := ⟨hT41, aw_sm_rf⟩
              have ci49 : ar_CI (S41.2.2.1 22) ((S41.1 43).toInt).toNat (S41.1 41).toInt (S41.1 44).toInt x17.toInt 0 := by
                rw [(fd41.2 22 (by decide)).1, (fd41.1 43 (by decide)).1, (fd41.1 41 (by decide)).1, (fd41.1 44 (by decide)).1]
                exact ci40
              have c50 : (S41.1 41).toInt = x30.toInt := (congrArg Int32.toInt (fd41.1 41 (by decide)).1).trans rfl
              have b51 : 0 ≤ (S41.1 41).toInt ∧ (S41.1 41).toInt ≤ 8 := aw_bd_f hs (hI48).1 (by decide) rfl
              have c52 : (S41.1 43).toInt = x35.toInt := (congrArg Int32.toInt (fd41.1 43 (by decide)).1).trans rfl
              have b53 : 0 ≤ (S41.1 43).toInt ∧ (S41.1 43).toInt ≤ 39 := aw_bd_f hs (hI48).1 (by decide) rfl
              have c54 : (S41.1 44).toInt = (S15.1 44).toInt := (congrArg Int32.toInt (fd41.1 44 (by decide)).1).trans rfl
              have b55 : 0 ≤ (S41.1 44).toInt ∧ (S41.1 44).toInt ≤ 31 := aw_bd_f hs (hI48).1 (by decide) rfl
              have b56 : 0 ≤ (S41.1 30).toInt ∧ (S41.1 30).toInt ≤ 1001 := aw_bd_f hs (hI48).1 (by decide) rfl
              have cbci49 := ar_CI_b ci49 (by omega)
              show aw_W _ _ _ _ 114 lv39 [.int b41] _ _
              refine aw_z (tgt := 23) aj_d237 rfl rfl (fun q57 => ?_) (fun q57 => ?_)
              · have q57 : (1 : Int) ≠ (0 : Int) := aw_t_ne (a := (1 : Int)) (b := (0 : Int)) hb41 rfl q57
                exact ihL23_13 S41 lv39 (x17) hlv39_0 hlv39_1 ⟨(hI48).1, hG41⟩ fr47 ci49 (show _ ≤ ((S41.1 30)).toInt by omega) (show (1001 - ((S41.1 30)).toInt).toNat < _ by omega)
              · have q57 : (1 : Int) = (0 : Int) := aw_t_ne (a := (1 : Int)) (b := (0 : Int)) hb41 rfl q57
                exfalso
                omega
          · have q38 : (S15.1 29).toInt = (40 : Int) := aw_t_ne (a := (S15.1 29).toInt) (b := (40 : Int)) rfl rfl q38
            refine aw_l0 aj_d237 rfl rfl hlv16_1 ?_
            refine aw_n aj_d237 rfl rfl ?_
            refine aw_add aj_d237 rfl (a := x17.toInt) (b := (1 : Int)) rfl rfl (by omega) (by omega) (fun x58 ex58 => ?_)
            refine aw_n aj_d237 rfl rfl ?_
            refine aw_t0 (j := 1) aj_d237 rfl (by decide) rfl ?_
            obtain ⟨lv59, elv59⟩ : ∃ l, l = aj_set1 lv16 1 (.int x58) := ⟨_, rfl⟩
            rw [← elv59]
            have hlv59_0 : aj_lv lv59 0 = some (.ref 117) := cw_e1 elv59 hlv16_0 (by decide) (Or.inr rfl)
            have hlv59_1 : aj_lv lv59 1 = some (.int x58) := by rw [elv59]; exact ak_set1_eq _ _ _
            show aw_W _ _ _ _ 110 lv59 [] _ _
            have ci60 : ar_CI (((aw_wf (aw_wa (aw_wf S15 41 x30) 22 ((S15.1 43).toInt).toNat (aj_nar 0 (S15.1 29))) 43 x35)).2.2.1 22) ((((aw_wf (aw_wa (aw_wf S15 41 x30) 22 ((S15.1 43).toInt).toNat (aj_nar 0 (S15.1 29))) 43 x35)).1 43).toInt).toNat (((aw_wf (aw_wa (aw_wf S15 41 x30) 22 ((S15.1 43).toInt).toNat (aj_nar 0 (S15.1 29))) 43 x35)).1 41).toInt (((aw_wf (aw_wa (aw_wf S15 41 x30) 22 ((S15.1 43).toInt).toNat (aj_nar 0 (S15.1 29))) 43 x35)).1 44).toInt x58.toInt 0 := by
              show ar_CI (upd (S15.2.2.1 22) ((S15.1 43).toInt).toNat ((S15.1 29))) ((x35).toInt).toNat ((x30).toInt) (S15.1 44).toInt x58.toInt 0
              rw [show ((x35).toInt).toNat = ((S15.1 43).toInt).toNat + 1 by omega]
              exact ar_CI_push ci23 (by omega) (by omega) (by split <;> omega)
            refine aw_l2 aj_d237 rfl rfl hlv59_0 ?_
            refine aw_k hU.1 aj_d237 rfl rfl [] rfl rfl rfl (Nat.le_of_ble_eq_true rfl) (ar_pass hU (hI36).1 (aw_G_sm hI36.2 hI18.2) (by omega) (show ((S15.1 26)).toInt ≠ 0 by omega) (show ¬ (((S15.1 26)).toInt = 3 ∧ ((S15.1 29)).toInt = 63) by omega) (show ((S15.1 26)).toInt = 4 → ((S15.1 29)).toInt = 3 ∨ 6 ≤ ((S15.1 29)).toInt by omega)) ?_
            rintro _ S61 ⟨hT61, fc61, ⟨b61, rfl, hb61, hG61, fd61, hz61⟩ | ⟨b61, rfl, hb61, hG61, ck61, fd61, cj61⟩⟩
            · skip
              have fr62 := aw_fr_tr fr37 (aw_fr_sub (F := [24, 25, 31]) (A := []) (by decide) (by decide) fd61)
              have hI63 : aw_I s h (aw_sm S61) S61 := ⟨hT61, aw_sm_rf⟩
              show aw_W _ _ _ _ 114 lv59 [.int b61] _ _
              refine aw_z (tgt := 23) aj_d237 rfl rfl (fun q64 => ?_) (fun q64 => ?_)
              · have q64 : (0 : Int) ≠ (0 : Int) := aw_t_ne (a := (0 : Int)) (b := (0 : Int)) hb61 rfl q64
                exfalso
                omega
              · have q64 : (0 : Int) = (0 : Int) := aw_t_ne (a := (0 : Int)) (b := (0 : Int)) hb61 rfl q64
                refine aw_n aj_d237 rfl rfl ?_
                refine aw_e aj_d237 rfl rfl ?_
                have c65 : (S61.1 30).toInt = (S15.1 30).toInt := (congrArg Int32.toInt (fd61.1 30 (by decide)).1).trans rfl
                have b66 : 0 ≤ (S61.1 30).toInt ∧ (S61.1 30).toInt ≤ 1001 := aw_bd_f hs (hI63).1 (by decide) rfl
                exact ⟨(hI63).1, fr62, Or.inl ⟨_, rfl, rfl, hG61, (show _ ≤ ((S61.1 30)).toInt by omega)⟩⟩
            · skip
              have cj61 : (S61.1 30).toInt = ((S15.1 30)).toInt + 1 := cj61
              have fr67 := aw_fr_tr fr37 (aw_fr_sub (F := [26, 27, 28, 29, 30]) (A := []) (by decide) (by decide) fd61)
              have hI68 : aw_I s h (aw_sm S61) S61 := ⟨hT61, aw_sm_rf⟩
              have ci69 : ar_CI (S61.2.2.1 22) ((S61.1 43).toInt).toNat (S61.1 41).toInt (S61.1 44).toInt x58.toInt 0 := by
                rw [(fd61.2 22 (by decide)).1, (fd61.1 43 (by decide)).1, (fd61.1 41 (by decide)).1, (fd61.1 44 (by decide)).1]
                exact ci60
              have c70 : (S61.1 41).toInt = x30.toInt := (congrArg Int32.toInt (fd61.1 41 (by decide)).1).trans rfl
              have b71 : 0 ≤ (S61.1 41).toInt ∧ (S61.1 41).toInt ≤ 8 := aw_bd_f hs (hI68).1 (by decide) rfl
              have c72 : (S61.1 43).toInt = x35.toInt := (congrArg Int32.toInt (fd61.1 43 (by decide)).1).trans rfl
              have b73 : 0 ≤ (S61.1 43).toInt ∧ (S61.1 43).toInt ≤ 39 := aw_bd_f hs (hI68).1 (by decide) rfl
              have c74 : (S61.1 44).toInt = (S15.1 44).toInt := (congrArg Int32.toInt (fd61.1 44 (by decide)).1).trans rfl
              have b75 : 0 ≤ (S61.1 44).toInt ∧ (S61.1 44).toInt ≤ 31 := aw_bd_f hs (hI68).1 (by decide) rfl
              have b76 : 0 ≤ (S61.1 30).toInt ∧ (S61.1 30).toInt ≤ 1001 := aw_bd_f hs (hI68).1 (by decide) rfl
              have cbci69 := ar_CI_b ci69 (by omega)
              show aw_W _ _ _ _ 114 lv59 [.int b61] _ _
              refine aw_z (tgt := 23) aj_d237 rfl rfl (fun q77 => ?_) (fun q77 => ?_)
              · have q77 : (1 : Int) ≠ (0 : Int) := aw_t_ne (a := (1 : Int)) (b := (0 : Int)) hb61 rfl q77
                exact ihL23_13 S61 lv59 (x58) hlv59_0 hlv59_1 ⟨(hI68).1, hG61⟩ fr67 ci69 (show _ ≤ ((S61.1 30)).toInt by omega) (show (1001 - ((S61.1 30)).toInt).toNat < _ by omega)
              · have q77 : (1 : Int) = (0 : Int) := aw_t_ne (a := (1 : Int)) (b := (0 : Int)) hb61 rfl q77
                exfalso
                omega
        · have q29 : (S15.1 41).toInt = (8 : Int) := aw_t_ne (a := (S15.1 41).toInt) (b := (8 : Int)) rfl rfl q29
          refine aw_l2 aj_d237 rfl rfl hlv16_0 ?_
          refine aw_n aj_d237 rfl rfl ?_
          refine aw_l2 aj_d237 rfl rfl hlv16_0 ?_
          have b78 : 0 ≤ (S15.1 27).toInt ∧ (S15.1 27).toInt ≤ 4000 := aw_bd_f hs (hI20).1 (by decide) rfl
          refine aw_g hU.1 aj_d237 rfl rfl (by decide) (v := .int (S15.1 27)) rfl ?_
          refine aw_k hU.1 aj_d237 rfl rfl [_, _] rfl rfl rfl (Nat.le_of_ble_eq_true rfl) (ar_stop hU (hI20).1 (by omega) (a := (2 : Int)) rfl) ?_
          rintro _ S79 ⟨hT79, fc79, rfl, hz79⟩
          have hG79 := aw_G_stop hI18.2 fc79 (by omega)
          have fr80 := aw_fr_tr fr19 (aw_fr_sub (F := [24, 25, 31]) (A := []) (by decide) (by decide) fc79)
          have hI81 : aw_I s h (aw_sm S79) S79 := ⟨hT79, aw_sm_rf⟩
          show aw_W _ _ _ _ 59 lv16 [.int (Int32.ofInt 0)] _ _
          refine aw_e aj_d237 rfl rfl ?_
          have c82 : (S79.1 30).toInt = (S15.1 30).toInt := (congrArg Int32.toInt (fc79.1 30 (by decide)).1).trans rfl
          have b83 : 0 ≤ (S79.1 30).toInt ∧ (S79.1 30).toInt ≤ 1001 := aw_bd_f hs (hI81).1 (by decide) rfl
          exact ⟨(hI81).1, fr80, Or.inl ⟨_, rfl, rfl, hG79, (show _ ≤ ((S79.1 30)).toInt by omega)⟩⟩
      · have q28 : (1 : Int) = (0 : Int) := aw_t_ne (a := (1 : Int)) (b := (0 : Int)) hb25 rfl q28
        exfalso
        omega
    · skip
      have pb25 : ¬ (((S15.1 26)).toInt = 3 ∧ ((S15.1 29)).toInt = (33 : Int)) := pb25
      show aw_W _ _ _ _ 29 lv16 [.int b25] _ _
      refine aw_z (tgt := 41) aj_d237 rfl rfl (fun q84 => ?_) (fun q84 => ?_)
      · have q84 : (0 : Int) ≠ (0 : Int) := aw_t_ne (a := (0 : Int)) (b := (0 : Int)) hb25 rfl q84
        exfalso
        omega
      · have q84 : (0 : Int) = (0 : Int) := aw_t_ne (a := (0 : Int)) (b := (0 : Int)) hb25 rfl q84
        refine aw_l2 aj_d237 rfl rfl hlv16_0 ?_
        refine aw_n aj_d237 rfl rfl ?_
        refine aw_k hU.1 aj_d237 rfl rfl [_] rfl rfl rfl (Nat.le_of_ble_eq_true rfl) (ar_isSign hU (by omega) (b := (40 : Int)) rfl) ?_
        rintro _ S86 ⟨eS86, b85, rfl, kb85⟩
        rw [eS86]
        rcases kb85 with ⟨hb85, pb85, qb85⟩ | ⟨hb85, pb85⟩
        · skip
          have pb85 : ((S15.1 26)).toInt = 3 := pb85
          have qb85 : ((S15.1 29)).toInt = (40 : Int) := qb85
          show aw_W _ _ _ _ 38 lv16 [.int b85] _ _
          refine aw_z (tgt := 119) aj_d237 rfl rfl (fun q87 => ?_) (fun q87 => ?_)
          · have q87 : (1 : Int) = (0 : Int) := aw_t_eq (a := (1 : Int)) (b := (0 : Int)) hb85 rfl q87
            exfalso
            omega
          · have q87 : (1 : Int) ≠ (0 : Int) := aw_t_eq (a := (1 : Int)) (b := (0 : Int)) hb85 rfl q87
            refine aw_l2 aj_d237 rfl rfl hlv16_0 ?_
            refine aw_g hU.1 aj_d237 rfl rfl (by decide) (v := .int (S15.1 41)) rfl ?_
            refine aw_n aj_d237 rfl rfl ?_
            refine aw_c (tgt := 60) aj_d237 rfl rfl (fun q88 => ?_) (fun q88 => ?_)
            · have q88 : (S15.1 41).toInt ≠ (8 : Int) := aw_t_ne (a := (S15.1 41).toInt) (b := (8 : Int)) rfl rfl q88
              refine aw_l2 aj_d237 rfl rfl hlv16_0 ?_
              refine aw_n aj_d237 rfl rfl ?_
              refine aw_g hU.1 aj_d237 rfl rfl (by decide) (v := .int (S15.1 41)) rfl ?_
              refine aw_n aj_d237 rfl rfl ?_
              refine aw_add aj_d237 rfl (a := (S15.1 41).toInt) (b := (1 : Int)) rfl rfl (by omega) (by omega) (fun x89 ex89 => ?_)
              refine aw_p hU.1 aj_d237 rfl rfl (by decide) rfl ?_
              have hI90 := aw_I_f (aw_UV hU aw_Gs_sm) (k := 41) (v := x89) hI20 (by decide) (by decide) rfl (aw_bp (a := x89.toInt) rfl (by omega) (by omega))
              have fr91 := aw_fr_f (k := 41) (v := x89) (by decide) fr19
              refine aw_l2 aj_d237 rfl rfl hlv16_0 ?_
              refine aw_g hU.1 aj_d237 rfl rfl (by decide) (v := .ref 139) rfl ?_
              refine aw_l2 aj_d237 rfl rfl hlv16_0 ?_
              refine aw_g hU.1 aj_d237 rfl rfl (by decide) (v := .int (S15.1 43)) rfl ?_
              refine aw_l2 aj_d237 rfl rfl hlv16_0 ?_
              refine aw_g hU.1 aj_d237 rfl rfl (by decide) (v := .int (S15.1 29)) rfl ?_
              refine aw_st (k := 22) hU.1 aj_d237 (Or.inl ⟨rfl, rfl⟩) rfl (by decide) (by decide) rfl (a := (S15.1 43).toInt) rfl (by omega) (by omega) ?_
              have hI92 := aw_I_a (aw_UV hU aw_Gs_sm) (k := 22) (j := ((S15.1 43).toInt).toNat) (v := aj_nar 0 (S15.1 29)) hI90 (by decide) (by decide) (by decide) rfl (by decide) (by decide) rfl (aw_full _)
              have fr93 := aw_fr_a (k := 22) (j := ((S15.1 43).toInt).toNat) (v := aj_nar 0 (S15.1 29)) (by decide) fr91
              refine aw_l2 aj_d237 rfl rfl hlv16_0 ?_
              refine aw_n aj_d237 rfl rfl ?_
              refine aw_g hU.1 aj_d237 rfl rfl (by decide) (v := .int (S15.1 43)) rfl ?_
              refine aw_n aj_d237 rfl rfl ?_
              refine aw_add aj_d237 rfl (a := (S15.1 43).toInt) (b := (1 : Int)) rfl rfl (by omega) (by omega) (fun x94 ex94 => ?_)
              refine aw_p hU.1 aj_d237 rfl rfl (by decide) rfl ?_
              have hI95 := aw_I_f (aw_UV hU aw_Gs_sm) (k := 43) (v := x94) hI92 (by decide) (by decide) rfl (aw_bp (a := x94.toInt) rfl (by omega) (by omega))
              have fr96 := aw_fr_f (k := 43) (v := x94) (by decide) fr93
              refine aw_l2 aj_d237 rfl rfl hlv16_0 ?_
              refine aw_g hU.1 aj_d237 rfl rfl (by decide) (v := .int (S15.1 29)) rfl ?_
              refine aw_n aj_d237 rfl rfl ?_
              refine aw_c (tgt := 108) aj_d237 rfl rfl (fun q97 => ?_) (fun q97 => ?_)
              · have q97 : (S15.1 29).toInt ≠ (40 : Int) := aw_t_ne (a := (S15.1 29).toInt) (b := (40 : Int)) rfl rfl q97
                refine aw_l0 aj_d237 rfl rfl hlv16_1 ?_
                refine aw_t0 (j := 1) aj_d237 rfl (by decide) rfl ?_
                obtain ⟨lv98, elv98⟩ : ∃ l, l = aj_set1 lv16 1 (.int x17) := ⟨_, rfl⟩
                rw [← elv98]
                have hlv98_0 : aj_lv lv98 0 = some (.ref 117) := cw_e1 elv98 hlv16_0 (by decide) (Or.inr rfl)
                have hlv98_1 : aj_lv lv98 1 = some (.int x17) := by rw [elv98]; exact ak_set1_eq _ _ _
                show aw_W _ _ _ _ 110 lv98 [] _ _
                have ci99 : ar_CI (((aw_wf (aw_wa (aw_wf S15 41 x89) 22 ((S15.1 43).toInt).toNat (aj_nar 0 (S15.1 29))) 43 x94)).2.2.1 22) ((((aw_wf (aw_wa (aw_wf S15 41 x89) 22 ((S15.1 43).toInt).toNat (aj_nar 0 (S15.1 29))) 43 x94)).1 43).toInt).toNat (((aw_wf (aw_wa (aw_wf S15 41 x89) 22 ((S15.1 43).toInt).toNat (aj_nar 0 (S15.1 29))) 43 x94)).1 41).toInt (((aw_wf (aw_wa (aw_wf S15 41 x89) 22 ((S15.1 43).toInt).toNat (aj_nar 0 (S15.1 29))) 43 x94)).1 44).toInt x17.toInt 0 := by
                  show ar_CI (upd (S15.2.2.1 22) ((S15.1 43).toInt).toNat ((S15.1 29))) ((x94).toInt).toNat ((x89).toInt) (S15.1 44).toInt x17.toInt 0
                  rw [show ((x94).toInt).toNat = ((S15.1 43).toInt).toNat + 1 by omega]
                  exact ar_CI_push ci23 (by omega) (by omega) (by split <;> omega)
                refine aw_l2 aj_d237 rfl rfl hlv98_0 ?_
                refine aw_k hU.1 aj_d237 rfl rfl [] rfl rfl rfl (Nat.le_of_ble_eq_true rfl) (ar_pass hU (hI95).1 (aw_G_sm hI95.2 hI18.2) (by omega) (show ((S15.1 26)).toInt ≠ 0 by omega) (show ¬ (((S15.1 26)).toInt = 3 ∧ ((S15.1 29)).toInt = 63) by omega) (show ((S15.1 26)).toInt = 4 → ((S15.1 29)).toInt = 3 ∨ 6 ≤ ((S15.1 29)).toInt by omega)) ?_
                rintro _ S100 ⟨hT100, fc100, ⟨b100, rfl, hb100, hG100, fd100, hz100⟩ | ⟨b100, rfl, hb100, hG100, ck100, fd100, cj100⟩⟩
                · skip
                  have fr101 := aw_fr_tr fr96 (aw_fr_sub (F := [24, 25, 31]) (A := []) (by decide) (by decide) fd100)
                  have hI102 : aw_I s h (aw_sm S100) S100 := ⟨hT100, aw_sm_rf⟩
                  show aw_W _ _ _ _ 114 lv98 [.int b100] _ _
                  refine aw_z (tgt := 23) aj_d237 rfl rfl (fun q103 => ?_) (fun q103 => ?_)
                  · have q103 : (0 : Int) ≠ (0 : Int) := aw_t_ne (a := (0 : Int)) (b := (0 : Int)) hb100 rfl q103
                    exfalso
                    omega
                  · have q103 : (0 : Int) = (0 : Int) := aw_t_ne (a := (0 : Int)) (b := (0 : Int)) hb100 rfl q103
                    refine aw_n aj_d237 rfl rfl ?_
                    refine aw_e aj_d237 rfl rfl ?_
                    have c104 : (S100.1 30).toInt = (S15.1 30).toInt := (congrArg Int32.toInt (fd100.1 30 (by decide)).1).trans rfl
                    have b105 : 0 ≤ (S100.1 30).toInt ∧ (S100.1 30).toInt ≤ 1001 := aw_bd_f hs (hI102).1 (by decide) rfl
                    exact ⟨(hI102).1, fr101, Or.inl ⟨_, rfl, rfl, hG100, (show _ ≤ ((S100.1 30)).toInt by omega)⟩⟩
                · skip
                  have cj100 : (S100.1 30).toInt = ((S15.1 30)).toInt + 1 := cj100
                  have fr106 := aw_fr_tr fr96 (aw_fr_sub (F := [26, 27, 28, 29, 30]) (A := []) (by decide) (by decide) fd100)
                  have hI107 : aw_I s h (aw_sm S100) S100 := ⟨hT100, aw_sm_rf⟩
                  have ci108 : ar_CI (S100.2.2.1 22) ((S100.1 43).toInt).toNat (S100.1 41).toInt (S100.1 44).toInt x17.toInt 0 := by
                    rw [(fd100.2 22 (by decide)).1, (fd100.1 43 (by decide)).1, (fd100.1 41 (by decide)).1, (fd100.1 44 (by decide)).1]
                    exact ci99
                  have c109 : (S100.1 41).toInt = x89.toInt := (congrArg Int32.toInt (fd100.1 41 (by decide)).1).trans rfl
                  have b110 : 0 ≤ (S100.1 41).toInt ∧ (S100.1 41).toInt ≤ 8 := aw_bd_f hs (hI107).1 (by decide) rfl
                  have c111 : (S100.1 43).toInt = x94.toInt := (congrArg Int32.toInt (fd100.1 43 (by decide)).1).trans rfl
                  have b112 : 0 ≤ (S100.1 43).toInt ∧ (S100.1 43).toInt ≤ 39 := aw_bd_f hs (hI107).1 (by decide) rfl
                  have c113 : (S100.1 44).toInt = (S15.1 44).toInt := (congrArg Int32.toInt (fd100.1 44 (by decide)).1).trans rfl
                  have b114 : 0 ≤ (S100.1 44).toInt ∧ (S100.1 44).toInt ≤ 31 := aw_bd_f hs (hI107).1 (by decide) rfl
                  have b115 : 0 ≤ (S100.1 30).toInt ∧ (S100.1 30).toInt ≤ 1001 := aw_bd_f hs (hI107).1 (by decide) rfl
                  have cbci108 := ar_CI_b ci108 (by omega)
                  show aw_W _ _ _ _ 114 lv98 [.int b100] _ _
                  refine aw_z (tgt := 23) aj_d237 rfl rfl (fun q116 => ?_) (fun q116 => ?_)
                  · have q116 : (1 : Int) ≠ (0 : Int) := aw_t_ne (a := (1 : Int)) (b := (0 : Int)) hb100 rfl q116
                    exact ihL23_13 S100 lv98 (x17) hlv98_0 hlv98_1 ⟨(hI107).1, hG100⟩ fr106 ci108 (show _ ≤ ((S100.1 30)).toInt by omega) (show (1001 - ((S100.1 30)).toInt).toNat < _ by omega)
                  · have q116 : (1 : Int) = (0 : Int) := aw_t_ne (a := (1 : Int)) (b := (0 : Int)) hb100 rfl q116
                    exfalso
                    omega
              · have q97 : (S15.1 29).toInt = (40 : Int) := aw_t_ne (a := (S15.1 29).toInt) (b := (40 : Int)) rfl rfl q97
                refine aw_l0 aj_d237 rfl rfl hlv16_1 ?_
                refine aw_n aj_d237 rfl rfl ?_
                refine aw_add aj_d237 rfl (a := x17.toInt) (b := (1 : Int)) rfl rfl (by omega) (by omega) (fun x117 ex117 => ?_)
                refine aw_n aj_d237 rfl rfl ?_
                refine aw_t0 (j := 1) aj_d237 rfl (by decide) rfl ?_
                obtain ⟨lv118, elv118⟩ : ∃ l, l = aj_set1 lv16 1 (.int x117) := ⟨_, rfl⟩
                rw [← elv118]
                have hlv118_0 : aj_lv lv118 0 = some (.ref 117) := cw_e1 elv118 hlv16_0 (by decide) (Or.inr rfl)
                have hlv118_1 : aj_lv lv118 1 = some (.int x117) := by rw [elv118]; exact ak_set1_eq _ _ _
                show aw_W _ _ _ _ 110 lv118 [] _ _
                have ci119 : ar_CI (((aw_wf (aw_wa (aw_wf S15 41 x89) 22 ((S15.1 43).toInt).toNat (aj_nar 0 (S15.1 29))) 43 x94)).2.2.1 22) ((((aw_wf (aw_wa (aw_wf S15 41 x89) 22 ((S15.1 43).toInt).toNat (aj_nar 0 (S15.1 29))) 43 x94)).1 43).toInt).toNat (((aw_wf (aw_wa (aw_wf S15 41 x89) 22 ((S15.1 43).toInt).toNat (aj_nar 0 (S15.1 29))) 43 x94)).1 41).toInt (((aw_wf (aw_wa (aw_wf S15 41 x89) 22 ((S15.1 43).toInt).toNat (aj_nar 0 (S15.1 29))) 43 x94)).1 44).toInt x117.toInt 0 := by
                  show ar_CI (upd (S15.2.2.1 22) ((S15.1 43).toInt).toNat ((S15.1 29))) ((x94).toInt).toNat ((x89).toInt) (S15.1 44).toInt x117.toInt 0
                  rw [show ((x94).toInt).toNat = ((S15.1 43).toInt).toNat + 1 by omega]
                  exact ar_CI_push ci23 (by omega) (by omega) (by split <;> omega)
                refine aw_l2 aj_d237 rfl rfl hlv118_0 ?_
                refine aw_k hU.1 aj_d237 rfl rfl [] rfl rfl rfl (Nat.le_of_ble_eq_true rfl) (ar_pass hU (hI95).1 (aw_G_sm hI95.2 hI18.2) (by omega) (show ((S15.1 26)).toInt ≠ 0 by omega) (show ¬ (((S15.1 26)).toInt = 3 ∧ ((S15.1 29)).toInt = 63) by omega) (show ((S15.1 26)).toInt = 4 → ((S15.1 29)).toInt = 3 ∨ 6 ≤ ((S15.1 29)).toInt by omega)) ?_
                rintro _ S120 ⟨hT120, fc120, ⟨b120, rfl, hb120, hG120, fd120, hz120⟩ | ⟨b120, rfl, hb120, hG120, ck120, fd120, cj120⟩⟩
                · skip
                  have fr121 := aw_fr_tr fr96 (aw_fr_sub (F := [24, 25, 31]) (A := []) (by decide) (by decide) fd120)
                  have hI122 : aw_I s h (aw_sm S120) S120 := ⟨hT120, aw_sm_rf⟩
                  show aw_W _ _ _ _ 114 lv118 [.int b120] _ _
                  refine aw_z (tgt := 23) aj_d237 rfl rfl (fun q123 => ?_) (fun q123 => ?_)
                  · have q123 : (0 : Int) ≠ (0 : Int) := aw_t_ne (a := (0 : Int)) (b := (0 : Int)) hb120 rfl q123
                    exfalso
                    omega
                  · have q123 : (0 : Int) = (0 : Int) := aw_t_ne (a := (0 : Int)) (b := (0 : Int)) hb120 rfl q123
                    refine aw_n aj_d237 rfl rfl ?_
                    refine aw_e aj_d237 rfl rfl ?_
                    have c124 : (S120.1 30).toInt = (S15.1 30).toInt := (congrArg Int32.toInt (fd120.1 30 (by decide)).1).trans rfl
                    have b125 : 0 ≤ (S120.1 30).toInt ∧ (S120.1 30).toInt ≤ 1001 := aw_bd_f hs (hI122).1 (by decide) rfl
                    exact ⟨(hI122).1, fr121, Or.inl ⟨_, rfl, rfl, hG120, (show _ ≤ ((S120.1 30)).toInt by omega)⟩⟩
                · skip
                  have cj120 : (S120.1 30).toInt = ((S15.1 30)).toInt + 1 := cj120
                  have fr126 := aw_fr_tr fr96 (aw_fr_sub (F := [26, 27, 28, 29, 30]) (A := []) (by decide) (by decide) fd120)
                  have hI127 : aw_I s h (aw_sm S120) S120 := ⟨hT120, aw_sm_rf⟩
                  have ci128 : ar_CI (S120.2.2.1 22) ((S120.1 43).toInt).toNat (S120.1 41).toInt (S120.1 44).toInt x117.toInt 0 := by
                    rw [(fd120.2 22 (by decide)).1, (fd120.1 43 (by decide)).1, (fd120.1 41 (by decide)).1, (fd120.1 44 (by decide)).1]
                    exact ci119
                  have c129 : (S120.1 41).toInt = x89.toInt := (congrArg Int32.toInt (fd120.1 41 (by decide)).1).trans rfl
                  have b130 : 0 ≤ (S120.1 41).toInt ∧ (S120.1 41).toInt ≤ 8 := aw_bd_f hs (hI127).1 (by decide) rfl
                  have c131 : (S120.1 43).toInt = x94.toInt := (congrArg Int32.toInt (fd120.1 43 (by decide)).1).trans rfl
                  have b132 : 0 ≤ (S120.1 43).toInt ∧ (S120.1 43).toInt ≤ 39 := aw_bd_f hs (hI127).1 (by decide) rfl
                  have c133 : (S120.1 44).toInt = (S15.1 44).toInt := (congrArg Int32.toInt (fd120.1 44 (by decide)).1).trans rfl
                  have b134 : 0 ≤ (S120.1 44).toInt ∧ (S120.1 44).toInt ≤ 31 := aw_bd_f hs (hI127).1 (by decide) rfl
                  have b135 : 0 ≤ (S120.1 30).toInt ∧ (S120.1 30).toInt ≤ 1001 := aw_bd_f hs (hI127).1 (by decide) rfl
                  have cbci128 := ar_CI_b ci128 (by omega)
                  show aw_W _ _ _ _ 114 lv118 [.int b120] _ _
                  refine aw_z (tgt := 23) aj_d237 rfl rfl (fun q136 => ?_) (fun q136 => ?_)
                  · have q136 : (1 : Int) ≠ (0 : Int) := aw_t_ne (a := (1 : Int)) (b := (0 : Int)) hb120 rfl q136
                    exact ihL23_13 S120 lv118 (x117) hlv118_0 hlv118_1 ⟨(hI127).1, hG120⟩ fr126 ci128 (show _ ≤ ((S120.1 30)).toInt by omega) (show (1001 - ((S120.1 30)).toInt).toNat < _ by omega)
                  · have q136 : (1 : Int) = (0 : Int) := aw_t_ne (a := (1 : Int)) (b := (0 : Int)) hb120 rfl q136
                    exfalso
                    omega
            · have q88 : (S15.1 41).toInt = (8 : Int) := aw_t_ne (a := (S15.1 41).toInt) (b := (8 : Int)) rfl rfl q88
              refine aw_l2 aj_d237 rfl rfl hlv16_0 ?_
              refine aw_n aj_d237 rfl rfl ?_
              refine aw_l2 aj_d237 rfl rfl hlv16_0 ?_
              have b137 : 0 ≤ (S15.1 27).toInt ∧ (S15.1 27).toInt ≤ 4000 := aw_bd_f hs (hI20).1 (by decide) rfl
              refine aw_g hU.1 aj_d237 rfl rfl (by decide) (v := .int (S15.1 27)) rfl ?_
              refine aw_k hU.1 aj_d237 rfl rfl [_, _] rfl rfl rfl (Nat.le_of_ble_eq_true rfl) (ar_stop hU (hI20).1 (by omega) (a := (2 : Int)) rfl) ?_
              rintro _ S138 ⟨hT138, fc138, rfl, hz138⟩
              have hG138 := aw_G_stop hI18.2 fc138 (by omega)
              have fr139 := aw_fr_tr fr19 (aw_fr_sub (F := [24, 25, 31]) (A := []) (by decide) (by decide) fc138)
              have hI140 : aw_I s h (aw_sm S138) S138 := ⟨hT138, aw_sm_rf⟩
              show aw_W _ _ _ _ 59 lv16 [.int (Int32.ofInt 0)] _ _
              refine aw_e aj_d237 rfl rfl ?_
              have c141 : (S138.1 30).toInt = (S15.1 30).toInt := (congrArg Int32.toInt (fc138.1 30 (by decide)).1).trans rfl
              have b142 : 0 ≤ (S138.1 30).toInt ∧ (S138.1 30).toInt ≤ 1001 := aw_bd_f hs (hI140).1 (by decide) rfl
              exact ⟨(hI140).1, fr139, Or.inl ⟨_, rfl, rfl, hG138, (show _ ≤ ((S138.1 30)).toInt by omega)⟩⟩
        · skip
          have pb85 : ¬ (((S15.1 26)).toInt = 3 ∧ ((S15.1 29)).toInt = (40 : Int)) := pb85
          show aw_W _ _ _ _ 38 lv16 [.int b85] _ _
          refine aw_z (tgt := 119) aj_d237 rfl rfl (fun q143 => ?_) (fun q143 => ?_)
          · have q143 : (0 : Int) = (0 : Int) := aw_t_eq (a := (0 : Int)) (b := (0 : Int)) hb85 rfl q143
            refine aw_l2 aj_d237 rfl rfl hlv16_0 ?_
            refine aw_k hU.1 aj_d237 rfl rfl [] rfl rfl rfl (Nat.le_of_ble_eq_true rfl) (ar_compares hU (hI20).1 hI18.2 (by omega) (show (S15.1 44).toInt ≤ 30 by omega)) ?_
            rintro _ S144 ⟨hT144, fc144, ⟨b144, rfl, hb144, hG144, ck144⟩ | ⟨b144, rfl, hb144, hG144, ck144, ex144⟩⟩
            · skip
              have ck144 : ((S15.1 30)).toInt ≤ (S144.1 30).toInt := ck144
              have fr145 := aw_fr_tr fr19 (aw_fr_sub (F := [24, 25, 26, 27, 28, 29, 30, 31, 33, 34, 35, 36, 38, 39, 40, 44]) (A := [20]) (by decide) (by decide) fc144)
              have hI146 : aw_I s h (aw_sm S144) S144 := ⟨hT144, aw_sm_rf⟩
              show aw_W _ _ _ _ 123 lv16 [.int b144] _ _
              refine aw_z (tgt := 128) aj_d237 rfl rfl (fun q147 => ?_) (fun q147 => ?_)
              · have q147 : (0 : Int) ≠ (0 : Int) := aw_t_ne (a := (0 : Int)) (b := (0 : Int)) hb144 rfl q147
                exfalso
                omega
              · have q147 : (0 : Int) = (0 : Int) := aw_t_ne (a := (0 : Int)) (b := (0 : Int)) hb144 rfl q147
                refine aw_n aj_d237 rfl rfl ?_
                refine aw_e aj_d237 rfl rfl ?_
                have b148 : 0 ≤ (S144.1 30).toInt ∧ (S144.1 30).toInt ≤ 1001 := aw_bd_f hs (hI146).1 (by decide) rfl
                exact ⟨(hI146).1, fr145, Or.inl ⟨_, rfl, rfl, hG144, (show _ ≤ ((S144.1 30)).toInt by omega)⟩⟩
            · skip
              have ck144 : ((S15.1 30)).toInt + 1 ≤ (S144.1 30).toInt := ck144
              have fr149 := aw_fr_tr fr19 (aw_fr_sub (F := [24, 25, 26, 27, 28, 29, 30, 31, 33, 34, 35, 36, 38, 39, 40, 44]) (A := [20]) (by decide) (by decide) fc144)
              have hI150 : aw_I s h (aw_sm S144) S144 := ⟨hT144, aw_sm_rf⟩
              have ci151 : ar_CI (S144.2.2.1 22) ((S144.1 43).toInt).toNat (S144.1 41).toInt (S144.1 44).toInt x17.toInt 1 := by
                rw [(fc144.2 22 (by decide)).1, (fc144.1 43 (by decide)).1, (fc144.1 41 (by decide)).1, ex144]
                obtain ⟨c1, c2, c3, c4, c5⟩ := ci23
                exact ⟨c1, c2, by omega, c4, c5⟩
              have c152 : (S144.1 41).toInt = (S15.1 41).toInt := (congrArg Int32.toInt (fc144.1 41 (by decide)).1).trans rfl
              have b153 : 0 ≤ (S144.1 41).toInt ∧ (S144.1 41).toInt ≤ 8 := aw_bd_f hs (hI150).1 (by decide) rfl
              have c154 : (S144.1 43).toInt = (S15.1 43).toInt := (congrArg Int32.toInt (fc144.1 43 (by decide)).1).trans rfl
              have b155 : 0 ≤ (S144.1 43).toInt ∧ (S144.1 43).toInt ≤ 39 := aw_bd_f hs (hI150).1 (by decide) rfl
              have b156 : 0 ≤ (S144.1 44).toInt ∧ (S144.1 44).toInt ≤ 31 := aw_bd_f hs (hI150).1 (by decide) rfl
              have b157 : 0 ≤ (S144.1 30).toInt ∧ (S144.1 30).toInt ≤ 1001 := aw_bd_f hs (hI150).1 (by decide) rfl
              have cbci151 := ar_CI_b ci151 (by omega)
              show aw_W _ _ _ _ 123 lv16 [.int b144] _ _
              refine aw_z (tgt := 128) aj_d237 rfl rfl (fun q158 => ?_) (fun q158 => ?_)
              · have q158 : (1 : Int) ≠ (0 : Int) := aw_t_ne (a := (1 : Int)) (b := (0 : Int)) hb144 rfl q158
                exact (ar_cond_L128_158 hU hd N23 S15 x17 ihL23_13 hm23) _ S144 lv16 (x17) hlv16_0 hlv16_1 ⟨(hI150).1, hG144⟩ fr149 ci151 (show _ ≤ ((S144.1 30)).toInt by omega) (show _ ≤ ((S144.1 30)).toInt by omega) (Nat.lt_succ_self _)
              · have q158 : (1 : Int) = (0 : Int) := aw_t_ne (a := (1 : Int)) (b := (0 : Int)) hb144 rfl q158
                exfalso
                omega
          · have q143 : (0 : Int) ≠ (0 : Int) := aw_t_eq (a := (0 : Int)) (b := (0 : Int)) hb85 rfl q143
            exfalso
            omega
theorem ar_condition (hU : aw_U tb s h) (hT : ak_Ty ak_TN s (aj_mh h S)) (hG : aw_G (nm, fl, la, 0, 0, ht) S) (hd : 8 ≤ d) : aw_K tb h d 237 [.ref 117] S (ar_QT s h (nm, fl, la, 0, 0, ht) [24, 25, 26, 27, 28, 29, 30, 31, 33, 34, 35, 36, 38, 39, 40, 41, 43, 44] [20, 22] S (fun _ => True)) := by
  obtain ⟨d, rfl⟩ : ∃ e, d = e + 1 := ⟨d - 1, by omega⟩
  have hs : aw_sT s := aw_hy_sT hU.2.2
  refine aw_m aj_m237_at rfl (Nat.le_of_ble_eq_true rfl) ?_
  show aw_W _ _ _ _ 0 [(0, .ref 117)] [] _ _
  obtain ⟨lv1, elv1⟩ : ∃ l : aj_V, l = [(0, .ref 117)] := ⟨_, rfl⟩
  rw [← elv1]
  have hlv1_0 : aj_lv lv1 0 = some (.ref 117) := by rw [elv1]; rfl
  have hI2 : aw_I s h (aw_sm S) S := ⟨hT, aw_sm_rf⟩
  have fr3 : aw_fr [24, 25, 26, 27, 28, 29, 30, 31, 33, 34, 35, 36, 38, 39, 40, 41, 43, 44] [20, 22] S S := aw_fr_rf
  refine aw_l2 aj_d237 rfl rfl hlv1_0 ?_
  refine aw_n aj_d237 rfl rfl ?_
  refine aw_p hU.1 aj_d237 rfl rfl (by decide) rfl ?_
  have hI4 := aw_I_f (aw_UV hU aw_Gs_sm) (k := 43) (v := (Int32.ofInt 0)) hI2 (by decide) (by decide) rfl (aw_bp (a := (0 : Int)) rfl (by omega) (by omega))
  have fr5 := aw_fr_f (k := 43) (v := (Int32.ofInt 0)) (by decide) fr3
  refine aw_l2 aj_d237 rfl rfl hlv1_0 ?_
  refine aw_n aj_d237 rfl rfl ?_
  refine aw_p hU.1 aj_d237 rfl rfl (by decide) rfl ?_
  have hI6 := aw_I_f (aw_UV hU aw_Gs_sm) (k := 44) (v := (Int32.ofInt 0)) hI4 (by decide) (by decide) rfl (aw_bp (a := (0 : Int)) rfl (by omega) (by omega))
  have fr7 := aw_fr_f (k := 44) (v := (Int32.ofInt 0)) (by decide) fr5
  refine aw_l2 aj_d237 rfl rfl hlv1_0 ?_
  refine aw_n aj_d237 rfl rfl ?_
  refine aw_p hU.1 aj_d237 rfl rfl (by decide) rfl ?_
  have hI8 := aw_I_f (aw_UV hU aw_Gs_sm) (k := 41) (v := (Int32.ofInt 0)) hI6 (by decide) (by decide) rfl (aw_bp (a := (0 : Int)) rfl (by omega) (by omega))
  have fr9 := aw_fr_f (k := 41) (v := (Int32.ofInt 0)) (by decide) fr7
  have ci10 : ar_CI (((aw_wf (aw_wf (aw_wf S 43 (Int32.ofInt 0)) 44 (Int32.ofInt 0)) 41 (Int32.ofInt 0))).2.2.1 22) ((((aw_wf (aw_wf (aw_wf S 43 (Int32.ofInt 0)) 44 (Int32.ofInt 0)) 41 (Int32.ofInt 0))).1 43).toInt).toNat (((aw_wf (aw_wf (aw_wf S 43 (Int32.ofInt 0)) 44 (Int32.ofInt 0)) 41 (Int32.ofInt 0))).1 41).toInt (((aw_wf (aw_wf (aw_wf S 43 (Int32.ofInt 0)) 44 (Int32.ofInt 0)) 41 (Int32.ofInt 0))).1 44).toInt 0 0 := ar_CI_0
  refine aw_n aj_d237 rfl rfl ?_
  refine aw_t0 (j := 1) aj_d237 rfl (by decide) rfl ?_
  obtain ⟨lv11, elv11⟩ : ∃ l, l = aj_set1 lv1 1 (.int (Int32.ofInt 0)) := ⟨_, rfl⟩
  rw [← elv11]
  have hlv11_0 : aj_lv lv11 0 = some (.ref 117) := cw_e1 elv11 hlv1_0 (by decide) (Or.inr rfl)
  have hlv11_1 : aj_lv lv11 1 = some (.int (Int32.ofInt 0)) := by rw [elv11]; exact ak_set1_eq _ _ _
  show aw_W _ _ _ _ 17 lv11 [] _ _
  refine aw_n aj_d237 rfl rfl ?_
  refine aw_t0 (j := 2) aj_d237 rfl (by decide) rfl ?_
  obtain ⟨lv12, elv12⟩ : ∃ l, l = aj_set1 lv11 2 (.int (Int32.ofInt 1)) := ⟨_, rfl⟩
  rw [← elv12]
  have hlv12_0 : aj_lv lv12 0 = some (.ref 117) := cw_e1 elv12 hlv11_0 (by decide) (Or.inl (by decide))
  have hlv12_1 : aj_lv lv12 1 = some (.int (Int32.ofInt 0)) := cw_e1 elv12 hlv11_1 (by decide) (Or.inr rfl)
  have hlv12_2 : aj_lv lv12 2 = some (.int (Int32.ofInt 1)) := by rw [elv12]; exact ak_set1_eq _ _ _
  show aw_W _ _ _ _ 19 lv12 [] _ _
  refine aw_l0 aj_d237 rfl rfl hlv12_2 ?_
  refine aw_z (tgt := 315) aj_d237 rfl rfl (fun q13 => ?_) (fun q13 => ?_)
  · have q13 : (1 : Int) = (0 : Int) := aw_t_eq (a := (1 : Int)) (b := (0 : Int)) rfl rfl q13
    exfalso
    omega
  · have q13 : (1 : Int) ≠ (0 : Int) := aw_t_eq (a := (1 : Int)) (b := (0 : Int)) rfl rfl q13
    have b619 : 0 ≤ (S.1 30).toInt ∧ (S.1 30).toInt ≤ 1001 := aw_bd_f hs (hI2).1 (by decide) rfl
    exact (ar_cond_L23_13 hU hd ) _ (aw_wf (aw_wf (aw_wf S 43 (Int32.ofInt 0)) 44 (Int32.ofInt 0)) 41 (Int32.ofInt 0)) lv12 ((Int32.ofInt 0)) hlv12_0 hlv12_1 ⟨(hI8).1, (aw_G_sm hI8.2 hG)⟩ fr9 ci10 (show _ ≤ ((S.1 30)).toInt by omega) (Nat.lt_succ_self _)
end ARA5
