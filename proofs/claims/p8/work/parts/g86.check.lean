/-! CHECK, BY HAND (printed by wip/p2/cwalk/g86.py) -/
section CW86
variable {T : ak_TT} {Φ : List Nat → Option Value → aj_H → Prop} {tb : aj_T} {con : ak_Con} {d : Nat} {s s' s2 s0 : List Nat} {h h' h2 h0 h1 : aj_H} {i j p q x c k l l' : Nat} {b b' b2 : Int} {o o' o2 o0 : cw_O} {EF : Nat → Nat → Nat → Prop} {EA : Nat → Prop} {n nt n0 iv y y' v t wd : Int32} {w : Value} {f g g0 : Nat → Int32} {B N : Prop} {bb : Int}
theorem cw_cqA (htb : ak_tbOK ak_C1 tb) (hT : ak_Ty ak_C1 s h) (hd : 4 ≤ d) (hv : 210 ≤ v.toInt) (hx : x = 2 ∨ x = 14) (hi : 0 ≤ iv.toInt ∧ iv.toInt ≤ 2499) (hy : -2590 ≤ y.toInt ∧ y.toInt ≤ 2590) (hQ : cw_CQ N bb x n f iv g0 n0 B y nt g s h) : cw_K ak_C1 (fun s' r h' => (∃ u, s' = s ++ u) ∧ ∃ (y' nt' : Int32) (g' : Nat → Int32), cw_CQ N bb x n f iv g0 n0 B y' nt' g' s' h' ∧ (y.toInt - 1 ≤ y'.toInt ∧ y'.toInt ≤ y.toInt + 1) ∧ (v.toInt = 210 → cw_bado (cw_o h') ∨ 0 ≤ (g' iv.toInt.toNat).toInt ∧ (g' iv.toInt.toNat).toInt < nt'.toInt)) tb d (cw_nC 58 none) [.ref (52 + 39), .int v, .int iv] s h := by
  have key : ∀ m : Int32, v.toInt = m.toInt → v = m := fun m e => Int32.toInt_inj.mp e
  by_cases ho : 224 ≤ v.toInt
  · refine cw_mono (fun s' r h' z => ?_) (cw_cq0 htb hT hd ho hx hi hy hQ)
    obtain ⟨rfl, y', nt', g', Q, e⟩ := z
    exact ⟨cw_s00, y', nt', g', Q, e, fun z => by omega⟩
  · have z : v.toInt = 210 ∨ v.toInt = 211 ∨ v.toInt = 212 ∨ v.toInt = 213 ∨ v.toInt = 214 ∨ v.toInt = 215 ∨ v.toInt = 216 ∨ v.toInt = 217 ∨ v.toInt = 218 ∨ v.toInt = 219 ∨ v.toInt = 220 ∨ v.toInt = 221 ∨ v.toInt = 222 ∨ v.toInt = 223 := by omega
    rcases z with z | z | z | z | z | z | z | z | z | z | z | z | z | z
    · obtain rfl := key 210 z
      refine cw_mono (fun s' r h' z => ?_) (cw_cq210 htb hT hd hx hi hy hQ)
      obtain ⟨rfl, y', nt', g', Q, e, bb⟩ := z
      exact ⟨cw_s00, y', nt', g', Q, e, fun _ => bb⟩
    · obtain rfl := key 211 z
      refine cw_mono (fun s' r h' z => ?_) (cw_cq211 htb hT hd hx hi hy hQ)
      obtain ⟨rfl, y', nt', g', Q, e⟩ := z
      exact ⟨cw_s00, y', nt', g', Q, e, fun z => by omega⟩
    · obtain rfl := key 212 z
      refine cw_mono (fun s' r h' z => ?_) (cw_cq212 htb hT hd hx hi hy hQ)
      obtain ⟨rfl, y', nt', g', Q, e⟩ := z
      exact ⟨cw_s00, y', nt', g', Q, e, fun z => by omega⟩
    · obtain rfl := key 213 z
      refine cw_mono (fun s' r h' z => ?_) (cw_cq213 htb hT hd hx hi hy hQ)
      obtain ⟨rfl, y', nt', g', Q, e⟩ := z
      exact ⟨cw_s00, y', nt', g', Q, e, fun z => by omega⟩
    · obtain rfl := key 214 z
      refine cw_mono (fun s' r h' z => ?_) (cw_cq214 htb hT hd hx hi hy hQ)
      obtain ⟨rfl, y', nt', g', Q, e⟩ := z
      exact ⟨cw_s00, y', nt', g', Q, e, fun z => by omega⟩
    · obtain rfl := key 215 z
      refine cw_mono (fun s' r h' z => ?_) (cw_cq215 htb hT hd hx hi hy hQ)
      obtain ⟨rfl, y', nt', g', Q, e⟩ := z
      exact ⟨cw_s00, y', nt', g', Q, e, fun z => by omega⟩
    · obtain rfl := key 216 z
      refine cw_mono (fun s' r h' z => ?_) (cw_cq216 htb hT hd hx hi hy hQ)
      obtain ⟨rfl, y', nt', g', Q, e⟩ := z
      exact ⟨cw_s00, y', nt', g', Q, e, fun z => by omega⟩
    · obtain rfl := key 217 z
      refine cw_mono (fun s' r h' z => ?_) (cw_cq217 htb hT hd hx hi hy hQ)
      obtain ⟨rfl, y', nt', g', Q, e⟩ := z
      exact ⟨cw_s00, y', nt', g', Q, e, fun z => by omega⟩
    · obtain rfl := key 218 z
      refine cw_mono (fun s' r h' z => ?_) (cw_cq218 htb hT hd hx hi hy hQ)
      obtain ⟨rfl, y', nt', g', Q, e⟩ := z
      exact ⟨cw_s00, y', nt', g', Q, e, fun z => by omega⟩
    · obtain rfl := key 219 z
      refine cw_mono (fun s' r h' z => ?_) (cw_cq219 htb hT hd hx hi hy hQ)
      obtain ⟨rfl, y', nt', g', Q, e⟩ := z
      exact ⟨cw_s00, y', nt', g', Q, e, fun z => by omega⟩
    · obtain rfl := key 220 z
      refine cw_mono (fun s' r h' z => ?_) (cw_cq220 htb hT hd hx hi hy hQ)
      obtain ⟨rfl, y', nt', g', Q, e⟩ := z
      exact ⟨cw_s00, y', nt', g', Q, e, fun z => by omega⟩
    · obtain rfl := key 221 z
      refine cw_mono (fun s' r h' z => ?_) (cw_cq221 htb hT hd hx hi hy hQ)
      obtain ⟨rfl, y', nt', g', Q, e⟩ := z
      exact ⟨cw_s00, y', nt', g', Q, e, fun z => by omega⟩
    · obtain rfl := key 222 z
      refine cw_mono (fun s' r h' z => ?_) (cw_cq222 htb hT hd hx hi hy hQ)
      obtain ⟨rfl, y', nt', g', Q, e⟩ := z
      exact ⟨cw_s00, y', nt', g', Q, e, fun z => by omega⟩
    · obtain rfl := key 223 z
      refine cw_mono (fun s' r h' z => ?_) (cw_cq223 htb hT hd hx hi hy hQ)
      obtain ⟨rfl, y', nt', g', Q, e⟩ := z
      exact ⟨cw_s00, y', nt', g', Q, e, fun z => by omega⟩
theorem cw_ctA (htb : ak_tbOK ak_C1 tb) (hT : ak_Ty ak_C1 s h) (hd : 4 ≤ d) (hv : 200 ≤ v.toInt ∧ v.toInt < 210) (hx : x = 2 ∨ x = 14) (hi : 0 ≤ iv.toInt ∧ iv.toInt ≤ 2499) (hy : -2590 ≤ y.toInt ∧ y.toInt ≤ 2590) (hQ : cw_CQ N bb x n f iv g0 n0 B y nt g s h) : cw_K ak_C1 (fun s' r h' => (∃ u, s' = s ++ u) ∧ ∃ (y' nt' : Int32) (g' : Nat → Int32), cw_CQ N bb x n f iv g0 n0 B y' nt' g' s' h' ∧ (y.toInt - 1 ≤ y'.toInt ∧ y'.toInt ≤ y.toInt + 1) ∧ (v.toInt = 210 → cw_bado (cw_o h') ∨ 0 ≤ (g' iv.toInt.toNat).toInt ∧ (g' iv.toInt.toNat).toInt < nt'.toInt)) tb d (cw_nC 81 none) [.ref (52 + 39), .int v, .int iv] s h := by
  have key : ∀ m : Int32, v.toInt = m.toInt → v = m := fun m e => Int32.toInt_inj.mp e
  by_cases ho : v.toInt < 200 ∨ 204 ≤ v.toInt
  · refine cw_mono (fun s' r h' z => ?_) (cw_ct0 htb hT hd ho hx hi (by omega) hQ)
    obtain ⟨rfl, y', nt', g', Q, e⟩ := z
    exact ⟨cw_s00, y', nt', g', Q, ⟨by omega, by omega⟩, fun z => by omega⟩
  · have z : v.toInt = 200 ∨ v.toInt = 201 ∨ v.toInt = 202 ∨ v.toInt = 203 := by omega
    rcases z with z | z | z | z
    · obtain rfl := key 200 z
      refine cw_mono (fun s' r h' z => ?_) (cw_ct200 htb hT hd hx hi (by omega) hQ)
      obtain ⟨rfl, y', nt', g', Q, e⟩ := z
      exact ⟨cw_s00, y', nt', g', Q, ⟨by omega, by omega⟩, fun z => by omega⟩
    · obtain rfl := key 201 z
      refine cw_mono (fun s' r h' z => ?_) (cw_ct201 htb hT hd hx hi (by omega) hQ)
      obtain ⟨rfl, y', nt', g', Q, e⟩ := z
      exact ⟨cw_s00, y', nt', g', Q, ⟨by omega, by omega⟩, fun z => by omega⟩
    · obtain rfl := key 202 z
      refine cw_mono (fun s' r h' z => ?_) (cw_ct202 htb hT hd hx hi (by omega) hQ)
      obtain ⟨rfl, y', nt', g', Q, e⟩ := z
      exact ⟨cw_s00, y', nt', g', Q, ⟨by omega, by omega⟩, fun z => by omega⟩
    · obtain rfl := key 203 z
      refine cw_mono (fun s' r h' z => ?_) (cw_ct203 htb hT hd hx hi (by omega) hQ)
      obtain ⟨rfl, y', nt', g', Q, e⟩ := z
      exact ⟨cw_s00, y', nt', g', Q, ⟨by omega, by omega⟩, fun z => by omega⟩
theorem cw_cTA (htb : ak_tbOK ak_C1 tb) (hT : ak_Ty ak_C1 s h) (hd : 5 ≤ d) (hv : v.toInt < 200) (hx : x = 2 ∨ x = 14) (hi : 0 ≤ iv.toInt ∧ iv.toInt ≤ 2499) (hy : -2590 ≤ y.toInt ∧ y.toInt ≤ 2590) (hQ : cw_CQ N bb x n f iv g0 n0 B y nt g s h) : cw_K ak_C1 (fun s' r h' => (∃ u, s' = s ++ u) ∧ ∃ (y' nt' : Int32) (g' : Nat → Int32), cw_CQ N bb x n f iv g0 n0 B y' nt' g' s' h' ∧ (y.toInt - 1 ≤ y'.toInt ∧ y'.toInt ≤ y.toInt + 1) ∧ (v.toInt = 210 → cw_bado (cw_o h') ∨ 0 ≤ (g' iv.toInt.toNat).toInt ∧ (g' iv.toInt.toNat).toInt < nt'.toInt)) tb d (cw_nC 85 none) [.ref (52 + 39), .int v, .int iv] s h := by
  have key : ∀ m : Int32, v.toInt = m.toInt → v = m := fun m e => Int32.toInt_inj.mp e
  by_cases ho : v.toInt < 180 ∨ 193 ≤ v.toInt
  · refine cw_mono (fun s' r h' z => ?_) (cw_cTo htb hT hd ho hx hi hy hQ)
    obtain ⟨eu, y', nt', g', Q, e⟩ := z
    exact ⟨eu, y', nt', g', Q, e, fun z => by omega⟩
  · have z : v.toInt = 180 ∨ v.toInt = 181 ∨ v.toInt = 182 ∨ v.toInt = 183 ∨ v.toInt = 184 ∨ v.toInt = 185 ∨ v.toInt = 186 ∨ v.toInt = 187 ∨ v.toInt = 188 ∨ v.toInt = 189 ∨ v.toInt = 190 ∨ v.toInt = 191 ∨ v.toInt = 192 := by omega
    rcases z with z | z | z | z | z | z | z | z | z | z | z | z | z
    · obtain rfl := key 180 z
      refine cw_mono (fun s' r h' z => ?_) (cw_cT180 htb hT hd hx hi hy hQ)
      obtain ⟨eu, y', nt', g', Q, e⟩ := z
      exact ⟨eu, y', nt', g', Q, e, fun z => by omega⟩
    · obtain rfl := key 181 z
      refine cw_mono (fun s' r h' z => ?_) (cw_cT181 htb hT hd hx hi hy hQ)
      obtain ⟨eu, y', nt', g', Q, e⟩ := z
      exact ⟨eu, y', nt', g', Q, e, fun z => by omega⟩
    · obtain rfl := key 182 z
      refine cw_mono (fun s' r h' z => ?_) (cw_cT182 htb hT hd hx hi hy hQ)
      obtain ⟨eu, y', nt', g', Q, e⟩ := z
      exact ⟨eu, y', nt', g', Q, e, fun z => by omega⟩
    · obtain rfl := key 183 z
      refine cw_mono (fun s' r h' z => ?_) (cw_cT183 htb hT hd hx hi hy hQ)
      obtain ⟨eu, y', nt', g', Q, e⟩ := z
      exact ⟨eu, y', nt', g', Q, e, fun z => by omega⟩
    · obtain rfl := key 184 z
      refine cw_mono (fun s' r h' z => ?_) (cw_cT184 htb hT hd hx hi hy hQ)
      obtain ⟨eu, y', nt', g', Q, e⟩ := z
      exact ⟨eu, y', nt', g', Q, e, fun z => by omega⟩
    · obtain rfl := key 185 z
      refine cw_mono (fun s' r h' z => ?_) (cw_cT185 htb hT hd hx hi hy hQ)
      obtain ⟨eu, y', nt', g', Q, e⟩ := z
      exact ⟨eu, y', nt', g', Q, e, fun z => by omega⟩
    · obtain rfl := key 186 z
      refine cw_mono (fun s' r h' z => ?_) (cw_cT186 htb hT hd hx hi hy hQ)
      obtain ⟨eu, y', nt', g', Q, e⟩ := z
      exact ⟨eu, y', nt', g', Q, e, fun z => by omega⟩
    · obtain rfl := key 187 z
      refine cw_mono (fun s' r h' z => ?_) (cw_cT187 htb hT hd hx hi hy hQ)
      obtain ⟨eu, y', nt', g', Q, e⟩ := z
      exact ⟨eu, y', nt', g', Q, e, fun z => by omega⟩
    · obtain rfl := key 188 z
      refine cw_mono (fun s' r h' z => ?_) (cw_cT188 htb hT hd hx hi hy hQ)
      obtain ⟨eu, y', nt', g', Q, e⟩ := z
      exact ⟨eu, y', nt', g', Q, e, fun z => by omega⟩
    · obtain rfl := key 189 z
      refine cw_mono (fun s' r h' z => ?_) (cw_cT189 htb hT hd hx hi hy hQ)
      obtain ⟨eu, y', nt', g', Q, e⟩ := z
      exact ⟨eu, y', nt', g', Q, e, fun z => by omega⟩
    · obtain rfl := key 190 z
      refine cw_mono (fun s' r h' z => ?_) (cw_cT190 htb hT hd hx hi hy hQ)
      obtain ⟨eu, y', nt', g', Q, e⟩ := z
      exact ⟨eu, y', nt', g', Q, e, fun z => by omega⟩
    · obtain rfl := key 191 z
      refine cw_mono (fun s' r h' z => ?_) (cw_cT191 htb hT hd hx hi hy hQ)
      obtain ⟨eu, y', nt', g', Q, e⟩ := z
      exact ⟨eu, y', nt', g', Q, e, fun z => by omega⟩
    · obtain rfl := key 192 z
      refine cw_mono (fun s' r h' z => ?_) (cw_cT192 htb hT hd hx hi hy hQ)
      obtain ⟨eu, y', nt', g', Q, e⟩ := z
      exact ⟨eu, y', nt', g', Q, e, fun z => by omega⟩
theorem cw_CQ_any {iv' : Int32} {B' : Prop} (hB' : B' → cw_bado (cw_o h)) (hQ : cw_CQ N bb x n f iv g0 n0 B y nt g s h) : cw_CQ N bb x n f iv' g nt B' y nt g s h := by
  obtain ⟨q1, q2, q3, q4, q5, q6, q7, q8, q9, q10, q11⟩ := hQ
  exact ⟨q1, q2, q3, q4, q5, q6, q7, q8, Int.le_refl _, fun _ _ => rfl, hB'⟩
/-- the loads told so far have their TABLE -/
def cw_LD (n : Int) (nt : Int32) (f g : Nat → Int32) (o : cw_O) : Prop := ∀ j : Nat, (j : Int) < n → (f j).toInt = 210 → cw_bado o ∨ 0 ≤ (g j).toInt ∧ (g j).toInt < nt.toInt
def cw_CL (N : Prop) (bb : Int) (x : Nat) (n : Int32) (f : Nat → Int32) (iv y nt : Int32) (g : Nat → Int32) (s : List Nat) (h : aj_H) : Prop := cw_CQ N bb x n f iv g nt False y nt g s h ∧ (-iv.toInt ≤ y.toInt ∧ y.toInt ≤ iv.toInt) ∧ cw_LD iv.toInt nt f g (cw_o h)
theorem cw_CL_nx {iv2 nt' : Int32} {g' : Nat → Int32} (hC : cw_CL N bb x n f iv y nt g s h) (Q : cw_CQ N bb x n f iv g nt (cw_bado (cw_o h)) y' nt' g' s' h') (ey : y.toInt - 1 ≤ y'.toInt ∧ y'.toInt ≤ y.toInt + 1) (hv : (f iv.toInt.toNat).toInt = 210 → cw_bado (cw_o h') ∨ 0 ≤ (g' iv.toInt.toNat).toInt ∧ (g' iv.toInt.toNat).toInt < nt'.toInt) (h0 : 0 ≤ iv.toInt) (e : iv2.toInt = iv.toInt + 1) : cw_CL N bb x n f iv2 y' nt' g' s' h' := by
  obtain ⟨Q0, hy, hL⟩ := hC
  refine ⟨cw_CQ_any (fun z => z.elim) Q, ⟨by omega, by omega⟩, fun j hj hf => ?_⟩
  by_cases ej : (j : Int) = iv.toInt
  · have : j = iv.toInt.toNat := by omega
    subst this
    exact hv hf
  · obtain ⟨-, -, -, -, -, -, -, -, q9, q10, q11⟩ := Q
    rcases hL j (by omega) hf with z | z
    · exact Or.inl (q11 z)
    · rw [q10 j ej]
      exact Or.inr ⟨z.1, by omega⟩
theorem cw_noteX1 {x1 : Int32} (htb : ak_tbOK ak_C1 tb) (hT : ak_Ty ak_C1 s h) (hB : cw_B s) (hd : 1 ≤ d) (hx : 0 ≤ x1.toInt ∧ x1.toInt ≤ 2499) (a0 : cw_A h 31 0 2500 (.inl f)) : cw_K ak_C1 (fun s' r h' => s' = s ∧ h' = h ∧ r = some (.int (f x1.toInt.toNat))) tb d (cw_nC 57 (some (.inl ((-2147483648), 2147483647)))) [.ref (52 + 30), .int x1] s h := by
  obtain ⟨d, rfl⟩ : ∃ e, d = e + 1 := ⟨d - 1, by omega⟩
  refine cw_m (con := cw_nC 57 (some (.inl ((-2147483648), 2147483647)))) aj_m57_at (Nat.le_of_ble_eq_true rfl) ?_
  show cw_W _ _ _ _ _ _ _ _ _ _ 0 [(0, .ref (52 + 30)), (1, .int x1)] []
  refine cw_n aj_d57 rfl rfl ?_
  refine cw_z (tgt := 22) aj_d57 rfl rfl (fun q1001 => ?_) (fun q1001 => ?_)
  · have q1001 : x1.toInt < (0 : Int) := aw_t_lt (a := x1.toInt) (b := (0 : Int)) rfl rfl q1001
    exfalso
    omega
  · have q1001 : x1.toInt ≥ (0 : Int) := aw_t_lt (a := x1.toInt) (b := (0 : Int)) rfl rfl q1001
    refine cw_n aj_d57 rfl rfl ?_
    refine cw_n aj_d57 rfl rfl ?_
    obtain ⟨v1002, f1002, g1002⟩ := cw_tyF (i := 30) (t := 56) (c := 4) (k := 0) (y := (.inr (some ([79], false)))) hT (cw_s0 hB rfl) rfl rfl rfl
    obtain rfl := cw_gu (i := 31) hB g1002 (by decide) (by decide) (by decide)
    refine cw_g (i := 30) (v := .ref (52 + 31)) htb.1 aj_d57 rfl rfl (by decide) f1002 ?_
    refine cw_alen (i := 31) htb.1 aj_d57 rfl a0 (by decide) (by omega) (fun x1003 ex1003 => ?_)
    refine cw_c (tgt := 22) aj_d57 rfl rfl (fun q1004 => ?_) (fun q1004 => ?_)
    · have q1004 : x1.toInt ≥ (2500 : Int) := aw_t_ge (a := x1.toInt) (b := (2500 : Int)) rfl ex1003 q1004
      exfalso
      omega
    · have q1004 : x1.toInt < (2500 : Int) := aw_t_ge (a := x1.toInt) (b := (2500 : Int)) rfl ex1003 q1004
      refine cw_n aj_d57 rfl rfl ?_
      refine cw_g (i := 30) (v := .ref (52 + 31)) htb.1 aj_d57 rfl rfl (by decide) f1002 ?_
      refine cw_n aj_d57 rfl rfl ?_
      refine cw_ld (i := 31) htb.1 aj_d57 (Or.inl ⟨rfl, rfl⟩) rfl a0 (a := x1.toInt) rfl (by omega) (by omega) (fun x1005 ex1005 => ?_)
      refine cw_n aj_d57 rfl rfl ?_
      refine cw_Wr aj_d57 rfl rfl hT ?_ ?_
      · exact ⟨rfl, rfl, by rw [ex1005]⟩
      · exact cw_full _
theorem cw_check_l {d : Nat} (hd : 5 ≤ d) (htb : ak_tbOK ak_C1 tb) (hx : x = 2 ∨ x = 14) (hn : n.toInt ≤ 2500) : ∀ (M : Nat) {s : List Nat} {h : aj_H} {lv : aj_V} {kc ks : Nat} {iv y nt : Int32} {g : Nat → Int32} (hT : ak_Ty ak_C1 s h) (hC : cw_CL N bb x n f iv y nt g s h) (hl0 : aj_lv lv 0 = some (.ref (52 + 39))) (hl1 : aj_lv lv 1 = some (.ref (52 + x))) (hl2 : aj_lv lv 2 = some (.int iv)) (h0 : 0 ≤ iv.toInt) (hN : 2500 - iv.toInt ≤ M), cw_W ak_C1 (fun s' r h' => ∃ (y' nt' : Int32) (g' : Nat → Int32), cw_CQ N bb x n f 0 g' nt' False y' nt' g' s' h' ∧ cw_LD n.toInt nt' f g' (cw_o h')) tb d aj_m56 (cw_nC 56 none) s h kc ks 17 lv [] := by
  intro M
  induction M with
  | zero =>
    intro s h lv kc ks iv y nt g hT hC hl0 hl1 hl2 h0 hN
    obtain ⟨Q, hy, hL⟩ := id hC
    obtain ⟨Ih, qx, f2, a31, a34, f4, f5, Zh, nh, gh, bh⟩ := id Q
    have hB := Ih.1
    refine cw_l0 aj_d56 rfl rfl hl2 ?_
    refine cw_l2 aj_d56 rfl rfl hl0 ?_
    obtain ⟨v1006, f1006, g1006⟩ := cw_tyF (i := 39) (t := 52) (c := 0) (k := 1) (y := (.inr (some ([56], false)))) hT (cw_s0 hB rfl) rfl rfl rfl
    obtain rfl := cw_gu (i := 30) hB g1006 (by decide) (by decide) (by decide)
    refine cw_g (i := 39) (v := .ref (52 + 30)) htb.1 aj_d56 rfl rfl (by decide) f1006 ?_
    refine cw_g (i := 30) (v := .int n) htb.1 aj_d56 rfl rfl (by decide) f4 ?_
    refine cw_c (tgt := 106) aj_d56 rfl rfl (fun q1007 => ?_) (fun q1007 => ?_)
    · have q1007 : iv.toInt ≥ n.toInt := aw_t_ge (a := iv.toInt) (b := n.toInt) rfl rfl q1007
      refine cw_Wr aj_d56 rfl rfl hT ?_ ?_
      · exact ⟨_, _, _, cw_CQ_any (fun z => z.elim) Q, fun j hj => hL j (by omega)⟩
      · trivial
    · have q1007 : iv.toInt < n.toInt := aw_t_ge (a := iv.toInt) (b := n.toInt) rfl rfl q1007
      exfalso
      omega
  | succ M ih =>
    intro s h lv kc ks iv y nt g hT hC hl0 hl1 hl2 h0 hN
    obtain ⟨Q, hy, hL⟩ := id hC
    obtain ⟨Ih, qx, f2, a31, a34, f4, f5, Zh, nh, gh, bh⟩ := id Q
    have hB := Ih.1
    refine cw_l0 aj_d56 rfl rfl hl2 ?_
    refine cw_l2 aj_d56 rfl rfl hl0 ?_
    obtain ⟨v1008, f1008, g1008⟩ := cw_tyF (i := 39) (t := 52) (c := 0) (k := 1) (y := (.inr (some ([56], false)))) hT (cw_s0 hB rfl) rfl rfl rfl
    obtain rfl := cw_gu (i := 30) hB g1008 (by decide) (by decide) (by decide)
    refine cw_g (i := 39) (v := .ref (52 + 30)) htb.1 aj_d56 rfl rfl (by decide) f1008 ?_
    refine cw_g (i := 30) (v := .int n) htb.1 aj_d56 rfl rfl (by decide) f4 ?_
    refine cw_c (tgt := 106) aj_d56 rfl rfl (fun q1009 => ?_) (fun q1009 => ?_)
    · have q1009 : iv.toInt ≥ n.toInt := aw_t_ge (a := iv.toInt) (b := n.toInt) rfl rfl q1009
      refine cw_Wr aj_d56 rfl rfl hT ?_ ?_
      · exact ⟨_, _, _, cw_CQ_any (fun z => z.elim) Q, fun j hj => hL j (by omega)⟩
      · trivial
    · have q1009 : iv.toInt < n.toInt := aw_t_ge (a := iv.toInt) (b := n.toInt) rfl rfl q1009
      refine cw_l2 aj_d56 rfl rfl hl0 ?_
      refine cw_g (i := 39) (v := .ref (52 + 30)) htb.1 aj_d56 rfl rfl (by decide) f1008 ?_
      refine cw_l0 aj_d56 rfl rfl hl2 ?_
      refine cw_k0 (i := 30) (t := 56) (con' := cw_nC 57 (some (.inl ((-2147483648), 2147483647)))) aj_d56 htb hT rfl rfl [_] rfl rfl (cw_s0 hB rfl) rfl (Nat.le_of_ble_eq_true rfl) ⟨by decide, by decide⟩ (cw_noteX1 htb hT hB (by omega) ⟨h0, by omega⟩ a31) ?_
      rintro ra ha hTa ⟨ea, rfl⟩ -
      obtain rfl := ea.symm
      show cw_W _ _ _ _ _ _ _ _ _ _ 36 lv [.int (f iv.toInt.toNat)]
      refine cw_t0 (j := 3) aj_d56 rfl (by decide) rfl ?_
      obtain ⟨lv1010, elv1010⟩ : ∃ l, l = aj_set1 lv 3 (.int (f iv.toInt.toNat)) := ⟨_, rfl⟩
      rw [← elv1010]
      have hlv1010_0 : aj_lv lv1010 0 = some (.ref (52 + 39)) := cw_e1 elv1010 hl0 (by decide) (Or.inl (by decide))
      have hlv1010_1 : aj_lv lv1010 1 = some (.ref (52 + x)) := cw_e1 elv1010 hl1 (by decide) (Or.inl (by decide))
      have hlv1010_2 : aj_lv lv1010 2 = some (.int iv) := cw_e1 elv1010 hl2 (by decide) (Or.inr rfl)
      have hlv1010_3 : aj_lv lv1010 3 = some (.int (f iv.toInt.toNat)) := by rw [elv1010]; exact ak_set1_eq _ _ _
      show cw_W _ _ _ _ _ _ _ _ _ _ 37 lv1010 []
      refine cw_l2 aj_d56 rfl rfl hlv1010_0 ?_
      refine cw_g (i := 39) (v := .ref (52 + 30)) htb.1 aj_d56 rfl rfl (by decide) f1008 ?_
      obtain ⟨v1011, f1011, g1011⟩ := cw_tyF (i := 30) (t := 56) (c := 4) (k := 5) (y := (.inl ((-2147483648), 2147483647))) hTa (cw_s0 hB rfl) rfl rfl rfl
      obtain ⟨x1011, rfl, b1011⟩ := ak_gi g1011
      dsimp only [ak_win] at b1011
      refine cw_g (i := 30) (v := .int x1011) htb.1 aj_d56 rfl rfl (by decide) f1011 ?_
      refine cw_z (tgt := 62) aj_d56 rfl rfl (fun q1012 => ?_) (fun q1012 => ?_)
      · have q1012 : x1011.toInt = (0 : Int) := aw_t_eq (a := x1011.toInt) (b := (0 : Int)) rfl rfl q1012
        refine cw_l0 aj_d56 rfl rfl hlv1010_3 ?_
        refine cw_n aj_d56 rfl rfl ?_
        refine cw_c (tgt := 78) aj_d56 rfl rfl (fun q1013 => ?_) (fun q1013 => ?_)
        · have q1013 : (f iv.toInt.toNat).toInt < (210 : Int) := aw_t_lt (a := (f iv.toInt.toNat).toInt) (b := (210 : Int)) rfl rfl q1013
          refine cw_l0 aj_d56 rfl rfl hlv1010_3 ?_
          refine cw_n aj_d56 rfl rfl ?_
          refine cw_c (tgt := 94) aj_d56 rfl rfl (fun q1014 => ?_) (fun q1014 => ?_)
          · have q1014 : (f iv.toInt.toNat).toInt < (200 : Int) := aw_t_lt (a := (f iv.toInt.toNat).toInt) (b := (200 : Int)) rfl rfl q1014
            refine cw_l2 aj_d56 rfl rfl hlv1010_0 ?_
            refine cw_l0 aj_d56 rfl rfl hlv1010_3 ?_
            refine cw_l0 aj_d56 rfl rfl hlv1010_2 ?_
            refine cw_k (i := 39) (con' := cw_nC 85 none) aj_d56 htb hTa rfl rfl [_, _] rfl rfl (cw_cls hTa (cw_s0 hB rfl) rfl) (Nat.le_of_ble_eq_true rfl) ⟨by decide, by decide⟩ (cw_cTA htb hTa (by omega) (by omega) hx ⟨by omega, by omega⟩ ⟨by omega, by omega⟩ (cw_CQ_any id Q)) ?_
            rintro u ru hu hTu ⟨eu, y', nt', g', Q', ey, hv⟩ hRu -
            obtain rfl := cw_rN hRu
            show cw_W _ _ _ _ _ _ _ _ _ _ 100 lv1010 []
            refine cw_inc aj_d56 rfl hlv1010_2 (a := iv.toInt) rfl (by omega) (by omega) (by decide) (by decide) (fun x1015 ex1015 => ?_)
            obtain ⟨lv1016, elv1016⟩ : ∃ l, l = aj_set1 lv1010 2 (.int x1015) := ⟨_, rfl⟩
            rw [← elv1016]
            have hlv1016_3 : aj_lv lv1016 3 = some (.int (f iv.toInt.toNat)) := cw_e1 elv1016 hlv1010_3 (by decide) (Or.inl (by decide))
            have hlv1016_0 : aj_lv lv1016 0 = some (.ref (52 + 39)) := cw_e1 elv1016 hlv1010_0 (by decide) (Or.inl (by decide))
            have hlv1016_1 : aj_lv lv1016 1 = some (.ref (52 + x)) := cw_e1 elv1016 hlv1010_1 (by decide) (Or.inr rfl)
            have hlv1016_2 : aj_lv lv1016 2 = some (.int x1015) := by rw [elv1016]; exact ak_set1_eq _ _ _
            show cw_W _ _ _ _ _ _ _ _ _ _ 103 lv1016 []
            refine cw_n aj_d56 rfl rfl ?_
            exact ih hTu (cw_CL_nx hC Q' ey hv h0 ex1015) hlv1016_0 hlv1016_1 hlv1016_2 (by omega) (by omega)
          · have q1014 : (f iv.toInt.toNat).toInt ≥ (200 : Int) := aw_t_lt (a := (f iv.toInt.toNat).toInt) (b := (200 : Int)) rfl rfl q1014
            refine cw_l2 aj_d56 rfl rfl hlv1010_0 ?_
            refine cw_l0 aj_d56 rfl rfl hlv1010_3 ?_
            refine cw_l0 aj_d56 rfl rfl hlv1010_2 ?_
            refine cw_k (i := 39) (con' := cw_nC 81 none) aj_d56 htb hTa rfl rfl [_, _] rfl rfl (cw_cls hTa (cw_s0 hB rfl) rfl) (Nat.le_of_ble_eq_true rfl) ⟨by decide, by decide⟩ (cw_ctA htb hTa (by omega) (by omega) hx ⟨by omega, by omega⟩ ⟨by omega, by omega⟩ (cw_CQ_any id Q)) ?_
            rintro u ru hu hTu ⟨eu, y', nt', g', Q', ey, hv⟩ hRu -
            obtain rfl := cw_rN hRu
            show cw_W _ _ _ _ _ _ _ _ _ _ 91 lv1010 []
            refine cw_n aj_d56 rfl rfl ?_
            refine cw_inc aj_d56 rfl hlv1010_2 (a := iv.toInt) rfl (by omega) (by omega) (by decide) (by decide) (fun x1017 ex1017 => ?_)
            obtain ⟨lv1018, elv1018⟩ : ∃ l, l = aj_set1 lv1010 2 (.int x1017) := ⟨_, rfl⟩
            rw [← elv1018]
            have hlv1018_3 : aj_lv lv1018 3 = some (.int (f iv.toInt.toNat)) := cw_e1 elv1018 hlv1010_3 (by decide) (Or.inl (by decide))
            have hlv1018_0 : aj_lv lv1018 0 = some (.ref (52 + 39)) := cw_e1 elv1018 hlv1010_0 (by decide) (Or.inl (by decide))
            have hlv1018_1 : aj_lv lv1018 1 = some (.ref (52 + x)) := cw_e1 elv1018 hlv1010_1 (by decide) (Or.inr rfl)
            have hlv1018_2 : aj_lv lv1018 2 = some (.int x1017) := by rw [elv1018]; exact ak_set1_eq _ _ _
            show cw_W _ _ _ _ _ _ _ _ _ _ 103 lv1018 []
            refine cw_n aj_d56 rfl rfl ?_
            exact ih hTu (cw_CL_nx hC Q' ey hv h0 ex1017) hlv1018_0 hlv1018_1 hlv1018_2 (by omega) (by omega)
        · have q1013 : (f iv.toInt.toNat).toInt ≥ (210 : Int) := aw_t_lt (a := (f iv.toInt.toNat).toInt) (b := (210 : Int)) rfl rfl q1013
          refine cw_l2 aj_d56 rfl rfl hlv1010_0 ?_
          refine cw_l0 aj_d56 rfl rfl hlv1010_3 ?_
          refine cw_l0 aj_d56 rfl rfl hlv1010_2 ?_
          refine cw_k (i := 39) (con' := cw_nC 58 none) aj_d56 htb hTa rfl rfl [_, _] rfl rfl (cw_cls hTa (cw_s0 hB rfl) rfl) (Nat.le_of_ble_eq_true rfl) ⟨by decide, by decide⟩ (cw_cqA htb hTa (by omega) (by omega) hx ⟨by omega, by omega⟩ ⟨by omega, by omega⟩ (cw_CQ_any id Q)) ?_
          rintro u ru hu hTu ⟨eu, y', nt', g', Q', ey, hv⟩ hRu -
          obtain rfl := cw_rN hRu
          show cw_W _ _ _ _ _ _ _ _ _ _ 75 lv1010 []
          refine cw_n aj_d56 rfl rfl ?_
          refine cw_inc aj_d56 rfl hlv1010_2 (a := iv.toInt) rfl (by omega) (by omega) (by decide) (by decide) (fun x1019 ex1019 => ?_)
          obtain ⟨lv1020, elv1020⟩ : ∃ l, l = aj_set1 lv1010 2 (.int x1019) := ⟨_, rfl⟩
          rw [← elv1020]
          have hlv1020_3 : aj_lv lv1020 3 = some (.int (f iv.toInt.toNat)) := cw_e1 elv1020 hlv1010_3 (by decide) (Or.inl (by decide))
          have hlv1020_0 : aj_lv lv1020 0 = some (.ref (52 + 39)) := cw_e1 elv1020 hlv1010_0 (by decide) (Or.inl (by decide))
          have hlv1020_1 : aj_lv lv1020 1 = some (.ref (52 + x)) := cw_e1 elv1020 hlv1010_1 (by decide) (Or.inr rfl)
          have hlv1020_2 : aj_lv lv1020 2 = some (.int x1019) := by rw [elv1020]; exact ak_set1_eq _ _ _
          show cw_W _ _ _ _ _ _ _ _ _ _ 103 lv1020 []
          refine cw_n aj_d56 rfl rfl ?_
          exact ih hTu (cw_CL_nx hC Q' ey hv h0 ex1019) hlv1020_0 hlv1020_1 hlv1020_2 (by omega) (by omega)
      · have q1012 : x1011.toInt ≠ (0 : Int) := aw_t_eq (a := x1011.toInt) (b := (0 : Int)) rfl rfl q1012
        refine cw_l0 aj_d56 rfl rfl hlv1010_3 ?_
        refine cw_n aj_d56 rfl rfl ?_
        refine cw_c (tgt := 62) aj_d56 rfl rfl (fun q1021 => ?_) (fun q1021 => ?_)
        · have q1021 : (f iv.toInt.toNat).toInt = (216 : Int) := aw_t_eq (a := (f iv.toInt.toNat).toInt) (b := (216 : Int)) rfl rfl q1021
          refine cw_l0 aj_d56 rfl rfl hlv1010_3 ?_
          refine cw_n aj_d56 rfl rfl ?_
          refine cw_c (tgt := 78) aj_d56 rfl rfl (fun q1022 => ?_) (fun q1022 => ?_)
          · have q1022 : (f iv.toInt.toNat).toInt < (210 : Int) := aw_t_lt (a := (f iv.toInt.toNat).toInt) (b := (210 : Int)) rfl rfl q1022
            refine cw_l0 aj_d56 rfl rfl hlv1010_3 ?_
            refine cw_n aj_d56 rfl rfl ?_
            refine cw_c (tgt := 94) aj_d56 rfl rfl (fun q1023 => ?_) (fun q1023 => ?_)
            · have q1023 : (f iv.toInt.toNat).toInt < (200 : Int) := aw_t_lt (a := (f iv.toInt.toNat).toInt) (b := (200 : Int)) rfl rfl q1023
              refine cw_l2 aj_d56 rfl rfl hlv1010_0 ?_
              refine cw_l0 aj_d56 rfl rfl hlv1010_3 ?_
              refine cw_l0 aj_d56 rfl rfl hlv1010_2 ?_
              refine cw_k (i := 39) (con' := cw_nC 85 none) aj_d56 htb hTa rfl rfl [_, _] rfl rfl (cw_cls hTa (cw_s0 hB rfl) rfl) (Nat.le_of_ble_eq_true rfl) ⟨by decide, by decide⟩ (cw_cTA htb hTa (by omega) (by omega) hx ⟨by omega, by omega⟩ ⟨by omega, by omega⟩ (cw_CQ_any id Q)) ?_
              rintro u ru hu hTu ⟨eu, y', nt', g', Q', ey, hv⟩ hRu -
              obtain rfl := cw_rN hRu
              show cw_W _ _ _ _ _ _ _ _ _ _ 100 lv1010 []
              refine cw_inc aj_d56 rfl hlv1010_2 (a := iv.toInt) rfl (by omega) (by omega) (by decide) (by decide) (fun x1024 ex1024 => ?_)
              obtain ⟨lv1025, elv1025⟩ : ∃ l, l = aj_set1 lv1010 2 (.int x1024) := ⟨_, rfl⟩
              rw [← elv1025]
              have hlv1025_3 : aj_lv lv1025 3 = some (.int (f iv.toInt.toNat)) := cw_e1 elv1025 hlv1010_3 (by decide) (Or.inl (by decide))
              have hlv1025_0 : aj_lv lv1025 0 = some (.ref (52 + 39)) := cw_e1 elv1025 hlv1010_0 (by decide) (Or.inl (by decide))
              have hlv1025_1 : aj_lv lv1025 1 = some (.ref (52 + x)) := cw_e1 elv1025 hlv1010_1 (by decide) (Or.inr rfl)
              have hlv1025_2 : aj_lv lv1025 2 = some (.int x1024) := by rw [elv1025]; exact ak_set1_eq _ _ _
              show cw_W _ _ _ _ _ _ _ _ _ _ 103 lv1025 []
              refine cw_n aj_d56 rfl rfl ?_
              exact ih hTu (cw_CL_nx hC Q' ey hv h0 ex1024) hlv1025_0 hlv1025_1 hlv1025_2 (by omega) (by omega)
            · have q1023 : (f iv.toInt.toNat).toInt ≥ (200 : Int) := aw_t_lt (a := (f iv.toInt.toNat).toInt) (b := (200 : Int)) rfl rfl q1023
              refine cw_l2 aj_d56 rfl rfl hlv1010_0 ?_
              refine cw_l0 aj_d56 rfl rfl hlv1010_3 ?_
              refine cw_l0 aj_d56 rfl rfl hlv1010_2 ?_
              refine cw_k (i := 39) (con' := cw_nC 81 none) aj_d56 htb hTa rfl rfl [_, _] rfl rfl (cw_cls hTa (cw_s0 hB rfl) rfl) (Nat.le_of_ble_eq_true rfl) ⟨by decide, by decide⟩ (cw_ctA htb hTa (by omega) (by omega) hx ⟨by omega, by omega⟩ ⟨by omega, by omega⟩ (cw_CQ_any id Q)) ?_
              rintro u ru hu hTu ⟨eu, y', nt', g', Q', ey, hv⟩ hRu -
              obtain rfl := cw_rN hRu
              show cw_W _ _ _ _ _ _ _ _ _ _ 91 lv1010 []
              refine cw_n aj_d56 rfl rfl ?_
              refine cw_inc aj_d56 rfl hlv1010_2 (a := iv.toInt) rfl (by omega) (by omega) (by decide) (by decide) (fun x1026 ex1026 => ?_)
              obtain ⟨lv1027, elv1027⟩ : ∃ l, l = aj_set1 lv1010 2 (.int x1026) := ⟨_, rfl⟩
              rw [← elv1027]
              have hlv1027_3 : aj_lv lv1027 3 = some (.int (f iv.toInt.toNat)) := cw_e1 elv1027 hlv1010_3 (by decide) (Or.inl (by decide))
              have hlv1027_0 : aj_lv lv1027 0 = some (.ref (52 + 39)) := cw_e1 elv1027 hlv1010_0 (by decide) (Or.inl (by decide))
              have hlv1027_1 : aj_lv lv1027 1 = some (.ref (52 + x)) := cw_e1 elv1027 hlv1010_1 (by decide) (Or.inr rfl)
              have hlv1027_2 : aj_lv lv1027 2 = some (.int x1026) := by rw [elv1027]; exact ak_set1_eq _ _ _
              show cw_W _ _ _ _ _ _ _ _ _ _ 103 lv1027 []
              refine cw_n aj_d56 rfl rfl ?_
              exact ih hTu (cw_CL_nx hC Q' ey hv h0 ex1026) hlv1027_0 hlv1027_1 hlv1027_2 (by omega) (by omega)
          · have q1022 : (f iv.toInt.toNat).toInt ≥ (210 : Int) := aw_t_lt (a := (f iv.toInt.toNat).toInt) (b := (210 : Int)) rfl rfl q1022
            refine cw_l2 aj_d56 rfl rfl hlv1010_0 ?_
            refine cw_l0 aj_d56 rfl rfl hlv1010_3 ?_
            refine cw_l0 aj_d56 rfl rfl hlv1010_2 ?_
            refine cw_k (i := 39) (con' := cw_nC 58 none) aj_d56 htb hTa rfl rfl [_, _] rfl rfl (cw_cls hTa (cw_s0 hB rfl) rfl) (Nat.le_of_ble_eq_true rfl) ⟨by decide, by decide⟩ (cw_cqA htb hTa (by omega) (by omega) hx ⟨by omega, by omega⟩ ⟨by omega, by omega⟩ (cw_CQ_any id Q)) ?_
            rintro u ru hu hTu ⟨eu, y', nt', g', Q', ey, hv⟩ hRu -
            obtain rfl := cw_rN hRu
            show cw_W _ _ _ _ _ _ _ _ _ _ 75 lv1010 []
            refine cw_n aj_d56 rfl rfl ?_
            refine cw_inc aj_d56 rfl hlv1010_2 (a := iv.toInt) rfl (by omega) (by omega) (by decide) (by decide) (fun x1028 ex1028 => ?_)
            obtain ⟨lv1029, elv1029⟩ : ∃ l, l = aj_set1 lv1010 2 (.int x1028) := ⟨_, rfl⟩
            rw [← elv1029]
            have hlv1029_3 : aj_lv lv1029 3 = some (.int (f iv.toInt.toNat)) := cw_e1 elv1029 hlv1010_3 (by decide) (Or.inl (by decide))
            have hlv1029_0 : aj_lv lv1029 0 = some (.ref (52 + 39)) := cw_e1 elv1029 hlv1010_0 (by decide) (Or.inl (by decide))
            have hlv1029_1 : aj_lv lv1029 1 = some (.ref (52 + x)) := cw_e1 elv1029 hlv1010_1 (by decide) (Or.inr rfl)
            have hlv1029_2 : aj_lv lv1029 2 = some (.int x1028) := by rw [elv1029]; exact ak_set1_eq _ _ _
            show cw_W _ _ _ _ _ _ _ _ _ _ 103 lv1029 []
            refine cw_n aj_d56 rfl rfl ?_
            exact ih hTu (cw_CL_nx hC Q' ey hv h0 ex1028) hlv1029_0 hlv1029_1 hlv1029_2 (by omega) (by omega)
        · have q1021 : (f iv.toInt.toNat).toInt ≠ (216 : Int) := aw_t_eq (a := (f iv.toInt.toNat).toInt) (b := (216 : Int)) rfl rfl q1021
          refine cw_l0 aj_d56 rfl rfl hlv1010_3 ?_
          refine cw_n aj_d56 rfl rfl ?_
          refine cw_c (tgt := 62) aj_d56 rfl rfl (fun q1030 => ?_) (fun q1030 => ?_)
          · have q1030 : (f iv.toInt.toNat).toInt = (220 : Int) := aw_t_eq (a := (f iv.toInt.toNat).toInt) (b := (220 : Int)) rfl rfl q1030
            refine cw_l0 aj_d56 rfl rfl hlv1010_3 ?_
            refine cw_n aj_d56 rfl rfl ?_
            refine cw_c (tgt := 78) aj_d56 rfl rfl (fun q1031 => ?_) (fun q1031 => ?_)
            · have q1031 : (f iv.toInt.toNat).toInt < (210 : Int) := aw_t_lt (a := (f iv.toInt.toNat).toInt) (b := (210 : Int)) rfl rfl q1031
              refine cw_l0 aj_d56 rfl rfl hlv1010_3 ?_
              refine cw_n aj_d56 rfl rfl ?_
              refine cw_c (tgt := 94) aj_d56 rfl rfl (fun q1032 => ?_) (fun q1032 => ?_)
              · have q1032 : (f iv.toInt.toNat).toInt < (200 : Int) := aw_t_lt (a := (f iv.toInt.toNat).toInt) (b := (200 : Int)) rfl rfl q1032
                refine cw_l2 aj_d56 rfl rfl hlv1010_0 ?_
                refine cw_l0 aj_d56 rfl rfl hlv1010_3 ?_
                refine cw_l0 aj_d56 rfl rfl hlv1010_2 ?_
                refine cw_k (i := 39) (con' := cw_nC 85 none) aj_d56 htb hTa rfl rfl [_, _] rfl rfl (cw_cls hTa (cw_s0 hB rfl) rfl) (Nat.le_of_ble_eq_true rfl) ⟨by decide, by decide⟩ (cw_cTA htb hTa (by omega) (by omega) hx ⟨by omega, by omega⟩ ⟨by omega, by omega⟩ (cw_CQ_any id Q)) ?_
                rintro u ru hu hTu ⟨eu, y', nt', g', Q', ey, hv⟩ hRu -
                obtain rfl := cw_rN hRu
                show cw_W _ _ _ _ _ _ _ _ _ _ 100 lv1010 []
                refine cw_inc aj_d56 rfl hlv1010_2 (a := iv.toInt) rfl (by omega) (by omega) (by decide) (by decide) (fun x1033 ex1033 => ?_)
                obtain ⟨lv1034, elv1034⟩ : ∃ l, l = aj_set1 lv1010 2 (.int x1033) := ⟨_, rfl⟩
                rw [← elv1034]
                have hlv1034_3 : aj_lv lv1034 3 = some (.int (f iv.toInt.toNat)) := cw_e1 elv1034 hlv1010_3 (by decide) (Or.inl (by decide))
                have hlv1034_0 : aj_lv lv1034 0 = some (.ref (52 + 39)) := cw_e1 elv1034 hlv1010_0 (by decide) (Or.inl (by decide))
                have hlv1034_1 : aj_lv lv1034 1 = some (.ref (52 + x)) := cw_e1 elv1034 hlv1010_1 (by decide) (Or.inr rfl)
                have hlv1034_2 : aj_lv lv1034 2 = some (.int x1033) := by rw [elv1034]; exact ak_set1_eq _ _ _
                show cw_W _ _ _ _ _ _ _ _ _ _ 103 lv1034 []
                refine cw_n aj_d56 rfl rfl ?_
                exact ih hTu (cw_CL_nx hC Q' ey hv h0 ex1033) hlv1034_0 hlv1034_1 hlv1034_2 (by omega) (by omega)
              · have q1032 : (f iv.toInt.toNat).toInt ≥ (200 : Int) := aw_t_lt (a := (f iv.toInt.toNat).toInt) (b := (200 : Int)) rfl rfl q1032
                refine cw_l2 aj_d56 rfl rfl hlv1010_0 ?_
                refine cw_l0 aj_d56 rfl rfl hlv1010_3 ?_
                refine cw_l0 aj_d56 rfl rfl hlv1010_2 ?_
                refine cw_k (i := 39) (con' := cw_nC 81 none) aj_d56 htb hTa rfl rfl [_, _] rfl rfl (cw_cls hTa (cw_s0 hB rfl) rfl) (Nat.le_of_ble_eq_true rfl) ⟨by decide, by decide⟩ (cw_ctA htb hTa (by omega) (by omega) hx ⟨by omega, by omega⟩ ⟨by omega, by omega⟩ (cw_CQ_any id Q)) ?_
                rintro u ru hu hTu ⟨eu, y', nt', g', Q', ey, hv⟩ hRu -
                obtain rfl := cw_rN hRu
                show cw_W _ _ _ _ _ _ _ _ _ _ 91 lv1010 []
                refine cw_n aj_d56 rfl rfl ?_
                refine cw_inc aj_d56 rfl hlv1010_2 (a := iv.toInt) rfl (by omega) (by omega) (by decide) (by decide) (fun x1035 ex1035 => ?_)
                obtain ⟨lv1036, elv1036⟩ : ∃ l, l = aj_set1 lv1010 2 (.int x1035) := ⟨_, rfl⟩
                rw [← elv1036]
                have hlv1036_3 : aj_lv lv1036 3 = some (.int (f iv.toInt.toNat)) := cw_e1 elv1036 hlv1010_3 (by decide) (Or.inl (by decide))
                have hlv1036_0 : aj_lv lv1036 0 = some (.ref (52 + 39)) := cw_e1 elv1036 hlv1010_0 (by decide) (Or.inl (by decide))
                have hlv1036_1 : aj_lv lv1036 1 = some (.ref (52 + x)) := cw_e1 elv1036 hlv1010_1 (by decide) (Or.inr rfl)
                have hlv1036_2 : aj_lv lv1036 2 = some (.int x1035) := by rw [elv1036]; exact ak_set1_eq _ _ _
                show cw_W _ _ _ _ _ _ _ _ _ _ 103 lv1036 []
                refine cw_n aj_d56 rfl rfl ?_
                exact ih hTu (cw_CL_nx hC Q' ey hv h0 ex1035) hlv1036_0 hlv1036_1 hlv1036_2 (by omega) (by omega)
            · have q1031 : (f iv.toInt.toNat).toInt ≥ (210 : Int) := aw_t_lt (a := (f iv.toInt.toNat).toInt) (b := (210 : Int)) rfl rfl q1031
              refine cw_l2 aj_d56 rfl rfl hlv1010_0 ?_
              refine cw_l0 aj_d56 rfl rfl hlv1010_3 ?_
              refine cw_l0 aj_d56 rfl rfl hlv1010_2 ?_
              refine cw_k (i := 39) (con' := cw_nC 58 none) aj_d56 htb hTa rfl rfl [_, _] rfl rfl (cw_cls hTa (cw_s0 hB rfl) rfl) (Nat.le_of_ble_eq_true rfl) ⟨by decide, by decide⟩ (cw_cqA htb hTa (by omega) (by omega) hx ⟨by omega, by omega⟩ ⟨by omega, by omega⟩ (cw_CQ_any id Q)) ?_
              rintro u ru hu hTu ⟨eu, y', nt', g', Q', ey, hv⟩ hRu -
              obtain rfl := cw_rN hRu
              show cw_W _ _ _ _ _ _ _ _ _ _ 75 lv1010 []
              refine cw_n aj_d56 rfl rfl ?_
              refine cw_inc aj_d56 rfl hlv1010_2 (a := iv.toInt) rfl (by omega) (by omega) (by decide) (by decide) (fun x1037 ex1037 => ?_)
              obtain ⟨lv1038, elv1038⟩ : ∃ l, l = aj_set1 lv1010 2 (.int x1037) := ⟨_, rfl⟩
              rw [← elv1038]
              have hlv1038_3 : aj_lv lv1038 3 = some (.int (f iv.toInt.toNat)) := cw_e1 elv1038 hlv1010_3 (by decide) (Or.inl (by decide))
              have hlv1038_0 : aj_lv lv1038 0 = some (.ref (52 + 39)) := cw_e1 elv1038 hlv1010_0 (by decide) (Or.inl (by decide))
              have hlv1038_1 : aj_lv lv1038 1 = some (.ref (52 + x)) := cw_e1 elv1038 hlv1010_1 (by decide) (Or.inr rfl)
              have hlv1038_2 : aj_lv lv1038 2 = some (.int x1037) := by rw [elv1038]; exact ak_set1_eq _ _ _
              show cw_W _ _ _ _ _ _ _ _ _ _ 103 lv1038 []
              refine cw_n aj_d56 rfl rfl ?_
              exact ih hTu (cw_CL_nx hC Q' ey hv h0 ex1037) hlv1038_0 hlv1038_1 hlv1038_2 (by omega) (by omega)
          · have q1030 : (f iv.toInt.toNat).toInt ≠ (220 : Int) := aw_t_eq (a := (f iv.toInt.toNat).toInt) (b := (220 : Int)) rfl rfl q1030
            refine cw_Wr aj_d56 rfl rfl hTa ?_ ?_
            · exact ⟨_, _, _, cw_CQ_any (fun z => z.elim) Q, fun _ _ _ => Or.inl ⟨x1011, by omega, (cw_fo_F (by decide)).mpr f1011⟩⟩
            · trivial
/-- what was read, checked -/
theorem cw_check (htb : ak_tbOK ak_C0 tb) (hT : ak_Ty ak_C0 s h) (hI : cw_I cw_XB s h) (hd : 6 ≤ d) (hx : x = 2 ∨ x = 14) (qx : s[x]? = some 59) (hn : n.toInt ≤ 2500) (a31 : cw_A h 31 0 2500 (.inl f)) (a34 : cw_A h 34 0 2500 (.inl g)) (f4 : cw_F h 30 4 4 (.int n)) (hZ : cw_Z N x nt bb (cw_o h)) : cw_K ak_C0 (fun s' r h' => ∃ (y' nt' : Int32) (g' : Nat → Int32), cw_CQ N bb x n f 0 g' nt' False y' nt' g' s' h' ∧ cw_LD n.toInt nt' f g' (cw_o h')) tb d (cw_nC 56 none) [.ref (52 + 39), .ref (52 + x)] s h := by
  obtain ⟨d, rfl⟩ : ∃ e, d = e + 1 := ⟨d - 1, by omega⟩
  have hB := hI.1
  refine cw_m (con := cw_nC 56 none) aj_m56_at (Nat.le_of_ble_eq_true rfl) ?_
  show cw_W _ _ _ _ _ _ _ _ _ _ 0 [(0, .ref (52 + 39)), (1, .ref (52 + x))] []
  refine cw_n aj_d56 rfl rfl ?_
  refine cw_n aj_d56 rfl rfl ?_
  refine cw_p (i := 39) (t := 52) (c := 0) (k := 2) (v := .ref (52 + x)) (y := (.inr (some ([59], true)))) htb aj_d56 rfl rfl hT (cw_s0 hB rfl) rfl rfl rfl (cw_gR qx (by decide) (by decide)) (by decide) rfl rfl (fun hT1039 => ?_)
  obtain ⟨v1040, f1040, g1040⟩ := cw_tyF (i := 39) (t := 52) (c := 0) (k := 2) (y := (.inr (some ([59], true)))) hT (cw_s0 hB rfl) rfl rfl rfl
  have f1041 : cw_F (cw_sf h 39 2 (.ref (52 + x))) 30 4 4 (.int n) := cw_sf_ne f4 (Or.inr (by decide))
  have a1042 : cw_A (cw_sf h 39 2 (.ref (52 + x))) 31 0 2500 (.inl f) := cw_sf_A a31
  have a1043 : cw_A (cw_sf h 39 2 (.ref (52 + x))) 34 0 2500 (.inl g) := cw_sf_A a34
  have f1044 : cw_F (cw_sf h 39 2 (.ref (52 + x))) 39 0 2 (.ref (52 + x)) := cw_sf_same f1040
  obtain ⟨I1, k1⟩ := cw_I_c0 (T := ak_C0) (w := .ref (52 + x)) rfl rfl hT hI f1040
  have hT1 := cw_01 hB hT1039 f1044 qx
  refine cw_10 ?_
  have htb : ak_tbOK ak_C1 tb := htb
  show cw_W _ _ _ _ _ _ _ _ _ _ 5 [(0, .ref (52 + 39)), (1, .ref (52 + x))] []
  obtain ⟨v1045, f1045, g1045⟩ := cw_tyF (i := 39) (t := 52) (c := 0) (k := 5) (y := (.inl ((-3000), 3000))) hT1 (cw_s0 hB rfl) rfl rfl rfl
  obtain ⟨x1045, rfl, b1045⟩ := ak_gi g1045
  dsimp only [ak_win] at b1045
  have Q1046 := (⟨I1, qx, f1044, a1042, a1043, f1041, f1045, cw_Z_kp k1 (fun z => absurd z.2.1 (by decide)) (fun z => absurd z.2.1 (by decide)) (fun _ _ => id) (cw_sy_n k1 (fun _ _ z => absurd z.2.1 (by decide))) hZ, Int.le_refl _, fun _ _ => rfl, fun z => z.elim⟩ : cw_CQ N bb x n f 0 g nt False x1045 nt g s (cw_sf h 39 2 (.ref (52 + x))))
  obtain ⟨Iq1046, qq1046, f2q1046, a31q1046, a34q1046, f4q1046, f5q1046, Zq1046, nq1046, gq1046, bq1046⟩ := id Q1046
  show cw_W _ _ _ _ _ _ _ _ _ _ 5 [(0, .ref (52 + 39)), (1, .ref (52 + x))] []
  refine cw_n aj_d56 rfl rfl ?_
  refine cw_n aj_d56 rfl rfl ?_
  refine cw_p (i := 39) (t := 52) (c := 0) (k := 5) (v := .int (Int32.ofInt 0)) (y := (.inl ((-3000), 3000))) htb aj_d56 rfl rfl hT1 (cw_s0 hB rfl) rfl rfl rfl (cw_gw (a := (0 : Int)) rfl (by omega) (by omega)) (by decide) rfl rfl (fun hT1047 => ?_)
  have f1048 : cw_F (cw_sf (cw_sf h 39 2 (.ref (52 + x))) 39 5 (.int (Int32.ofInt 0))) 39 0 2 (.ref (52 + x)) := cw_sf_ne f2q1046 (Or.inr (by decide))
  have f1049 : cw_F (cw_sf (cw_sf h 39 2 (.ref (52 + x))) 39 5 (.int (Int32.ofInt 0))) 30 4 4 (.int n) := cw_sf_ne f4q1046 (Or.inr (by decide))
  have a1050 : cw_A (cw_sf (cw_sf h 39 2 (.ref (52 + x))) 39 5 (.int (Int32.ofInt 0))) 31 0 2500 (.inl f) := cw_sf_A a31q1046
  have a1051 : cw_A (cw_sf (cw_sf h 39 2 (.ref (52 + x))) 39 5 (.int (Int32.ofInt 0))) 34 0 2500 (.inl g) := cw_sf_A a34q1046
  have f1052 : cw_F (cw_sf (cw_sf h 39 2 (.ref (52 + x))) 39 5 (.int (Int32.ofInt 0))) 39 0 5 (.int (Int32.ofInt 0)) := cw_sf_same f5q1046
  have Q1053 := cw_CQ_dep hT1 Q1046 (Int32.ofInt 0)
  obtain ⟨Iq1053, qq1053, f2q1053, a31q1053, a34q1053, f4q1053, f5q1053, Zq1053, nq1053, gq1053, bq1053⟩ := id Q1053
  show cw_W _ _ _ _ _ _ _ _ _ _ 10 [(0, .ref (52 + 39)), (1, .ref (52 + x))] []
  refine cw_n aj_d56 rfl rfl ?_
  refine cw_n aj_d56 rfl rfl ?_
  refine cw_p (i := 39) (t := 52) (c := 0) (k := 7) (v := .int (Int32.ofInt 0)) (y := (.inl (0, 6))) htb aj_d56 rfl rfl hT1047 (cw_s0 hB rfl) rfl rfl rfl (cw_gw (a := (0 : Int)) rfl (by omega) (by omega)) (by decide) rfl rfl (fun hT1054 => ?_)
  obtain ⟨v1055, f1055, g1055⟩ := cw_tyF (i := 39) (t := 52) (c := 0) (k := 7) (y := (.inl (0, 6))) hT1047 (cw_s0 hB rfl) rfl rfl rfl
  obtain ⟨x1055, rfl, b1055⟩ := ak_gi g1055
  dsimp only [ak_win] at b1055
  have f1056 : cw_F (cw_sf (cw_sf (cw_sf h 39 2 (.ref (52 + x))) 39 5 (.int (Int32.ofInt 0))) 39 7 (.int (Int32.ofInt 0))) 39 0 2 (.ref (52 + x)) := cw_sf_ne f2q1053 (Or.inr (by decide))
  have f1057 : cw_F (cw_sf (cw_sf (cw_sf h 39 2 (.ref (52 + x))) 39 5 (.int (Int32.ofInt 0))) 39 7 (.int (Int32.ofInt 0))) 39 0 5 (.int (Int32.ofInt 0)) := cw_sf_ne f5q1053 (Or.inr (by decide))
  have f1058 : cw_F (cw_sf (cw_sf (cw_sf h 39 2 (.ref (52 + x))) 39 5 (.int (Int32.ofInt 0))) 39 7 (.int (Int32.ofInt 0))) 30 4 4 (.int n) := cw_sf_ne f4q1053 (Or.inr (by decide))
  have a1059 : cw_A (cw_sf (cw_sf (cw_sf h 39 2 (.ref (52 + x))) 39 5 (.int (Int32.ofInt 0))) 39 7 (.int (Int32.ofInt 0))) 31 0 2500 (.inl f) := cw_sf_A a31q1053
  have a1060 : cw_A (cw_sf (cw_sf (cw_sf h 39 2 (.ref (52 + x))) 39 5 (.int (Int32.ofInt 0))) 39 7 (.int (Int32.ofInt 0))) 34 0 2500 (.inl g) := cw_sf_A a34q1053
  have f1061 : cw_F (cw_sf (cw_sf (cw_sf h 39 2 (.ref (52 + x))) 39 5 (.int (Int32.ofInt 0))) 39 7 (.int (Int32.ofInt 0))) 39 0 7 (.int (Int32.ofInt 0)) := cw_sf_same f1055
  refine cw_n aj_d56 rfl rfl ?_
  refine cw_n aj_d56 rfl rfl ?_
  show cw_W _ _ _ _ _ _ _ _ _ _ 17 [(2, .int (Int32.ofInt 0)), (0, .ref (52 + 39)), (1, .ref (52 + x))] []
  exact cw_check_l (iv := Int32.ofInt 0) (by omega) htb hx hn 2500 hT1054 ⟨cw_CQ_any (fun z => z.elim) (cw_CQ_eq ((cw_o_sf f1055 (by decide)).trans rfl) Q1053), ⟨by decide, by decide⟩, fun j hj => absurd hj (by rw [show (Int32.ofInt 0).toInt = 0 from rfl]; omega)⟩ rfl rfl rfl (by decide) (by decide)
end CW86
