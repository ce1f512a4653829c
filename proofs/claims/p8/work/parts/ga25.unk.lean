/-! UNKNOWNS TOLD (printed by wip/p2/ref/r25.py) -/
section ARA25
variable {tb : aj_T} {s : List Nat} {h : aj_H} {S S' S1 S2 : aj_S} {d n : Nat} {g g' : aw_gh} {F A : List Nat} {G : aj_S → Prop} {nm : Int64 → Prop} {fl : Bool} {la ho hu ht q t p : Nat}
theorem ar_pb {a b : Int} (h1 : 0 ≤ a ∧ a ≤ 1024) (h2 : 0 ≤ b ∧ b ≤ 64) : 0 ≤ a * b ∧ a * b ≤ 65536 := by
  refine ⟨Int.mul_nonneg h1.1 h2.1, ?_⟩
  have e1 : a * b ≤ 1024 * b := Int.mul_le_mul_of_nonneg_right h1.2 h2.1
  omega
theorem aw_vm_1 {f : Nat → Int32} {T : aw_Ts} {i : Nat} : 1 ≤ aw_vm f T i := by
  unfold aw_vm
  split
  · split
    · omega
    · exact Nat.le_refl _
  · omega
theorem aw_ul_pre {T : aw_Ts} {a J : Nat} : ∀ {K : Nat}, J ≤ K → ∃ l, aw_ul T a K = aw_ul T a J ++ l := by
  intro K
  induction K with
  | zero =>
    intro h0
    obtain rfl : J = 0 := by omega
    exact ⟨[], (List.append_nil _).symm⟩
  | succ K ih =>
    intro h0
    by_cases e : J = K + 1
    · subst e
      exact ⟨[], (List.append_nil _).symm⟩
    · obtain ⟨l, hl⟩ := ih (by omega)
      conv => enter [1, l, 1]; unfold aw_ul
      split
      · exact ⟨l ++ [K], by rw [hl, List.append_assoc]⟩
      · exact ⟨l, hl⟩
theorem aw_nc_pre {l l' : List Nat} : ∀ {w : Nat}, aw_nc (l ++ l') w → aw_nc l w := by
  induction l with
  | nil => intros; trivial
  | cons a l ih => intro w h0; exact ⟨h0.1, ih h0.2⟩
theorem aw_G_nc (hG : aw_G (nm, false, la, 0, p, 0) S) (hp : p ≠ 0) (h32 : (S.1 32).toInt = 1) {v : Int} (hm : v = aw_vm (aw_tF S) (aw_tT S) p) : (S.2.2.1 5 (aw_h S)).toInt * v ≤ 1024 := by
  obtain ⟨c1, c2, c3, c4⟩ := hG.2.2.1 h32
  have c4 : aw_nc ((aw_ul (aw_tT S) 0 la).map (aw_vm (aw_tF S) (aw_tT S))) 1 := c4 rfl
  have c1 : aw_tJ S ≤ la := c1
  obtain ⟨l, hl⟩ := aw_ul_pre (T := aw_tT S) (a := 0) c1
  obtain ⟨g1, g2, g3⟩ := hG.2.2.2.1.2.2.1 hp
  have g2 : p < aw_tJ S := g2
  have ef : aw_ul (aw_tT S) 0 (aw_tJ S) = aw_ul (aw_tT S) p (aw_tJ S) ++ [p] := aw_ul_fill (p := p) (by omega) g1 g2 g3
  rw [hl, List.map_append] at c4
  have c5 := aw_nc_pre c4
  rw [ef, List.map_append] at c5
  have c6 := (aw_nc_wc.mp c5).2
  obtain ⟨⟨-, -, u3⟩, -⟩ := hG.2.2.2.1.2.1 rfl
  have u3 : (S.2.2.1 5 (aw_h S)).toInt = (aw_wc ((aw_ul (aw_tT S) p (aw_tJ S)).map (aw_vm (aw_tF S) (aw_tT S))) : Nat) := u3
  rw [u3, hm, ← Int.natCast_mul]
  omega
theorem aw_hold_wn {L : Nat} (ht : t ≤ 1) (h0 : aw_hold S t) (hL : 1 ≤ L) (hW : (S'.2.2.1 5 t).toInt = (S.2.2.1 5 t).toInt * L) (hW2 : (S'.2.2.1 5 t).toInt ≤ 1024) (e10 : S'.2.2.1 10 = S.2.2.1 10) (b10 : 0 ≤ (S.2.2.1 10 t).toInt) (hwn : ar_wn t L (S'.2.2.1 5 t).toInt (S.2.2.1 12) (S'.2.2.1 12) (S.2.2.1 10 t).toInt.toNat) : aw_hold S' t := by
  obtain ⟨w, w1, w2⟩ := h0
  have e1 : ((w * L : Nat) : Int) < (S'.2.2.1 5 t).toInt := by
    rw [hW, Int.natCast_mul]
    exact Int.mul_lt_mul_of_pos_right w1 (by omega)
  refine ⟨w * L, e1, fun q hq => ?_⟩
  rw [e10] at hq
  refine (hwn.2 q (by omega) (w * L) (by omega) e1).mpr ?_
  rw [Nat.mul_div_cancel _ (by omega)]
  exact w2 q hq
theorem aw_uu_m {x : Nat} {c1 : Int32} (hG : aw_G (nm, false, la, 0, p, 0) S) (e1 : S'.2.2.1 1 = upd (S.2.2.1 1) (aw_h S) c1) (e3 : S'.2.2.1 3 = S.2.2.1 3) (eh : aw_h S' = aw_h S) (hx : (x : Int) = aw_h S * 8 + (S.2.2.1 1 (aw_h S)).toInt) (hc : c1.toInt = (S.2.2.1 1 (aw_h S)).toInt + 1) (hm : (S.2.2.1 3 x).toInt = aw_vm (aw_tF S) (aw_tT S) p) : 1 ≤ (S'.2.2.1 1 (aw_h S')).toInt ∧ (∀ u : Nat, (u : Int) < (S'.2.2.1 1 (aw_h S')).toInt → 1 ≤ (S'.2.2.1 3 (aw_h S' * 8 + u)).toInt) ∧ ((S.2.2.1 3 x).toInt.toNat : Int) = (S'.2.2.1 3 (aw_h S' * 8 + ((S'.2.2.1 1 (aw_h S')).toInt.toNat - 1))).toInt := by
  obtain ⟨⟨u1, u2, -⟩, -⟩ := hG.2.2.2.1.2.1 rfl
  have u1 : (S.2.2.1 1 (aw_h S)).toInt = ((aw_ul (aw_tT S) p (aw_tJ S)).length : Nat) := u1
  have ec : (S'.2.2.1 1 (aw_h S')).toInt = (S.2.2.1 1 (aw_h S)).toInt + 1 := by
    rw [eh, e1]
    unfold upd
    rw [if_pos rfl]
    exact hc
  have v1 := aw_vm_1 (f := aw_tF S) (T := aw_tT S) (i := p)
  refine ⟨by omega, fun u hu => ?_, ?_⟩
  · rw [eh, e3]
    by_cases q : u < (aw_ul (aw_tT S) p (aw_tJ S)).length
    · obtain ⟨i, hi⟩ : ∃ i, (aw_ul (aw_tT S) p (aw_tJ S))[u]? = some i := ⟨_, List.getElem?_eq_getElem q⟩
      have e := (u2 u i hi).2
      have e : (S.2.2.1 3 (aw_h S * 8 + u)).toInt = (aw_vm (aw_tF S) (aw_tT S) i : Nat) := e
      have v2 := aw_vm_1 (f := aw_tF S) (T := aw_tT S) (i := i)
      omega
    · rw [show aw_h S * 8 + u = x by omega]
      omega
  · rw [ec, eh, e3, show aw_h S * 8 + (((S.2.2.1 1 (aw_h S)).toInt + 1).toNat - 1) = x by omega]
    omega
/-- the UNKNOWN is there -/
theorem aw_G_uu {x : Nat} {N : Int64} {c1 W' : Int32} (hG : aw_G (nm, false, la, 0, p, 0) S) (h0 : aw_hh S ≤ 1) (hp : p ≠ 0) (fr : aw_fr [] [1, 2, 5, 6, 12, 19] S S')
  (e2 : S'.2.2.2 2 = vp_updL (S.2.2.2 2) x N) (e1 : S'.2.2.1 1 = upd (S.2.2.1 1) (aw_h S) c1) (e5 : S'.2.2.1 5 = upd (S.2.2.1 5) (aw_h S) W')
  (e12 : ∀ i, i < aw_h S * 640 ∨ (aw_h S * 20 + 20) * 32 ≤ i → S'.2.2.1 12 i = S.2.2.1 12 i)
  (hx : (x : Int) = aw_h S * 8 + (S.2.2.1 1 (aw_h S)).toInt) (hc : c1.toInt = (S.2.2.1 1 (aw_h S)).toInt + 1)
  (hn : N = aw_nm (aw_tF S) (aw_tT S) (p + 1)) (hm : (S.2.2.1 3 x).toInt = aw_vm (aw_tF S) (aw_tT S) p)
  (hW : W'.toInt = if 1024 < (S.2.2.1 5 (aw_h S)).toInt * (S.2.2.1 3 x).toInt then 1024 else (S.2.2.1 5 (aw_h S)).toInt * (S.2.2.1 3 x).toInt)
  (hb : (S.1 32).toInt = 0 → 1024 < (S.2.2.1 5 (aw_h S)).toInt * (S.2.2.1 3 x).toInt → (S.1 24).toInt ≠ 0)
  (b5 : (S.2.2.1 5 (aw_hh S)).toInt ≤ 1024) (b10 : (S.2.2.1 10 (aw_hh S)).toInt ≤ 20)
  (hh : (S.1 32).toInt = 1 → aw_hold S' (aw_h S)) : aw_G (nm, false, la, 0, 0, 0) S' := by
  obtain ⟨GA, GB, GC, GD, ge1, ge2, ge3, ge4, ge5, ge6⟩ := hG
  have f : ∀ k, S'.1 k = S.1 k := fun k => (fr.1 k List.not_mem_nil).1
  have eT : aw_tT S' = aw_tT S := aw_fr_tT fr (by decide) (by decide)
  have eF : aw_tF S' = aw_tF S := (fr.2 21 (by decide)).1
  have eJ : aw_tJ S' = aw_tJ S := by unfold aw_tJ; rw [f]
  have eN : aw_tN S' = aw_tN S := by unfold aw_tN; rw [f]
  have eh : aw_h S' = aw_h S := by unfold aw_h; rw [f]
  have ehh : aw_hh S' = aw_hh S := by unfold aw_hh; rw [f]
  obtain ⟨v1, v2, v3, v4⟩ := ge6 rfl
  have v1 : aw_h S = 1 - aw_hh S := v1
  obtain ⟨g1, g2, g3⟩ := GD.2.2.1 hp
  have g2 : p < aw_tJ S := g2
  have ef : aw_ul (aw_tT S) 0 (aw_tJ S) = aw_ul (aw_tT S) p (aw_tJ S) ++ [p] := aw_ul_fill (p := p) (by omega) g1 g2 g3
  obtain ⟨⟨u1, u2, u3⟩, t1, t2⟩ := GD.2.1 rfl
  have u1 : (S.2.2.1 1 (aw_h S)).toInt = ((aw_ul (aw_tT S) p (aw_tJ S)).length : Nat) := u1
  have u3 : (S.2.2.1 5 (aw_h S)).toInt = (aw_wc ((aw_ul (aw_tT S) p (aw_tJ S)).map (aw_vm (aw_tF S) (aw_tT S))) : Nat) := u3
  have ep : (S.2.2.1 5 (aw_h S)).toInt * (S.2.2.1 3 x).toInt = ((aw_wc ((aw_ul (aw_tT S) p (aw_tJ S)).map (aw_vm (aw_tF S) (aw_tT S))) * aw_vm (aw_tF S) (aw_tT S) p : Nat) : Int) := by rw [u3, hm, Int.natCast_mul]
  rw [ep] at hW hb
  refine ⟨⟨?_, ?_, ?_⟩, ?_, ?_, ⟨fun z => absurd z Bool.false_ne_true, fun _ => ⟨⟨?_, ?_, ?_⟩, ?_, ?_⟩, fun z => absurd rfl z, fun z => absurd rfl z⟩, ?_, ?_, ?_, ?_, fun z => absurd z Bool.false_ne_true, fun _ => ⟨?_, ?_, ?_, ?_⟩⟩
  · rw [eJ]; exact GA.1
  · rw [eT, eJ]
    obtain ⟨k1, k2, k3, k4⟩ := GA.2.1
    exact ⟨by rw [f]; exact k1, by rw [f]; exact k2, by rw [f]; exact k3, by rw [f]; exact k4⟩
  · rw [eT, eJ, eN]; exact GA.2.2
  · intro z
    rw [f] at z
    rcases GB z with q | ⟨q1, q2⟩
    · left; rw [f]; exact q
    · by_cases big : (1024 : Int) < ((aw_wc ((aw_ul (aw_tT S) p (aw_tJ S)).map (aw_vm (aw_tF S) (aw_tT S))) * aw_vm (aw_tF S) (aw_tT S) p : Nat) : Int)
      · left; rw [f]; exact hb z big
      · right
        refine ⟨fun q a b c => ?_, fun _ => ?_⟩
        · rw [eT, eF]
          rw [eJ] at b
          exact q1 q a b c
        · show aw_nc ((aw_ul (aw_tT S') 0 (aw_tJ S')).map (aw_vm (aw_tF S') (aw_tT S'))) 1
          rw [eT, eF, eJ, ef, List.map_append]
          exact aw_nc_wc.mpr ⟨q2 rfl, by omega⟩
  · intro z
    rw [f] at z
    obtain ⟨c1, c2, c3, c4⟩ := GC z
    exact ⟨by rw [eJ]; exact c1, by rw [eT]; exact c2, by rw [eT, eF]; exact c3, fun _ => by rw [eT, eF]; exact c4 rfl⟩
  · show (S'.2.2.1 1 (aw_h S')).toInt = ((aw_ul (aw_tT S') 0 (aw_tJ S')).length : Nat)
    rw [eh, e1, eT, eJ, ef, List.length_append]
    unfold upd
    rw [if_pos rfl]
    show c1.toInt = ((_ + 1 : Nat) : Int)
    omega
  · intro u i hi
    have hi : (aw_ul (aw_tT S') 0 (aw_tJ S'))[u]? = some i := hi
    rw [eT, eJ, ef] at hi
    rw [eh, eT, eF, e2, (fr.2 3 (by decide)).1]
    by_cases q : u < (aw_ul (aw_tT S) p (aw_tJ S)).length
    · rw [List.getElem?_append_left q] at hi
      unfold vp_updL
      rw [if_neg (by omega)]
      exact u2 u i hi
    · rw [List.getElem?_append_right (by omega)] at hi
      have e0 : u - (aw_ul (aw_tT S) p (aw_tJ S)).length = 0 := by
        have := (List.getElem?_eq_some_iff.mp hi).1
        simp at this
        omega
      rw [e0] at hi
      cases hi
      have e3 : aw_h S * 8 + u = x := by omega
      rw [e3]
      unfold vp_updL
      rw [if_pos rfl]
      exact ⟨hn, hm⟩
  · show (S'.2.2.1 5 (aw_h S')).toInt = (aw_wc ((aw_ul (aw_tT S') 0 (aw_tJ S')).map (aw_vm (aw_tF S') (aw_tT S'))) : Nat)
    rw [eh, e5, eT, eF, eJ, ef, List.map_append]
    unfold upd
    rw [if_pos rfl, hW]
    have e4 := aw_wc_app (l := (aw_ul (aw_tT S) p (aw_tJ S)).map (aw_vm (aw_tF S) (aw_tT S))) (v := aw_vm (aw_tF S) (aw_tT S) p)
    show _ = ((aw_wc ((aw_ul (aw_tT S) p (aw_tJ S)).map (aw_vm (aw_tF S) (aw_tT S)) ++ [aw_vm (aw_tF S) (aw_tT S) p]) : Nat) : Int)
    rw [e4]
    split <;> split <;> omega
  · rw [eh, (fr.2 7 (by decide)).1, eT, eJ]
    exact t1
  · rw [eh, eT, eJ, eF, (fr.2 8 (by decide)).2]
    exact t2
  · rw [(fr.2 17 (by decide)).1, (fr.2 18 (by decide)).1]
    exact ge1
  · rw [ehh]
    obtain ⟨w, w1, w2⟩ := ge2
    refine ⟨w, ?_, fun q hq => ?_⟩
    · rw [e5]
      unfold upd
      rw [if_neg (by omega)]
      exact w1
    · rw [(fr.2 10 (by decide)).1] at hq
      have y := w2 q hq
      rw [aw_bit_c (f := S.2.2.1 12) (by omega) (by omega) (fun i i1 i2 => e12 i (by omega))]
      exact y
  · rw [ehh, (fr.2 10 (by decide)).1, (fr.2 11 (by decide)).1]; exact ge3
  · rw [ehh, (fr.2 10 (by decide)).1, (fr.2 11 (by decide)).1]; exact ge4
  · rw [eh, ehh]; exact v1
  · rw [eh, (fr.2 11 (by decide)).1]; exact v2
  · intro z
    rw [f] at z
    exact ⟨by rw [eh]; exact hh z, by rw [eh, (fr.2 10 (by decide)).1, f]; exact (v3 z).2⟩
  · intro z
    rw [f] at z
    rw [eh, (fr.2 10 (by decide)).1]; exact v4 z
theorem ar_sign1 (hU : aw_U tb s h) (hT : ak_Ty ak_TN s (aj_mh h S)) (hG : aw_G g S) (hd : 5 ≤ d) {x : Int32} {c : Int} (hx : x.toInt = c) (hc : c ≠ 63) : aw_K tb h d 219 [.ref 117, .int x] S (ar_QB s h [24, 25, 26, 27, 28, 29, 30, 31] [] S (fun S' => aw_G g S' ∧ (S.1 30).toInt ≤ (S'.1 30).toInt) (fun S' => aw_G g S' ∧ (S'.1 30).toInt = (S.1 30).toInt + 1 ∧ (S.1 26).toInt = 3 ∧ (S.1 29).toInt = c ∧ aw_fr [26, 27, 28, 29, 30] [] S S')) := by
  obtain ⟨d, rfl⟩ : ∃ e, d = e + 1 := ⟨d - 1, by omega⟩
  have hs : aw_sT s := aw_hy_sT hU.2.2
  refine aw_m aj_m219_at rfl (Nat.le_of_ble_eq_true rfl) ?_
  show aw_W _ _ _ _ 0 [(0, .ref 117), (1, .int x)] [] _ _
  obtain ⟨lv1, elv1⟩ : ∃ l : aj_V, l = [(0, .ref 117), (1, .int x)] := ⟨_, rfl⟩
  rw [← elv1]
  have hlv1_0 : aj_lv lv1 0 = some (.ref 117) := by rw [elv1]; rfl
  have hlv1_1 : aj_lv lv1 1 = some (.int x) := by rw [elv1]; rfl
  have hI2 : aw_I s h (aw_sm S) S := ⟨hT, aw_sm_rf⟩
  have fr3 : aw_fr [24, 25, 26, 27, 28, 29, 30, 31] [] S S := aw_fr_rf
  refine aw_l2 aj_d219 rfl rfl hlv1_0 ?_
  refine aw_l0 aj_d219 rfl rfl hlv1_1 ?_
  refine aw_k hU.1 aj_d219 rfl rfl [_] rfl rfl rfl (Nat.le_of_ble_eq_true rfl) (ar_isSign hU (by omega) (b := c) hx) ?_
  have b6 : 0 ≤ (S.1 26).toInt ∧ (S.1 26).toInt ≤ 5 := aw_bd_f hs (hI2).1 (by decide) rfl
  rintro _ S5 ⟨eS5, b4, rfl, kb4⟩
  rw [eS5]
  rcases kb4 with ⟨hb4, pb4, qb4⟩ | ⟨hb4, pb4⟩
  · skip
    have pb4 : ((S.1 26)).toInt = 3 := pb4
    have qb4 : ((S.1 29)).toInt = c := qb4
    show aw_W _ _ _ _ 5 lv1 [.int b4] _ _
    refine aw_z (tgt := 15) aj_d219 rfl rfl (fun q7 => ?_) (fun q7 => ?_)
    · have q7 : (1 : Int) = (0 : Int) := aw_t_eq (a := (1 : Int)) (b := (0 : Int)) hb4 rfl q7
      exfalso
      omega
    · have q7 : (1 : Int) ≠ (0 : Int) := aw_t_eq (a := (1 : Int)) (b := (0 : Int)) hb4 rfl q7
      refine aw_l2 aj_d219 rfl rfl hlv1_0 ?_
      have b8 : 0 ≤ (S.1 30).toInt ∧ (S.1 30).toInt ≤ 1001 := aw_bd_f hs (hI2).1 (by decide) rfl
      refine aw_k hU.1 aj_d219 rfl rfl [] rfl rfl rfl (Nat.le_of_ble_eq_true rfl) (ar_pass hU (hI2).1 hG (by omega) (show ((S.1 26)).toInt ≠ 0 by omega) (show ¬ (((S.1 26)).toInt = 3 ∧ ((S.1 29)).toInt = 63) by omega) (show ((S.1 26)).toInt = 4 → ((S.1 29)).toInt = 3 ∨ 6 ≤ ((S.1 29)).toInt by omega)) ?_
      rintro _ S9 ⟨hT9, fc9, ⟨b9, rfl, hb9, hG9, fd9, hz9⟩ | ⟨b9, rfl, hb9, hG9, ck9, fd9, cj9⟩⟩
      · skip
        have fr10 := aw_fr_tr fr3 (aw_fr_sub (F := [24, 25, 31]) (A := []) (by decide) (by decide) fd9)
        have hI11 : aw_I s h (aw_sm S9) S9 := ⟨hT9, aw_sm_rf⟩
        show aw_W _ _ _ _ 12 lv1 [.int b9] _ _
        refine aw_n aj_d219 rfl rfl ?_
        refine aw_e aj_d219 rfl (cw_irb rfl (by omega)) ?_
        have c12 : (S9.1 30).toInt = (S.1 30).toInt := (congrArg Int32.toInt (fd9.1 30 (by decide)).1).trans rfl
        have b13 : 0 ≤ (S9.1 30).toInt ∧ (S9.1 30).toInt ≤ 1001 := aw_bd_f hs (hI11).1 (by decide) rfl
        exact ⟨(hI11).1, fr10, Or.inl ⟨_, rfl, hb9, hG9, (show _ ≤ ((S9.1 30)).toInt by omega)⟩⟩
      · skip
        have cj9 : (S9.1 30).toInt = ((S.1 30)).toInt + 1 := cj9
        have fr14 := aw_fr_tr fr3 (aw_fr_sub (F := [26, 27, 28, 29, 30]) (A := []) (by decide) (by decide) fd9)
        have fl15 := aw_fr_tr (aw_fr_rf : aw_fr [26, 27, 28, 29, 30] [] S S) (aw_fr_sub (F := [26, 27, 28, 29, 30]) (A := []) (by decide) (by decide) fd9)
        have hI16 : aw_I s h (aw_sm S9) S9 := ⟨hT9, aw_sm_rf⟩
        show aw_W _ _ _ _ 12 lv1 [.int b9] _ _
        refine aw_n aj_d219 rfl rfl ?_
        refine aw_e aj_d219 rfl (cw_irb rfl (by omega)) ?_
        have b17 : 0 ≤ (S9.1 30).toInt ∧ (S9.1 30).toInt ≤ 1001 := aw_bd_f hs (hI16).1 (by decide) rfl
        exact ⟨(hI16).1, fr14, Or.inr ⟨_, rfl, hb9, hG9, (show ((S9.1 30)).toInt = _ by omega), by omega, by omega, fl15⟩⟩
  · skip
    clear pb4
    show aw_W _ _ _ _ 5 lv1 [.int b4] _ _
    refine aw_z (tgt := 15) aj_d219 rfl rfl (fun q18 => ?_) (fun q18 => ?_)
    · have q18 : (0 : Int) = (0 : Int) := aw_t_eq (a := (0 : Int)) (b := (0 : Int)) hb4 rfl q18
      refine aw_l2 aj_d219 rfl rfl hlv1_0 ?_
      refine aw_n aj_d219 rfl rfl ?_
      refine aw_l2 aj_d219 rfl rfl hlv1_0 ?_
      have b19 : 0 ≤ (S.1 27).toInt ∧ (S.1 27).toInt ≤ 4000 := aw_bd_f hs (hI2).1 (by decide) rfl
      refine aw_g hU.1 aj_d219 rfl rfl (by decide) (v := .int (S.1 27)) rfl ?_
      refine aw_k hU.1 aj_d219 rfl rfl [_, _] rfl rfl rfl (Nat.le_of_ble_eq_true rfl) (ar_stop hU (hI2).1 (by omega) (a := (1 : Int)) rfl) ?_
      rintro _ S20 ⟨hT20, fc20, rfl, hz20⟩
      have hG20 := aw_G_stop hG fc20 (by omega)
      have fr21 := aw_fr_tr fr3 (aw_fr_sub (F := [24, 25, 31]) (A := []) (by decide) (by decide) fc20)
      have hI22 : aw_I s h (aw_sm S20) S20 := ⟨hT20, aw_sm_rf⟩
      show aw_W _ _ _ _ 24 lv1 [.int (Int32.ofInt 0)] _ _
      refine aw_e aj_d219 rfl rfl ?_
      have b23 : 0 ≤ (S.1 30).toInt ∧ (S.1 30).toInt ≤ 1001 := aw_bd_f hs (hI2).1 (by decide) rfl
      have c24 : (S20.1 30).toInt = (S.1 30).toInt := (congrArg Int32.toInt (fc20.1 30 (by decide)).1).trans rfl
      have b25 : 0 ≤ (S20.1 30).toInt ∧ (S20.1 30).toInt ≤ 1001 := aw_bd_f hs (hI22).1 (by decide) rfl
      exact ⟨(hI22).1, fr21, Or.inl ⟨_, rfl, rfl, hG20, (show _ ≤ ((S20.1 30)).toInt by omega)⟩⟩
    · have q18 : (0 : Int) ≠ (0 : Int) := aw_t_eq (a := (0 : Int)) (b := (0 : Int)) hb4 rfl q18
      exfalso
      omega
theorem ar_unk_L164_110 (hU : aw_U tb s h) (hd : 9 ≤ d + 1) (j1 : 1 ≤ aw_tJ S) (eJ0 : (aw_tJ S : Int) = (S.1 30).toInt) (S64 : aj_S) (S102 : aj_S) : ∀ (S112 : aj_S) (lv113 : aj_V) (x114 : Int32) (y115 : Int64), (aj_lv lv113 0 = some (.ref 117)) → (aj_lv lv113 1 = some (.int x114)) → (aj_lv lv113 2 = some (.long y115)) → (aw_I s h (aw_G (nm, false, la, 0, aw_tJ S, 0)) S112) → (aw_fr [24, 25, 26, 27, 28, 29, 30, 31, 33, 34, 35, 36] [1, 2, 3, 4, 5, 6, 12, 19] S S112) → (0 ≤ x114.toInt ∧ x114.toInt ≤ 15) → (x114.toInt = (aw_h S112 : Int) * 8 + (S112.2.2.1 1 (aw_h S112)).toInt) → ((S112.2.2.1 1 (aw_h S112)).toInt ≤ 7) → (y115 = aw_nm (aw_tF S) (aw_tT S) (aw_tJ S + 1)) → ((S112.2.2.1 3 (x114.toInt).toNat).toInt = aw_vm (aw_tF S) (aw_tT S) (aw_tJ S)) → ((S.1 30).toInt + 1 ≤ (S112.1 30).toInt) → aw_W tb h d aj_m213 164 lv113 [] S112 ((ar_QB s h [24, 25, 26, 27, 28, 29, 30, 31, 33, 34, 35, 36] [1, 2, 3, 4, 5, 6, 12, 19] S aw_B (fun S' => aw_G (nm, false, la, 0, 0, 0) S' ∧ (S.1 30).toInt + 1 ≤ (S'.1 30).toInt))) := by
  have hs : aw_sT s := aw_hy_sT hU.2.2
  intro S112 lv113 x114 y115 hlv113_0 hlv113_1 hlv113_2 hI116 fr117 bx114 x164 c164 n164 m164 ck164
  have hI118 : aw_I s h (aw_sm S112) S112 := ⟨hI116.1, aw_sm_rf⟩
  have b119 : 0 ≤ (S112.1 30).toInt ∧ (S112.1 30).toInt ≤ 1001 := aw_bd_f hs (hI118).1 (by decide) rfl
  have b120 : 0 ≤ (S112.1 37).toInt ∧ (S112.1 37).toInt ≤ 1 := aw_bd_f hs (hI118).1 (by decide) rfl
  have eT164 : aw_tT S112 = aw_tT S := aw_fr_tT fr117 (by decide) (by decide)
  have eF164 : aw_tF S112 = aw_tF S := (fr117.2 21 (by decide)).1
  refine aw_l2 aj_d213 rfl rfl hlv113_0 ?_
  refine aw_g hU.1 aj_d213 rfl rfl (by decide) (v := .ref 122) rfl ?_
  refine aw_l2 aj_d213 rfl rfl hlv113_0 ?_
  refine aw_g hU.1 aj_d213 rfl rfl (by decide) (v := .int (S112.1 37)) rfl ?_
  refine aw_ld (k := 5) hU.1 aj_d213 (Or.inl ⟨rfl, rfl⟩) rfl (by decide) (by decide) rfl (a := (S112.1 37).toInt) rfl (by omega) (by omega) (fun x121 ex121 => ?_)
  have bx121 : 0 ≤ x121.toInt ∧ x121.toInt ≤ 1024 := by
    rw [ex121]
    exact aw_bd_a hs (hI118).1 (k := 5) (by decide) (by decide) rfl (by decide) rfl (by omega)
  have y5 : x121.toInt = (S112.2.2.1 5 (aw_h S112)).toInt := congrArg Int32.toInt ex121
  refine aw_l2 aj_d213 rfl rfl hlv113_0 ?_
  refine aw_g hU.1 aj_d213 rfl rfl (by decide) (v := .ref 120) rfl ?_
  refine aw_l0 aj_d213 rfl rfl hlv113_1 ?_
  refine aw_ld (k := 3) hU.1 aj_d213 (Or.inl ⟨rfl, rfl⟩) rfl (by decide) (by decide) rfl (a := x114.toInt) rfl (by omega) (by omega) (fun x122 ex122 => ?_)
  have bx122 : 0 ≤ x122.toInt ∧ x122.toInt ≤ 64 := by
    rw [ex122]
    exact aw_bd_a hs (hI118).1 (k := 3) (by decide) (by decide) rfl (by decide) rfl (by omega)
  have y3 : x122.toInt = (S112.2.2.1 3 (x114.toInt).toNat).toInt := congrArg Int32.toInt ex122
  have pb := ar_pb (a := x121.toInt) (b := x122.toInt) (by omega) (by omega)
  refine aw_mul aj_d213 rfl (a := x121.toInt) (b := x122.toInt) rfl rfl (by omega) (by omega) (fun x123 ex123 => ?_)
  have ea : x123.toInt = (S112.2.2.1 5 (aw_h S112)).toInt * (S112.2.2.1 3 (x114.toInt).toNat).toInt := by rw [ex123, y5, y3]
  refine aw_t0 (j := 5) aj_d213 rfl (by decide) rfl ?_
  obtain ⟨lv124, elv124⟩ : ∃ l, l = aj_set1 lv113 5 (.int x123) := ⟨_, rfl⟩
  rw [← elv124]
  have hlv124_0 : aj_lv lv124 0 = some (.ref 117) := cw_e1 elv124 hlv113_0 (by decide) (Or.inl (by decide))
  have hlv124_1 : aj_lv lv124 1 = some (.int x114) := cw_e1 elv124 hlv113_1 (by decide) (Or.inl (by decide))
  have hlv124_2 : aj_lv lv124 2 = some (.long y115) := cw_e1 elv124 hlv113_2 (by decide) (Or.inl (by decide))
  have hlv124_5 : aj_lv lv124 5 = some (.int x123) := by rw [elv124]; exact ak_set1_eq _ _ _
  show aw_W _ _ _ _ 182 lv124 [] _ _
  refine aw_l2 aj_d213 rfl rfl hlv124_0 ?_
  refine aw_n aj_d213 rfl rfl ?_
  refine aw_k hU.1 aj_d213 rfl rfl [_] rfl rfl rfl (Nat.le_of_ble_eq_true rfl) (ar_isSign hU (by omega) (b := (59 : Int)) rfl) ?_
  have b127 : 0 ≤ (S112.1 26).toInt ∧ (S112.1 26).toInt ≤ 5 := aw_bd_f hs (hI118).1 (by decide) rfl
  rintro _ S126 ⟨eS126, b125, rfl, kb125⟩
  rw [eS126]
  rcases kb125 with ⟨hb125, pb125, qb125⟩ | ⟨hb125, pb125⟩
  · skip
    have pb125 : ((S112.1 26)).toInt = 3 := pb125
    have qb125 : ((S112.1 29)).toInt = (59 : Int) := qb125
    show aw_W _ _ _ _ 188 lv124 [.int b125] _ _
    refine aw_z (tgt := 208) aj_d213 rfl rfl (fun q128 => ?_) (fun q128 => ?_)
    · have q128 : (1 : Int) = (0 : Int) := aw_t_eq (a := (1 : Int)) (b := (0 : Int)) hb125 rfl q128
      exfalso
      omega
    · have q128 : (1 : Int) ≠ (0 : Int) := aw_t_eq (a := (1 : Int)) (b := (0 : Int)) hb125 rfl q128
      refine aw_l0 aj_d213 rfl rfl hlv124_5 ?_
      refine aw_n aj_d213 rfl rfl ?_
      refine aw_c (tgt := 208) aj_d213 rfl rfl (fun q129 => ?_) (fun q129 => ?_)
      · have q129 : x123.toInt ≤ (1024 : Int) := aw_t_le (a := x123.toInt) (b := (1024 : Int)) rfl rfl q129
        refine aw_l2 aj_d213 rfl rfl hlv124_0 ?_
        refine aw_n aj_d213 rfl rfl ?_
        refine aw_k hU.1 aj_d213 rfl rfl [_] rfl rfl rfl (Nat.le_of_ble_eq_true rfl) (ar_sign1 hU (hI118).1 hI116.2 (by omega) (x := (Int8.ofInt 59).toInt32) (c := 59) rfl (by decide)) ?_
        rintro _ S130 ⟨hT130, fc130, ⟨b130, rfl, hb130, hG130, ck130⟩ | ⟨b130, rfl, hb130, hG130, cj130, p3130, p9130, fd130⟩⟩
        · skip
          have ck130 : ((S112.1 30)).toInt ≤ (S130.1 30).toInt := ck130
          have fr131 := aw_fr_tr fr117 (aw_fr_sub (F := [24, 25, 26, 27, 28, 29, 30, 31]) (A := []) (by decide) (by decide) fc130)
          have fl132 := aw_fr_tr (aw_fr_rf : aw_fr [24, 25, 26, 27, 28, 29, 30, 31] [] S112 S112) (aw_fr_sub (F := [24, 25, 26, 27, 28, 29, 30, 31]) (A := []) (by decide) (by decide) fc130)
          have hI133 : aw_I s h (aw_sm S130) S130 := ⟨hT130, aw_sm_rf⟩
          show aw_W _ _ _ _ 214 lv124 [.int b130] _ _
          refine aw_z (tgt := 219) aj_d213 rfl rfl (fun q134 => ?_) (fun q134 => ?_)
          · have q134 : (0 : Int) ≠ (0 : Int) := aw_t_ne (a := (0 : Int)) (b := (0 : Int)) hb130 rfl q134
            exfalso
            omega
          · have q134 : (0 : Int) = (0 : Int) := aw_t_ne (a := (0 : Int)) (b := (0 : Int)) hb130 rfl q134
            refine aw_n aj_d213 rfl rfl ?_
            refine aw_e aj_d213 rfl rfl ?_
            exact ⟨(hI133).1, fr131, Or.inl ⟨_, rfl, rfl, aw_G_B hG130⟩⟩
        · skip
          have cj130 : (S130.1 30).toInt = ((S112.1 30)).toInt + 1 := cj130
          have p3130 : ((S112.1 26)).toInt = 3 := p3130
          have p9130 : ((S112.1 29)).toInt = 59 := p9130
          have fr135 := aw_fr_tr fr117 (aw_fr_sub (F := [26, 27, 28, 29, 30]) (A := []) (by decide) (by decide) fd130)
          have fl136 := aw_fr_tr (aw_fr_rf : aw_fr [24, 25, 26, 27, 28, 29, 30, 31] [] S112 S112) (aw_fr_sub (F := [26, 27, 28, 29, 30]) (A := []) (by decide) (by decide) fd130)
          have hI137 : aw_I s h (aw_sm S130) S130 := ⟨hT130, aw_sm_rf⟩
          show aw_W _ _ _ _ 214 lv124 [.int b130] _ _
          refine aw_z (tgt := 219) aj_d213 rfl rfl (fun q138 => ?_) (fun q138 => ?_)
          · have q138 : (1 : Int) ≠ (0 : Int) := aw_t_ne (a := (1 : Int)) (b := (0 : Int)) hb130 rfl q138
            have b139 : 0 ≤ (S112.1 0).toInt ∧ (S112.1 0).toInt ≤ 1 := aw_bd_f hs (hI118).1 (by decide) rfl
            have c140 : (S130.1 0).toInt = (S112.1 0).toInt := (congrArg Int32.toInt (fd130.1 0 (by decide)).1).trans rfl
            have b141 : 0 ≤ (S130.1 0).toInt ∧ (S130.1 0).toInt ≤ 1 := aw_bd_f hs (hI137).1 (by decide) rfl
            have c142 : (S130.1 24).toInt = (S112.1 24).toInt := (congrArg Int32.toInt (fd130.1 24 (by decide)).1).trans rfl
            have b143 : 0 ≤ (S130.1 30).toInt ∧ (S130.1 30).toInt ≤ 1001 := aw_bd_f hs (hI137).1 (by decide) rfl
            have b144 : 0 ≤ (S112.1 32).toInt ∧ (S112.1 32).toInt ≤ 1 := aw_bd_f hs (hI118).1 (by decide) rfl
            have c145 : (S130.1 32).toInt = (S112.1 32).toInt := (congrArg Int32.toInt (fd130.1 32 (by decide)).1).trans rfl
            have b146 : 0 ≤ (S130.1 32).toInt ∧ (S130.1 32).toInt ≤ 1 := aw_bd_f hs (hI137).1 (by decide) rfl
            have c147 : (S130.1 37).toInt = (S112.1 37).toInt := (congrArg Int32.toInt (fd130.1 37 (by decide)).1).trans rfl
            have b148 : 0 ≤ (S130.1 37).toInt ∧ (S130.1 37).toInt ≤ 1 := aw_bd_f hs (hI137).1 (by decide) rfl
            have fl9 : aw_fr [24, 25, 26, 27, 28, 29, 30, 31] [] S112 S130 := fl136
            have eh9 : aw_h S130 = aw_h S112 := by unfold aw_h; rw [(fl9.1 37 (by decide)).1]
            have e19 : S130.2.2.1 1 = S112.2.2.1 1 := (fl9.2 1 (by decide)).1
            have e39 : S130.2.2.1 3 = S112.2.2.1 3 := (fl9.2 3 (by decide)).1
            have e59 : S130.2.2.1 5 = S112.2.2.1 5 := (fl9.2 5 (by decide)).1
            have eT9 : aw_tT S130 = aw_tT S := (aw_fr_tT fl9 (by decide) (by decide)).trans eT164
            have eF9 : aw_tF S130 = aw_tF S := ((fl9.2 21 (by decide)).1).trans eF164
            have hx9 : (((x114.toInt).toNat : Nat) : Int) = aw_h S130 * 8 + (S130.2.2.1 1 (aw_h S130)).toInt := by rw [eh9, e19]; omega
            have hm9 : (S130.2.2.1 3 (x114.toInt).toNat).toInt = aw_vm (aw_tF S130) (aw_tT S130) (aw_tJ S) := by rw [e39, eT9, eF9]; exact m164
            have ea9 : x123.toInt = (S130.2.2.1 5 (aw_h S130)).toInt * (S130.2.2.1 3 (x114.toInt).toNat).toInt := by rw [e59, e39, eh9]; exact ea
            have hb9 : (S130.1 32).toInt = 0 → 1024 < (S130.2.2.1 5 (aw_h S130)).toInt * (S130.2.2.1 3 (x114.toInt).toNat).toInt → (S130.1 24).toInt ≠ 0 := by
              intro z1 z2
              rw [← ea9] at z2
              omega
            have l0 : aw_hh S130 ≤ 1 := by
              have b0 := aw_bd_f hs hI137.1 (k := 0) (lo := 0) (hi := 1) (by decide) rfl
              unfold aw_hh
              omega
            have l1 : aw_h S130 ≤ 1 := by
              have b0 := aw_bd_f hs hI137.1 (k := 37) (lo := 0) (hi := 1) (by decide) rfl
              unfold aw_h
              omega
            have b59 : ∀ t, t ≤ 1 → 0 ≤ (S130.2.2.1 5 t).toInt ∧ (S130.2.2.1 5 t).toInt ≤ 1024 := fun t ht => aw_bd_a hs hI137.1 (k := 5) (j := t) (by decide) (by decide) rfl (by decide) rfl (by omega)
            have b109 : ∀ t, t ≤ 1 → 0 ≤ (S130.2.2.1 10 t).toInt ∧ (S130.2.2.1 10 t).toInt ≤ 20 := fun t ht => aw_bd_a hs hI137.1 (k := 10) (j := t) (by decide) (by decide) rfl (by decide) rfl (by omega)
            have v1 := aw_vm_1 (f := aw_tF S130) (T := aw_tT S130) (i := aw_tJ S)
            refine aw_l2 aj_d213 rfl rfl hlv124_0 ?_
            refine aw_g hU.1 aj_d213 rfl rfl (by decide) (v := .ref 119) rfl ?_
            refine aw_l0 aj_d213 rfl rfl hlv124_1 ?_
            refine aw_l1 aj_d213 rfl rfl hlv124_2 ?_
            refine aw_stl (k := 2) hU.1 aj_d213 rfl (by decide) (by decide) rfl (a := x114.toInt) rfl (by omega) (by omega) ?_
            have hI149 : aw_I s h (aw_sm (aw_wb S130 2 (x114.toInt).toNat y115)) (aw_wb S130 2 (x114.toInt).toNat y115) := ⟨aw_T_b hU.2.1 hs hU.1.1 (hI137).1 (by decide) (by decide) rfl rfl, aw_sm_rf⟩
            have fr150 := aw_fr_b (k := 2) (j := (x114.toInt).toNat) (v := y115) (by decide) fr135
            have fl151 := aw_fr_b (k := 2) (j := (x114.toInt).toNat) (v := y115) (by decide) (aw_fr_rf : aw_fr [] [1, 2, 5, 6, 12, 19] S130 S130)
            refine aw_l2 aj_d213 rfl rfl hlv124_0 ?_
            refine aw_g hU.1 aj_d213 rfl rfl (by decide) (v := .ref 118) rfl ?_
            refine aw_l2 aj_d213 rfl rfl hlv124_0 ?_
            refine aw_g hU.1 aj_d213 rfl rfl (by decide) (v := .int (S130.1 37)) rfl ?_
            refine aw_n aj_d213 rfl rfl ?_
            refine aw_ld (k := 1) hU.1 aj_d213 (Or.inl ⟨rfl, rfl⟩) rfl (by decide) (by decide) rfl (a := (S112.1 37).toInt) c147 (by omega) (by omega) (fun x152 ex152 => ?_)
            have bx152 : 0 ≤ x152.toInt ∧ x152.toInt ≤ 8 := by
              rw [ex152]
              exact aw_bd_a hs (hI149).1 (k := 1) (by decide) (by decide) rfl (by decide) rfl (by omega)
            have y19 : x152.toInt = (S130.2.2.1 1 (aw_h S130)).toInt := (congrArg Int32.toInt ex152).trans (congrArg (fun j => (S130.2.2.1 1 j).toInt) (by show _ = (((S130.1 37)).toInt).toNat; omega))
            refine aw_n aj_d213 rfl rfl ?_
            refine aw_add aj_d213 rfl (a := x152.toInt) (b := (1 : Int)) rfl rfl (by omega) (by omega) (fun x153 ex153 => ?_)
            refine aw_st (k := 1) hU.1 aj_d213 (Or.inl ⟨rfl, rfl⟩) rfl (by decide) (by decide) rfl (a := (S112.1 37).toInt) c147 (by omega) (by omega) ?_
            have hI154 : aw_I s h (aw_sm (aw_wa (aw_wb S130 2 (x114.toInt).toNat y115) 1 ((S112.1 37).toInt).toNat (aj_nar 0 x153))) (aw_wa (aw_wb S130 2 (x114.toInt).toNat y115) 1 ((S112.1 37).toInt).toNat (aj_nar 0 x153)) := ⟨aw_T_a hU.2.1 hs hU.1.1 (hI149).1 (by decide) (by decide) rfl (by decide) (by decide) rfl (aw_bp (a := x153.toInt) rfl (by omega) (by omega)), aw_sm_rf⟩
            have fr155 := aw_fr_a (k := 1) (j := ((S112.1 37).toInt).toNat) (v := aj_nar 0 x153) (by decide) fr150
            have fl156 := aw_fr_a (k := 1) (j := ((S112.1 37).toInt).toNat) (v := aj_nar 0 x153) (by decide) fl151
            refine aw_l2 aj_d213 rfl rfl hlv124_0 ?_
            refine aw_g hU.1 aj_d213 rfl rfl (by decide) (v := .ref 122) rfl ?_
            refine aw_l2 aj_d213 rfl rfl hlv124_0 ?_
            refine aw_g hU.1 aj_d213 rfl rfl (by decide) (v := .int (S130.1 37)) rfl ?_
            refine aw_l0 aj_d213 rfl rfl hlv124_5 ?_
            refine aw_n aj_d213 rfl rfl ?_
            refine aw_c (tgt := 261) aj_d213 rfl rfl (fun q157 => ?_) (fun q157 => ?_)
            · have q157 : x123.toInt ≤ (1024 : Int) := aw_t_le (a := x123.toInt) (b := (1024 : Int)) rfl rfl q157
              refine aw_l0 aj_d213 rfl rfl hlv124_5 ?_
              refine aw_st (k := 5) hU.1 aj_d213 (Or.inl ⟨rfl, rfl⟩) rfl (by decide) (by decide) rfl (a := (S112.1 37).toInt) c147 (by omega) (by omega) ?_
              have hI158 : aw_I s h (aw_sm (aw_wa (aw_wa (aw_wb S130 2 (x114.toInt).toNat y115) 1 ((S112.1 37).toInt).toNat (aj_nar 0 x153)) 5 ((S112.1 37).toInt).toNat (aj_nar 0 x123))) (aw_wa (aw_wa (aw_wb S130 2 (x114.toInt).toNat y115) 1 ((S112.1 37).toInt).toNat (aj_nar 0 x153)) 5 ((S112.1 37).toInt).toNat (aj_nar 0 x123)) := ⟨aw_T_a hU.2.1 hs hU.1.1 (hI154).1 (by decide) (by decide) rfl (by decide) (by decide) rfl (aw_bp (a := x123.toInt) rfl (by omega) (by omega)), aw_sm_rf⟩
              have fr159 := aw_fr_a (k := 5) (j := ((S112.1 37).toInt).toNat) (v := aj_nar 0 x123) (by decide) fr155
              have fl160 := aw_fr_a (k := 5) (j := ((S112.1 37).toInt).toNat) (v := aj_nar 0 x123) (by decide) fl156
              have hj1 : ((S112.1 37).toInt).toNat = aw_h S130 := by
                show _ = (((S130.1 37)).toInt).toNat
                omega
              have hj5 : ((S112.1 37).toInt).toNat = aw_h S130 := by
                show _ = (((S130.1 37)).toInt).toNat
                omega
              have u2 : ((aw_wa (aw_wa (aw_wb S130 2 (x114.toInt).toNat y115) 1 ((S112.1 37).toInt).toNat (aj_nar 0 x153)) 5 ((S112.1 37).toInt).toNat (aj_nar 0 x123))).2.2.2 2 = vp_updL (S130.2.2.2 2) (x114.toInt).toNat y115 := rfl
              have u1 : ((aw_wa (aw_wa (aw_wb S130 2 (x114.toInt).toNat y115) 1 ((S112.1 37).toInt).toNat (aj_nar 0 x153)) 5 ((S112.1 37).toInt).toNat (aj_nar 0 x123))).2.2.1 1 = upd (S130.2.2.1 1) (aw_h S130) (aj_nar 0 x153) := congrArg (fun j => upd (S130.2.2.1 1) j (aj_nar 0 x153)) hj1
              have u5 : ((aw_wa (aw_wa (aw_wb S130 2 (x114.toInt).toNat y115) 1 ((S112.1 37).toInt).toNat (aj_nar 0 x153)) 5 ((S112.1 37).toInt).toNat (aj_nar 0 x123))).2.2.1 5 = upd (S130.2.2.1 5) (aw_h S130) (aj_nar 0 x123) := congrArg (fun j => upd (S130.2.2.1 5) j (aj_nar 0 x123)) hj5
              have hc1 : (aj_nar 0 x153).toInt = (S130.2.2.1 1 (aw_h S130)).toInt + 1 := by
                show (x153).toInt = _
                rw [ex153]
                omega
              have hW5 : (aj_nar 0 x123).toInt = if 1024 < (S130.2.2.1 5 (aw_h S130)).toInt * (S130.2.2.1 3 (x114.toInt).toNat).toInt then 1024 else (S130.2.2.1 5 (aw_h S130)).toInt * (S130.2.2.1 3 (x114.toInt).toNat).toInt := by
                show (x123).toInt = _
                rw [← ea9]
                rw [if_neg (by omega)]
              have hn9 : y115 = aw_nm (aw_tF S130) (aw_tT S130) (aw_tJ S + 1) := by rw [eT9, eF9]; exact n164
              have fr9 : aw_fr [] [1, 2, 5, 6, 12, 19] S130 ((aw_wa (aw_wa (aw_wb S130 2 (x114.toInt).toNat y115) 1 ((S112.1 37).toInt).toNat (aj_nar 0 x153)) 5 ((S112.1 37).toInt).toNat (aj_nar 0 x123))) := fl160
              refine aw_l2 aj_d213 rfl rfl hlv124_0 ?_
              refine aw_g hU.1 aj_d213 rfl rfl (by decide) (v := .int (S130.1 32)) rfl ?_
              refine aw_z (tgt := 275) aj_d213 rfl rfl (fun q161 => ?_) (fun q161 => ?_)
              · have q161 : (S112.1 32).toInt = (0 : Int) := aw_t_eq (a := (S112.1 32).toInt) (b := (0 : Int)) c145 rfl q161
                have hGf : aw_G (nm, false, la, 0, 0, 0) ((aw_wa (aw_wa (aw_wb S130 2 (x114.toInt).toNat y115) 1 ((S112.1 37).toInt).toNat (aj_nar 0 x153)) 5 ((S112.1 37).toInt).toNat (aj_nar 0 x123))) := aw_G_uu hG130 l0 (by omega) fr9 u2 u1 u5 (fun _ _ => rfl) hx9 hc1 hn9 hm9 hW5 hb9 (b59 _ l0).2 (b109 _ l0).2 (fun z => absurd (show ((S130.1 32)).toInt = 1 from z) (by omega))
                have hI162 : aw_I s h (aw_sm (aw_wa (aw_wa (aw_wb S130 2 (x114.toInt).toNat y115) 1 ((S112.1 37).toInt).toNat (aj_nar 0 x153)) 5 ((S112.1 37).toInt).toNat (aj_nar 0 x123))) (aw_wa (aw_wa (aw_wb S130 2 (x114.toInt).toNat y115) 1 ((S112.1 37).toInt).toNat (aj_nar 0 x153)) 5 ((S112.1 37).toInt).toNat (aj_nar 0 x123)) := ⟨(hI158).1, aw_sm_rf⟩
                refine aw_n aj_d213 rfl rfl ?_
                refine aw_e aj_d213 rfl rfl ?_
                exact ⟨(hI162).1, fr159, Or.inr ⟨_, rfl, rfl, hGf, (show _ + 1 ≤ ((S130.1 30)).toInt by omega)⟩⟩
              · have q161 : (S112.1 32).toInt ≠ (0 : Int) := aw_t_eq (a := (S112.1 32).toInt) (b := (0 : Int)) c145 rfl q161
                refine aw_l2 aj_d213 rfl rfl hlv124_0 ?_
                obtain ⟨q1, q2, q3⟩ := aw_uu_m (S' := (aw_wa (aw_wa (aw_wb S130 2 (x114.toInt).toNat y115) 1 ((S112.1 37).toInt).toNat (aj_nar 0 x153)) 5 ((S112.1 37).toInt).toNat (aj_nar 0 x123))) hG130 u1 rfl rfl hx9 hc1 hm9
                refine aw_k hU.1 aj_d213 rfl rfl [] rfl rfl rfl (Nat.le_of_ble_eq_true rfl) (ar_worldsAnew hU (hI158).1 (by omega) (L := (S130.2.2.1 3 (x114.toInt).toNat).toInt.toNat) q1 q2 q3) ?_
                rintro _ S163 ⟨hT163, fc163, rfl, wn163⟩
                have wk9 : (S130.1 32).toInt = 1 := (show ((S130.1 32)).toInt = 1 by omega)
                have nc9 := aw_G_nc (p := aw_tJ S) (v := (S130.2.2.1 3 (x114.toInt).toNat).toInt) hG130 (by omega) wk9 hm9
                have w59 : (aj_nar 0 x123).toInt = (S130.2.2.1 5 (aw_h S130)).toInt * (S130.2.2.1 3 (x114.toInt).toNat).toInt := by rw [hW5, if_neg (by omega)]
                have b5h := b59 _ l1
                have e5n : (S163.2.2.1 5 (aw_h S130)) = (aj_nar 0 x123) := by
                  rw [(fc163.2 5 (by decide)).1, u5]
                  unfold upd
                  rw [if_pos rfl]
                have b5n : (S163.2.2.1 5 (aw_h S130)).toInt ≤ 1024 := by rw [e5n, w59]; exact nc9
                have hL9 : (((S130.2.2.1 3 (x114.toInt).toNat).toInt.toNat : Nat) : Int) = (S130.2.2.1 3 (x114.toInt).toNat).toInt := by omega
                have hg9 := hG130
                have hold0 : aw_hold S130 (aw_h S130) := ((hg9.2.2.2.2.2.2.2.2.2 rfl).2.2.1 wk9).1
                have hold9 : aw_hold S163 (aw_h S130) := by
                  refine aw_hold_wn (L := (S130.2.2.1 3 (x114.toInt).toNat).toInt.toNat) l1 hold0 (by omega) (by rw [e5n, w59, hL9]) b5n (fc163.2 10 (by decide)).1 (b109 _ l1).1 ?_
                  rw [(fc163.2 5 (by decide)).1]
                  exact wn163
                have hGf : aw_G (nm, false, la, 0, 0, 0) S163 := by
                  refine aw_G_uu hG130 l0 (by omega) (aw_fr_tr fr9 (aw_fr_sub (F := []) (A := [6, 12, 19]) (by decide) (by decide) fc163)) ((fc163.2 2 (by decide)).2.trans u2) ((fc163.2 1 (by decide)).1.trans u1) ((fc163.2 5 (by decide)).1.trans u5) (fun i hi => (wn163.1 i ?_).trans rfl) hx9 hc1 hn9 hm9 hW5 hb9 (b59 _ l0).2 (b109 _ l0).2 (fun _ => hold9)
                  have b10h := b109 _ l1
                  show i < aw_h S130 * 640 ∨ (aw_h S130 * 20 + (S130.2.2.1 10 (aw_h S130)).toInt.toNat) * 32 ≤ i
                  omega
                have fr164 := aw_fr_tr fr159 (aw_fr_sub (F := []) (A := [6, 12, 19]) (by decide) (by decide) fc163)
                have fl165 := aw_fr_tr fl160 (aw_fr_sub (F := []) (A := [6, 12, 19]) (by decide) (by decide) fc163)
                have hI166 : aw_I s h (aw_sm S163) S163 := ⟨hT163, aw_sm_rf⟩
                show aw_W _ _ _ _ 275 lv124 [] _ _
                refine aw_n aj_d213 rfl rfl ?_
                refine aw_e aj_d213 rfl rfl ?_
                have c167 : (S163.1 30).toInt = (S130.1 30).toInt := (congrArg Int32.toInt (fc163.1 30 (by decide)).1).trans rfl
                have b168 : 0 ≤ (S163.1 30).toInt ∧ (S163.1 30).toInt ≤ 1001 := aw_bd_f hs (hI166).1 (by decide) rfl
                exact ⟨(hI166).1, fr164, Or.inr ⟨_, rfl, rfl, hGf, (show _ + 1 ≤ ((S163.1 30)).toInt by omega)⟩⟩
            · have q157 : x123.toInt > (1024 : Int) := aw_t_le (a := x123.toInt) (b := (1024 : Int)) rfl rfl q157
              exfalso
              omega
          · have q138 : (1 : Int) = (0 : Int) := aw_t_ne (a := (1 : Int)) (b := (0 : Int)) hb130 rfl q138
            exfalso
            omega
      · have q129 : x123.toInt > (1024 : Int) := aw_t_le (a := x123.toInt) (b := (1024 : Int)) rfl rfl q129
        refine aw_l2 aj_d213 rfl rfl hlv124_0 ?_
        refine aw_n aj_d213 rfl rfl ?_
        refine aw_l2 aj_d213 rfl rfl hlv124_0 ?_
        have b169 : 0 ≤ (S112.1 27).toInt ∧ (S112.1 27).toInt ≤ 4000 := aw_bd_f hs (hI118).1 (by decide) rfl
        refine aw_g hU.1 aj_d213 rfl rfl (by decide) (v := .int (S112.1 27)) rfl ?_
        have b170 : 0 ≤ (S112.1 32).toInt ∧ (S112.1 32).toInt ≤ 1 := aw_bd_f hs (hI118).1 (by decide) rfl
        refine aw_k hU.1 aj_d213 rfl rfl [_, _] rfl rfl rfl (Nat.le_of_ble_eq_true rfl) (ar_tell hU (hI118).1 (by omega) (a := (5 : Int)) rfl (by omega)) ?_
        rintro _ S171 ⟨hT171, fc171, rfl, hz171, hw171⟩
        have hG171 := aw_G_tell hI116.2 fc171 hz171
        have hz171 : ((S112.1 32)).toInt = 0 → (S171.1 24).toInt ≠ 0 := hz171
        have fr172 := aw_fr_tr fr117 (aw_fr_sub (F := [24, 25]) (A := []) (by decide) (by decide) fc171)
        have fl173 := aw_fr_tr (aw_fr_rf : aw_fr [24, 25, 26, 27, 28, 29, 30, 31] [] S112 S112) (aw_fr_sub (F := [24, 25]) (A := []) (by decide) (by decide) fc171)
        have hI174 : aw_I s h (aw_sm S171) S171 := ⟨hT171, aw_sm_rf⟩
        show aw_W _ _ _ _ 208 lv124 [] _ _
        refine aw_l2 aj_d213 rfl rfl hlv124_0 ?_
        refine aw_n aj_d213 rfl rfl ?_
        have c176 : (S171.1 30).toInt = (S112.1 30).toInt := (congrArg Int32.toInt (fc171.1 30 (by decide)).1).trans rfl
        have b177 : 0 ≤ (S171.1 30).toInt ∧ (S171.1 30).toInt ≤ 1001 := aw_bd_f hs (hI174).1 (by decide) rfl
        have c178 : (S171.1 26).toInt = (S112.1 26).toInt := (congrArg Int32.toInt (fc171.1 26 (by decide)).1).trans rfl
        have b179 : 0 ≤ (S171.1 26).toInt ∧ (S171.1 26).toInt ≤ 5 := aw_bd_f hs (hI174).1 (by decide) rfl
        have c180 : (S171.1 29).toInt = (S112.1 29).toInt := (congrArg Int32.toInt (fc171.1 29 (by decide)).1).trans rfl
        refine aw_k hU.1 aj_d213 rfl rfl [_] rfl rfl rfl (Nat.le_of_ble_eq_true rfl) (ar_sign1 hU (hI174).1 hG171 (by omega) (x := (Int8.ofInt 59).toInt32) (c := 59) rfl (by decide)) ?_
        rintro _ S175 ⟨hT175, fc175, ⟨b175, rfl, hb175, hG175, ck175⟩ | ⟨b175, rfl, hb175, hG175, cj175, p3175, p9175, fd175⟩⟩
        · skip
          have ck175 : ((S171.1 30)).toInt ≤ (S175.1 30).toInt := ck175
          have fr181 := aw_fr_tr fr172 (aw_fr_sub (F := [24, 25, 26, 27, 28, 29, 30, 31]) (A := []) (by decide) (by decide) fc175)
          have fl182 := aw_fr_tr fl173 (aw_fr_sub (F := [24, 25, 26, 27, 28, 29, 30, 31]) (A := []) (by decide) (by decide) fc175)
          have hI183 : aw_I s h (aw_sm S175) S175 := ⟨hT175, aw_sm_rf⟩
          show aw_W _ _ _ _ 214 lv124 [.int b175] _ _
          refine aw_z (tgt := 219) aj_d213 rfl rfl (fun q184 => ?_) (fun q184 => ?_)
          · have q184 : (0 : Int) ≠ (0 : Int) := aw_t_ne (a := (0 : Int)) (b := (0 : Int)) hb175 rfl q184
            exfalso
            omega
          · have q184 : (0 : Int) = (0 : Int) := aw_t_ne (a := (0 : Int)) (b := (0 : Int)) hb175 rfl q184
            refine aw_n aj_d213 rfl rfl ?_
            refine aw_e aj_d213 rfl rfl ?_
            exact ⟨(hI183).1, fr181, Or.inl ⟨_, rfl, rfl, aw_G_B hG175⟩⟩
        · skip
          have cj175 : (S175.1 30).toInt = ((S171.1 30)).toInt + 1 := cj175
          have p3175 : ((S171.1 26)).toInt = 3 := p3175
          have p9175 : ((S171.1 29)).toInt = 59 := p9175
          have fr185 := aw_fr_tr fr172 (aw_fr_sub (F := [26, 27, 28, 29, 30]) (A := []) (by decide) (by decide) fd175)
          have fl186 := aw_fr_tr fl173 (aw_fr_sub (F := [26, 27, 28, 29, 30]) (A := []) (by decide) (by decide) fd175)
          have hI187 : aw_I s h (aw_sm S175) S175 := ⟨hT175, aw_sm_rf⟩
          show aw_W _ _ _ _ 214 lv124 [.int b175] _ _
          refine aw_z (tgt := 219) aj_d213 rfl rfl (fun q188 => ?_) (fun q188 => ?_)
          · have q188 : (1 : Int) ≠ (0 : Int) := aw_t_ne (a := (1 : Int)) (b := (0 : Int)) hb175 rfl q188
            have b189 : 0 ≤ (S112.1 0).toInt ∧ (S112.1 0).toInt ≤ 1 := aw_bd_f hs (hI118).1 (by decide) rfl
            have c190 : (S171.1 0).toInt = (S112.1 0).toInt := (congrArg Int32.toInt (fc171.1 0 (by decide)).1).trans rfl
            have b191 : 0 ≤ (S171.1 0).toInt ∧ (S171.1 0).toInt ≤ 1 := aw_bd_f hs (hI174).1 (by decide) rfl
            have c192 : (S175.1 0).toInt = (S112.1 0).toInt := (congrArg Int32.toInt (fd175.1 0 (by decide)).1).trans c190
            have b193 : 0 ≤ (S175.1 0).toInt ∧ (S175.1 0).toInt ≤ 1 := aw_bd_f hs (hI187).1 (by decide) rfl
            have c194 : (S175.1 24).toInt = (S171.1 24).toInt := (congrArg Int32.toInt (fd175.1 24 (by decide)).1).trans rfl
            have b195 : 0 ≤ (S175.1 30).toInt ∧ (S175.1 30).toInt ≤ 1001 := aw_bd_f hs (hI187).1 (by decide) rfl
            have c196 : (S171.1 32).toInt = (S112.1 32).toInt := (congrArg Int32.toInt (fc171.1 32 (by decide)).1).trans rfl
            have b197 : 0 ≤ (S171.1 32).toInt ∧ (S171.1 32).toInt ≤ 1 := aw_bd_f hs (hI174).1 (by decide) rfl
            have c198 : (S175.1 32).toInt = (S112.1 32).toInt := (congrArg Int32.toInt (fd175.1 32 (by decide)).1).trans c196
            have b199 : 0 ≤ (S175.1 32).toInt ∧ (S175.1 32).toInt ≤ 1 := aw_bd_f hs (hI187).1 (by decide) rfl
            have c200 : (S171.1 37).toInt = (S112.1 37).toInt := (congrArg Int32.toInt (fc171.1 37 (by decide)).1).trans rfl
            have b201 : 0 ≤ (S171.1 37).toInt ∧ (S171.1 37).toInt ≤ 1 := aw_bd_f hs (hI174).1 (by decide) rfl
            have c202 : (S175.1 37).toInt = (S112.1 37).toInt := (congrArg Int32.toInt (fd175.1 37 (by decide)).1).trans c200
            have b203 : 0 ≤ (S175.1 37).toInt ∧ (S175.1 37).toInt ≤ 1 := aw_bd_f hs (hI187).1 (by decide) rfl
            have fl9 : aw_fr [24, 25, 26, 27, 28, 29, 30, 31] [] S112 S175 := fl186
            have eh9 : aw_h S175 = aw_h S112 := by unfold aw_h; rw [(fl9.1 37 (by decide)).1]
            have e19 : S175.2.2.1 1 = S112.2.2.1 1 := (fl9.2 1 (by decide)).1
            have e39 : S175.2.2.1 3 = S112.2.2.1 3 := (fl9.2 3 (by decide)).1
            have e59 : S175.2.2.1 5 = S112.2.2.1 5 := (fl9.2 5 (by decide)).1
            have eT9 : aw_tT S175 = aw_tT S := (aw_fr_tT fl9 (by decide) (by decide)).trans eT164
            have eF9 : aw_tF S175 = aw_tF S := ((fl9.2 21 (by decide)).1).trans eF164
            have hx9 : (((x114.toInt).toNat : Nat) : Int) = aw_h S175 * 8 + (S175.2.2.1 1 (aw_h S175)).toInt := by rw [eh9, e19]; omega
            have hm9 : (S175.2.2.1 3 (x114.toInt).toNat).toInt = aw_vm (aw_tF S175) (aw_tT S175) (aw_tJ S) := by rw [e39, eT9, eF9]; exact m164
            have ea9 : x123.toInt = (S175.2.2.1 5 (aw_h S175)).toInt * (S175.2.2.1 3 (x114.toInt).toNat).toInt := by rw [e59, e39, eh9]; exact ea
            have hb9 : (S175.1 32).toInt = 0 → 1024 < (S175.2.2.1 5 (aw_h S175)).toInt * (S175.2.2.1 3 (x114.toInt).toNat).toInt → (S175.1 24).toInt ≠ 0 := by
              intro z1 z2
              rw [← ea9] at z2
              have z3 := hz171 (show ((S112.1 32)).toInt = 0 from (by have z1 : ((S175.1 32)).toInt = 0 := z1; omega))
              show ((S175.1 24)).toInt ≠ 0
              exact fun z => z3 (by first | exact z | omega)
            have l0 : aw_hh S175 ≤ 1 := by
              have b0 := aw_bd_f hs hI187.1 (k := 0) (lo := 0) (hi := 1) (by decide) rfl
              unfold aw_hh
              omega
            have l1 : aw_h S175 ≤ 1 := by
              have b0 := aw_bd_f hs hI187.1 (k := 37) (lo := 0) (hi := 1) (by decide) rfl
              unfold aw_h
              omega
            have b59 : ∀ t, t ≤ 1 → 0 ≤ (S175.2.2.1 5 t).toInt ∧ (S175.2.2.1 5 t).toInt ≤ 1024 := fun t ht => aw_bd_a hs hI187.1 (k := 5) (j := t) (by decide) (by decide) rfl (by decide) rfl (by omega)
            have b109 : ∀ t, t ≤ 1 → 0 ≤ (S175.2.2.1 10 t).toInt ∧ (S175.2.2.1 10 t).toInt ≤ 20 := fun t ht => aw_bd_a hs hI187.1 (k := 10) (j := t) (by decide) (by decide) rfl (by decide) rfl (by omega)
            have v1 := aw_vm_1 (f := aw_tF S175) (T := aw_tT S175) (i := aw_tJ S)
            refine aw_l2 aj_d213 rfl rfl hlv124_0 ?_
            refine aw_g hU.1 aj_d213 rfl rfl (by decide) (v := .ref 119) rfl ?_
            refine aw_l0 aj_d213 rfl rfl hlv124_1 ?_
            refine aw_l1 aj_d213 rfl rfl hlv124_2 ?_
            refine aw_stl (k := 2) hU.1 aj_d213 rfl (by decide) (by decide) rfl (a := x114.toInt) rfl (by omega) (by omega) ?_
            have hI204 : aw_I s h (aw_sm (aw_wb S175 2 (x114.toInt).toNat y115)) (aw_wb S175 2 (x114.toInt).toNat y115) := ⟨aw_T_b hU.2.1 hs hU.1.1 (hI187).1 (by decide) (by decide) rfl rfl, aw_sm_rf⟩
            have fr205 := aw_fr_b (k := 2) (j := (x114.toInt).toNat) (v := y115) (by decide) fr185
            have fl206 := aw_fr_b (k := 2) (j := (x114.toInt).toNat) (v := y115) (by decide) (aw_fr_rf : aw_fr [] [1, 2, 5, 6, 12, 19] S175 S175)
            refine aw_l2 aj_d213 rfl rfl hlv124_0 ?_
            refine aw_g hU.1 aj_d213 rfl rfl (by decide) (v := .ref 118) rfl ?_
            refine aw_l2 aj_d213 rfl rfl hlv124_0 ?_
            refine aw_g hU.1 aj_d213 rfl rfl (by decide) (v := .int (S175.1 37)) rfl ?_
            refine aw_n aj_d213 rfl rfl ?_
            refine aw_ld (k := 1) hU.1 aj_d213 (Or.inl ⟨rfl, rfl⟩) rfl (by decide) (by decide) rfl (a := (S112.1 37).toInt) c202 (by omega) (by omega) (fun x207 ex207 => ?_)
            have bx207 : 0 ≤ x207.toInt ∧ x207.toInt ≤ 8 := by
              rw [ex207]
              exact aw_bd_a hs (hI204).1 (k := 1) (by decide) (by decide) rfl (by decide) rfl (by omega)
            have y19 : x207.toInt = (S175.2.2.1 1 (aw_h S175)).toInt := (congrArg Int32.toInt ex207).trans (congrArg (fun j => (S175.2.2.1 1 j).toInt) (by show _ = (((S175.1 37)).toInt).toNat; omega))
            refine aw_n aj_d213 rfl rfl ?_
            refine aw_add aj_d213 rfl (a := x207.toInt) (b := (1 : Int)) rfl rfl (by omega) (by omega) (fun x208 ex208 => ?_)
            refine aw_st (k := 1) hU.1 aj_d213 (Or.inl ⟨rfl, rfl⟩) rfl (by decide) (by decide) rfl (a := (S112.1 37).toInt) c202 (by omega) (by omega) ?_
            have hI209 : aw_I s h (aw_sm (aw_wa (aw_wb S175 2 (x114.toInt).toNat y115) 1 ((S112.1 37).toInt).toNat (aj_nar 0 x208))) (aw_wa (aw_wb S175 2 (x114.toInt).toNat y115) 1 ((S112.1 37).toInt).toNat (aj_nar 0 x208)) := ⟨aw_T_a hU.2.1 hs hU.1.1 (hI204).1 (by decide) (by decide) rfl (by decide) (by decide) rfl (aw_bp (a := x208.toInt) rfl (by omega) (by omega)), aw_sm_rf⟩
            have fr210 := aw_fr_a (k := 1) (j := ((S112.1 37).toInt).toNat) (v := aj_nar 0 x208) (by decide) fr205
            have fl211 := aw_fr_a (k := 1) (j := ((S112.1 37).toInt).toNat) (v := aj_nar 0 x208) (by decide) fl206
            refine aw_l2 aj_d213 rfl rfl hlv124_0 ?_
            refine aw_g hU.1 aj_d213 rfl rfl (by decide) (v := .ref 122) rfl ?_
            refine aw_l2 aj_d213 rfl rfl hlv124_0 ?_
            refine aw_g hU.1 aj_d213 rfl rfl (by decide) (v := .int (S175.1 37)) rfl ?_
            refine aw_l0 aj_d213 rfl rfl hlv124_5 ?_
            refine aw_n aj_d213 rfl rfl ?_
            refine aw_c (tgt := 261) aj_d213 rfl rfl (fun q212 => ?_) (fun q212 => ?_)
            · have q212 : x123.toInt ≤ (1024 : Int) := aw_t_le (a := x123.toInt) (b := (1024 : Int)) rfl rfl q212
              exfalso
              omega
            · have q212 : x123.toInt > (1024 : Int) := aw_t_le (a := x123.toInt) (b := (1024 : Int)) rfl rfl q212
              refine aw_n aj_d213 rfl rfl ?_
              refine aw_n aj_d213 rfl rfl ?_
              refine aw_st (k := 5) hU.1 aj_d213 (Or.inl ⟨rfl, rfl⟩) rfl (by decide) (by decide) rfl (a := (S112.1 37).toInt) c202 (by omega) (by omega) ?_
              have hI213 : aw_I s h (aw_sm (aw_wa (aw_wa (aw_wb S175 2 (x114.toInt).toNat y115) 1 ((S112.1 37).toInt).toNat (aj_nar 0 x208)) 5 ((S112.1 37).toInt).toNat (aj_nar 0 (Int16.ofInt 1024).toInt32))) (aw_wa (aw_wa (aw_wb S175 2 (x114.toInt).toNat y115) 1 ((S112.1 37).toInt).toNat (aj_nar 0 x208)) 5 ((S112.1 37).toInt).toNat (aj_nar 0 (Int16.ofInt 1024).toInt32)) := ⟨aw_T_a hU.2.1 hs hU.1.1 (hI209).1 (by decide) (by decide) rfl (by decide) (by decide) rfl (aw_bp (a := (1024 : Int)) rfl (by omega) (by omega)), aw_sm_rf⟩
              have fr214 := aw_fr_a (k := 5) (j := ((S112.1 37).toInt).toNat) (v := aj_nar 0 (Int16.ofInt 1024).toInt32) (by decide) fr210
              have fl215 := aw_fr_a (k := 5) (j := ((S112.1 37).toInt).toNat) (v := aj_nar 0 (Int16.ofInt 1024).toInt32) (by decide) fl211
              have hj1 : ((S112.1 37).toInt).toNat = aw_h S175 := by
                show _ = (((S175.1 37)).toInt).toNat
                omega
              have hj5 : ((S112.1 37).toInt).toNat = aw_h S175 := by
                show _ = (((S175.1 37)).toInt).toNat
                omega
              have u2 : ((aw_wa (aw_wa (aw_wb S175 2 (x114.toInt).toNat y115) 1 ((S112.1 37).toInt).toNat (aj_nar 0 x208)) 5 ((S112.1 37).toInt).toNat (aj_nar 0 (Int16.ofInt 1024).toInt32))).2.2.2 2 = vp_updL (S175.2.2.2 2) (x114.toInt).toNat y115 := rfl
              have u1 : ((aw_wa (aw_wa (aw_wb S175 2 (x114.toInt).toNat y115) 1 ((S112.1 37).toInt).toNat (aj_nar 0 x208)) 5 ((S112.1 37).toInt).toNat (aj_nar 0 (Int16.ofInt 1024).toInt32))).2.2.1 1 = upd (S175.2.2.1 1) (aw_h S175) (aj_nar 0 x208) := congrArg (fun j => upd (S175.2.2.1 1) j (aj_nar 0 x208)) hj1
              have u5 : ((aw_wa (aw_wa (aw_wb S175 2 (x114.toInt).toNat y115) 1 ((S112.1 37).toInt).toNat (aj_nar 0 x208)) 5 ((S112.1 37).toInt).toNat (aj_nar 0 (Int16.ofInt 1024).toInt32))).2.2.1 5 = upd (S175.2.2.1 5) (aw_h S175) (aj_nar 0 (Int16.ofInt 1024).toInt32) := congrArg (fun j => upd (S175.2.2.1 5) j (aj_nar 0 (Int16.ofInt 1024).toInt32)) hj5
              have hc1 : (aj_nar 0 x208).toInt = (S175.2.2.1 1 (aw_h S175)).toInt + 1 := by
                show (x208).toInt = _
                rw [ex208]
                omega
              have hW5 : (aj_nar 0 (Int16.ofInt 1024).toInt32).toInt = if 1024 < (S175.2.2.1 5 (aw_h S175)).toInt * (S175.2.2.1 3 (x114.toInt).toNat).toInt then 1024 else (S175.2.2.1 5 (aw_h S175)).toInt * (S175.2.2.1 3 (x114.toInt).toNat).toInt := by
                show ((Int16.ofInt 1024).toInt32).toInt = _
                rw [← ea9]
                rw [if_pos (by omega)]
                rfl
              have hn9 : y115 = aw_nm (aw_tF S175) (aw_tT S175) (aw_tJ S + 1) := by rw [eT9, eF9]; exact n164
              have fr9 : aw_fr [] [1, 2, 5, 6, 12, 19] S175 ((aw_wa (aw_wa (aw_wb S175 2 (x114.toInt).toNat y115) 1 ((S112.1 37).toInt).toNat (aj_nar 0 x208)) 5 ((S112.1 37).toInt).toNat (aj_nar 0 (Int16.ofInt 1024).toInt32))) := fl215
              refine aw_l2 aj_d213 rfl rfl hlv124_0 ?_
              refine aw_g hU.1 aj_d213 rfl rfl (by decide) (v := .int (S175.1 32)) rfl ?_
              refine aw_z (tgt := 275) aj_d213 rfl rfl (fun q216 => ?_) (fun q216 => ?_)
              · have q216 : (S112.1 32).toInt = (0 : Int) := aw_t_eq (a := (S112.1 32).toInt) (b := (0 : Int)) c198 rfl q216
                have hGf : aw_G (nm, false, la, 0, 0, 0) ((aw_wa (aw_wa (aw_wb S175 2 (x114.toInt).toNat y115) 1 ((S112.1 37).toInt).toNat (aj_nar 0 x208)) 5 ((S112.1 37).toInt).toNat (aj_nar 0 (Int16.ofInt 1024).toInt32))) := aw_G_uu hG175 l0 (by omega) fr9 u2 u1 u5 (fun _ _ => rfl) hx9 hc1 hn9 hm9 hW5 hb9 (b59 _ l0).2 (b109 _ l0).2 (fun z => absurd (show ((S175.1 32)).toInt = 1 from z) (by omega))
                have hI217 : aw_I s h (aw_sm (aw_wa (aw_wa (aw_wb S175 2 (x114.toInt).toNat y115) 1 ((S112.1 37).toInt).toNat (aj_nar 0 x208)) 5 ((S112.1 37).toInt).toNat (aj_nar 0 (Int16.ofInt 1024).toInt32))) (aw_wa (aw_wa (aw_wb S175 2 (x114.toInt).toNat y115) 1 ((S112.1 37).toInt).toNat (aj_nar 0 x208)) 5 ((S112.1 37).toInt).toNat (aj_nar 0 (Int16.ofInt 1024).toInt32)) := ⟨(hI213).1, aw_sm_rf⟩
                refine aw_n aj_d213 rfl rfl ?_
                refine aw_e aj_d213 rfl rfl ?_
                exact ⟨(hI217).1, fr214, Or.inr ⟨_, rfl, rfl, hGf, (show _ + 1 ≤ ((S175.1 30)).toInt by omega)⟩⟩
              · have q216 : (S112.1 32).toInt ≠ (0 : Int) := aw_t_eq (a := (S112.1 32).toInt) (b := (0 : Int)) c198 rfl q216
                refine aw_l2 aj_d213 rfl rfl hlv124_0 ?_
                obtain ⟨q1, q2, q3⟩ := aw_uu_m (S' := (aw_wa (aw_wa (aw_wb S175 2 (x114.toInt).toNat y115) 1 ((S112.1 37).toInt).toNat (aj_nar 0 x208)) 5 ((S112.1 37).toInt).toNat (aj_nar 0 (Int16.ofInt 1024).toInt32))) hG175 u1 rfl rfl hx9 hc1 hm9
                refine aw_k hU.1 aj_d213 rfl rfl [] rfl rfl rfl (Nat.le_of_ble_eq_true rfl) (ar_worldsAnew hU (hI213).1 (by omega) (L := (S175.2.2.1 3 (x114.toInt).toNat).toInt.toNat) q1 q2 q3) ?_
                rintro _ S218 ⟨hT218, fc218, rfl, wn218⟩
                have wk9 : (S175.1 32).toInt = 1 := (show ((S175.1 32)).toInt = 1 by omega)
                have nc9 := aw_G_nc (p := aw_tJ S) (v := (S175.2.2.1 3 (x114.toInt).toNat).toInt) hG175 (by omega) wk9 hm9
                have w59 : (aj_nar 0 (Int16.ofInt 1024).toInt32).toInt = (S175.2.2.1 5 (aw_h S175)).toInt * (S175.2.2.1 3 (x114.toInt).toNat).toInt := by rw [hW5, if_neg (by omega)]
                have b5h := b59 _ l1
                have e5n : (S218.2.2.1 5 (aw_h S175)) = (aj_nar 0 (Int16.ofInt 1024).toInt32) := by
                  rw [(fc218.2 5 (by decide)).1, u5]
                  unfold upd
                  rw [if_pos rfl]
                have b5n : (S218.2.2.1 5 (aw_h S175)).toInt ≤ 1024 := by rw [e5n, w59]; exact nc9
                have hL9 : (((S175.2.2.1 3 (x114.toInt).toNat).toInt.toNat : Nat) : Int) = (S175.2.2.1 3 (x114.toInt).toNat).toInt := by omega
                have hg9 := hG175
                have hold0 : aw_hold S175 (aw_h S175) := ((hg9.2.2.2.2.2.2.2.2.2 rfl).2.2.1 wk9).1
                have hold9 : aw_hold S218 (aw_h S175) := by
                  refine aw_hold_wn (L := (S175.2.2.1 3 (x114.toInt).toNat).toInt.toNat) l1 hold0 (by omega) (by rw [e5n, w59, hL9]) b5n (fc218.2 10 (by decide)).1 (b109 _ l1).1 ?_
                  rw [(fc218.2 5 (by decide)).1]
                  exact wn218
                have hGf : aw_G (nm, false, la, 0, 0, 0) S218 := by
                  refine aw_G_uu hG175 l0 (by omega) (aw_fr_tr fr9 (aw_fr_sub (F := []) (A := [6, 12, 19]) (by decide) (by decide) fc218)) ((fc218.2 2 (by decide)).2.trans u2) ((fc218.2 1 (by decide)).1.trans u1) ((fc218.2 5 (by decide)).1.trans u5) (fun i hi => (wn218.1 i ?_).trans rfl) hx9 hc1 hn9 hm9 hW5 hb9 (b59 _ l0).2 (b109 _ l0).2 (fun _ => hold9)
                  have b10h := b109 _ l1
                  show i < aw_h S175 * 640 ∨ (aw_h S175 * 20 + (S175.2.2.1 10 (aw_h S175)).toInt.toNat) * 32 ≤ i
                  omega
                have fr219 := aw_fr_tr fr214 (aw_fr_sub (F := []) (A := [6, 12, 19]) (by decide) (by decide) fc218)
                have fl220 := aw_fr_tr fl215 (aw_fr_sub (F := []) (A := [6, 12, 19]) (by decide) (by decide) fc218)
                have hI221 : aw_I s h (aw_sm S218) S218 := ⟨hT218, aw_sm_rf⟩
                show aw_W _ _ _ _ 275 lv124 [] _ _
                refine aw_n aj_d213 rfl rfl ?_
                refine aw_e aj_d213 rfl rfl ?_
                have c222 : (S218.1 30).toInt = (S175.1 30).toInt := (congrArg Int32.toInt (fc218.1 30 (by decide)).1).trans rfl
                have b223 : 0 ≤ (S218.1 30).toInt ∧ (S218.1 30).toInt ≤ 1001 := aw_bd_f hs (hI221).1 (by decide) rfl
                exact ⟨(hI221).1, fr219, Or.inr ⟨_, rfl, rfl, hGf, (show _ + 1 ≤ ((S218.1 30)).toInt by omega)⟩⟩
          · have q188 : (1 : Int) = (0 : Int) := aw_t_ne (a := (1 : Int)) (b := (0 : Int)) hb175 rfl q188
            exfalso
            omega
  · skip
    have pb125 : ¬ (((S112.1 26)).toInt = 3 ∧ ((S112.1 29)).toInt = (59 : Int)) := pb125
    show aw_W _ _ _ _ 188 lv124 [.int b125] _ _
    refine aw_z (tgt := 208) aj_d213 rfl rfl (fun q224 => ?_) (fun q224 => ?_)
    · have q224 : (0 : Int) = (0 : Int) := aw_t_eq (a := (0 : Int)) (b := (0 : Int)) hb125 rfl q224
      refine aw_l2 aj_d213 rfl rfl hlv124_0 ?_
      refine aw_n aj_d213 rfl rfl ?_
      refine aw_k hU.1 aj_d213 rfl rfl [_] rfl rfl rfl (Nat.le_of_ble_eq_true rfl) (ar_sign1 hU (hI118).1 hI116.2 (by omega) (x := (Int8.ofInt 59).toInt32) (c := 59) rfl (by decide)) ?_
      rintro _ S225 ⟨hT225, fc225, ⟨b225, rfl, hb225, hG225, ck225⟩ | ⟨b225, rfl, hb225, hG225, cj225, p3225, p9225, fd225⟩⟩
      · skip
        have ck225 : ((S112.1 30)).toInt ≤ (S225.1 30).toInt := ck225
        have fr226 := aw_fr_tr fr117 (aw_fr_sub (F := [24, 25, 26, 27, 28, 29, 30, 31]) (A := []) (by decide) (by decide) fc225)
        have fl227 := aw_fr_tr (aw_fr_rf : aw_fr [24, 25, 26, 27, 28, 29, 30, 31] [] S112 S112) (aw_fr_sub (F := [24, 25, 26, 27, 28, 29, 30, 31]) (A := []) (by decide) (by decide) fc225)
        have hI228 : aw_I s h (aw_sm S225) S225 := ⟨hT225, aw_sm_rf⟩
        show aw_W _ _ _ _ 214 lv124 [.int b225] _ _
        refine aw_z (tgt := 219) aj_d213 rfl rfl (fun q229 => ?_) (fun q229 => ?_)
        · have q229 : (0 : Int) ≠ (0 : Int) := aw_t_ne (a := (0 : Int)) (b := (0 : Int)) hb225 rfl q229
          exfalso
          omega
        · have q229 : (0 : Int) = (0 : Int) := aw_t_ne (a := (0 : Int)) (b := (0 : Int)) hb225 rfl q229
          refine aw_n aj_d213 rfl rfl ?_
          refine aw_e aj_d213 rfl rfl ?_
          exact ⟨(hI228).1, fr226, Or.inl ⟨_, rfl, rfl, aw_G_B hG225⟩⟩
      · skip
        have cj225 : (S225.1 30).toInt = ((S112.1 30)).toInt + 1 := cj225
        have p3225 : ((S112.1 26)).toInt = 3 := p3225
        have p9225 : ((S112.1 29)).toInt = 59 := p9225
        exfalso
        omega
    · have q224 : (0 : Int) ≠ (0 : Int) := aw_t_eq (a := (0 : Int)) (b := (0 : Int)) hb125 rfl q224
      exfalso
      omega
theorem ar_unk_L132_98 (hU : aw_U tb s h) (hd : 9 ≤ d + 1) (j1 : 1 ≤ aw_tJ S) (eJ0 : (aw_tJ S : Int) = (S.1 30).toInt) (S64 : aj_S) : ∀ (S102 : aj_S) (lv103 : aj_V) (x104 : Int32) (y105 : Int64), (aj_lv lv103 0 = some (.ref 117)) → (aj_lv lv103 1 = some (.int x104)) → (aj_lv lv103 2 = some (.long y105)) → (aw_I s h (aw_G (nm, false, la, 0, aw_tJ S, 0)) S102) → (aw_fr [24, 25, 26, 27, 28, 29, 30, 31, 33, 34, 35, 36] [1, 2, 3, 4, 5, 6, 12, 19] S S102) → (0 ≤ x104.toInt ∧ x104.toInt ≤ 15) → (x104.toInt = (aw_h S : Int) * 8 + (S.2.2.1 1 (aw_h S)).toInt) → (0 ≤ (S.2.2.1 1 (aw_h S)).toInt ∧ (S.2.2.1 1 (aw_h S)).toInt ≤ 7) → (y105 = aw_nm (aw_tF S) (aw_tT S) (aw_tJ S + 1)) → (S102.2.2.1 1 = S.2.2.1 1) → ((S102.1 37).toInt = (S.1 37).toInt) → ((S102.1 30).toInt = (S.1 30).toInt + (3 + aw_wd (aw_tT S) (aw_tJ S + 3) : Nat)) → ((S102.2.2.1 3 (x104.toInt).toNat).toInt = 1) → ((S102.2.2.1 4 ((x104.toInt).toNat * 64)).toInt = aw_num (aw_tF S) (aw_tT S) (aw_tJ S + 3)) → (-999999999 ≤ (S102.2.2.1 4 ((x104.toInt).toNat * 64)).toInt ∧ (S102.2.2.1 4 ((x104.toInt).toNat * 64)).toInt ≤ 999999999) → aw_W tb h d aj_m213 132 lv103 [] S102 ((ar_QB s h [24, 25, 26, 27, 28, 29, 30, 31, 33, 34, 35, 36] [1, 2, 3, 4, 5, 6, 12, 19] S aw_B (fun S' => aw_G (nm, false, la, 0, 0, 0) S' ∧ (S.1 30).toInt + 1 ≤ (S'.1 30).toInt))) := by
  have hs : aw_sT s := aw_hy_sT hU.2.2
  intro S102 lv103 x104 y105 hlv103_0 hlv103_1 hlv103_2 hI106 fr107 bx104 x132 c132 n132 a132 i132 j132 h31 h41 hv41
  have hI108 : aw_I s h (aw_sm S102) S102 := ⟨hI106.1, aw_sm_rf⟩
  have b109 : 0 ≤ (S102.1 30).toInt ∧ (S102.1 30).toInt ≤ 1001 := aw_bd_f hs (hI108).1 (by decide) rfl
  have b110 : 0 ≤ (S102.1 37).toInt ∧ (S102.1 37).toInt ≤ 1 := aw_bd_f hs (hI108).1 (by decide) rfl
  have ehh : aw_h S102 = aw_h S := by
    unfold aw_h
    rw [i132]
  have e11 := a132
  have hx1 : (x104.toInt).toNat = aw_h S * 8 + (S.2.2.1 1 (aw_h S)).toInt.toNat := by omega
  have eT4 : aw_tT S102 = aw_tT S := aw_fr_tT fr107 (by decide) (by decide)
  have eF4 : aw_tF S102 = aw_tF S := (fr107.2 21 (by decide)).1
  have eJ4 : aw_tJ S102 = aw_tJ S + (3 + aw_wd (aw_tT S) (aw_tJ S + 3)) := by
    have q : (S102.1 30).toInt = (aw_tJ S : Int) + (((3 + aw_wd (aw_tT S) (aw_tJ S + 3)) : Nat) : Int) := (show ((S102.1 30)).toInt = _ by omega)
    unfold aw_tJ at q ⊢
    omega
  refine aw_l2 aj_d213 rfl rfl hlv103_0 ?_
  refine aw_n aj_d213 rfl rfl ?_
  refine aw_k hU.1 aj_d213 rfl rfl [_] rfl rfl rfl (Nat.le_of_ble_eq_true rfl) (ar_isSign hU (by omega) (b := (256 : Int)) rfl) ?_
  have b232 : 0 ≤ (S102.1 26).toInt ∧ (S102.1 26).toInt ≤ 5 := aw_bd_f hs (hI108).1 (by decide) rfl
  rintro _ S231 ⟨eS231, b230, rfl, kb230⟩
  rw [eS231]
  rcases kb230 with ⟨hb230, pb230, qb230⟩ | ⟨hb230, pb230⟩
  · skip
    have pb230 : ((S102.1 26)).toInt = 3 := pb230
    have qb230 : ((S102.1 29)).toInt = (256 : Int) := qb230
    show aw_W _ _ _ _ 139 lv103 [.int b230] _ _
    refine aw_z (tgt := 150) aj_d213 rfl rfl (fun q233 => ?_) (fun q233 => ?_)
    · have q233 : (1 : Int) = (0 : Int) := aw_t_eq (a := (1 : Int)) (b := (0 : Int)) hb230 rfl q233
      exfalso
      omega
    · have q233 : (1 : Int) ≠ (0 : Int) := aw_t_eq (a := (1 : Int)) (b := (0 : Int)) hb230 rfl q233
      refine aw_l2 aj_d213 rfl rfl hlv103_0 ?_
      refine aw_l0 aj_d213 rfl rfl hlv103_1 ?_
      refine aw_k hU.1 aj_d213 rfl rfl [_] rfl rfl rfl (Nat.le_of_ble_eq_true rfl) (ar_span hU (hI108).1 hI106.2 (by omega) (x := x104) (by omega) (by rw [show aw_h S102 = aw_h S from ehh, show S102.2.2.1 1 = S.2.2.1 1 from e11]; omega) hv41 ⟨by show ((S102.1 26)).toInt = 3; omega, by show ((S102.1 29)).toInt = 256; omega⟩) ?_
      rintro _ S234 ⟨hT234, fc234, ⟨b234, rfl, hb234, hG234, ck234⟩ | ⟨b234, rfl, hb234, hG234, ck234, cj234, m3234, o3234⟩⟩
      · skip
        have ck234 : ((S102.1 30)).toInt ≤ (S234.1 30).toInt := ck234
        have fr235 := aw_fr_tr fr107 (aw_fr_sub (F := [24, 25, 26, 27, 28, 29, 30, 31, 35, 36]) (A := [3, 4]) (by decide) (by decide) fc234)
        have hI236 : aw_I s h (aw_sm S234) S234 := ⟨hT234, aw_sm_rf⟩
        show aw_W _ _ _ _ 147 lv103 [.int b234] _ _
        refine aw_n aj_d213 rfl rfl ?_
        refine aw_t0 (j := 4) aj_d213 rfl (by decide) rfl ?_
        obtain ⟨lv237, elv237⟩ : ∃ l, l = aj_set1 lv103 4 (.int b234) := ⟨_, rfl⟩
        rw [← elv237]
        have hlv237_0 : aj_lv lv237 0 = some (.ref 117) := cw_e1 elv237 hlv103_0 (by decide) (Or.inl (by decide))
        have hlv237_1 : aj_lv lv237 1 = some (.int x104) := cw_e1 elv237 hlv103_1 (by decide) (Or.inl (by decide))
        have hlv237_2 : aj_lv lv237 2 = some (.long y105) := cw_e1 elv237 hlv103_2 (by decide) (Or.inl (by decide))
        have hlv237_4 : aj_lv lv237 4 = some (.int b234) := by rw [elv237]; exact ak_set1_eq _ _ _
        show aw_W _ _ _ _ 157 lv237 [] _ _
        refine aw_l0 aj_d213 rfl rfl hlv237_4 ?_
        refine aw_z (tgt := 164) aj_d213 rfl rfl (fun q238 => ?_) (fun q238 => ?_)
        · have q238 : (0 : Int) ≠ (0 : Int) := aw_t_ne (a := (0 : Int)) (b := (0 : Int)) hb234 rfl q238
          exfalso
          omega
        · have q238 : (0 : Int) = (0 : Int) := aw_t_ne (a := (0 : Int)) (b := (0 : Int)) hb234 rfl q238
          refine aw_n aj_d213 rfl rfl ?_
          refine aw_e aj_d213 rfl rfl ?_
          exact ⟨(hI236).1, fr235, Or.inl ⟨_, rfl, rfl, aw_G_B hG234⟩⟩
      · skip
        have ck234 : ((S102.1 30)).toInt + 1 ≤ (S234.1 30).toInt := ck234
        have vm : (S234.2.2.1 3 (x104.toInt).toNat).toInt = aw_vm (aw_tF S) (aw_tT S) (aw_tJ S) := by
          have tk := (hI106.2).1.2.1
          rw [show aw_tT S102 = aw_tT S from eT4, show aw_tJ S102 = aw_tJ S + (3 + aw_wd (aw_tT S) (aw_tJ S + 3)) from eJ4] at tk
          have is : aw_is (aw_tT S) (aw_tJ S + 3 + aw_wd (aw_tT S) (aw_tJ S + 3)) 3 256 := by
            rw [Nat.add_assoc]
            exact ⟨tk.1.symm.trans (show ((S102.1 26)).toInt = 3 by omega), tk.2.2.2.symm.trans (show ((S102.1 29)).toInt = 256 by omega)⟩
          have m := m3234
          rw [h41, h31, show aw_tT S102 = aw_tT S from eT4, show aw_tF S102 = aw_tF S from eF4, show aw_tJ S102 = aw_tJ S + (3 + aw_wd (aw_tT S) (aw_tJ S + 3)) from eJ4, ← Nat.add_assoc (aw_tJ S) 3] at m
          unfold aw_vm
          rw [if_pos is, m]
          split
          · omega
          · rfl
        have fr239 := aw_fr_tr fr107 (aw_fr_sub (F := [24, 25, 26, 27, 28, 29, 30, 31, 35, 36]) (A := [3, 4]) (by decide) (by decide) fc234)
        have hI240 : aw_I s h (aw_sm S234) S234 := ⟨hT234, aw_sm_rf⟩
        show aw_W _ _ _ _ 147 lv103 [.int b234] _ _
        refine aw_n aj_d213 rfl rfl ?_
        refine aw_t0 (j := 4) aj_d213 rfl (by decide) rfl ?_
        obtain ⟨lv241, elv241⟩ : ∃ l, l = aj_set1 lv103 4 (.int b234) := ⟨_, rfl⟩
        rw [← elv241]
        have hlv241_0 : aj_lv lv241 0 = some (.ref 117) := cw_e1 elv241 hlv103_0 (by decide) (Or.inl (by decide))
        have hlv241_1 : aj_lv lv241 1 = some (.int x104) := cw_e1 elv241 hlv103_1 (by decide) (Or.inl (by decide))
        have hlv241_2 : aj_lv lv241 2 = some (.long y105) := cw_e1 elv241 hlv103_2 (by decide) (Or.inl (by decide))
        have hlv241_4 : aj_lv lv241 4 = some (.int b234) := by rw [elv241]; exact ak_set1_eq _ _ _
        show aw_W _ _ _ _ 157 lv241 [] _ _
        refine aw_l0 aj_d213 rfl rfl hlv241_4 ?_
        refine aw_z (tgt := 164) aj_d213 rfl rfl (fun q242 => ?_) (fun q242 => ?_)
        · have q242 : (1 : Int) ≠ (0 : Int) := aw_t_ne (a := (1 : Int)) (b := (0 : Int)) hb234 rfl q242
          have c243 : (S234.1 37).toInt = (S102.1 37).toInt := (congrArg Int32.toInt (fc234.1 37 (by decide)).1).trans rfl
          have b244 : 0 ≤ (S234.1 37).toInt ∧ (S234.1 37).toInt ≤ 1 := aw_bd_f hs (hI240).1 (by decide) rfl
          have b245 : 0 ≤ (S234.1 30).toInt ∧ (S234.1 30).toInt ≤ 1001 := aw_bd_f hs (hI240).1 (by decide) rfl
          exact (ar_unk_L164_110 hU hd j1 eJ0 S64 S102) S234 lv241 (x104) (y105) hlv241_0 hlv241_1 hlv241_2 ⟨(hI240).1, hG234⟩ fr239 (by omega) (by rw [(show aw_h S234 = aw_h S from (by unfold aw_h; rw [show (S234.1 37).toInt = (S.1 37).toInt from (show ((S234.1 37)).toInt = _ by omega)])), (show S234.2.2.1 1 = S.2.2.1 1 from (((fc234.2 1 (by decide)).1.trans rfl)).trans a132)]; omega) (by rw [(show aw_h S234 = aw_h S from (by unfold aw_h; rw [show (S234.1 37).toInt = (S.1 37).toInt from (show ((S234.1 37)).toInt = _ by omega)])), (show S234.2.2.1 1 = S.2.2.1 1 from (((fc234.2 1 (by decide)).1.trans rfl)).trans a132)]; omega) n132 vm (show _ ≤ ((S234.1 30)).toInt by omega)
        · have q242 : (1 : Int) = (0 : Int) := aw_t_ne (a := (1 : Int)) (b := (0 : Int)) hb234 rfl q242
          exfalso
          omega
  · skip
    have pb230 : ¬ (((S102.1 26)).toInt = 3 ∧ ((S102.1 29)).toInt = (256 : Int)) := pb230
    show aw_W _ _ _ _ 139 lv103 [.int b230] _ _
    refine aw_z (tgt := 150) aj_d213 rfl rfl (fun q246 => ?_) (fun q246 => ?_)
    · have q246 : (0 : Int) = (0 : Int) := aw_t_eq (a := (0 : Int)) (b := (0 : Int)) hb230 rfl q246
      refine aw_l2 aj_d213 rfl rfl hlv103_0 ?_
      refine aw_l0 aj_d213 rfl rfl hlv103_1 ?_
      refine aw_k hU.1 aj_d213 rfl rfl [_] rfl rfl rfl (Nat.le_of_ble_eq_true rfl) (ar_list hU (hI108).1 hI106.2 (by omega) (x := x104) (by omega) (by rw [show aw_h S102 = aw_h S from ehh, show S102.2.2.1 1 = S.2.2.1 1 from e11]; omega) h31) ?_
      rintro _ S247 ⟨hT247, fc247, ⟨b247, rfl, hb247, hG247, ck247⟩ | ⟨b247, rfl, hb247, hG247, ck247, m3247, o3247⟩⟩
      · skip
        have ck247 : ((S102.1 30)).toInt ≤ (S247.1 30).toInt := ck247
        have fr248 := aw_fr_tr fr107 (aw_fr_sub (F := [24, 25, 26, 27, 28, 29, 30, 31, 35, 36]) (A := [3, 4]) (by decide) (by decide) fc247)
        have hI249 : aw_I s h (aw_sm S247) S247 := ⟨hT247, aw_sm_rf⟩
        show aw_W _ _ _ _ 155 lv103 [.int b247] _ _
        refine aw_t0 (j := 4) aj_d213 rfl (by decide) rfl ?_
        obtain ⟨lv250, elv250⟩ : ∃ l, l = aj_set1 lv103 4 (.int b247) := ⟨_, rfl⟩
        rw [← elv250]
        have hlv250_0 : aj_lv lv250 0 = some (.ref 117) := cw_e1 elv250 hlv103_0 (by decide) (Or.inl (by decide))
        have hlv250_1 : aj_lv lv250 1 = some (.int x104) := cw_e1 elv250 hlv103_1 (by decide) (Or.inl (by decide))
        have hlv250_2 : aj_lv lv250 2 = some (.long y105) := cw_e1 elv250 hlv103_2 (by decide) (Or.inl (by decide))
        have hlv250_4 : aj_lv lv250 4 = some (.int b247) := by rw [elv250]; exact ak_set1_eq _ _ _
        show aw_W _ _ _ _ 157 lv250 [] _ _
        refine aw_l0 aj_d213 rfl rfl hlv250_4 ?_
        refine aw_z (tgt := 164) aj_d213 rfl rfl (fun q251 => ?_) (fun q251 => ?_)
        · have q251 : (0 : Int) ≠ (0 : Int) := aw_t_ne (a := (0 : Int)) (b := (0 : Int)) hb247 rfl q251
          exfalso
          omega
        · have q251 : (0 : Int) = (0 : Int) := aw_t_ne (a := (0 : Int)) (b := (0 : Int)) hb247 rfl q251
          refine aw_n aj_d213 rfl rfl ?_
          refine aw_e aj_d213 rfl rfl ?_
          exact ⟨(hI249).1, fr248, Or.inl ⟨_, rfl, rfl, aw_G_B hG247⟩⟩
      · skip
        have ck247 : ((S102.1 30)).toInt + 0 ≤ (S247.1 30).toInt := ck247
        have vm : (S247.2.2.1 3 (x104.toInt).toNat).toInt = aw_vm (aw_tF S) (aw_tT S) (aw_tJ S) := by
          have tk := (hI106.2).1.2.1
          rw [show aw_tT S102 = aw_tT S from eT4, show aw_tJ S102 = aw_tJ S + (3 + aw_wd (aw_tT S) (aw_tJ S + 3)) from eJ4] at tk
          have is : ¬ aw_is (aw_tT S) (aw_tJ S + 3 + aw_wd (aw_tT S) (aw_tJ S + 3)) 3 256 := by
            rw [Nat.add_assoc]
            intro z
            have z1 := tk.1.trans z.1
            have z2 := tk.2.2.2.trans z.2
            have z1 : ((S102.1 26)).toInt = 3 := z1
            have z2 : ((S102.1 29)).toInt = 256 := z2
            omega
          have m := m3247
          rw [show aw_tT S102 = aw_tT S from eT4, show aw_tJ S102 = aw_tJ S + (3 + aw_wd (aw_tT S) (aw_tJ S + 3)) from eJ4, ← Nat.add_assoc (aw_tJ S) 3] at m
          unfold aw_vm
          rw [if_neg is, m]
          omega
        have fr252 := aw_fr_tr fr107 (aw_fr_sub (F := [24, 25, 26, 27, 28, 29, 30, 31, 35, 36]) (A := [3, 4]) (by decide) (by decide) fc247)
        have hI253 : aw_I s h (aw_sm S247) S247 := ⟨hT247, aw_sm_rf⟩
        show aw_W _ _ _ _ 155 lv103 [.int b247] _ _
        refine aw_t0 (j := 4) aj_d213 rfl (by decide) rfl ?_
        obtain ⟨lv254, elv254⟩ : ∃ l, l = aj_set1 lv103 4 (.int b247) := ⟨_, rfl⟩
        rw [← elv254]
        have hlv254_0 : aj_lv lv254 0 = some (.ref 117) := cw_e1 elv254 hlv103_0 (by decide) (Or.inl (by decide))
        have hlv254_1 : aj_lv lv254 1 = some (.int x104) := cw_e1 elv254 hlv103_1 (by decide) (Or.inl (by decide))
        have hlv254_2 : aj_lv lv254 2 = some (.long y105) := cw_e1 elv254 hlv103_2 (by decide) (Or.inl (by decide))
        have hlv254_4 : aj_lv lv254 4 = some (.int b247) := by rw [elv254]; exact ak_set1_eq _ _ _
        show aw_W _ _ _ _ 157 lv254 [] _ _
        refine aw_l0 aj_d213 rfl rfl hlv254_4 ?_
        refine aw_z (tgt := 164) aj_d213 rfl rfl (fun q255 => ?_) (fun q255 => ?_)
        · have q255 : (1 : Int) ≠ (0 : Int) := aw_t_ne (a := (1 : Int)) (b := (0 : Int)) hb247 rfl q255
          have c256 : (S247.1 37).toInt = (S102.1 37).toInt := (congrArg Int32.toInt (fc247.1 37 (by decide)).1).trans rfl
          have b257 : 0 ≤ (S247.1 37).toInt ∧ (S247.1 37).toInt ≤ 1 := aw_bd_f hs (hI253).1 (by decide) rfl
          have b258 : 0 ≤ (S247.1 30).toInt ∧ (S247.1 30).toInt ≤ 1001 := aw_bd_f hs (hI253).1 (by decide) rfl
          exact (ar_unk_L164_110 hU hd j1 eJ0 S64 S102) S247 lv254 (x104) (y105) hlv254_0 hlv254_1 hlv254_2 ⟨(hI253).1, hG247⟩ fr252 (by omega) (by rw [(show aw_h S247 = aw_h S from (by unfold aw_h; rw [show (S247.1 37).toInt = (S.1 37).toInt from (show ((S247.1 37)).toInt = _ by omega)])), (show S247.2.2.1 1 = S.2.2.1 1 from (((fc247.2 1 (by decide)).1.trans rfl)).trans a132)]; omega) (by rw [(show aw_h S247 = aw_h S from (by unfold aw_h; rw [show (S247.1 37).toInt = (S.1 37).toInt from (show ((S247.1 37)).toInt = _ by omega)])), (show S247.2.2.1 1 = S.2.2.1 1 from (((fc247.2 1 (by decide)).1.trans rfl)).trans a132)]; omega) n132 vm (show _ ≤ ((S247.1 30)).toInt by omega)
        · have q255 : (1 : Int) = (0 : Int) := aw_t_ne (a := (1 : Int)) (b := (0 : Int)) hb247 rfl q255
          exfalso
          omega
    · have q246 : (0 : Int) ≠ (0 : Int) := aw_t_eq (a := (0 : Int)) (b := (0 : Int)) hb230 rfl q246
      exfalso
      omega
theorem ar_unk_L94_62 (hU : aw_U tb s h) (hd : 9 ≤ d + 1) (j1 : 1 ≤ aw_tJ S) (eJ0 : (aw_tJ S : Int) = (S.1 30).toInt)  : ∀ (S64 : aj_S) (lv65 : aj_V) (x66 : Int32) (y67 : Int64), (aj_lv lv65 0 = some (.ref 117)) → (aj_lv lv65 1 = some (.int x66)) → (aj_lv lv65 2 = some (.long y67)) → (aw_I s h (aw_G (nm, false, la, 0, aw_tJ S, 0)) S64) → (aw_fr [24, 25, 26, 27, 28, 29, 30, 31, 33, 34, 35, 36] [1, 2, 3, 4, 5, 6, 12, 19] S S64) → (0 ≤ x66.toInt ∧ x66.toInt ≤ 15) → (x66.toInt = (aw_h S : Int) * 8 + (S.2.2.1 1 (aw_h S)).toInt) → (0 ≤ (S.2.2.1 1 (aw_h S)).toInt ∧ (S.2.2.1 1 (aw_h S)).toInt ≤ 7) → (y67 = aw_nm (aw_tF S) (aw_tT S) (aw_tJ S + 1)) → (S64.2.2.1 1 = S.2.2.1 1) → ((S64.1 37).toInt = (S.1 37).toInt) → ((S64.1 30).toInt = (S.1 30).toInt + 2) → aw_W tb h d aj_m213 94 lv65 [] S64 ((ar_QB s h [24, 25, 26, 27, 28, 29, 30, 31, 33, 34, 35, 36] [1, 2, 3, 4, 5, 6, 12, 19] S aw_B (fun S' => aw_G (nm, false, la, 0, 0, 0) S' ∧ (S.1 30).toInt + 1 ≤ (S'.1 30).toInt))) := by
  have hs : aw_sT s := aw_hy_sT hU.2.2
  intro S64 lv65 x66 y67 hlv65_0 hlv65_1 hlv65_2 hI68 fr69 bx66 x94 c94 n94 a94 i94 j94
  have hI70 : aw_I s h (aw_sm S64) S64 := ⟨hI68.1, aw_sm_rf⟩
  have b71 : 0 ≤ (S64.1 30).toInt ∧ (S64.1 30).toInt ≤ 1001 := aw_bd_f hs (hI70).1 (by decide) rfl
  have b72 : 0 ≤ (S64.1 37).toInt ∧ (S64.1 37).toInt ≤ 1 := aw_bd_f hs (hI70).1 (by decide) rfl
  refine aw_l2 aj_d213 rfl rfl hlv65_0 ?_
  refine aw_n aj_d213 rfl rfl ?_
  have b74 : 0 ≤ (S64.1 26).toInt ∧ (S64.1 26).toInt ≤ 5 := aw_bd_f hs (hI70).1 (by decide) rfl
  refine aw_k hU.1 aj_d213 rfl rfl [_] rfl rfl rfl (Nat.le_of_ble_eq_true rfl) (ar_sign1 hU (hI70).1 hI68.2 (by omega) (x := (Int8.ofInt 58).toInt32) (c := 58) rfl (by decide)) ?_
  rintro _ S73 ⟨hT73, fc73, ⟨b73, rfl, hb73, hG73, ck73⟩ | ⟨b73, rfl, hb73, hG73, cj73, p373, p973, fd73⟩⟩
  · skip
    have ck73 : ((S64.1 30)).toInt ≤ (S73.1 30).toInt := ck73
    have fr75 := aw_fr_tr fr69 (aw_fr_sub (F := [24, 25, 26, 27, 28, 29, 30, 31]) (A := []) (by decide) (by decide) fc73)
    have hI76 : aw_I s h (aw_sm S73) S73 := ⟨hT73, aw_sm_rf⟩
    show aw_W _ _ _ _ 100 lv65 [.int b73] _ _
    refine aw_z (tgt := 110) aj_d213 rfl rfl (fun q77 => ?_) (fun q77 => ?_)
    · have q77 : (0 : Int) = (0 : Int) := aw_t_eq (a := (0 : Int)) (b := (0 : Int)) hb73 rfl q77
      refine aw_n aj_d213 rfl rfl ?_
      refine aw_e aj_d213 rfl rfl ?_
      exact ⟨(hI76).1, fr75, Or.inl ⟨_, rfl, rfl, aw_G_B hG73⟩⟩
    · have q77 : (0 : Int) ≠ (0 : Int) := aw_t_eq (a := (0 : Int)) (b := (0 : Int)) hb73 rfl q77
      exfalso
      omega
  · skip
    have cj73 : (S73.1 30).toInt = ((S64.1 30)).toInt + 1 := cj73
    have p373 : ((S64.1 26)).toInt = 3 := p373
    have p973 : ((S64.1 29)).toInt = 58 := p973
    have fr78 := aw_fr_tr fr69 (aw_fr_sub (F := [26, 27, 28, 29, 30]) (A := []) (by decide) (by decide) fd73)
    have hI79 : aw_I s h (aw_sm S73) S73 := ⟨hT73, aw_sm_rf⟩
    show aw_W _ _ _ _ 100 lv65 [.int b73] _ _
    refine aw_z (tgt := 110) aj_d213 rfl rfl (fun q80 => ?_) (fun q80 => ?_)
    · have q80 : (1 : Int) = (0 : Int) := aw_t_eq (a := (1 : Int)) (b := (0 : Int)) hb73 rfl q80
      exfalso
      omega
    · have q80 : (1 : Int) ≠ (0 : Int) := aw_t_eq (a := (1 : Int)) (b := (0 : Int)) hb73 rfl q80
      have b81 : 0 ≤ (S73.1 30).toInt ∧ (S73.1 30).toInt ≤ 1001 := aw_bd_f hs (hI79).1 (by decide) rfl
      have eT3 : aw_tT S73 = aw_tT S := aw_fr_tT fr78 (by decide) (by decide)
      have eF3 : aw_tF S73 = aw_tF S := (fr78.2 21 (by decide)).1
      have eJ3 : aw_tJ S73 = aw_tJ S + 3 := by
        have q : (S73.1 30).toInt = (aw_tJ S : Int) + ((3 : Nat) : Int) := (show ((S73.1 30)).toInt = _ by omega)
        unfold aw_tJ at q ⊢
        omega
      refine aw_l2 aj_d213 rfl rfl hlv65_0 ?_
      refine aw_k hU.1 aj_d213 rfl rfl [] rfl rfl rfl (Nat.le_of_ble_eq_true rfl) (ar_whole hU (hI79).1 hG73 (by omega)) ?_
      rintro _ S82 ⟨hT82, fc82, ⟨b82, rfl, hb82, hG82, ck82⟩ | ⟨b82, rfl, hb82, hG82, ck82, wj82, wn82⟩⟩
      · skip
        have ck82 : ((S73.1 30)).toInt ≤ (S82.1 30).toInt := ck82
        have fr83 := aw_fr_tr fr78 (aw_fr_sub (F := [24, 25, 26, 27, 28, 29, 30, 31, 35, 36]) (A := []) (by decide) (by decide) fc82)
        have hI84 : aw_I s h (aw_sm S82) S82 := ⟨hT82, aw_sm_rf⟩
        show aw_W _ _ _ _ 107 lv65 [.int b82] _ _
        refine aw_z (tgt := 112) aj_d213 rfl rfl (fun q85 => ?_) (fun q85 => ?_)
        · have q85 : (0 : Int) ≠ (0 : Int) := aw_t_ne (a := (0 : Int)) (b := (0 : Int)) hb82 rfl q85
          exfalso
          omega
        · have q85 : (0 : Int) = (0 : Int) := aw_t_ne (a := (0 : Int)) (b := (0 : Int)) hb82 rfl q85
          refine aw_n aj_d213 rfl rfl ?_
          refine aw_e aj_d213 rfl rfl ?_
          exact ⟨(hI84).1, fr83, Or.inl ⟨_, rfl, rfl, aw_G_B hG82⟩⟩
      · skip
        have ck82 : ((S73.1 30)).toInt + 1 ≤ (S82.1 30).toInt := ck82
        have fr86 := aw_fr_tr fr78 (aw_fr_sub (F := [24, 25, 26, 27, 28, 29, 30, 31, 35, 36]) (A := []) (by decide) (by decide) fc82)
        have hI87 : aw_I s h (aw_sm S82) S82 := ⟨hT82, aw_sm_rf⟩
        show aw_W _ _ _ _ 107 lv65 [.int b82] _ _
        refine aw_z (tgt := 112) aj_d213 rfl rfl (fun q88 => ?_) (fun q88 => ?_)
        · have q88 : (1 : Int) ≠ (0 : Int) := aw_t_ne (a := (1 : Int)) (b := (0 : Int)) hb82 rfl q88
          rw [eT3, eJ3] at wj82
          rw [eT3, eF3, eJ3] at wn82
          have wdb : aw_wd (aw_tT S) (aw_tJ S + 3) ≤ 2 := by
            unfold aw_wd
            split <;> omega
          refine aw_l2 aj_d213 rfl rfl hlv65_0 ?_
          refine aw_g hU.1 aj_d213 rfl rfl (by decide) (v := .ref 121) rfl ?_
          refine aw_l0 aj_d213 rfl rfl hlv65_1 ?_
          refine aw_n aj_d213 rfl rfl ?_
          refine aw_mul aj_d213 rfl (a := x66.toInt) (b := (64 : Int)) rfl rfl (by omega) (by omega) (fun x89 ex89 => ?_)
          refine aw_l2 aj_d213 rfl rfl hlv65_0 ?_
          have b90 : (-9999) ≤ (S82.1 35).toInt ∧ (S82.1 35).toInt ≤ 9999 := aw_bd_f hs (hI87).1 (by decide) rfl
          refine aw_g hU.1 aj_d213 rfl rfl (by decide) (v := .int (S82.1 35)) rfl ?_
          refine aw_st (k := 4) hU.1 aj_d213 (Or.inl ⟨rfl, rfl⟩) rfl (by decide) (by decide) rfl (a := x89.toInt) rfl (by omega) (by omega) ?_
          have hI91 := aw_I_a (aw_UV hU aw_Gs_sm) (k := 4) (j := (x89.toInt).toNat) (v := aj_nar 0 (S82.1 35)) hI87 (by decide) (by decide) (by decide) rfl (by decide) (by decide) rfl (aw_full _)
          have fr92 := aw_fr_a (k := 4) (j := (x89.toInt).toNat) (v := aj_nar 0 (S82.1 35)) (by decide) fr86
          refine aw_l2 aj_d213 rfl rfl hlv65_0 ?_
          refine aw_g hU.1 aj_d213 rfl rfl (by decide) (v := .ref 120) rfl ?_
          refine aw_l0 aj_d213 rfl rfl hlv65_1 ?_
          have c93 : (S73.1 37).toInt = (S64.1 37).toInt := (congrArg Int32.toInt (fd73.1 37 (by decide)).1).trans rfl
          have b94 : 0 ≤ (S73.1 37).toInt ∧ (S73.1 37).toInt ≤ 1 := aw_bd_f hs (hI79).1 (by decide) rfl
          have c95 : (S82.1 37).toInt = (S64.1 37).toInt := (congrArg Int32.toInt (fc82.1 37 (by decide)).1).trans c93
          have b96 : 0 ≤ (S82.1 37).toInt ∧ (S82.1 37).toInt ≤ 1 := aw_bd_f hs (hI87).1 (by decide) rfl
          refine aw_n aj_d213 rfl rfl ?_
          refine aw_st (k := 3) hU.1 aj_d213 (Or.inl ⟨rfl, rfl⟩) rfl (by decide) (by decide) rfl (a := x66.toInt) rfl (by omega) (by omega) ?_
          have hI97 : aw_I s h (aw_sm (aw_wa (aw_wa S82 4 (x89.toInt).toNat (aj_nar 0 (S82.1 35))) 3 (x66.toInt).toNat (aj_nar 0 (Int32.ofInt 1)))) (aw_wa (aw_wa S82 4 (x89.toInt).toNat (aj_nar 0 (S82.1 35))) 3 (x66.toInt).toNat (aj_nar 0 (Int32.ofInt 1))) := ⟨aw_T_a hU.2.1 hs hU.1.1 (hI91).1 (by decide) (by decide) rfl (by decide) (by decide) rfl (aw_bp (a := (1 : Int)) rfl (by omega) (by omega)), aw_sm_rf⟩
          have fr98 := aw_fr_a (k := 3) (j := (x66.toInt).toNat) (v := aj_nar 0 (Int32.ofInt 1)) (by decide) fr92
          have ehh := (show aw_h (aw_wa S82 4 (x89.toInt).toNat (aj_nar 0 (S82.1 35))) = aw_h S from (by unfold aw_h; rw [show ((aw_wa S82 4 (x89.toInt).toNat (aj_nar 0 (S82.1 35))).1 37).toInt = (S.1 37).toInt from (show ((S82.1 37)).toInt = _ by omega)]))
          have e11 := (show (aw_wa S82 4 (x89.toInt).toNat (aj_nar 0 (S82.1 35))).2.2.1 1 = S.2.2.1 1 from (((fc82.2 1 (by decide)).1.trans ((fd73.2 1 (by decide)).1.trans rfl))).trans a94)
          have hx1 : (x66.toInt).toNat = aw_h S * 8 + (S.2.2.1 1 (aw_h S)).toInt.toNat := by omega
          have hG100 : aw_G (nm, false, la, 0, aw_tJ S, 0) (aw_wa (aw_wa S82 4 (x89.toInt).toNat (aj_nar 0 (S82.1 35))) 3 (x66.toInt).toNat (aj_nar 0 (Int32.ofInt 1))) := aw_G_t3 (aw_G_sm hI91.2 hG82) (by rw [ehh, e11]; omega)
          have h31 : ((aw_wa (aw_wa S82 4 (x89.toInt).toNat (aj_nar 0 (S82.1 35))) 3 (x66.toInt).toNat (aj_nar 0 (Int32.ofInt 1))).2.2.1 3 (x66.toInt).toNat).toInt = 1 := by
            show (upd (_) (x66.toInt).toNat (aj_nar 0 (Int32.ofInt 1)) (x66.toInt).toNat).toInt = 1
            unfold upd
            rw [if_pos (by omega)]
            rfl
          have h41a : ((aw_wa (aw_wa S82 4 (x89.toInt).toNat (aj_nar 0 (S82.1 35))) 3 (x66.toInt).toNat (aj_nar 0 (Int32.ofInt 1))).2.2.1 4 ((x66.toInt).toNat * 64)).toInt = ((S82.1 35)).toInt := by
            show (upd (_) (x89.toInt).toNat (aj_nar 0 (S82.1 35)) ((x66.toInt).toNat * 64)).toInt = _
            unfold upd
            rw [if_pos (by omega)]
            rfl
          have h41 : ((aw_wa (aw_wa S82 4 (x89.toInt).toNat (aj_nar 0 (S82.1 35))) 3 (x66.toInt).toNat (aj_nar 0 (Int32.ofInt 1))).2.2.1 4 ((x66.toInt).toNat * 64)).toInt = aw_num (aw_tF S) (aw_tT S) (aw_tJ S + 3) := h41a.trans wn82
          have hv41 : -999999999 ≤ ((aw_wa (aw_wa S82 4 (x89.toInt).toNat (aj_nar 0 (S82.1 35))) 3 (x66.toInt).toNat (aj_nar 0 (Int32.ofInt 1))).2.2.1 4 ((x66.toInt).toNat * 64)).toInt ∧ ((aw_wa (aw_wa S82 4 (x89.toInt).toNat (aj_nar 0 (S82.1 35))) 3 (x66.toInt).toNat (aj_nar 0 (Int32.ofInt 1))).2.2.1 4 ((x66.toInt).toNat * 64)).toInt ≤ 999999999 := by
            rw [h41a]
            omega
          have hI101 : aw_I s h (aw_sm (aw_wa (aw_wa S82 4 (x89.toInt).toNat (aj_nar 0 (S82.1 35))) 3 (x66.toInt).toNat (aj_nar 0 (Int32.ofInt 1)))) (aw_wa (aw_wa S82 4 (x89.toInt).toNat (aj_nar 0 (S82.1 35))) 3 (x66.toInt).toNat (aj_nar 0 (Int32.ofInt 1))) := ⟨(hI97).1, aw_sm_rf⟩
          have b259 : 0 ≤ (S82.1 30).toInt ∧ (S82.1 30).toInt ≤ 1001 := aw_bd_f hs (hI87).1 (by decide) rfl
          exact (ar_unk_L132_98 hU hd j1 eJ0 S64) (aw_wa (aw_wa S82 4 (x89.toInt).toNat (aj_nar 0 (S82.1 35))) 3 (x66.toInt).toNat (aj_nar 0 (Int32.ofInt 1))) lv65 (x66) (y67) hlv65_0 hlv65_1 hlv65_2 ⟨(hI101).1, hG100⟩ fr98 (by omega) x94 c94 n94 (show (aw_wa (aw_wa S82 4 (x89.toInt).toNat (aj_nar 0 (S82.1 35))) 3 (x66.toInt).toNat (aj_nar 0 (Int32.ofInt 1))).2.2.1 1 = S.2.2.1 1 from (((fc82.2 1 (by decide)).1.trans ((fd73.2 1 (by decide)).1.trans rfl))).trans a94) (show ((S82.1 37)).toInt = _ by omega) (show ((S82.1 30)).toInt = _ by omega) h31 h41 hv41
        · have q88 : (1 : Int) = (0 : Int) := aw_t_ne (a := (1 : Int)) (b := (0 : Int)) hb82 rfl q88
          exfalso
          omega
theorem ar_unknownTold (hU : aw_U tb s h) (hT : ak_Ty ak_TN s (aj_mh h S)) (hG : aw_G (nm, false, la, 0, 0, 0) S) (hd : 9 ≤ d) (hk : (S.1 26).toInt = 4 ∧ (S.1 29).toInt = 0) : aw_K tb h d 213 [.ref 117] S (ar_QB s h [24, 25, 26, 27, 28, 29, 30, 31, 33, 34, 35, 36] [1, 2, 3, 4, 5, 6, 12, 19] S aw_B (fun S' => aw_G (nm, false, la, 0, 0, 0) S' ∧ (S.1 30).toInt + 1 ≤ (S'.1 30).toInt)) := by
  obtain ⟨d, rfl⟩ : ∃ e, d = e + 1 := ⟨d - 1, by omega⟩
  have hs : aw_sT s := aw_hy_sT hU.2.2
  refine aw_m aj_m213_at rfl (Nat.le_of_ble_eq_true rfl) ?_
  show aw_W _ _ _ _ 0 [(0, .ref 117)] [] _ _
  obtain ⟨lv26, elv26⟩ : ∃ l : aj_V, l = [(0, .ref 117)] := ⟨_, rfl⟩
  rw [← elv26]
  have hlv26_0 : aj_lv lv26 0 = some (.ref 117) := by rw [elv26]; rfl
  have hI27 : aw_I s h (aw_sm S) S := ⟨hT, aw_sm_rf⟩
  have fr28 : aw_fr [24, 25, 26, 27, 28, 29, 30, 31, 33, 34, 35, 36] [1, 2, 3, 4, 5, 6, 12, 19] S S := aw_fr_rf
  refine aw_l2 aj_d213 rfl rfl hlv26_0 ?_
  have i4 : aw_is (aw_tT S) (aw_tJ S) 4 0 := ⟨hG.1.2.1.1.symm.trans hk.1, hG.1.2.1.2.2.2.symm.trans hk.2⟩
  have ni : ∀ b : Int, b ≠ 0 → ¬ aw_is (aw_tT S) (aw_tJ S) 4 b := fun b b1 z => b1 (z.2.symm.trans i4.2)
  have n3 : ¬ aw_is (aw_tT S) (aw_tJ S) 3 63 := fun z => absurd (i4.1.symm.trans z.1) (by decide)
  have j1 : 1 ≤ aw_tJ S := hG.1.1
  have eJ0 : (aw_tJ S : Int) = (S.1 30).toInt := by
    unfold aw_tJ at j1 ⊢
    omega
  refine aw_k hU.1 aj_d213 rfl rfl [] rfl rfl rfl (Nat.le_of_ble_eq_true rfl) (ar_passG (ho' := 0) (hu' := aw_tJ S) (ht' := 0) hU (hI27).1 hG (by omega) (show (S.1 26).toInt ≠ 0 by omega) ⟨Or.inl rfl, Or.inr ⟨n3, ni 2 (by decide)⟩⟩ (Or.inr ⟨rfl, rfl, i4⟩) (Or.inl ⟨rfl, fun z => z.elim (ni 1 (by decide)) (ni 5 (by decide))⟩)) ?_
  rintro _ S29 ⟨hT29, fc29, ⟨b29, rfl, hb29, hG29, fd29, hz29⟩ | ⟨b29, rfl, hb29, hG29, fd29, cj29⟩⟩
  · skip
    have fr30 := aw_fr_tr fr28 (aw_fr_sub (F := [24, 25, 31]) (A := []) (by decide) (by decide) fd29)
    have hI31 : aw_I s h (aw_sm S29) S29 := ⟨hT29, aw_sm_rf⟩
    show aw_W _ _ _ _ 4 lv26 [.int b29] _ _
    refine aw_z (tgt := 9) aj_d213 rfl rfl (fun q32 => ?_) (fun q32 => ?_)
    · have q32 : (0 : Int) ≠ (0 : Int) := aw_t_ne (a := (0 : Int)) (b := (0 : Int)) hb29 rfl q32
      exfalso
      omega
    · have q32 : (0 : Int) = (0 : Int) := aw_t_ne (a := (0 : Int)) (b := (0 : Int)) hb29 rfl q32
      refine aw_n aj_d213 rfl rfl ?_
      refine aw_e aj_d213 rfl rfl ?_
      exact ⟨(hI31).1, fr30, Or.inl ⟨_, rfl, rfl, aw_G_B hG29⟩⟩
  · skip
    have cj29 : (S29.1 30).toInt = (S.1 30).toInt + 1 := cj29
    have fr33 := aw_fr_tr fr28 (aw_fr_sub (F := [26, 27, 28, 29, 30]) (A := []) (by decide) (by decide) fd29)
    have hI34 : aw_I s h (aw_sm S29) S29 := ⟨hT29, aw_sm_rf⟩
    show aw_W _ _ _ _ 4 lv26 [.int b29] _ _
    refine aw_z (tgt := 9) aj_d213 rfl rfl (fun q35 => ?_) (fun q35 => ?_)
    · have q35 : (1 : Int) ≠ (0 : Int) := aw_t_ne (a := (1 : Int)) (b := (0 : Int)) hb29 rfl q35
      refine aw_l2 aj_d213 rfl rfl hlv26_0 ?_
      have b36 : 0 ≤ (S29.1 26).toInt ∧ (S29.1 26).toInt ≤ 5 := aw_bd_f hs (hI34).1 (by decide) rfl
      refine aw_g hU.1 aj_d213 rfl rfl (by decide) (v := .int (S29.1 26)) rfl ?_
      refine aw_n aj_d213 rfl rfl ?_
      refine aw_c (tgt := 41) aj_d213 rfl rfl (fun q37 => ?_) (fun q37 => ?_)
      · have q37 : (S29.1 26).toInt ≠ (1 : Int) := aw_t_ne (a := (S29.1 26).toInt) (b := (1 : Int)) rfl rfl q37
        refine aw_l2 aj_d213 rfl rfl hlv26_0 ?_
        have b38 : 0 ≤ (S29.1 30).toInt ∧ (S29.1 30).toInt ≤ 1001 := aw_bd_f hs (hI34).1 (by decide) rfl
        have eT50 : aw_tT S29 = aw_tT S := aw_fr_tT fr33 (by decide) (by decide)
        have eF50 : aw_tF S29 = aw_tF S := (fr33.2 21 (by decide)).1
        have eJ50 : aw_tJ S29 = aw_tJ S + 1 := by
          have q : (S29.1 30).toInt = (aw_tJ S : Int) + ((1 : Nat) : Int) := (show ((S29.1 30)).toInt = _ by omega)
          unfold aw_tJ at q ⊢
          omega
        refine aw_k hU.1 aj_d213 rfl rfl [] rfl rfl rfl (Nat.le_of_ble_eq_true rfl) (ar_named hU (hI34).1 hG29 (by omega)) ?_
        rintro _ S39 ⟨hT39, fc39, ⟨b39, rfl, hb39, hG39, ck39, hz39⟩ | ⟨b39, rfl, hb39, hG39, ck39, cj39, k139, nm39⟩⟩
        · skip
          have ck39 : ((S29.1 30)).toInt ≤ (S39.1 30).toInt := ck39
          have fr40 := aw_fr_tr fr33 (aw_fr_sub (F := [24, 25, 26, 27, 28, 29, 30, 31, 33, 34]) (A := []) (by decide) (by decide) fc39)
          have hI41 : aw_I s h (aw_sm S39) S39 := ⟨hT39, aw_sm_rf⟩
          show aw_W _ _ _ _ 45 lv26 [.int b39] _ _
          refine aw_z (tgt := 50) aj_d213 rfl rfl (fun q42 => ?_) (fun q42 => ?_)
          · have q42 : (0 : Int) ≠ (0 : Int) := aw_t_ne (a := (0 : Int)) (b := (0 : Int)) hb39 rfl q42
            exfalso
            omega
          · have q42 : (0 : Int) = (0 : Int) := aw_t_ne (a := (0 : Int)) (b := (0 : Int)) hb39 rfl q42
            refine aw_n aj_d213 rfl rfl ?_
            refine aw_e aj_d213 rfl rfl ?_
            exact ⟨(hI41).1, fr40, Or.inl ⟨_, rfl, rfl, aw_G_B hG39⟩⟩
        · skip
          have cj39 : (S39.1 30).toInt = ((S29.1 30)).toInt + 1 := cj39
          have k139 : ((S29.1 26)).toInt = 1 := k139
          exfalso
          omega
      · have q37 : (S29.1 26).toInt = (1 : Int) := aw_t_ne (a := (S29.1 26).toInt) (b := (1 : Int)) rfl rfl q37
        refine aw_l2 aj_d213 rfl rfl hlv26_0 ?_
        refine aw_g hU.1 aj_d213 rfl rfl (by decide) (v := .ref 118) rfl ?_
        refine aw_l2 aj_d213 rfl rfl hlv26_0 ?_
        have b43 : 0 ≤ (S.1 37).toInt ∧ (S.1 37).toInt ≤ 1 := aw_bd_f hs (hI27).1 (by decide) rfl
        have c44 : (S29.1 37).toInt = (S.1 37).toInt := (congrArg Int32.toInt (fd29.1 37 (by decide)).1).trans rfl
        have b45 : 0 ≤ (S29.1 37).toInt ∧ (S29.1 37).toInt ≤ 1 := aw_bd_f hs (hI34).1 (by decide) rfl
        refine aw_g hU.1 aj_d213 rfl rfl (by decide) (v := .int (S29.1 37)) rfl ?_
        refine aw_ld (k := 1) hU.1 aj_d213 (Or.inl ⟨rfl, rfl⟩) rfl (by decide) (by decide) rfl (a := (S.1 37).toInt) c44 (by omega) (by omega) (fun x46 ex46 => ?_)
        have bx46 : 0 ≤ x46.toInt ∧ x46.toInt ≤ 8 := by
          rw [ex46]
          exact aw_bd_a hs (hI34).1 (k := 1) (by decide) (by decide) rfl (by decide) rfl (by omega)
        have y1x46 : x46.toInt = (S.2.2.1 1 (aw_h S)).toInt := (congrArg Int32.toInt ex46).trans (by rw [show (S29.2.2.1 1) = S.2.2.1 1 from ((fd29.2 1 (by decide)).1.trans rfl)]; rfl)
        refine aw_n aj_d213 rfl rfl ?_
        refine aw_c (tgt := 41) aj_d213 rfl rfl (fun q47 => ?_) (fun q47 => ?_)
        · have q47 : x46.toInt ≠ (8 : Int) := aw_t_ne (a := x46.toInt) (b := (8 : Int)) rfl rfl q47
          refine aw_l2 aj_d213 rfl rfl hlv26_0 ?_
          have b48 : 0 ≤ (S29.1 30).toInt ∧ (S29.1 30).toInt ≤ 1001 := aw_bd_f hs (hI34).1 (by decide) rfl
          have eT50 : aw_tT S29 = aw_tT S := aw_fr_tT fr33 (by decide) (by decide)
          have eF50 : aw_tF S29 = aw_tF S := (fr33.2 21 (by decide)).1
          have eJ50 : aw_tJ S29 = aw_tJ S + 1 := by
            have q : (S29.1 30).toInt = (aw_tJ S : Int) + ((1 : Nat) : Int) := (show ((S29.1 30)).toInt = _ by omega)
            unfold aw_tJ at q ⊢
            omega
          refine aw_k hU.1 aj_d213 rfl rfl [] rfl rfl rfl (Nat.le_of_ble_eq_true rfl) (ar_named hU (hI34).1 hG29 (by omega)) ?_
          rintro _ S49 ⟨hT49, fc49, ⟨b49, rfl, hb49, hG49, ck49, hz49⟩ | ⟨b49, rfl, hb49, hG49, ck49, cj49, k149, nm49⟩⟩
          · skip
            have ck49 : ((S29.1 30)).toInt ≤ (S49.1 30).toInt := ck49
            have fr50 := aw_fr_tr fr33 (aw_fr_sub (F := [24, 25, 26, 27, 28, 29, 30, 31, 33, 34]) (A := []) (by decide) (by decide) fc49)
            have hI51 : aw_I s h (aw_sm S49) S49 := ⟨hT49, aw_sm_rf⟩
            show aw_W _ _ _ _ 45 lv26 [.int b49] _ _
            refine aw_z (tgt := 50) aj_d213 rfl rfl (fun q52 => ?_) (fun q52 => ?_)
            · have q52 : (0 : Int) ≠ (0 : Int) := aw_t_ne (a := (0 : Int)) (b := (0 : Int)) hb49 rfl q52
              exfalso
              omega
            · have q52 : (0 : Int) = (0 : Int) := aw_t_ne (a := (0 : Int)) (b := (0 : Int)) hb49 rfl q52
              refine aw_n aj_d213 rfl rfl ?_
              refine aw_e aj_d213 rfl rfl ?_
              exact ⟨(hI51).1, fr50, Or.inl ⟨_, rfl, rfl, aw_G_B hG49⟩⟩
          · skip
            have cj49 : (S49.1 30).toInt = ((S29.1 30)).toInt + 1 := cj49
            have k149 : ((S29.1 26)).toInt = 1 := k149
            have fr53 := aw_fr_tr fr33 (aw_fr_sub (F := [24, 25, 26, 27, 28, 29, 30, 31, 33, 34]) (A := []) (by decide) (by decide) fc49)
            have hI54 : aw_I s h (aw_sm S49) S49 := ⟨hT49, aw_sm_rf⟩
            show aw_W _ _ _ _ 45 lv26 [.int b49] _ _
            refine aw_z (tgt := 50) aj_d213 rfl rfl (fun q55 => ?_) (fun q55 => ?_)
            · have q55 : (1 : Int) ≠ (0 : Int) := aw_t_ne (a := (1 : Int)) (b := (0 : Int)) hb49 rfl q55
              rw [show aw_tT S29 = aw_tT S from eT50, show aw_tF S29 = aw_tF S from eF50, show aw_tJ S29 = aw_tJ S + 1 from eJ50] at nm49
              refine aw_l2 aj_d213 rfl rfl hlv26_0 ?_
              have c56 : (S49.1 37).toInt = (S.1 37).toInt := (congrArg Int32.toInt (fc49.1 37 (by decide)).1).trans c44
              have b57 : 0 ≤ (S49.1 37).toInt ∧ (S49.1 37).toInt ≤ 1 := aw_bd_f hs (hI54).1 (by decide) rfl
              refine aw_g hU.1 aj_d213 rfl rfl (by decide) (v := .int (S49.1 37)) rfl ?_
              refine aw_n aj_d213 rfl rfl ?_
              refine aw_mul aj_d213 rfl (a := (S.1 37).toInt) (b := (8 : Int)) c56 rfl (by omega) (by omega) (fun x58 ex58 => ?_)
              refine aw_l2 aj_d213 rfl rfl hlv26_0 ?_
              refine aw_g hU.1 aj_d213 rfl rfl (by decide) (v := .ref 118) rfl ?_
              refine aw_l2 aj_d213 rfl rfl hlv26_0 ?_
              refine aw_g hU.1 aj_d213 rfl rfl (by decide) (v := .int (S49.1 37)) rfl ?_
              refine aw_ld (k := 1) hU.1 aj_d213 (Or.inl ⟨rfl, rfl⟩) rfl (by decide) (by decide) rfl (a := (S.1 37).toInt) c56 (by omega) (by omega) (fun x59 ex59 => ?_)
              have bx59 : 0 ≤ x59.toInt ∧ x59.toInt ≤ 8 := by
                rw [ex59]
                exact aw_bd_a hs (hI54).1 (k := 1) (by decide) (by decide) rfl (by decide) rfl (by omega)
              have y1x59 : x59.toInt = (S.2.2.1 1 (aw_h S)).toInt := (congrArg Int32.toInt ex59).trans (by rw [show (S49.2.2.1 1) = S.2.2.1 1 from ((fc49.2 1 (by decide)).1.trans ((fd29.2 1 (by decide)).1.trans rfl))]; rfl)
              have y1x := y1x59
              refine aw_add aj_d213 rfl (a := x58.toInt) (b := x59.toInt) rfl rfl (by omega) (by omega) (fun x60 ex60 => ?_)
              refine aw_t0 (j := 1) aj_d213 rfl (by decide) rfl ?_
              obtain ⟨lv61, elv61⟩ : ∃ l, l = aj_set1 lv26 1 (.int x60) := ⟨_, rfl⟩
              rw [← elv61]
              have hlv61_0 : aj_lv lv61 0 = some (.ref 117) := cw_e1 elv61 hlv26_0 (by decide) (Or.inr rfl)
              have hlv61_1 : aj_lv lv61 1 = some (.int x60) := by rw [elv61]; exact ak_set1_eq _ _ _
              show aw_W _ _ _ _ 68 lv61 [] _ _
              refine aw_l2 aj_d213 rfl rfl hlv61_0 ?_
              refine aw_g hU.1 aj_d213 rfl rfl (by decide) (v := .long (S49.2.1 33)) rfl ?_
              refine aw_t1 (j := 2) aj_d213 rfl (by decide) rfl ?_
              obtain ⟨lv62, elv62⟩ : ∃ l, l = aj_set2 lv61 2 (.long (S49.2.1 33)) := ⟨_, rfl⟩
              rw [← elv62]
              have hlv62_0 : aj_lv lv62 0 = some (.ref 117) := cw_e2 elv62 hlv61_0 (by decide) (by decide) (Or.inl (by decide))
              have hlv62_1 : aj_lv lv62 1 = some (.int x60) := cw_e2 elv62 hlv61_1 (by decide) (by decide) (Or.inr rfl)
              have hlv62_2 : aj_lv lv62 2 = some (.long (S49.2.1 33)) := by rw [elv62]; exact ak_set2_eq _ _ _
              show aw_W _ _ _ _ 73 lv62 [] _ _
              refine aw_l2 aj_d213 rfl rfl hlv62_0 ?_
              refine aw_l2 aj_d213 rfl rfl hlv62_0 ?_
              refine aw_g hU.1 aj_d213 rfl rfl (by decide) (v := .int (S49.1 37)) rfl ?_
              refine aw_l1 aj_d213 rfl rfl hlv62_2 ?_
              refine aw_k hU.1 aj_d213 rfl rfl [_, _] rfl rfl rfl (Nat.le_of_ble_eq_true rfl) (aw_unknownK (aw_UV hU aw_Gs_sm) hI54 (by omega) (t := ((S49.1 37).toInt).toNat) (by show ((S49.1 37)).toInt = _; omega) (by omega)) ?_
              rintro _ zb260 ⟨b260, rfl, fb260, hfb260⟩
              rw [fb260]
              show aw_W _ _ _ _ 82 lv62 [.int b260] _ _
              refine aw_z (tgt := 94) aj_d213 rfl rfl (fun q261 => ?_) (fun q261 => ?_)
              · have q261 : b260.toInt < (0 : Int) := aw_t_lt (a := b260.toInt) (b := (0 : Int)) rfl rfl q261
                have b262 : 0 ≤ (S49.1 30).toInt ∧ (S49.1 30).toInt ≤ 1001 := aw_bd_f hs (hI54).1 (by decide) rfl
                exact (ar_unk_L94_62 hU hd j1 eJ0 ) S49 lv62 (x60) ((S49.2.1 33)) hlv62_0 hlv62_1 hlv62_2 ⟨(hI54).1, hG49⟩ fr53 (by omega) (by have := y1x; unfold aw_h at this ⊢; omega) (by have := y1x; omega) (show (S49.2.1 33) = _ from nm49) (show S49.2.2.1 1 = S.2.2.1 1 from ((fc49.2 1 (by decide)).1.trans ((fd29.2 1 (by decide)).1.trans rfl))) (show ((S49.1 37)).toInt = _ by omega) (show ((S49.1 30)).toInt = _ by omega)
              · have q261 : b260.toInt ≥ (0 : Int) := aw_t_lt (a := b260.toInt) (b := (0 : Int)) rfl rfl q261
                refine aw_l2 aj_d213 rfl rfl hlv62_0 ?_
                refine aw_n aj_d213 rfl rfl ?_
                refine aw_l2 aj_d213 rfl rfl hlv62_0 ?_
                refine aw_g hU.1 aj_d213 rfl rfl (by decide) (v := .int (S49.1 34)) rfl ?_
                refine aw_k hU.1 aj_d213 rfl rfl [_, _] rfl rfl rfl (Nat.le_of_ble_eq_true rfl) (ar_tell hU (hI54).1 (by omega) (a := (3 : Int)) rfl (by omega)) ?_
                rintro _ S263 ⟨hT263, fc263, rfl, hz263, hw263⟩
                have hG263 := aw_G_tell hG49 fc263 hz263
                have b264 : 0 ≤ (S.1 32).toInt ∧ (S.1 32).toInt ≤ 1 := aw_bd_f hs (hI27).1 (by decide) rfl
                have c265 : (S29.1 32).toInt = (S.1 32).toInt := (congrArg Int32.toInt (fd29.1 32 (by decide)).1).trans rfl
                have b266 : 0 ≤ (S29.1 32).toInt ∧ (S29.1 32).toInt ≤ 1 := aw_bd_f hs (hI34).1 (by decide) rfl
                have c267 : (S49.1 32).toInt = (S.1 32).toInt := (congrArg Int32.toInt (fc49.1 32 (by decide)).1).trans c265
                have b268 : 0 ≤ (S49.1 32).toInt ∧ (S49.1 32).toInt ≤ 1 := aw_bd_f hs (hI54).1 (by decide) rfl
                have hz263 : ((S49.1 32)).toInt = 0 → (S263.1 24).toInt ≠ 0 := hz263
                have fr269 := aw_fr_tr fr53 (aw_fr_sub (F := [24, 25]) (A := []) (by decide) (by decide) fc263)
                have hI270 : aw_I s h (aw_sm S263) S263 := ⟨hT263, aw_sm_rf⟩
                show aw_W _ _ _ _ 94 lv62 [] _ _
                have c271 : (S263.1 37).toInt = (S.1 37).toInt := (congrArg Int32.toInt (fc263.1 37 (by decide)).1).trans c56
                have b272 : 0 ≤ (S263.1 37).toInt ∧ (S263.1 37).toInt ≤ 1 := aw_bd_f hs (hI270).1 (by decide) rfl
                have b273 : 0 ≤ (S49.1 30).toInt ∧ (S49.1 30).toInt ≤ 1001 := aw_bd_f hs (hI54).1 (by decide) rfl
                have c274 : (S263.1 30).toInt = (S49.1 30).toInt := (congrArg Int32.toInt (fc263.1 30 (by decide)).1).trans rfl
                have b275 : 0 ≤ (S263.1 30).toInt ∧ (S263.1 30).toInt ≤ 1001 := aw_bd_f hs (hI270).1 (by decide) rfl
                exact (ar_unk_L94_62 hU hd j1 eJ0 ) S263 lv62 (x60) ((S49.2.1 33)) hlv62_0 hlv62_1 hlv62_2 ⟨(hI270).1, hG263⟩ fr269 (by omega) (by have := y1x; unfold aw_h at this ⊢; omega) (by have := y1x; omega) (show (S49.2.1 33) = _ from nm49) (show S263.2.2.1 1 = S.2.2.1 1 from ((fc263.2 1 (by decide)).1.trans ((fc49.2 1 (by decide)).1.trans ((fd29.2 1 (by decide)).1.trans rfl)))) (show ((S263.1 37)).toInt = _ by omega) (show ((S263.1 30)).toInt = _ by omega)
            · have q55 : (1 : Int) = (0 : Int) := aw_t_ne (a := (1 : Int)) (b := (0 : Int)) hb49 rfl q55
              exfalso
              omega
        · have q47 : x46.toInt = (8 : Int) := aw_t_ne (a := x46.toInt) (b := (8 : Int)) rfl rfl q47
          refine aw_l2 aj_d213 rfl rfl hlv26_0 ?_
          refine aw_n aj_d213 rfl rfl ?_
          refine aw_l2 aj_d213 rfl rfl hlv26_0 ?_
          have b276 : 0 ≤ (S29.1 27).toInt ∧ (S29.1 27).toInt ≤ 4000 := aw_bd_f hs (hI34).1 (by decide) rfl
          refine aw_g hU.1 aj_d213 rfl rfl (by decide) (v := .int (S29.1 27)) rfl ?_
          refine aw_k hU.1 aj_d213 rfl rfl [_, _] rfl rfl rfl (Nat.le_of_ble_eq_true rfl) (ar_stop hU (hI34).1 (by omega) (a := (2 : Int)) rfl) ?_
          rintro _ S277 ⟨hT277, fc277, rfl, hz277⟩
          have hG277 := aw_G_stop hG29 fc277 (by omega)
          have fr278 := aw_fr_tr fr33 (aw_fr_sub (F := [24, 25, 31]) (A := []) (by decide) (by decide) fc277)
          have hI279 : aw_I s h (aw_sm S277) S277 := ⟨hT277, aw_sm_rf⟩
          show aw_W _ _ _ _ 40 lv26 [.int (Int32.ofInt 0)] _ _
          refine aw_e aj_d213 rfl rfl ?_
          exact ⟨(hI279).1, fr278, Or.inl ⟨_, rfl, rfl, aw_G_B hG277⟩⟩
    · have q35 : (1 : Int) = (0 : Int) := aw_t_ne (a := (1 : Int)) (b := (0 : Int)) hb29 rfl q35
      exfalso
      omega
end ARA25
