/-! WHAT THE LIFTING PROGRAM USES -/
section FX7
variable {tb : aj_T} {mm : aj_M} {M N pc : Nat} {lv : aj_V} {st : List Value} {X Y : fx_X} {α : Type} {g : α → Option Value} {A B : Nat → α → fx_X → Prop} {ct : List (Nat × Instr × Nat)}
theorem fx_qxI {t : Int32} {A : Nat → Int32 → α → fx_X → Prop} (k : ∀ w, w = t → fx_W tb mm N pc lv (.int w :: st) X (fx_Q g (fun v X' => ∃ n : Nat, A n w v X'))) : fx_W tb mm N pc lv (.int t :: st) X (fx_Q g (fun v X' => ∃ n : Nat, ∃ w : Int32, w = t ∧ A n w v X')) := fx_qx rfl (k t rfl)
theorem fx_qxL {t : Int64} {A : Nat → Int64 → α → fx_X → Prop} (k : ∀ w, w = t → fx_W tb mm N pc lv (.long w :: st) X (fx_Q g (fun v X' => ∃ n : Nat, A n w v X'))) : fx_W tb mm N pc lv (.long t :: st) X (fx_Q g (fun v X' => ∃ n : Nat, ∃ w : Int64, w = t ∧ A n w v X')) := fx_qx rfl (k t rfl)
theorem fx_qX {A : Nat → fx_X → α → fx_X → Prop} (k : ∀ X1, X1 = Y → fx_W tb mm N pc lv st X1 (fx_Q g (fun v X' => ∃ n : Nat, A n X1 v X'))) : fx_W tb mm N pc lv st Y (fx_Q g (fun v X' => ∃ n : Nat, ∃ X1 : fx_X, X1 = Y ∧ A n X1 v X')) := fx_qx rfl (k Y rfl)
theorem fx_incq (hct : aj_ctOK ct mm.2.1) {j : Nat} {a : Int} (hd : aj_ct ct pc = some (.iinc j a, 3)) (hM : M ≤ N + 1) {x : Int32} (hv : aj_lv lv j = some (.int x)) (hj : j < mm.2.2.1) {A : Nat → Int32 → α → fx_X → Prop} (k : ∀ w, w = x + Int32.ofInt a → fx_W tb mm N (pc + 3) (aj_set1 lv j (.int w)) st X (fx_Q g (fun v X' => ∃ n : Nat, A n w v X'))) : fx_W tb mm M pc lv st X (fx_Q g (fun v X' => ∃ n : Nat, ∃ w : Int32, w = x + Int32.ofInt a ∧ A n w v X')) := fx_inc hct hd hM hv hj (fx_qx rfl (k _ rfl))
theorem fx_o1 (k : fx_W tb mm N pc lv st X (fx_Q g (fun v X' => ∃ n : Nat, A n v X'))) : fx_W tb mm N pc lv st X (fx_Q g (fun v X' => ∃ n : Nat, A n v X' ∨ B n v X')) :=
  fx_mono (fun r X' ⟨v, e, n, z⟩ => ⟨v, e, n, Or.inl z⟩) k
theorem fx_o2 (k : fx_W tb mm N pc lv st X (fx_Q g (fun v X' => ∃ n : Nat, B n v X'))) : fx_W tb mm N pc lv st X (fx_Q g (fun v X' => ∃ n : Nat, A n v X' ∨ B n v X')) :=
  fx_mono (fun r X' ⟨v, e, n, z⟩ => ⟨v, e, n, Or.inr z⟩) k
end FX7
abbrev fx_qB : Nat → Option Value := fun b => some (.ref b)
/-- ints copied from one array to another -/
def fx_cp (X : fx_X) (b sp a dp n : Nat) : fx_X := (fun r k => if r = a ∧ dp ≤ k ∧ k < dp + n then X.1 b (sp + (k - dp)) else X.1 r k, X.2)
/-- ROWS made -/
def fx_new (X : fx_X) : fx_X := (X.1, X.2.1, fun r k => if r = X.2.2.2.2 ∧ k < 3 then some (X.2.2.2.2 + 1 + k) else X.2.2.1 r k, fun r => if r = X.2.2.2.2 then (16, 5) else if r = X.2.2.2.2 + 1 then (0, 180) else if r = X.2.2.2.2 + 2 then (2, 180) else if r = X.2.2.2.2 + 3 then (0, 1024) else X.2.2.2.1 r, X.2.2.2.2 + 4)
section FX8
variable {tb : aj_T} {mm : aj_M} {M N pc : Nat} {lv : aj_V} {st rest : List Value} {X Y : fx_X} {α : Type} {g : α → Option Value} {Q : Option Value → fx_X → Prop} {ct : List (Nat × Instr × Nat)}
theorem fx_qy {t : Nat} {A : Nat → Nat → α → fx_X → Prop} (k : ∀ w, w = t → fx_W tb mm N pc lv (.ref w :: st) X (fx_Q g (fun v X' => ∃ n : Nat, A n w v X'))) : fx_W tb mm N pc lv (.ref t :: st) X (fx_Q g (fun v X' => ∃ n : Nat, ∃ w : Nat, w = t ∧ A n w v X')) := fx_qx rfl (k t rfl)
theorem fx_V_cp {h : aj_H} (htb : tb.length = 52) {c k n b sp dp m : Nat} {f f' : Nat → Int32} (hc : h[c]? = some (.inl (k, n, .inl f))) (hb : fx_I (fx_c tb h b) = f') : fx_V tb (h.set c (.inl (k, n, .inl (va_cpy f' f sp dp m)))) = fx_cp (fx_V tb h) b sp (52 + c) dp m := by
  have hl := fx_lt hc
  refine fx_V_ext (fun r j => ?_) (fun r j => ?_) (fun r j => ?_) (fun r => ?_) (by rw [List.length_set]; rfl)
  · rw [fx_c_set htb hl]
    show _ = if r = 52 + c ∧ dp ≤ j ∧ j < dp + m then fx_I (fx_c tb h b) (sp + (j - dp)) else fx_I (fx_c tb h r) j
    by_cases q : r = 52 + c
    · rw [if_pos q]
      show va_cpy f' f sp dp m j = _
      unfold va_cpy
      by_cases q2 : dp ≤ j ∧ j < dp + m
      · rw [if_pos q2, if_pos ⟨q, q2⟩, hb]
      · rw [if_neg q2, if_neg (fun z => q2 z.2), q, fx_c_at htb, hc]
        rfl
    · rw [if_neg q, if_neg (fun z => q z.1)]
  · rw [fx_c_set htb hl]
    show _ = fx_L (fx_c tb h r) j
    split
    · rename_i q
      rw [q, fx_c_at htb, hc]
      rfl
    · rfl
  · rw [fx_c_set htb hl]
    show _ = fx_R (fx_c tb h r) j
    split
    · rename_i q
      rw [q, fx_c_at htb, hc]
      rfl
    · rfl
  · rw [fx_c_set htb hl]
    show _ = fx_A (fx_c tb h r)
    split
    · rename_i q
      rw [q, fx_c_at htb, hc]
      rfl
    · rfl
theorem fx_ac (hct : aj_ctOK ct mm.2.1) {idx x y : Nat} {v : Int} (hd : aj_ct ct pc = some (.invokestatic idx, 3)) (hM : M ≤ N + 1) (hl : aj_link mm.2.2.2.2.2.1 idx = some (13, x, y, v)) {n dp sp : Int32} {a b : Nat} (kk : 0 ≤ sp.toInt ∧ 0 ≤ dp.toInt ∧ 0 ≤ n.toInt → fx_W tb mm N (pc + 3) lv rest (fx_cp X b sp.toInt.toNat a dp.toInt.toNat n.toInt.toNat) Q) : fx_W tb mm M pc lv (.int n :: .int dp :: .ref a :: .int sp :: .ref b :: rest) X Q :=
  fx_g0 hct hd hM fun h hT hV out ho => by
    have h0 : aj_step aj_rc aj_cls tb mm.2.2.2.2.2.1 mm.2.2.1 mm.2.2.2.1 false (.invokestatic idx) 3 pc lv (.int n :: .int dp :: .ref a :: .int sp :: .ref b :: rest) h = if aj_isNat mm.2.2.2.2.2.1 idx = true then aj_nat tb mm.2.2.2.2.2.1 pc idx lv (.int n :: .int dp :: .ref a :: .int sp :: .ref b :: rest) h else aj_call 6 6 tb mm.2.2.2.2.2.1 pc idx lv (.int n :: .int dp :: .ref a :: .int sp :: .ref b :: rest) h := rfl
    have h1 : aj_isNat mm.2.2.2.2.2.1 idx = true := by unfold aj_isNat; rw [hl]; rfl
    rw [h0, if_pos h1] at ho
    simp only [aj_nat, hl, aj_ncpy] at ho
    rw [if_neg (by decide), if_neg (by decide), if_pos trivial] at ho
    refine Or.inr ?_
    split at ho
    · cases ho
    · rename_i hab
      split at ho
      · rename_i k0 n0 f k1 n1 f1 c1 c2
        split at ho
        · rename_i hk
          cases ho
          obtain ⟨⟨rfl, rfl⟩, ⟨s1, s2, s3⟩, s4, s5, s6⟩ := hk
          have t1 := hT.1
          have ha1 : tb.length ≤ a := Nat.not_lt.mp fun z => hab (Or.inl z)
          have hb1 : ¬ b < tb.length := fun z => hab (Or.inr z)
          have ea : a = 52 + (a - tb.length) := fx_ea t1 ha1
          have hb2 : fx_I (fx_c tb h b) = f := by
            unfold fx_c
            rw [if_neg hb1, c1]
            rfl
          have nn : ∀ z : Int32, ¬ z < 0 → 0 ≤ z.toInt := fun z hz => Int.not_lt.mp fun q => hz (Int32.lt_iff_toInt_lt.mpr q)
          refine ⟨_, _, _, _, _, _, rfl, fx_T_arr hT c2 (fun f' e j hj => ⟨fun z => absurd z (by decide), fun z => absurd z (by decide), fun z => absurd z (by decide)⟩), fx_le_eq (by rw [← hV]; exact fx_V4_a t1 c2), ?_⟩
          rw [fx_V_cp t1 c2 hb2, ← ea, hV]
          exact kk ⟨nn _ s1, nn _ s2, nn _ s3⟩
        · cases ho
      · cases ho
end FX8
section FX9
variable {tb : aj_T} {mm : aj_M} {isI deep : Bool} {call : Nat → List Value → aj_H → Nat → Nat → Option Value → aj_H → Prop} {n pc pc' kc ks mc ms len : Nat} {lv lv' : aj_V} {st st' rest : List Value} {h h' hF : aj_H} {r : Option Value} {ct : List (Nat × Instr × Nat)} {i : Instr}
theorem fx_go (hct : aj_ctOK ct mm.2.1) (hd : aj_ct ct pc = some (i, len)) (q : aj_frm aj_rc aj_cls tb mm isI deep call n pc lv st h kc ks mc ms r hF) {dc ds : Nat} (hs : aj_step aj_rc aj_cls tb mm.2.2.2.2.2.1 mm.2.2.1 mm.2.2.2.1 isI i len pc lv st h = some (.inl ((pc', lv', st'), h', dc, ds))) : ∃ n' kc' ks', n' < n ∧ aj_frm aj_rc aj_cls tb mm isI deep call n' pc' lv' st' h' kc' ks' mc ms r hF := by
  cases n with
  | zero => exact q.elim
  | succ n =>
    unfold aj_frm at q
    rw [aj_ct_ok hct hd] at q
    dsimp only at q
    rw [hs] at q
    exact ⟨n, _, _, Nat.lt_succ_self _, q.2.2⟩
theorem fx_go5 (hct : aj_ctOK ct mm.2.1) (hd : aj_ct ct pc = some (i, len)) (q : aj_frm aj_rc aj_cls tb mm isI deep call n pc lv st h kc ks mc ms r hF) {mi : Nat} {as : List Value} (hs : aj_step aj_rc aj_cls tb mm.2.2.2.2.2.1 mm.2.2.1 mm.2.2.2.1 isI i len pc lv st h = some (.inr (.inl (5, mi, as, (pc', lv', st'))))) : ∃ n' kc' ks', n' < n ∧ aj_frm aj_rc aj_cls tb mm isI deep call n' pc' lv' st' h kc' ks' mc ms r hF := by
  cases n with
  | zero => exact q.elim
  | succ n =>
    unfold aj_frm at q
    rw [aj_ct_ok hct hd] at q
    dsimp only at q
    rw [hs] at q
    obtain ⟨-, q⟩ := q
    rcases q with ⟨-, q⟩ | ⟨z, -⟩
    · exact ⟨n, _, _, Nat.lt_succ_self _, q⟩
    · exact absurd rfl z
theorem fx_goE (hct : aj_ctOK ct mm.2.1) (hd : aj_ct ct pc = some (i, len)) (q : aj_frm aj_rc aj_cls tb mm isI deep call n pc lv st h kc ks mc ms r hF) {v : Option Value} (hs : aj_step aj_rc aj_cls tb mm.2.2.2.2.2.1 mm.2.2.1 mm.2.2.2.1 isI i len pc lv st h = some (.inr (.inr v))) : r = v ∧ hF = h := by
  cases n with
  | zero => exact q.elim
  | succ n =>
    unfold aj_frm at q
    rw [aj_ct_ok hct hd] at q
    dsimp only at q
    rw [hs] at q
    exact ⟨q.1, q.2.1⟩
theorem fx_goC (hct : aj_ctOK ct mm.2.1) (hd : aj_ct ct pc = some (i, len)) (q : aj_frm aj_rc aj_cls tb mm isI deep call n pc lv st h kc ks mc ms r hF) {kind mi : Nat} {as : List Value} (h5 : kind ≠ 5) (hs : ∀ out, aj_step aj_rc aj_cls tb mm.2.2.2.2.2.1 mm.2.2.1 mm.2.2.2.1 isI i len pc lv st h = some out → out = .inr (.inl (kind, mi, as, (pc', lv', st')))) : ∃ n' kc' ks' mc' ms' r' h', n' < n ∧ call mi as h mc' ms' r' h' ∧ aj_frm aj_rc aj_cls tb mm isI deep call n' pc' lv' (r'.toList ++ st') h' kc' ks' mc ms r hF := by
  cases n with
  | zero => exact q.elim
  | succ n =>
    unfold aj_frm at q
    rw [aj_ct_ok hct hd] at q
    dsimp only at q
    cases ho : aj_step aj_rc aj_cls tb mm.2.2.2.2.2.1 mm.2.2.1 mm.2.2.2.1 isI i len pc lv st h with
    | none => rw [ho] at q; exact q.elim
    | some out =>
      rw [ho] at q
      have e := hs out ho
      subst e
      obtain ⟨-, q⟩ := q
      rcases q with ⟨z, -⟩ | ⟨-, mc', ms', r', h', c1, -, -, -, q⟩
      · exact absurd z h5
      · exact ⟨n, _, _, mc', ms', r', h', Nat.lt_succ_self _, c1, q⟩
theorem fx_ob (htb : tb.length = 52) {z : Nat × List Value} {l : aj_H} : aj_obj tb (h ++ (.inr z :: l)) (52 + h.length) = some z := by
  unfold aj_obj
  rw [htb, if_neg (by omega), Nat.add_sub_cancel_left, List.getElem?_append_right (Nat.le_refl _), Nat.sub_self]
  rfl
theorem fx_sa {o o' : aj_E} {l : aj_H} : (h ++ o :: l).set h.length o' = h ++ o' :: l := by
  rw [List.set_append_right _ _ (Nat.le_refl _), Nat.sub_self]
  rfl
theorem fx_ps (htb : tb.length = 52) {idx k : Nat} {tbl : List aj_L} (hl : aj_link tbl idx = some (0, 6, k, 1)) {fs : List Value} {l : aj_H} (hk : k < fs.length) {x : Nat} (hf : aj_fit (aj_F6 k) (.ref x) = true) {nL : Nat} {ret : Option FieldType} : aj_step aj_rc aj_cls tb tbl nL ret true (.putfield idx) 3 pc lv (.ref x :: .ref (52 + h.length) :: rest) (h ++ (.inr (6, fs) :: l)) = some (.inl ((pc + 3, lv, rest), h ++ (.inr (6, fs.set k (.ref x)) :: l), 0, 0)) := by
  unfold aj_step
  dsimp only
  rw [if_pos rfl]
  have hc : aj_cls[6]? = some ("DimShelf$Rows", aj_T6, 5, aj_F6) := rfl
  simp only [aj_putf, hl, fx_ob htb, hc]
  rw [if_pos ⟨by decide, trivial, hk, hf, Or.inr (by simp)⟩, htb, Nat.add_sub_cancel_left, fx_sa]
  rfl
/-- what ROWS made leave behind -/
def fx_nl (m : Nat) : aj_H := [.inr (6, [.ref (53 + m), .ref (54 + m), .ref (55 + m), .int 0, .int 0]), .inl (0, aj_blank 0 180), .inl (2, aj_blank 2 180), .inl (0, aj_blank 0 1024)]
theorem fx_init (htb : tb.length = 52) {d : Nat} (q : aj_runs aj_rc aj_cls tb aj_mt d 13 [.ref (52 + h.length)] (h ++ ([.inr (6, [.null, .null, .null, .int 0, .int 0])] : aj_H)) mc ms r h') : r = none ∧ h' = h ++ fx_nl h.length := by
  have q1 : ∃ deep call n, aj_frm aj_rc aj_cls tb aj_m13 true deep call n 0 [(0, .ref (52 + h.length))] [] (h ++ ([.inr (6, [.null, .null, .null, .int 0, .int 0])] : aj_H)) 0 0 mc ms r h' := by
    cases d with
    | zero =>
      obtain ⟨m, e, -, n, q⟩ := q
      rw [aj_m13_at] at e
      cases e
      exact ⟨_, _, n, q⟩
    | succ d =>
      obtain ⟨m, e, -, n, q⟩ := q
      rw [aj_m13_at] at e
      cases e
      exact ⟨_, _, n, q⟩
  obtain ⟨deep, call, n, q⟩ := q1
  have e1 : ∀ l : aj_H, tb.length + (h ++ l).length = 52 + h.length + l.length := fun l => by rw [htb, List.length_append]; omega
  obtain ⟨n, kc, ks, -, q⟩ := fx_go (pc' := 1) (lv' := [(0, .ref (52 + h.length))]) (st' := [.ref (52 + h.length)]) aj_d13 rfl q rfl
  obtain ⟨n, kc, ks, -, q⟩ := fx_go5 (pc' := 4) (lv' := [(0, .ref (52 + h.length))]) (st' := []) aj_d13 rfl q rfl
  obtain ⟨n, kc, ks, -, q⟩ := fx_go (pc' := 5) (lv' := [(0, .ref (52 + h.length))]) (st' := [.ref (52 + h.length)]) aj_d13 rfl q rfl
  obtain ⟨n, kc, ks, -, q⟩ := fx_go (pc' := 8) (lv' := [(0, .ref (52 + h.length))]) (st' := [.int (Int16.ofInt 180).toInt32, .ref (52 + h.length)]) aj_d13 rfl q rfl
  obtain ⟨n, kc, ks, -, q⟩ := fx_go (pc' := 10) (lv' := [(0, .ref (52 + h.length))]) (st' := [.ref (tb.length + (h ++ ([.inr (6, [.null, .null, .null, .int 0, .int 0])] : aj_H)).length), .ref (52 + h.length)]) (h' := (h ++ ([.inr (6, [.null, .null, .null, .int 0, .int 0])] : aj_H)) ++ ([.inl (0, aj_blank 0 180)] : aj_H)) aj_d13 rfl q rfl
  rw [e1, List.append_assoc] at q
  obtain ⟨n, kc, ks, -, q⟩ := fx_go aj_d13 rfl q (fx_ps htb rfl (Nat.le_of_ble_eq_true rfl) rfl)
  obtain ⟨n, kc, ks, -, q⟩ := fx_go (pc' := 14) (lv' := [(0, .ref (52 + h.length))]) (st' := [.ref (52 + h.length)]) aj_d13 rfl q rfl
  obtain ⟨n, kc, ks, -, q⟩ := fx_go (pc' := 17) (lv' := [(0, .ref (52 + h.length))]) (st' := [.int (Int16.ofInt 180).toInt32, .ref (52 + h.length)]) aj_d13 rfl q rfl
  obtain ⟨n, kc, ks, -, q⟩ := fx_go (pc' := 19) (lv' := [(0, .ref (52 + h.length))]) (st' := [.ref (tb.length + (h ++ ([.inr (6, [.ref (52 + h.length + 1), .null, .null, .int 0, .int 0]), .inl (0, aj_blank 0 180)] : aj_H)).length), .ref (52 + h.length)]) (h' := (h ++ ([.inr (6, [.ref (52 + h.length + 1), .null, .null, .int 0, .int 0]), .inl (0, aj_blank 0 180)] : aj_H)) ++ ([.inl (2, aj_blank 2 180)] : aj_H)) aj_d13 rfl q rfl
  rw [e1, List.append_assoc] at q
  obtain ⟨n, kc, ks, -, q⟩ := fx_go aj_d13 rfl q (fx_ps htb rfl (Nat.le_of_ble_eq_true rfl) rfl)
  obtain ⟨n, kc, ks, -, q⟩ := fx_go (pc' := 23) (lv' := [(0, .ref (52 + h.length))]) (st' := [.ref (52 + h.length)]) aj_d13 rfl q rfl
  obtain ⟨n, kc, ks, -, q⟩ := fx_go (pc' := 26) (lv' := [(0, .ref (52 + h.length))]) (st' := [.int (Int16.ofInt 1024).toInt32, .ref (52 + h.length)]) aj_d13 rfl q rfl
  obtain ⟨n, kc, ks, -, q⟩ := fx_go (pc' := 28) (lv' := [(0, .ref (52 + h.length))]) (st' := [.ref (tb.length + (h ++ ([.inr (6, [.ref (52 + h.length + 1), .ref (52 + h.length + 2), .null, .int 0, .int 0]), .inl (0, aj_blank 0 180), .inl (2, aj_blank 2 180)] : aj_H)).length), .ref (52 + h.length)]) (h' := (h ++ ([.inr (6, [.ref (52 + h.length + 1), .ref (52 + h.length + 2), .null, .int 0, .int 0]), .inl (0, aj_blank 0 180), .inl (2, aj_blank 2 180)] : aj_H)) ++ ([.inl (0, aj_blank 0 1024)] : aj_H)) aj_d13 rfl q rfl
  rw [e1, List.append_assoc] at q
  obtain ⟨n, kc, ks, -, q⟩ := fx_go aj_d13 rfl q (fx_ps htb rfl (Nat.le_of_ble_eq_true rfl) rfl)
  obtain ⟨q1, q2⟩ := fx_goE (v := none) aj_d13 rfl q rfl
  refine ⟨q1, q2.trans ?_⟩
  unfold fx_nl
  rw [show 53 + h.length = 52 + h.length + 1 by omega, show 54 + h.length = 52 + h.length + 2 by omega, show 55 + h.length = 52 + h.length + 3 by omega]
  rfl
theorem fx_c_app (htb : tb.length = 52) {l : aj_H} {r : Nat} : fx_c tb (h ++ l) r = if r < 52 + h.length then fx_c tb h r else l[r - (52 + h.length)]? := by
  unfold fx_c
  rw [htb]
  by_cases h1 : r < 52
  · rw [if_pos h1, if_pos h1, if_pos (by omega)]
  · rw [if_neg h1, if_neg h1]
    by_cases h2 : r < 52 + h.length
    · rw [if_pos h2, List.getElem?_append_left (by omega)]
    · rw [if_neg h2, List.getElem?_append_right (by omega), show r - 52 - h.length = r - (52 + h.length) by omega]
theorem fx_c_out (htb : tb.length = 52) {r : Nat} (hr : 52 + h.length ≤ r) : fx_c tb h r = none := by
  unfold fx_c
  rw [htb, if_neg (by omega)]
  exact List.getElem?_eq_none (by omega)
theorem fx_c_in (htb : tb.length = 52) {l : aj_H} {r : Nat} (hr : (fx_A (fx_c tb h r)).1 ≠ 9) : fx_c tb (h ++ l) r = fx_c tb h r := by
  rw [fx_c_app htb]
  by_cases h2 : r < 52 + h.length
  · rw [if_pos h2]
  · exact absurd (by rw [fx_c_out htb (by omega)]; rfl) hr
theorem fx_fin9 : ∀ e, e ∈ fx_fin → e.2.2.2.2.1 ≠ 9 := by decide
theorem fx_fin6f : fx_fin.filter (fun e => e.1 == 6) = [(6, 0, 1, 1, 0, 180), (6, 1, 1, 2, 2, 180), (6, 2, 1, 3, 0, 1024)] := by decide
theorem fx_fin6 : ∀ e, e ∈ fx_fin → e.1 = 6 → e = (6, 0, 1, 1, 0, 180) ∨ e = (6, 1, 1, 2, 2, 180) ∨ e = (6, 2, 1, 3, 0, 1024) := by
  intro e he h1
  have h2 : e ∈ fx_fin.filter (fun e => e.1 == 6) := List.mem_filter.mpr ⟨he, by rw [h1]; rfl⟩
  rw [fx_fin6f] at h2
  simp only [List.mem_cons, List.not_mem_nil, or_false] at h2
  exact h2
theorem fx_rg0 (k : Nat) : fx_rg k 0 := ⟨fun _ => Or.inl rfl, fun _ => ⟨by decide, by decide⟩, fun _ => ⟨by decide, by decide⟩⟩
theorem fx_nn6 : ∀ e, e ∈ fx_nn → e.1 ≠ 6 := by decide
theorem fx_T_new (hT : fx_T tb h) : fx_T tb (h ++ fx_nl h.length) := by
  obtain ⟨t1, t2, t3, t4, t5, t6⟩ := hT
  refine ⟨t1, t2, by rw [List.length_append]; omega, fun c ci fs hx => ?_, fun c hc => ?_, fun c k n x hx => ?_⟩
  · by_cases hl : c < h.length
    · rw [List.getElem?_append_left hl] at hx
      obtain ⟨q, q1, q2, q3, q4, q5⟩ := t4 c ci fs hx
      refine ⟨q, q1, q2, q3, fun e he h1 => ⟨(q4 e he h1).1, ?_⟩, q5⟩
      rw [fx_c_in t1 (by rw [(q4 e he h1).2]; exact fx_fin9 e he)]
      exact (q4 e he h1).2
    · rw [List.getElem?_append_right (by omega)] at hx
      have e0 : c = h.length ∧ ci = 6 ∧ fs = [.ref (53 + h.length), .ref (54 + h.length), .ref (55 + h.length), .int 0, .int 0] := by
        unfold fx_nl at hx
        rcases hz : c - h.length with _ | _ | _ | _ | z
        · rw [hz] at hx
          cases hx
          exact ⟨by omega, rfl, rfl⟩
        · rw [hz] at hx; cases hx
        · rw [hz] at hx; cases hx
        · rw [hz] at hx; cases hx
        · rw [hz] at hx; cases hx
      obtain ⟨rfl, rfl, rfl⟩ := e0
      refine ⟨("DimShelf$Rows", aj_T6, 5, aj_F6), rfl, rfl, fun k v hv => ?_, fun e he h1 => ?_, fun e he h1 => absurd h1 (fx_nn6 e he)⟩
      · rcases k with _ | _ | _ | _ | _ | k <;> cases hv <;> rfl
      · rcases fx_fin6 e he h1 with rfl | rfl | rfl
        · refine ⟨?_, ?_⟩
          · show some (Value.ref (53 + h.length)) = some (.ref (52 + h.length + 1))
            rw [show 52 + h.length + 1 = 53 + h.length by omega]
          · show fx_A (fx_c tb (h ++ fx_nl h.length) (52 + h.length + 1)) = _
            rw [fx_c_app t1, if_neg (by omega), Nat.add_sub_cancel_left]
            rfl
        · refine ⟨?_, ?_⟩
          · show some (Value.ref (54 + h.length)) = some (.ref (52 + h.length + 2))
            rw [show 52 + h.length + 2 = 54 + h.length by omega]
          · show fx_A (fx_c tb (h ++ fx_nl h.length) (52 + h.length + 2)) = _
            rw [fx_c_app t1, if_neg (by omega), Nat.add_sub_cancel_left]
            rfl
        · refine ⟨?_, ?_⟩
          · show some (Value.ref (55 + h.length)) = some (.ref (52 + h.length + 3))
            rw [show 52 + h.length + 3 = 55 + h.length by omega]
          · show fx_A (fx_c tb (h ++ fx_nl h.length) (52 + h.length + 3)) = _
            rw [fx_c_app t1, if_neg (by omega), Nat.add_sub_cancel_left]
            rfl
  · rw [List.getElem?_append_left (by omega)]
    exact t5 c hc
  · by_cases hl : c < h.length
    · rw [List.getElem?_append_left hl] at hx
      exact t6 c k n x hx
    · rw [List.getElem?_append_right (by omega)] at hx
      unfold fx_nl at hx
      rcases hz : c - h.length with _ | _ | _ | _ | z
      · rw [hz] at hx; cases hx
      · rw [hz] at hx; cases hx; exact ⟨by decide, fun f e i _ => by cases e; exact fx_rg0 _⟩
      · rw [hz] at hx; cases hx; exact ⟨by decide, fun f e i _ => by cases e; exact fx_rg0 _⟩
      · rw [hz] at hx; cases hx; exact ⟨by decide, fun f e i _ => by cases e; exact fx_rg0 _⟩
      · rw [hz] at hx; cases hx
theorem fx_V_new (htb : tb.length = 52) : fx_V tb (h ++ fx_nl h.length) = fx_new (fx_V tb h) := by
  have ht : (fx_V tb h).2.2.2.2 = 52 + h.length := by
    show tb.length + h.length = _
    rw [htb]
  have hk : ∀ {r : Nat}, ¬ r < 52 + h.length → fx_c tb h r = none ∧ (r = 52 + h.length ∧ fx_c tb (h ++ fx_nl h.length) r = some (.inr (6, [.ref (53 + h.length), .ref (54 + h.length), .ref (55 + h.length), .int 0, .int 0])) ∨ r = 52 + h.length + 1 ∧ fx_c tb (h ++ fx_nl h.length) r = some (.inl (0, aj_blank 0 180)) ∨ r = 52 + h.length + 2 ∧ fx_c tb (h ++ fx_nl h.length) r = some (.inl (2, aj_blank 2 180)) ∨ r = 52 + h.length + 3 ∧ fx_c tb (h ++ fx_nl h.length) r = some (.inl (0, aj_blank 0 1024)) ∨ 52 + h.length + 4 ≤ r ∧ fx_c tb (h ++ fx_nl h.length) r = none) := by
    intro r hr
    refine ⟨fx_c_out htb (by omega), ?_⟩
    rw [fx_c_app htb, if_neg hr]
    rcases hz : r - (52 + h.length) with _ | _ | _ | _ | z
    · exact Or.inl ⟨by omega, rfl⟩
    · exact Or.inr (Or.inl ⟨by omega, rfl⟩)
    · exact Or.inr (Or.inr (Or.inl ⟨by omega, rfl⟩))
    · exact Or.inr (Or.inr (Or.inr (Or.inl ⟨by omega, rfl⟩)))
    · exact Or.inr (Or.inr (Or.inr (Or.inr ⟨by omega, rfl⟩)))
  have hi : ∀ {r : Nat}, r < 52 + h.length → fx_c tb (h ++ fx_nl h.length) r = fx_c tb h r := fun hr => by rw [fx_c_app htb, if_pos hr]
  refine fx_V_ext (fun r j => ?_) (fun r j => ?_) (fun r j => ?_) (fun r => ?_) ?_
  · show _ = fx_I (fx_c tb h r) j
    by_cases hr : r < 52 + h.length
    · rw [hi hr]
    · obtain ⟨k1, k2⟩ := hk hr
      rw [k1]
      rcases k2 with ⟨-, k2⟩ | ⟨-, k2⟩ | ⟨-, k2⟩ | ⟨-, k2⟩ | ⟨-, k2⟩ <;> rw [k2]
      · show fx_vI _ = 0
        rcases j with _ | _ | _ | _ | _ | j <;> rfl
      · rfl
      · rfl
      · rfl
  · show _ = fx_L (fx_c tb h r) j
    by_cases hr : r < 52 + h.length
    · rw [hi hr]
    · obtain ⟨k1, k2⟩ := hk hr
      rw [k1]
      rcases k2 with ⟨-, k2⟩ | ⟨-, k2⟩ | ⟨-, k2⟩ | ⟨-, k2⟩ | ⟨-, k2⟩ <;> rw [k2]
      · show fx_vL _ = 0
        rcases j with _ | _ | _ | _ | _ | j <;> rfl
      · rfl
      · rfl
      · rfl
  · show _ = if r = (fx_V tb h).2.2.2.2 ∧ j < 3 then some ((fx_V tb h).2.2.2.2 + 1 + j) else fx_R (fx_c tb h r) j
    rw [ht]
    by_cases hr : r < 52 + h.length
    · rw [hi hr, if_neg (by omega)]
    · obtain ⟨k1, k2⟩ := hk hr
      rw [k1]
      rcases k2 with ⟨e, k2⟩ | ⟨e, k2⟩ | ⟨e, k2⟩ | ⟨e, k2⟩ | ⟨e, k2⟩ <;> rw [k2]
      · rcases j with _ | _ | _ | j
        · rw [if_pos ⟨e, by decide⟩]
          show some (53 + h.length) = _
          rw [show 52 + h.length + 1 + 0 = 53 + h.length by omega]
        · rw [if_pos ⟨e, by decide⟩]
          show some (54 + h.length) = _
          rw [show 52 + h.length + 1 + (0 + 1) = 54 + h.length by omega]
        · rw [if_pos ⟨e, by decide⟩]
          show some (55 + h.length) = _
          rw [show 52 + h.length + 1 + (0 + 1 + 1) = 55 + h.length by omega]
        · rw [if_neg (by omega)]
          rcases j with _ | _ | j <;> rfl
      · rw [if_neg (by omega)]; rfl
      · rw [if_neg (by omega)]; rfl
      · rw [if_neg (by omega)]; rfl
      · rw [if_neg (by omega)]
  · show _ = if r = (fx_V tb h).2.2.2.2 then (16, 5) else if r = (fx_V tb h).2.2.2.2 + 1 then (0, 180) else if r = (fx_V tb h).2.2.2.2 + 2 then (2, 180) else if r = (fx_V tb h).2.2.2.2 + 3 then (0, 1024) else fx_A (fx_c tb h r)
    rw [ht]
    by_cases hr : r < 52 + h.length
    · rw [hi hr, if_neg (by omega), if_neg (by omega), if_neg (by omega), if_neg (by omega)]
    · obtain ⟨k1, k2⟩ := hk hr
      rw [k1]
      rcases k2 with ⟨e, k2⟩ | ⟨e, k2⟩ | ⟨e, k2⟩ | ⟨e, k2⟩ | ⟨e, k2⟩ <;> rw [k2]
      · rw [if_pos e]; rfl
      · rw [if_neg (by omega), if_pos e]; rfl
      · rw [if_neg (by omega), if_neg (by omega), if_pos e]; rfl
      · rw [if_neg (by omega), if_neg (by omega), if_neg (by omega), if_pos e]; rfl
      · rw [if_neg (by omega), if_neg (by omega), if_neg (by omega), if_neg (by omega)]
  · rw [List.length_append]
    show tb.length + (h.length + 4) = (fx_V tb h).2.2.2.2 + 4
    rw [ht, htb]
    omega
theorem fx_new_le (hT : fx_T tb h) : fx_le (fx_V tb h) (fx_new (fx_V tb h)) := by
  have t1 := hT.1
  refine ⟨Nat.le_add_right _ _, fun r hr => ?_⟩
  rw [← fx_V_new t1]
  show fx_A (fx_c tb (h ++ fx_nl h.length) r) = fx_A (fx_c tb h r)
  rw [fx_c_in t1 hr]
end FX9
section FX10
variable {tb : aj_T} {mm : aj_M} {M N pc : Nat} {lv : aj_V} {st : List Value} {X : fx_X} {Q : Option Value → fx_X → Prop} {ct : List (Nat × Instr × Nat)}
theorem fx_nw (hct : aj_ctOK ct mm.2.1) {i1 i2 a1 : Nat} {v1 v2 : Int} (hd0 : aj_ct ct pc = some (.new i1, 3)) (hd1 : aj_ct ct (pc + 3) = some (.dup, 1)) (hd2 : aj_ct ct (pc + 3 + 1) = some (.invokespecial i2, 3)) (hl1 : aj_link mm.2.2.2.2.2.1 i1 = some (12, 6, a1, v1)) (hl2 : aj_link mm.2.2.2.2.2.1 i2 = some (4, 13, 0, v2)) (hM : M ≤ N + 1) (kk : fx_le X (fx_new X) → fx_W tb mm N (pc + 3 + 1 + 3) lv (.ref X.2.2.2.2 :: st) (fx_new X) Q) : fx_W tb mm M pc lv st X Q := by
  intro n hn deep call h kc ks mc ms r hF hcl hT hV q
  have t1 := hT.1
  have hle : fx_le X (fx_new X) := by rw [← hV]; exact fx_new_le hT
  obtain ⟨n1, kc1, ks1, m1, q⟩ := fx_go (pc' := pc + 3) (lv' := lv) (st' := .ref (tb.length + h.length) :: st) (h' := h ++ [.inr (6, [.null, .null, .null, .int 0, .int 0])]) hct hd0 q (by
    unfold aj_step
    dsimp only
    rw [if_pos rfl]
    have hc : aj_cls[6]? = some ("DimShelf$Rows", aj_T6, 5, aj_F6) := rfl
    simp only [aj_new, hl1, hc]
    rfl)
  obtain ⟨n2, kc2, ks2, m2, q⟩ := fx_go (pc' := pc + 3 + 1) (lv' := lv) (st' := .ref (tb.length + h.length) :: .ref (tb.length + h.length) :: st) (h' := h ++ [.inr (6, [.null, .null, .null, .int 0, .int 0])]) hct hd1 q rfl
  obtain ⟨n3, kc3, ks3, mc', ms', r', h', m3, c1, q⟩ := fx_goC (pc' := pc + 3 + 1 + 3) (lv' := lv) (st' := .ref (tb.length + h.length) :: st) (kind := 4) (mi := 13) (as := [.ref (tb.length + h.length)]) hct hd2 q (by decide) (fun out ho => by
    have h0 : aj_step aj_rc aj_cls tb mm.2.2.2.2.2.1 mm.2.2.1 mm.2.2.2.1 false (.invokespecial i2) 3 (pc + 3 + 1) lv (.ref (tb.length + h.length) :: .ref (tb.length + h.length) :: st) (h ++ [.inr (6, [.null, .null, .null, .int 0, .int 0])]) = aj_call 3 5 tb mm.2.2.2.2.2.1 (pc + 3 + 1) i2 lv (.ref (tb.length + h.length) :: .ref (tb.length + h.length) :: st) (h ++ [.inr (6, [.null, .null, .null, .int 0, .int 0])]) := rfl
    rw [h0] at ho
    simp only [aj_call, hl2] at ho
    rw [if_pos (by decide), if_neg (by decide)] at ho
    simp only [List.drop_zero] at ho
    split at ho
    · cases ho
      rfl
    · cases ho)
  obtain ⟨d, c1⟩ := hcl _ _ _ _ _ _ _ c1
  rw [t1] at c1
  obtain ⟨rfl, rfl⟩ := fx_init t1 c1
  have hT' := fx_T_new hT
  have hV' : fx_V tb (h ++ fx_nl h.length) = fx_new X := by rw [fx_V_new t1, hV]
  have ht : X.2.2.2.2 = tb.length + h.length := by rw [← hV]; rfl
  rw [ht] at kk
  obtain ⟨w1, w2, w3⟩ := kk hle n3 (by omega) deep call _ _ _ _ _ _ _ hcl hT' hV' q
  exact ⟨w1, fx_le_tr hle w2, w3⟩
end FX10
theorem fx_lnk {z : Int} {A : Nat × Nat} {kd n : Nat} (h : z < (A.2 : Int)) (e : A = (kd, n)) : z < ((n : Nat) : Int) := by
  rw [e] at h
  exact h
theorem fx_lkd {l : List (Int × Int)} {d k : Int} (h : ∀ q, q ∈ l → q.1 ≠ k) : Op.lookupswitch.offset l d k = d := by
  induction l with
  | nil => rfl
  | cons q l ih =>
    obtain ⟨a, o⟩ := q
    show (if a = k then o else Op.lookupswitch.offset l d k) = d
    rw [if_neg (h (a, o) List.mem_cons_self)]
    exact ih fun q hq => h q (List.mem_cons_of_mem _ hq)
theorem fx_in_0_0 : (0, 0, 0, 78, 18, 4) ∈ fx_fin := by decide
theorem fx_in_0_1 : (0, 1, 0, 82, 14, 7) ∈ fx_fin := by decide
theorem fx_in_0_3 : (0, 3, 0, 92, 1, 120) ∈ fx_fin := by decide
theorem fx_in_0_4 : (0, 4, 0, 93, 0, 20) ∈ fx_fin := by decide
theorem fx_in_0_6 : (0, 6, 0, 94, 1, 6) ∈ fx_fin := by decide
theorem fx_in_1_0 : (1, 0, 0, 97, 0, 6) ∈ fx_fin := by decide
theorem fx_in_1_4 : (1, 4, 0, 98, 0, 30) ∈ fx_fin := by decide
theorem fx_in_1_5 : (1, 5, 0, 99, 0, 6) ∈ fx_fin := by decide
theorem fx_in_1_6 : (1, 6, 0, 100, 2, 6) ∈ fx_fin := by decide
theorem fx_in_2_7 : (2, 7, 0, 110, 0, 1024) ∈ fx_fin := by decide
theorem fx_in_2_9 : (2, 9, 0, 111, 0, 30) ∈ fx_fin := by decide
theorem fx_in_2_10 : (2, 10, 0, 112, 0, 30) ∈ fx_fin := by decide
theorem fx_in_3_0 : (3, 0, 0, 78, 18, 4) ∈ fx_fin := by decide
theorem fx_in_3_1 : (3, 1, 0, 82, 14, 7) ∈ fx_fin := by decide
theorem fx_in_3_2 : (3, 2, 0, 88, 0, 512) ∈ fx_fin := by decide
theorem fx_in_3_3 : (3, 3, 0, 89, 1, 10) ∈ fx_fin := by decide
theorem fx_in_3_4 : (3, 4, 0, 90, 0, 10) ∈ fx_fin := by decide
theorem fx_in_4_0 : (4, 0, 0, 83, 0, 2500) ∈ fx_fin := by decide
theorem fx_in_4_1 : (4, 1, 0, 84, 0, 2500) ∈ fx_fin := by decide
theorem fx_in_4_2 : (4, 2, 0, 85, 0, 2500) ∈ fx_fin := by decide
theorem fx_in_4_3 : (4, 3, 0, 86, 0, 2500) ∈ fx_fin := by decide
theorem fx_in_5_2 : (5, 2, 0, 114, 0, 1024) ∈ fx_fin := by decide
theorem fx_in_6_0 : (6, 0, 1, 1, 0, 180) ∈ fx_fin := by decide
theorem fx_in_6_1 : (6, 1, 1, 2, 2, 180) ∈ fx_fin := by decide
theorem fx_in_6_2 : (6, 2, 1, 3, 0, 1024) ∈ fx_fin := by decide
theorem fx_in_7_0 : (7, 0, 1, 1, 1, 8) ∈ fx_fin := by decide
theorem fx_in_7_1 : (7, 1, 1, 2, 0, 8) ∈ fx_fin := by decide
theorem fx_in_7_2 : (7, 2, 1, 3, 0, 512) ∈ fx_fin := by decide
theorem fx_in_7_3 : (7, 3, 1, 4, 0, 8192) ∈ fx_fin := by decide
theorem fx_in_7_4 : (7, 4, 1, 5, 0, 1024) ∈ fx_fin := by decide
theorem fx_in_7_5 : (7, 5, 1, 6, 0, 1024) ∈ fx_fin := by decide
theorem fx_in_7_6 : (7, 6, 1, 7, 2, 1024) ∈ fx_fin := by decide
theorem fx_in_7_7 : (7, 7, 1, 8, 5, 10) ∈ fx_fin := by decide
theorem fx_in_7_8 : (7, 8, 1, 9, 1, 10) ∈ fx_fin := by decide
theorem fx_in_7_9 : (7, 9, 1, 10, 1, 60) ∈ fx_fin := by decide
theorem fx_in_7_10 : (7, 10, 1, 11, 2, 10) ∈ fx_fin := by decide
theorem fx_in_8_0 : (8, 0, 0, 79, 0, 1002) ∈ fx_fin := by decide
theorem fx_in_8_1 : (8, 1, 0, 80, 0, 1002) ∈ fx_fin := by decide
theorem fx_in_8_2 : (8, 2, 0, 81, 1, 1002) ∈ fx_fin := by decide
theorem fx_in_9_0 : (9, 0, 0, 78, 18, 4) ∈ fx_fin := by decide
theorem fx_in_9_1 : (9, 1, 0, 82, 14, 7) ∈ fx_fin := by decide
theorem fx_in_9_2 : (9, 2, 0, 96, 11, 7) ∈ fx_fin := by decide
theorem fx_in_9_3 : (9, 3, 0, 101, 5, 20) ∈ fx_fin := by decide
theorem fx_in_9_6 : (9, 6, 0, 106, 0, 1024) ∈ fx_fin := by decide
theorem fx_in_10_0 : (10, 0, 0, 53, 3, 4000) ∈ fx_fin := by decide
theorem fx_in_10_5 : (10, 5, 0, 78, 18, 4) ∈ fx_fin := by decide
theorem fx_in_10_6 : (10, 6, 0, 82, 14, 7) ∈ fx_fin := by decide
theorem fx_in_10_7 : (10, 7, 0, 87, 13, 16) ∈ fx_fin := by decide
theorem fx_in_10_8 : (10, 8, 0, 91, 10, 9) ∈ fx_fin := by decide
theorem fx_in_10_9 : (10, 9, 0, 95, 19, 15) ∈ fx_fin := by decide
theorem fx_in_10_10 : (10, 10, 0, 107, 12, 11) ∈ fx_fin := by decide
theorem fx_in_10_11 : (10, 11, 0, 113, 15, 4) ∈ fx_fin := by decide
theorem fx_in_10_12 : (10, 12, 0, 115, 0, 30) ∈ fx_fin := by decide
theorem fx_in_10_13 : (10, 13, 0, 116, 0, 30) ∈ fx_fin := by decide
theorem fx_in_11_1 : (11, 1, 0, 118, 0, 2) ∈ fx_fin := by decide
theorem fx_in_11_2 : (11, 2, 0, 119, 1, 16) ∈ fx_fin := by decide
theorem fx_in_11_3 : (11, 3, 0, 120, 0, 16) ∈ fx_fin := by decide
theorem fx_in_11_4 : (11, 4, 0, 121, 0, 1024) ∈ fx_fin := by decide
theorem fx_in_11_5 : (11, 5, 0, 122, 0, 2) ∈ fx_fin := by decide
theorem fx_in_11_6 : (11, 6, 0, 123, 0, 16384) ∈ fx_fin := by decide
theorem fx_in_11_7 : (11, 7, 0, 124, 0, 2) ∈ fx_fin := by decide
theorem fx_in_11_8 : (11, 8, 0, 125, 1, 20) ∈ fx_fin := by decide
theorem fx_in_11_9 : (11, 9, 0, 126, 2, 20) ∈ fx_fin := by decide
theorem fx_in_11_10 : (11, 10, 0, 127, 0, 2) ∈ fx_fin := by decide
theorem fx_in_11_11 : (11, 11, 0, 128, 0, 2) ∈ fx_fin := by decide
theorem fx_in_11_12 : (11, 12, 0, 129, 0, 1280) ∈ fx_fin := by decide
theorem fx_in_11_14 : (11, 14, 0, 130, 0, 32) ∈ fx_fin := by decide
theorem fx_in_11_15 : (11, 15, 0, 131, 0, 50) ∈ fx_fin := by decide
theorem fx_in_11_16 : (11, 16, 0, 132, 0, 50) ∈ fx_fin := by decide
theorem fx_in_11_17 : (11, 17, 0, 133, 1, 400) ∈ fx_fin := by decide
theorem fx_in_11_18 : (11, 18, 0, 134, 4, 12000) ∈ fx_fin := by decide
theorem fx_in_11_19 : (11, 19, 0, 135, 0, 12000) ∈ fx_fin := by decide
theorem fx_in_11_20 : (11, 20, 0, 136, 0, 48000) ∈ fx_fin := by decide
theorem fx_in_11_21 : (11, 21, 0, 137, 0, 1024) ∈ fx_fin := by decide
theorem fx_in_11_22 : (11, 22, 0, 138, 4, 4000) ∈ fx_fin := by decide
theorem fx_in_11_42 : (11, 42, 0, 139, 0, 40) ∈ fx_fin := by decide
theorem fx_in_11_48 : (11, 48, 0, 140, 0, 64) ∈ fx_fin := by decide
theorem fx_in_11_49 : (11, 49, 0, 141, 0, 64) ∈ fx_fin := by decide
theorem fx_in_11_55 : (11, 55, 0, 142, 0, 16) ∈ fx_fin := by decide
theorem fx_in_11_57 : (11, 57, 0, 143, 0, 30) ∈ fx_fin := by decide
theorem fx_in_11_59 : (11, 59, 0, 144, 0, 8) ∈ fx_fin := by decide
theorem fx_in_11_60 : (11, 60, 0, 145, 0, 1024) ∈ fx_fin := by decide
theorem fx_in_11_62 : (11, 62, 0, 146, 0, 20) ∈ fx_fin := by decide
theorem fx_in_11_63 : (11, 63, 0, 147, 0, 30) ∈ fx_fin := by decide
theorem fx_in_11_66 : (11, 66, 0, 148, 0, 30720) ∈ fx_fin := by decide
theorem fx_in_11_71 : (11, 71, 0, 149, 0, 30) ∈ fx_fin := by decide
theorem fx_no_0_2 : ∀ e, e ∈ fx_fin → e.1 = 0 → e.2.1 ≠ 2 := by decide
theorem fx_no_0_5 : ∀ e, e ∈ fx_fin → e.1 = 0 → e.2.1 ≠ 5 := by decide
theorem fx_no_0_7 : ∀ e, e ∈ fx_fin → e.1 = 0 → e.2.1 ≠ 7 := by decide
theorem fx_no_0_8 : ∀ e, e ∈ fx_fin → e.1 = 0 → e.2.1 ≠ 8 := by decide
theorem fx_no_1_1 : ∀ e, e ∈ fx_fin → e.1 = 1 → e.2.1 ≠ 1 := by decide
theorem fx_no_1_2 : ∀ e, e ∈ fx_fin → e.1 = 1 → e.2.1 ≠ 2 := by decide
theorem fx_no_1_3 : ∀ e, e ∈ fx_fin → e.1 = 1 → e.2.1 ≠ 3 := by decide
theorem fx_no_2_0 : ∀ e, e ∈ fx_fin → e.1 = 2 → e.2.1 ≠ 0 := by decide
theorem fx_no_2_1 : ∀ e, e ∈ fx_fin → e.1 = 2 → e.2.1 ≠ 1 := by decide
theorem fx_no_2_2 : ∀ e, e ∈ fx_fin → e.1 = 2 → e.2.1 ≠ 2 := by decide
theorem fx_no_2_3 : ∀ e, e ∈ fx_fin → e.1 = 2 → e.2.1 ≠ 3 := by decide
theorem fx_no_2_4 : ∀ e, e ∈ fx_fin → e.1 = 2 → e.2.1 ≠ 4 := by decide
theorem fx_no_2_5 : ∀ e, e ∈ fx_fin → e.1 = 2 → e.2.1 ≠ 5 := by decide
theorem fx_no_2_6 : ∀ e, e ∈ fx_fin → e.1 = 2 → e.2.1 ≠ 6 := by decide
theorem fx_no_2_8 : ∀ e, e ∈ fx_fin → e.1 = 2 → e.2.1 ≠ 8 := by decide
theorem fx_no_3_5 : ∀ e, e ∈ fx_fin → e.1 = 3 → e.2.1 ≠ 5 := by decide
theorem fx_no_3_6 : ∀ e, e ∈ fx_fin → e.1 = 3 → e.2.1 ≠ 6 := by decide
theorem fx_no_3_7 : ∀ e, e ∈ fx_fin → e.1 = 3 → e.2.1 ≠ 7 := by decide
theorem fx_no_3_8 : ∀ e, e ∈ fx_fin → e.1 = 3 → e.2.1 ≠ 8 := by decide
theorem fx_no_3_9 : ∀ e, e ∈ fx_fin → e.1 = 3 → e.2.1 ≠ 9 := by decide
theorem fx_no_3_10 : ∀ e, e ∈ fx_fin → e.1 = 3 → e.2.1 ≠ 10 := by decide
theorem fx_no_3_11 : ∀ e, e ∈ fx_fin → e.1 = 3 → e.2.1 ≠ 11 := by decide
theorem fx_no_3_12 : ∀ e, e ∈ fx_fin → e.1 = 3 → e.2.1 ≠ 12 := by decide
theorem fx_no_3_13 : ∀ e, e ∈ fx_fin → e.1 = 3 → e.2.1 ≠ 13 := by decide
theorem fx_no_3_14 : ∀ e, e ∈ fx_fin → e.1 = 3 → e.2.1 ≠ 14 := by decide
theorem fx_no_3_15 : ∀ e, e ∈ fx_fin → e.1 = 3 → e.2.1 ≠ 15 := by decide
theorem fx_no_4_4 : ∀ e, e ∈ fx_fin → e.1 = 4 → e.2.1 ≠ 4 := by decide
theorem fx_no_4_5 : ∀ e, e ∈ fx_fin → e.1 = 4 → e.2.1 ≠ 5 := by decide
theorem fx_no_4_6 : ∀ e, e ∈ fx_fin → e.1 = 4 → e.2.1 ≠ 6 := by decide
theorem fx_no_5_0 : ∀ e, e ∈ fx_fin → e.1 = 5 → e.2.1 ≠ 0 := by decide
theorem fx_no_5_1 : ∀ e, e ∈ fx_fin → e.1 = 5 → e.2.1 ≠ 1 := by decide
theorem fx_no_5_3 : ∀ e, e ∈ fx_fin → e.1 = 5 → e.2.1 ≠ 3 := by decide
theorem fx_no_6_3 : ∀ e, e ∈ fx_fin → e.1 = 6 → e.2.1 ≠ 3 := by decide
theorem fx_no_6_4 : ∀ e, e ∈ fx_fin → e.1 = 6 → e.2.1 ≠ 4 := by decide
theorem fx_no_7_11 : ∀ e, e ∈ fx_fin → e.1 = 7 → e.2.1 ≠ 11 := by decide
theorem fx_no_7_12 : ∀ e, e ∈ fx_fin → e.1 = 7 → e.2.1 ≠ 12 := by decide
theorem fx_no_7_13 : ∀ e, e ∈ fx_fin → e.1 = 7 → e.2.1 ≠ 13 := by decide
theorem fx_no_7_14 : ∀ e, e ∈ fx_fin → e.1 = 7 → e.2.1 ≠ 14 := by decide
theorem fx_no_7_15 : ∀ e, e ∈ fx_fin → e.1 = 7 → e.2.1 ≠ 15 := by decide
theorem fx_no_7_16 : ∀ e, e ∈ fx_fin → e.1 = 7 → e.2.1 ≠ 16 := by decide
theorem fx_no_7_17 : ∀ e, e ∈ fx_fin → e.1 = 7 → e.2.1 ≠ 17 := by decide
theorem fx_no_8_3 : ∀ e, e ∈ fx_fin → e.1 = 8 → e.2.1 ≠ 3 := by decide
theorem fx_no_9_4 : ∀ e, e ∈ fx_fin → e.1 = 9 → e.2.1 ≠ 4 := by decide
theorem fx_no_9_5 : ∀ e, e ∈ fx_fin → e.1 = 9 → e.2.1 ≠ 5 := by decide
theorem fx_no_9_7 : ∀ e, e ∈ fx_fin → e.1 = 9 → e.2.1 ≠ 7 := by decide
theorem fx_no_9_8 : ∀ e, e ∈ fx_fin → e.1 = 9 → e.2.1 ≠ 8 := by decide
theorem fx_no_9_9 : ∀ e, e ∈ fx_fin → e.1 = 9 → e.2.1 ≠ 9 := by decide
theorem fx_no_9_10 : ∀ e, e ∈ fx_fin → e.1 = 9 → e.2.1 ≠ 10 := by decide
theorem fx_no_9_11 : ∀ e, e ∈ fx_fin → e.1 = 9 → e.2.1 ≠ 11 := by decide
theorem fx_no_9_12 : ∀ e, e ∈ fx_fin → e.1 = 9 → e.2.1 ≠ 12 := by decide
theorem fx_no_9_13 : ∀ e, e ∈ fx_fin → e.1 = 9 → e.2.1 ≠ 13 := by decide
theorem fx_no_9_14 : ∀ e, e ∈ fx_fin → e.1 = 9 → e.2.1 ≠ 14 := by decide
theorem fx_no_10_1 : ∀ e, e ∈ fx_fin → e.1 = 10 → e.2.1 ≠ 1 := by decide
theorem fx_no_10_2 : ∀ e, e ∈ fx_fin → e.1 = 10 → e.2.1 ≠ 2 := by decide
theorem fx_no_10_3 : ∀ e, e ∈ fx_fin → e.1 = 10 → e.2.1 ≠ 3 := by decide
theorem fx_no_10_4 : ∀ e, e ∈ fx_fin → e.1 = 10 → e.2.1 ≠ 4 := by decide
theorem fx_no_11_0 : ∀ e, e ∈ fx_fin → e.1 = 11 → e.2.1 ≠ 0 := by decide
theorem fx_no_11_13 : ∀ e, e ∈ fx_fin → e.1 = 11 → e.2.1 ≠ 13 := by decide
theorem fx_no_11_23 : ∀ e, e ∈ fx_fin → e.1 = 11 → e.2.1 ≠ 23 := by decide
theorem fx_no_11_24 : ∀ e, e ∈ fx_fin → e.1 = 11 → e.2.1 ≠ 24 := by decide
theorem fx_no_11_25 : ∀ e, e ∈ fx_fin → e.1 = 11 → e.2.1 ≠ 25 := by decide
theorem fx_no_11_26 : ∀ e, e ∈ fx_fin → e.1 = 11 → e.2.1 ≠ 26 := by decide
theorem fx_no_11_27 : ∀ e, e ∈ fx_fin → e.1 = 11 → e.2.1 ≠ 27 := by decide
theorem fx_no_11_28 : ∀ e, e ∈ fx_fin → e.1 = 11 → e.2.1 ≠ 28 := by decide
theorem fx_no_11_29 : ∀ e, e ∈ fx_fin → e.1 = 11 → e.2.1 ≠ 29 := by decide
theorem fx_no_11_30 : ∀ e, e ∈ fx_fin → e.1 = 11 → e.2.1 ≠ 30 := by decide
theorem fx_no_11_31 : ∀ e, e ∈ fx_fin → e.1 = 11 → e.2.1 ≠ 31 := by decide
theorem fx_no_11_32 : ∀ e, e ∈ fx_fin → e.1 = 11 → e.2.1 ≠ 32 := by decide
theorem fx_no_11_33 : ∀ e, e ∈ fx_fin → e.1 = 11 → e.2.1 ≠ 33 := by decide
theorem fx_no_11_34 : ∀ e, e ∈ fx_fin → e.1 = 11 → e.2.1 ≠ 34 := by decide
theorem fx_no_11_35 : ∀ e, e ∈ fx_fin → e.1 = 11 → e.2.1 ≠ 35 := by decide
theorem fx_no_11_36 : ∀ e, e ∈ fx_fin → e.1 = 11 → e.2.1 ≠ 36 := by decide
theorem fx_no_11_37 : ∀ e, e ∈ fx_fin → e.1 = 11 → e.2.1 ≠ 37 := by decide
theorem fx_no_11_38 : ∀ e, e ∈ fx_fin → e.1 = 11 → e.2.1 ≠ 38 := by decide
theorem fx_no_11_39 : ∀ e, e ∈ fx_fin → e.1 = 11 → e.2.1 ≠ 39 := by decide
theorem fx_no_11_40 : ∀ e, e ∈ fx_fin → e.1 = 11 → e.2.1 ≠ 40 := by decide
theorem fx_no_11_41 : ∀ e, e ∈ fx_fin → e.1 = 11 → e.2.1 ≠ 41 := by decide
theorem fx_no_11_43 : ∀ e, e ∈ fx_fin → e.1 = 11 → e.2.1 ≠ 43 := by decide
theorem fx_no_11_44 : ∀ e, e ∈ fx_fin → e.1 = 11 → e.2.1 ≠ 44 := by decide
theorem fx_no_11_45 : ∀ e, e ∈ fx_fin → e.1 = 11 → e.2.1 ≠ 45 := by decide
theorem fx_no_11_46 : ∀ e, e ∈ fx_fin → e.1 = 11 → e.2.1 ≠ 46 := by decide
theorem fx_no_11_47 : ∀ e, e ∈ fx_fin → e.1 = 11 → e.2.1 ≠ 47 := by decide
theorem fx_no_11_50 : ∀ e, e ∈ fx_fin → e.1 = 11 → e.2.1 ≠ 50 := by decide
theorem fx_no_11_51 : ∀ e, e ∈ fx_fin → e.1 = 11 → e.2.1 ≠ 51 := by decide
theorem fx_no_11_52 : ∀ e, e ∈ fx_fin → e.1 = 11 → e.2.1 ≠ 52 := by decide
theorem fx_no_11_53 : ∀ e, e ∈ fx_fin → e.1 = 11 → e.2.1 ≠ 53 := by decide
theorem fx_no_11_54 : ∀ e, e ∈ fx_fin → e.1 = 11 → e.2.1 ≠ 54 := by decide
theorem fx_no_11_56 : ∀ e, e ∈ fx_fin → e.1 = 11 → e.2.1 ≠ 56 := by decide
theorem fx_no_11_58 : ∀ e, e ∈ fx_fin → e.1 = 11 → e.2.1 ≠ 58 := by decide
theorem fx_no_11_61 : ∀ e, e ∈ fx_fin → e.1 = 11 → e.2.1 ≠ 61 := by decide
theorem fx_no_11_64 : ∀ e, e ∈ fx_fin → e.1 = 11 → e.2.1 ≠ 64 := by decide
theorem fx_no_11_65 : ∀ e, e ∈ fx_fin → e.1 = 11 → e.2.1 ≠ 65 := by decide
theorem fx_no_11_67 : ∀ e, e ∈ fx_fin → e.1 = 11 → e.2.1 ≠ 67 := by decide
theorem fx_no_11_68 : ∀ e, e ∈ fx_fin → e.1 = 11 → e.2.1 ≠ 68 := by decide
theorem fx_no_11_69 : ∀ e, e ∈ fx_fin → e.1 = 11 → e.2.1 ≠ 69 := by decide
theorem fx_no_11_70 : ∀ e, e ∈ fx_fin → e.1 = 11 → e.2.1 ≠ 70 := by decide
