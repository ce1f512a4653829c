/-! STORES, CALLS, WHAT A METHOD'S ANSWER IS -/
/-- an answer of this sort -/
def fx_Q {α : Type} (g : α → Option Value) (T : α → fx_X → Prop) : Option Value → fx_X → Prop := fun r X' => ∃ v : α, r = g v ∧ T v X'
abbrev fx_qI : Int32 → Option Value := fun v => some (.int v)
abbrev fx_qL : Int64 → Option Value := fun v => some (.long v)
abbrev fx_qR : Option Nat → Option Value := fun v => some (va_rf v)
abbrev fx_qN : Unit → Option Value := fun _ => none
theorem fx_ea {a t : Nat} (h1 : t = 52) (h2 : t ≤ a) : a = 52 + (a - t) := by omega
section FX3
variable {tb : aj_T} {mm : aj_M} {M N pc pc' : Nat} {lv lv' : aj_V} {st st' rest : List Value} {X : fx_X} {Q : Option Value → fx_X → Prop} {ct : List (Nat × Instr × Nat)} {i : Instr} {len : Nat}
theorem fx_nar_rg (k : Nat) (x : Int32) : fx_rg k (aj_nar k x) := by
  refine ⟨fun e => ?_, fun e => ?_, fun e => ?_⟩
  · subst e
    have k : 0 ≤ (aj_nar 2 x).toInt ∧ (aj_nar 2 x).toInt ≤ 1 := ak_nar_ok (kd := 2) (q := ak_full) (ak_win_full x) (Or.inr (Or.inl rfl))
    rcases (show (aj_nar 2 x).toInt = 0 ∨ (aj_nar 2 x).toInt = 1 by omega) with e | e
    · exact Or.inl (Int32.toInt_inj.mp (by rw [e]; rfl))
    · exact Or.inr (Int32.toInt_inj.mp (by rw [e]; rfl))
  · subst e
    exact ak_nar_ok (kd := 3) (q := ak_full) (ak_win_full x) (Or.inr (Or.inr (Or.inl rfl)))
  · subst e
    exact ak_nar_ok (kd := 4) (q := ak_full) (ak_win_full x) (Or.inr (Or.inr (Or.inr rfl)))
theorem fx_sk {h : aj_H} (hT : fx_T tb h) (hV : fx_V tb h = X) {kd a : Nat} (hkd : kd < 5) {x v : Int32} {out : aj_Out} (ho : aj_ast kd tb pc lv (.int v :: .int x :: .ref a :: rest) h = some out) (kk : 0 ≤ x.toInt → x.toInt < (X.2.2.2.1 a).2 → (X.2.2.2.1 a).1 = kd → fx_W tb mm N (pc + 1) lv rest (fx_wI X a x.toInt.toNat (aj_nar kd v)) Q) : ∃ (pc' : Nat) (lv' : aj_V) (st' : List Value) (h' : aj_H) (dc ds : Nat), out = .inl ((pc', lv', st'), h', dc, ds) ∧ fx_T tb h' ∧ fx_le X (fx_V tb h') ∧ fx_W tb mm N pc' lv' st' (fx_V tb h') Q := by
  simp only [aj_ast] at ho
  split at ho
  · cases ho
  · rename_i ha
    split at ho
    · rename_i k' n f hc
      split at ho
      · rename_i hk
        cases ho
        obtain ⟨hk1, hk2⟩ := hk
        subst hk1
        obtain ⟨g1, g2, g3⟩ := fx_inB hk2
        have hT' := hT
        obtain ⟨t1, t2, t3, t4, t5, t6⟩ := hT'
        have ea : a = 52 + (a - tb.length) := fx_ea t1 (Nat.not_lt.mp ha)
        have e2 : X.2.2.2.1 a = (k', n) := by
          rw [← hV]
          show fx_A (fx_c tb h a) = _
          unfold fx_c
          rw [if_neg ha, hc]
          rfl
        refine ⟨_, _, _, _, _, _, rfl, fx_T_arr hT hc (fun f' e j hj => ?_), fx_le_eq (by rw [← hV]; exact fx_V4_a t1 hc), ?_⟩
        · cases e
          unfold upd
          split
          · exact fx_nar_rg _ _
          · exact (t6 _ _ _ _ hc).2 _ rfl j hj
        · rw [fx_V_aI t1 hc, g3, ← ea, hV]
          exact kk g1 (by rw [e2]; exact g2) (by rw [e2])
      · cases ho
    · cases ho
/-- stores -/
theorem fx_st (hct : aj_ctOK ct mm.2.1) {kd : Nat} (hi : i = .iastore ∧ kd = 0 ∨ i = .castore ∧ kd = 3) (hd : aj_ct ct pc = some (i, 1)) (hM : M ≤ N + 1) {a : Nat} {x v : Int32} (kk : 0 ≤ x.toInt → x.toInt < (X.2.2.2.1 a).2 → fx_W tb mm N (pc + 1) lv rest (fx_wI X a x.toInt.toNat (aj_nar kd v)) Q) : fx_W tb mm M pc lv (.int v :: .int x :: .ref a :: rest) X Q :=
  fx_g0 hct hd hM fun h hT hV out ho => by
    refine Or.inr ?_
    rcases hi with ⟨rfl, rfl⟩ | ⟨rfl, rfl⟩
    · exact fx_sk hT hV (kd := 0) (by decide) ho (fun h1 h2 _ => kk h1 h2)
    · exact fx_sk hT hV (kd := 3) (by decide) ho (fun h1 h2 _ => kk h1 h2)
theorem fx_sb (hct : aj_ctOK ct mm.2.1) (hd : aj_ct ct pc = some (.bastore, 1)) (hM : M ≤ N + 1) {a kd n : Nat} (hA : X.2.2.2.1 a = (kd, n)) {x v : Int32} (kk : 0 ≤ x.toInt → x.toInt < (X.2.2.2.1 a).2 → fx_W tb mm N (pc + 1) lv rest (fx_wI X a x.toInt.toNat (aj_nar kd v)) Q) : fx_W tb mm M pc lv (.int v :: .int x :: .ref a :: rest) X Q :=
  fx_g0 hct hd hM fun h hT hV out ho => by
    have h0 : aj_step aj_rc aj_cls tb mm.2.2.2.2.2.1 mm.2.2.1 mm.2.2.2.1 false .bastore 1 pc lv (.int v :: .int x :: .ref a :: rest) h = aj_bst tb pc lv (.int v :: .int x :: .ref a :: rest) h := rfl
    rw [h0] at ho
    simp only [aj_bst] at ho
    refine Or.inr ?_
    have hA1 : (X.2.2.2.1 a).1 = kd := by rw [hA]
    split at ho
    · exact fx_sk hT hV (kd := 2) (by decide) ho (fun h1 h2 h3 => by rw [← h3, hA1]; exact kk h1 h2)
    · exact fx_sk hT hV (kd := 4) (by decide) ho (fun h1 h2 h3 => by rw [← h3, hA1]; exact kk h1 h2)
theorem fx_sL (hct : aj_ctOK ct mm.2.1) (hd : aj_ct ct pc = some (.lastore, 1)) (hM : M ≤ N + 1) {a : Nat} {x : Int32} {v : Int64} (kk : 0 ≤ x.toInt → x.toInt < (X.2.2.2.1 a).2 → fx_W tb mm N (pc + 1) lv rest (fx_wL X a x.toInt.toNat v) Q) : fx_W tb mm M pc lv (.long v :: .int x :: .ref a :: rest) X Q :=
  fx_g0 hct hd hM fun h hT hV out ho => by
    have h0 : aj_step aj_rc aj_cls tb mm.2.2.2.2.2.1 mm.2.2.1 mm.2.2.2.1 false .lastore 1 pc lv (.long v :: .int x :: .ref a :: rest) h = aj_lst tb pc lv (.long v :: .int x :: .ref a :: rest) h := rfl
    rw [h0] at ho
    simp only [aj_lst] at ho
    refine Or.inr ?_
    split at ho
    · cases ho
    · rename_i ha
      split at ho
      · rename_i n f hc
        split at ho
        · rename_i hk
          cases ho
          obtain ⟨g1, g2, g3⟩ := fx_inB hk
          have t1 := hT.1
          have ea : a = 52 + (a - tb.length) := fx_ea t1 (Nat.not_lt.mp ha)
          have e2 : X.2.2.2.1 a = (1, n) := by
            rw [← hV]
            show fx_A (fx_c tb h a) = _
            unfold fx_c
            rw [if_neg ha, hc]
            rfl
          refine ⟨_, _, _, _, _, _, rfl, fx_T_arr hT hc (fun f' e => by cases e), fx_le_eq (by rw [← hV]; exact fx_V4_a t1 hc), ?_⟩
          rw [fx_V_aL t1 hc, g3, ← ea, hV]
          exact kk g1 (by rw [e2]; exact g2)
        · cases ho
      · cases ho
theorem fx_sR (hct : aj_ctOK ct mm.2.1) (hd : aj_ct ct pc = some (.aastore, 1)) (hM : M ≤ N + 1) {a b : Nat} {x : Int32} (kk : 0 ≤ x.toInt → x.toInt < (X.2.2.2.1 a).2 → fx_W tb mm N (pc + 1) lv rest (fx_wR X a x.toInt.toNat (some b)) Q) : fx_W tb mm M pc lv (.ref b :: .int x :: .ref a :: rest) X Q :=
  fx_g0 hct hd hM fun h hT hV out ho => by
    have h0 : aj_step aj_rc aj_cls tb mm.2.2.2.2.2.1 mm.2.2.1 mm.2.2.2.1 false .aastore 1 pc lv (.ref b :: .int x :: .ref a :: rest) h = aj_qst aj_rc tb pc lv (.ref b :: .int x :: .ref a :: rest) h := rfl
    rw [h0] at ho
    simp only [aj_qst] at ho
    refine Or.inr ?_
    split at ho
    · cases ho
    · rename_i ha
      split at ho
      · rename_i n f hc
        split at ho
        · split at ho
          · rename_i hk
            cases ho
            obtain ⟨g1, g2, g3⟩ := fx_inB hk.2
            have t1 := hT.1
            have ea : a = 52 + (a - tb.length) := fx_ea t1 (Nat.not_lt.mp ha)
            have e2 : X.2.2.2.1 a = (5, n) := by
              rw [← hV]
              show fx_A (fx_c tb h a) = _
              unfold fx_c
              rw [if_neg ha, hc]
              rfl
            refine ⟨_, _, _, _, _, _, rfl, fx_T_arr hT hc (fun f' e => by cases e), fx_le_eq (by rw [← hV]; exact fx_V4_a t1 hc), ?_⟩
            rw [fx_V_aR t1 hc, g3, ← ea, hV]
            exact kk g1 (by rw [e2]; exact g2)
          · cases ho
        · cases ho
      · cases ho
/-- a static array -/
theorem fx_gs (hct : aj_ctOK ct mm.2.1) {idx sid a : Nat} {v : Int} (hd : aj_ct ct pc = some (.getstatic idx, 3)) (hM : M ≤ N + 1) (hl : aj_link mm.2.2.2.2.2.1 idx = some (9, sid, a, v)) {kd n : Nat} (hs : fx_A ((aj_tbS[sid]?).map Sum.inl) = (kd, n)) (h51 : sid < 51) (kk : X.2.2.2.1 sid = (kd, n) → fx_W tb mm N (pc + 3) lv (.ref sid :: st) X Q) : fx_W tb mm M pc lv st X Q :=
  fx_g0 hct hd hM fun h hT hV out ho => by
    have h0 : aj_step aj_rc aj_cls tb mm.2.2.2.2.2.1 mm.2.2.1 mm.2.2.2.1 false (.getstatic idx) 3 pc lv st h = aj_gets tb mm.2.2.2.2.2.1 pc idx lv st h := rfl
    rw [h0] at ho
    unfold aj_gets at ho
    simp only [hl] at ho
    split at ho
    · cases ho
      refine Or.inr ⟨_, _, _, _, _, _, rfl, hT, by rw [hV]; exact fx_le_rf, ?_⟩
      rw [hV]
      refine kk ?_
      rw [← hV]
      show fx_A (fx_c tb h sid) = _
      unfold fx_c
      rw [if_pos (by rw [hT.1]; omega), hT.2.1 sid h51]
      exact hs
    · cases ho
/-- division -/
theorem fx_dv (hct : aj_ctOK ct mm.2.1) (hd : aj_ct ct pc = some (.idiv, 1)) (hM : M ≤ N + 1) {x y : Int32} (kk : y ≠ 0 → fx_W tb mm N (pc + 1) lv (.int (x / y) :: rest) X Q) : fx_W tb mm M pc lv (.int y :: .int x :: rest) X Q :=
  fx_g0 hct hd hM fun h hT hV out ho => by
    have h0 : aj_step aj_rc aj_cls tb mm.2.2.2.2.2.1 mm.2.2.1 mm.2.2.2.1 false .idiv 1 pc lv (.int y :: .int x :: rest) h = if y = 0 then none else aj_go (pc + 1) lv (.int (x / y) :: rest) h := rfl
    rw [h0] at ho
    split at ho
    · cases ho
    · rename_i q
      cases ho
      exact Or.inr ⟨_, _, _, _, _, _, rfl, hT, by rw [hV]; exact fx_le_rf, by rw [hV]; exact kk q⟩
theorem fx_rm (hct : aj_ctOK ct mm.2.1) (hd : aj_ct ct pc = some (.irem, 1)) (hM : M ≤ N + 1) {x y : Int32} (kk : y ≠ 0 → fx_W tb mm N (pc + 1) lv (.int (x - x / y * y) :: rest) X Q) : fx_W tb mm M pc lv (.int y :: .int x :: rest) X Q :=
  fx_g0 hct hd hM fun h hT hV out ho => by
    have h0 : aj_step aj_rc aj_cls tb mm.2.2.2.2.2.1 mm.2.2.1 mm.2.2.2.1 false .irem 1 pc lv (.int y :: .int x :: rest) h = if y = 0 then none else aj_go (pc + 1) lv (.int (x - x / y * y) :: rest) h := rfl
    rw [h0] at ho
    split at ho
    · cases ho
    · rename_i q
      cases ho
      exact Or.inr ⟨_, _, _, _, _, _, rfl, hT, by rw [hV]; exact fx_le_rf, by rw [hV]; exact kk q⟩
/-- calls -/
theorem fx_cl (hct : aj_ctOK ct mm.2.1) (hd : aj_ct ct pc = some (i, len)) (hM : M ≤ N + 1) {kind mi : Nat} {as : List Value} (h5 : kind ≠ 5) (hs : ∀ h out, fx_T tb h → aj_step aj_rc aj_cls tb mm.2.2.2.2.2.1 mm.2.2.1 mm.2.2.2.1 false i len pc lv st h = some out → out = .inr (.inl (kind, mi, as, (pc', lv', st')))) {Q' : Option Value → fx_X → Prop} (hc : fx_K tb mi as X Q') (kk : ∀ r X1, Q' r X1 → (∃ h1, fx_T tb h1 ∧ fx_V tb h1 = X1) → fx_le X X1 → fx_W tb mm N pc' lv' (r.toList ++ st') X1 Q) : fx_W tb mm M pc lv st X Q := by
  intro n hn deep call h kc ks mc ms r hF hcl hT hV q
  cases n with
  | zero => exact q.elim
  | succ n =>
    unfold aj_frm at q
    rw [aj_ct_ok hct hd] at q
    dsimp only at q
    cases ho : aj_step aj_rc aj_cls tb mm.2.2.2.2.2.1 mm.2.2.1 mm.2.2.2.1 false i len pc lv st h with
    | none => rw [ho] at q; exact q.elim
    | some out =>
      rw [ho] at q
      have e := hs h out hT ho
      subst e
      obtain ⟨-, q⟩ := q
      rcases q with ⟨z, -⟩ | ⟨-, mc', ms', r', h', c1, -, -, -, q⟩
      · exact absurd z h5
      · obtain ⟨d, c1⟩ := hcl _ _ _ _ _ _ _ c1
        obtain ⟨p1, p0, p2⟩ := hc d h mc' ms' r' h' hT hV c1
        obtain ⟨w1, w2, w3⟩ := kk r' _ p2 ⟨h', p1, rfl⟩ p0 n (by omega) deep call h' _ _ _ _ _ _ hcl p1 rfl q
        exact ⟨w1, fx_le_tr p0 w2, w3⟩
theorem fx_cv (hct : aj_ctOK ct mm.2.1) {idx mi n : Nat} {v : Int} (hd : aj_ct ct pc = some (.invokevirtual idx, 3)) (hM : M ≤ N + 1) (hl : aj_link mm.2.2.2.2.2.1 idx = some (2, mi, n, v)) (args : List Value) {b : Nat} (hst : st = args ++ .ref b :: rest) (hn : args.length = n) {Q' : Option Value → fx_X → Prop} (hc : fx_K tb mi (.ref b :: args.reverse) X Q') (kk : ∀ r X1, Q' r X1 → (∃ h1, fx_T tb h1 ∧ fx_V tb h1 = X1) → fx_le X X1 → fx_W tb mm N (pc + 3) lv (r.toList ++ rest) X1 Q) : fx_W tb mm M pc lv st X Q := by
  refine fx_cl hct hd hM (kind := 2) (by decide) (fun h out hT ho => ?_) hc kk
  subst hst
  subst hn
  have e1 : (args ++ .ref b :: rest).drop args.length = .ref b :: rest := by simp
  have e2 : (args ++ .ref b :: rest).take args.length = args := by simp
  have h0 : aj_step aj_rc aj_cls tb mm.2.2.2.2.2.1 mm.2.2.1 mm.2.2.2.1 false (.invokevirtual idx) 3 pc lv (args ++ .ref b :: rest) h = aj_call 2 2 tb mm.2.2.2.2.2.1 pc idx lv (args ++ .ref b :: rest) h := rfl
  rw [h0] at ho
  simp only [aj_call, hl, e1, e2] at ho
  rw [if_pos ⟨Nat.le_refl _, Nat.le_refl _⟩, if_neg (by decide)] at ho
  split at ho
  · cases ho
    rfl
  · cases ho
theorem fx_cs (hct : aj_ctOK ct mm.2.1) {idx mi n : Nat} {v : Int} (hd : aj_ct ct pc = some (.invokestatic idx, 3)) (hM : M ≤ N + 1) (hnat : aj_isNat mm.2.2.2.2.2.1 idx = false) (hl : aj_link mm.2.2.2.2.2.1 idx = some (6, mi, n, v)) (args : List Value) (hst : st = args ++ rest) (hn : args.length = n) {Q' : Option Value → fx_X → Prop} (hc : fx_K tb mi args.reverse X Q') (kk : ∀ r X1, Q' r X1 → (∃ h1, fx_T tb h1 ∧ fx_V tb h1 = X1) → fx_le X X1 → fx_W tb mm N (pc + 3) lv (r.toList ++ rest) X1 Q) : fx_W tb mm M pc lv st X Q := by
  refine fx_cl hct hd hM (kind := 6) (by decide) (fun h out hT ho => ?_) hc kk
  subst hst
  subst hn
  have e1 : (args ++ rest).drop args.length = rest := by simp
  have e2 : (args ++ rest).take args.length = args := by simp
  have h0 : aj_step aj_rc aj_cls tb mm.2.2.2.2.2.1 mm.2.2.1 mm.2.2.2.1 false (.invokestatic idx) 3 pc lv (args ++ rest) h = if aj_isNat mm.2.2.2.2.2.1 idx = true then aj_nat tb mm.2.2.2.2.2.1 pc idx lv (args ++ rest) h else aj_call 6 6 tb mm.2.2.2.2.2.1 pc idx lv (args ++ rest) h := rfl
  rw [h0, hnat, if_neg (by decide)] at ho
  simp only [aj_call, hl, e1, e2] at ho
  rw [if_pos ⟨Nat.le_refl _, Nat.le_refl _⟩, if_pos trivial] at ho
  split at ho
  · cases ho
    rfl
  · cases ho
/-- Math.min, Math.max -/
theorem fx_mn (hct : aj_ctOK ct mm.2.1) {idx a b : Nat} {v : Int} (hd : aj_ct ct pc = some (.invokestatic idx, 3)) (hM : M ≤ N + 1) (hl : aj_link mm.2.2.2.2.2.1 idx = some (7, a, b, v)) {x y : Int32} (kk : fx_W tb mm N (pc + 3) lv (.int (if y < x then y else x) :: rest) X Q) : fx_W tb mm M pc lv (.int y :: .int x :: rest) X Q :=
  fx_g0 hct hd hM fun h hT hV out ho => by
    have h0 : aj_step aj_rc aj_cls tb mm.2.2.2.2.2.1 mm.2.2.1 mm.2.2.2.1 false (.invokestatic idx) 3 pc lv (.int y :: .int x :: rest) h = if aj_isNat mm.2.2.2.2.2.1 idx = true then aj_nat tb mm.2.2.2.2.2.1 pc idx lv (.int y :: .int x :: rest) h else aj_call 6 6 tb mm.2.2.2.2.2.1 pc idx lv (.int y :: .int x :: rest) h := rfl
    have h1 : aj_isNat mm.2.2.2.2.2.1 idx = true := by unfold aj_isNat; rw [hl]; rfl
    rw [h0, if_pos h1] at ho
    simp only [aj_nat, hl, aj_nmm] at ho
    rw [if_pos trivial] at ho
    split at ho
    · cases ho
      exact Or.inr ⟨_, _, _, _, _, _, rfl, hT, by rw [hV]; exact fx_le_rf, by rw [hV]; exact kk⟩
    · cases ho
theorem fx_mx (hct : aj_ctOK ct mm.2.1) {idx a b : Nat} {v : Int} (hd : aj_ct ct pc = some (.invokestatic idx, 3)) (hM : M ≤ N + 1) (hl : aj_link mm.2.2.2.2.2.1 idx = some (8, a, b, v)) {x y : Int32} (kk : fx_W tb mm N (pc + 3) lv (.int (if x < y then y else x) :: rest) X Q) : fx_W tb mm M pc lv (.int y :: .int x :: rest) X Q :=
  fx_g0 hct hd hM fun h hT hV out ho => by
    have h0 : aj_step aj_rc aj_cls tb mm.2.2.2.2.2.1 mm.2.2.1 mm.2.2.2.1 false (.invokestatic idx) 3 pc lv (.int y :: .int x :: rest) h = if aj_isNat mm.2.2.2.2.2.1 idx = true then aj_nat tb mm.2.2.2.2.2.1 pc idx lv (.int y :: .int x :: rest) h else aj_call 6 6 tb mm.2.2.2.2.2.1 pc idx lv (.int y :: .int x :: rest) h := rfl
    have h1 : aj_isNat mm.2.2.2.2.2.1 idx = true := by unfold aj_isNat; rw [hl]; rfl
    rw [h0, if_pos h1] at ho
    simp only [aj_nat, hl, aj_nmm] at ho
    rw [if_neg (by decide), if_pos trivial] at ho
    split at ho
    · cases ho
      exact Or.inr ⟨_, _, _, _, _, _, rfl, hT, by rw [hV]; exact fx_le_rf, by rw [hV]; exact kk⟩
    · cases ho
/-- any view that a run comes by is one of a typed heap -/
theorem fx_ok (k : (∃ h, fx_T tb h ∧ fx_V tb h = X) → fx_W tb mm N pc lv st X Q) : fx_W tb mm N pc lv st X Q := fun n hn deep call h kc ks mc ms r hF hc hT hV q => k ⟨h, hT, hV⟩ n hn deep call h kc ks mc ms r hF hc hT hV q
end FX3
section FX4
variable {tb : aj_T} {mm : aj_M} {N pc : Nat} {lv : aj_V} {st : List Value} {X : fx_X} {α β γ : Type} {g : α → Option Value} {c : Prop} {A B : Nat → α → fx_X → Prop}
/-- ways through the tree -/
theorem fx_qi [Decidable c] (q : c) (k : fx_W tb mm N pc lv st X (fx_Q g (fun v X' => ∃ n : Nat, A n v X'))) : fx_W tb mm N pc lv st X (fx_Q g (fun v X' => ∃ n : Nat, if c then A n v X' else B n v X')) :=
  fx_mono (fun r X' ⟨v, e, n, z⟩ => ⟨v, e, n, by rw [if_pos q]; exact z⟩) k
theorem fx_qe [Decidable c] (q : ¬ c) (k : fx_W tb mm N pc lv st X (fx_Q g (fun v X' => ∃ n : Nat, B n v X'))) : fx_W tb mm N pc lv st X (fx_Q g (fun v X' => ∃ n : Nat, if c then A n v X' else B n v X')) :=
  fx_mono (fun r X' ⟨v, e, n, z⟩ => ⟨v, e, n, by rw [if_neg q]; exact z⟩) k
theorem fx_qa (q : c) (k : fx_W tb mm N pc lv st X (fx_Q g (fun v X' => ∃ n : Nat, A n v X'))) : fx_W tb mm N pc lv st X (fx_Q g (fun v X' => ∃ n : Nat, c ∧ A n v X')) :=
  fx_mono (fun r X' ⟨v, e, n, z⟩ => ⟨v, e, n, q, z⟩) k
theorem fx_qx {t w : β} (q : w = t) {A : Nat → β → α → fx_X → Prop} (k : fx_W tb mm N pc lv st X (fx_Q g (fun v X' => ∃ n : Nat, A n w v X'))) : fx_W tb mm N pc lv st X (fx_Q g (fun v X' => ∃ n : Nat, ∃ w : β, w = t ∧ A n w v X')) :=
  fx_mono (fun r X' ⟨v, e, n, z⟩ => ⟨v, e, n, w, q, z⟩) k
theorem fx_qs {t : Option β} {w : β} (q : t = some w) {A : Nat → β → α → fx_X → Prop} (k : fx_W tb mm N pc lv st X (fx_Q g (fun v X' => ∃ n : Nat, A n w v X'))) : fx_W tb mm N pc lv st X (fx_Q g (fun v X' => ∃ n : Nat, ∃ w : β, t = some w ∧ A n w v X')) :=
  fx_mono (fun r X' ⟨v, e, n, z⟩ => ⟨v, e, n, w, q, z⟩) k
theorem fx_qc {w : β} {X1 : fx_X} {R : β → fx_X → Prop} (q : R w X1) {A : Nat → β → fx_X → α → fx_X → Prop} (k : fx_W tb mm N pc lv st X (fx_Q g (fun v X' => ∃ n : Nat, A n w X1 v X'))) : fx_W tb mm N pc lv st X (fx_Q g (fun v X' => ∃ n : Nat, ∃ (w : β) (X1 : fx_X), R w X1 ∧ A n w X1 v X')) :=
  fx_mono (fun r X' ⟨v, e, n, z⟩ => ⟨v, e, n, w, X1, q, z⟩) k
/-- a label's steps -/
theorem fx_ql {F : Nat → α → fx_X → Prop} (k : fx_W tb mm N pc lv st X (fx_Q g (fun v X' => ∃ n : Nat, F (n + 1) v X'))) : fx_W tb mm N pc lv st X (fx_Q g (fun v X' => ∃ n : Nat, F n v X')) :=
  fx_mono (fun r X' ⟨v, e, n, z⟩ => ⟨v, e, n + 1, z⟩) k
end FX4
/-- the ints of a test -/
theorem fx_tq {x y : Int32} {c : ClassFile.Cond} {v : Bool} (h : aj_test c x y = v) : v = (match c with | .eq => decide (x.toInt = y.toInt) | .ne => decide (x.toInt ≠ y.toInt) | .lt => decide (x.toInt < y.toInt) | .ge => decide (y.toInt ≤ x.toInt) | .gt => decide (y.toInt < x.toInt) | .le => decide (x.toInt ≤ y.toInt)) := by
  subst h
  cases c <;> simp only [aj_test, Int32.lt_iff_toInt_lt, Int32.le_iff_toInt_le, ← Int32.toInt_inj, bne, BEq.beq, ne_eq, decide_not]
section FX5
variable {x y : Int32}
theorem fx_t_eq (h : aj_test .eq x y = true) : x.toInt = y.toInt := of_decide_eq_true (fx_tq h).symm
theorem fx_f_eq (h : aj_test .eq x y = false) : ¬ x.toInt = y.toInt := of_decide_eq_false (fx_tq h).symm
theorem fx_t_ne (h : aj_test .ne x y = true) : ¬ x.toInt = y.toInt := of_decide_eq_true (fx_tq h).symm
theorem fx_f_ne (h : aj_test .ne x y = false) : x.toInt = y.toInt := Decidable.of_not_not (of_decide_eq_false (fx_tq h).symm)
theorem fx_t_lt (h : aj_test .lt x y = true) : x.toInt < y.toInt := of_decide_eq_true (fx_tq h).symm
theorem fx_f_lt (h : aj_test .lt x y = false) : ¬ x.toInt < y.toInt := of_decide_eq_false (fx_tq h).symm
theorem fx_t_ge (h : aj_test .ge x y = true) : ¬ x.toInt < y.toInt := Int.not_lt.mpr (of_decide_eq_true (fx_tq h).symm)
theorem fx_f_ge (h : aj_test .ge x y = false) : x.toInt < y.toInt := Int.not_le.mp (of_decide_eq_false (fx_tq h).symm)
theorem fx_t_gt (h : aj_test .gt x y = true) : y.toInt < x.toInt := of_decide_eq_true (fx_tq h).symm
theorem fx_f_gt (h : aj_test .gt x y = false) : ¬ y.toInt < x.toInt := of_decide_eq_false (fx_tq h).symm
theorem fx_t_le (h : aj_test .le x y = true) : ¬ y.toInt < x.toInt := Int.not_lt.mpr (of_decide_eq_true (fx_tq h).symm)
theorem fx_f_le (h : aj_test .le x y = false) : y.toInt < x.toInt := Int.not_le.mp (of_decide_eq_false (fx_tq h).symm)
theorem fx_lc {x y : Int64} : (lg_cmp x y).toInt = 0 ↔ x = y := by
  unfold lg_cmp
  split
  · rename_i h
    refine ⟨fun e => absurd e (by decide), fun e => ?_⟩
    subst e
    exact absurd h (by simp)
  · split
    · rename_i h
      exact ⟨fun _ => h, fun _ => rfl⟩
    · rename_i h
      exact ⟨fun e => absurd e (by decide), fun e => absurd e h⟩
end FX5
section FX6
variable {lv l : aj_V} {v w : Value} {j k : Nat}
theorem fx_e1 (e : l = aj_set1 lv k v) (hx : aj_lv lv j = some w) (hj : j ≠ k) (hc : j + 1 ≠ k ∨ w.category = 1) : aj_lv l j = some w := by
  rw [e]
  refine ak_set1_ne hx hj (fun z => ?_)
  rcases hc with q | q
  · exact absurd z q
  · rw [q]
    decide
theorem fx_e2 (e : l = aj_set2 lv k v) (hx : aj_lv lv j = some w) (hj : j ≠ k) (hj1 : j ≠ k + 1) (hc : j + 1 ≠ k ∨ w.category = 1) : aj_lv l j = some w := by
  rw [e]
  refine ak_set2_ne hx hj hj1 (fun z => ?_)
  rcases hc with q | q
  · exact absurd z q
  · rw [q]
    decide
end FX6
