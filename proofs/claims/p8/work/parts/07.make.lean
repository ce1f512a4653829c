section AJMAKE
variable {rn : String} {D : va_G} {cl : List vw_C} {cA : Nat → ClassId} {tb : aj_T} {base : Nat} {stA : Nat → Nat} {sf : List (String × String × String)} {nw Ts : List Cond} {own : String} {cc : ByteArray} {nL S : Nat} {mt : List aj_M}
variable {p : Program} {l : Launch} {e : Env} {R : Room} {s : State} {m : MethodId} {args : Array Value} {below : List Frame} {meth : Method} {c : Code} {Q : State → Prop} {cells slots pc pc' dc ds : Nat} {lv lv' : aj_V} {st st' : List Value} {h h' : aj_H}
/-- a new cell's place: there is but one -/
theorem aj_fresh {ad : Nat → Nat} {q : Nat} {x : va_E} {H1 : Heap} (hP : va_P D cl (aj_ws ad cA base h ++ [(q, x)]) H1) (hD : va_D (fun q => base ≤ q) (aj_ws ad cA base h ++ [(q, x)])) (hs : H1.size ≤ base + h.length + 1) : q = base + h.length := by
  have e1 : (aj_ws ad cA base h ++ [(q, x)])[h.length]? = some (q, x) := by
    rw [List.getElem?_append_right (by rw [aj_ws_len]; exact Nat.le_refl _), aj_ws_len, Nat.sub_self]
    rfl
  have h1 : q < H1.size := (hP _ _ e1).lt
  have h2 : base ≤ q := hD.2 _ _ e1
  rcases Nat.lt_or_ge q (base + h.length) with h3 | h3
  · exfalso
    have hi : q - base < h.length := by omega
    have e2 : (aj_ws ad cA base h ++ [(q, x)])[q - base]? = some (base + (q - base), aj_ce ad cA h[q - base]) := by
      rw [List.getElem?_append_left (by rw [aj_ws_len]; exact hi)]
      exact aj_ws_get (List.getElem?_eq_getElem hi)
    have := hD.1 _ _ _ _ e1 e2 (by show q = base + (q - base); omega)
    omega
  · omega
theorem aj_W_new {ls : Array Slot} {H1 : Heap} {locs : List Loc} {q : Nat} {x : va_E} {rest : List Value} {en : aj_E} (hR : s.heap.size + cells = base + h.length) (hx : aj_ce (aj_ad S base stA) cA en = x) (hl : lv_has ls nL (aj_cv (aj_ad S base stA) lv)) (hP : va_P D cl (aj_ws (aj_ad S base stA) cA base h ++ [(q, x)]) H1) (hD : va_D (fun q => base ≤ q) (aj_ws (aj_ad S base stA) cA base h ++ [(q, x)])) (hS : va_S (fun q => base ≤ q) s.heap H1 locs)
    (k : aj_Nx D cl cA S base stA nL p l e R s m args below meth c Q (cells + 1) slots pc' lv (.ref (S + h.length) :: rest) (h ++ [en])) : W p l e R s m args below meth c H1 locs (cells + 1) slots Q (F0 m pc' ls (.ref q :: rest.map (aj_c (aj_ad S base stA)))) := by
  intro T hT X
  have hsz := X.heapSize
  rw [hT] at hsz
  have hq := aj_fresh hP hD (by omega)
  subst hq
  have e1 : aj_c (aj_ad S base stA) (.ref (S + h.length)) = .ref (base + h.length) := by rw [aj_c_dyn (by omega), Nat.add_sub_cancel_left]
  have kk := k ls H1 locs hl ⟨by rw [List.length_append]; show s.heap.size + (cells + 1) = base + (h.length + 1); omega, by rw [aj_ws_app, hx]; exact hP, hS⟩
  rw [List.map_cons, e1] at kk
  exact kk T hT X
theorem aj_s_new (hC : aj_Cx rn D cl cA tb base stA sf nw Ts own cc nL p s m args c) {rc : Nat} {cls : List aj_C} (hcls : aj_clsOK Ts cl cls) {lk : List aj_L} (hlk : aj_lksOK Ts nw cls mt sf own lk) {ret : Option FieldType} {isI : Bool} {idx len : Nat} (hdg : decode cc pc = .ok (.new idx, len))
    (h0 : aj_step rc cls tb lk nL ret isI (.new idx) len pc lv st h = some (.inl ((pc', lv', st'), h', dc, ds))) (hc1 : cells + dc ≤ R.cells) (hs1 : slots + ds ≤ R.slots)
    (k : aj_Nx D cl cA tb.length base stA nL p l e R s m args below meth c Q (cells + dc) (slots + ds) pc' lv' st' h') : aj_Nx D cl cA tb.length base stA nL p l e R s m args below meth c Q cells slots pc lv st h := by
  obtain ⟨hx, hb, -, hown, hts, hK, hZ, hN, hbs⟩ := hC
  intro ls H locs hl hR
  unfold aj_step at h0
  dsimp only at h0
  split at h0
  · rename_i hlen
    subst hlen
    unfold aj_new at h0
    split at h0
    · rename_i ci b0 v0 hlink
      split at h0
      · rename_i C0 T0 N0 ty0 hc0
        cases h0
        obtain ⟨q, hq, w1, w2, w3⟩ := (hlk _ _ _ _ _ hlink).2.2.2.2.2.2.2.2.2.2.1 rfl
        rw [hc0] at hq
        cases hq
        obtain ⟨g1, g2, g3, g4⟩ := hcls _ _ hc0
        refine va_new (own := own) (C := C0) (T := T0) (N := ds) (ci := ci) (fs := ((List.range ds).map (fun j => defaultValue (ty0 j))).map (aj_c (aj_ad tb.length base stA))) hx hb hts g2 ty0 g3 hown (hts _ w1) (hts _ w2) (hts _ w3) hK.1 hR.2.1 (aj_D h) hR.2.2 (fun q hq => Nat.le_trans hbs hq) g1 ?_ hc1 hs1 hdg (fun q H1 z1 z2 z3 => aj_W_new hR.1 rfl hl z1 z2 z3 k)
        intro j hj
        have : aj_c (aj_ad tb.length base stA) (defaultValue (ty0 j)) = defaultValue (ty0 j) := by cases ty0 j <;> rfl
        simp [vp_V, List.getD, hj, this]
      · cases h0
    · cases h0
  · cases h0
theorem aj_s_newarray (hC : aj_Cx rn D cl cA tb base stA sf nw Ts own cc nL p s m args c) (hA : ∀ k, k < 5 → Cond.arrayClass (aj_ty rn k) ∈ Ts) {rc : Nat} {cls : List aj_C} {lk : List aj_L} {ret : Option FieldType} {isI : Bool} {aty : ArrayType} {len : Nat} (hdg : decode cc pc = .ok (.newarray aty, len))
    (h0 : aj_step rc cls tb lk nL ret isI (.newarray aty) len pc lv st h = some (.inl ((pc', lv', st'), h', dc, ds))) (hc1 : cells + dc ≤ R.cells) (hs1 : slots + ds ≤ R.slots)
    (k : aj_Nx D cl cA tb.length base stA nL p l e R s m args below meth c Q (cells + dc) (slots + ds) pc' lv' st' h') : aj_Nx D cl cA tb.length base stA nL p l e R s m args below meth c Q cells slots pc lv st h := by
  obtain ⟨hx, hb, -, hown, hts, hK, hZ, hN, hbs⟩ := hC
  intro ls H locs hl hR
  unfold aj_step at h0
  dsimp only at h0
  split at h0
  · rename_i hlen
    obtain ⟨rfl, hat⟩ := hlen
    unfold aj_newa at h0
    split at h0
    · rename_i n rest
      split at h0
      · rename_i hq
        obtain ⟨-, hn, hbn⟩ := hq
        cases h0
        have hty : newarray.typeOf aty = aj_ty rn (aj_at aty) := by
          cases aty <;> first | rfl | exact absurd hat (by decide)
        have hcb : componentBytes (aj_ty rn (aj_at aty)) ≤ 8 := by
          cases aty <;> first | exact Nat.le_of_ble_eq_true rfl | (exfalso; revert hat; decide)
        have ha : ∀ cA : ClassId, vp_cell cA (aj_blank (aj_at aty) n.toNatClampNeg) = arrV cA n.toNatClampNeg (fun _ => defaultValue (aj_ty rn (aj_at aty))) := by
          intro cA
          cases aty <;> first | rfl | exact absurd hat (by decide)
        have hcb2 : n.toNatClampNeg * componentBytes (aj_ty rn (aj_at aty)) ≤ 536870912 := by
          have := Nat.mul_le_mul hbn hcb
          omega
        refine va_newa (ty := aj_ty rn (aj_at aty)) (N' := n.toNatClampNeg) (a0 := aj_blank (aj_at aty) n.toNatClampNeg) hx hb (by rw [hty]; exact hts _ (hA _ hat)) hty hK.1 hR.2.1 (aj_D h) hR.2.2 (fun q hq => Nat.le_trans hbs hq) ha hn rfl hcb2 hc1 hs1 hdg (fun q cA1 H1 z0 z1 z2 z3 => aj_W_new (en := .inl (aj_at aty, aj_blank (aj_at aty) n.toNatClampNeg)) hR.1 ?_ hl z1 z2 z3 k)
        have e1 := (z0.2 6 (cA1, aj_ty rn (aj_at aty)) (by rw [List.getElem?_append_right (by simp)]; simp)).2
        have hlt : aj_at aty < 6 := by omega
        have e2 := (hK.1.2 (aj_at aty) (cA (aj_at aty), aj_ty rn (aj_at aty)) (by simp [hlt])).2
        have e3 : cA (aj_at aty) = cA1 := by
          cases aty <;> first | exact absurd hat (by decide) | exact Option.some.inj (e2.symm.trans e1)
        show Sum.inl (cA (aj_at aty), aj_ca _ (aj_blank (aj_at aty) n.toNatClampNeg)) = Sum.inl (cA1, aj_blank (aj_at aty) n.toNatClampNeg)
        rw [e3]
        cases aty <;> first | rfl | exact absurd hat (by decide)
      · cases h0
    · cases h0
  · cases h0
theorem aj_s_anewarray (hC : aj_Cx rn D cl cA tb base stA sf nw Ts own cc nL p s m args c) {rc : Nat} {rcl : vw_C} (hrc : cl[rc]? = some rcl) (hrn : rcl.1 = rn) {cls : List aj_C} (hcls : aj_clsOK Ts cl cls) {lk : List aj_L} (hlk : aj_lksOK Ts nw cls mt sf own lk) {ret : Option FieldType} {isI : Bool} {idx len : Nat} (hdg : decode cc pc = .ok (.anewarray idx, len))
    (h0 : aj_step rc cls tb lk nL ret isI (.anewarray idx) len pc lv st h = some (.inl ((pc', lv', st'), h', dc, ds))) (hc1 : cells + dc ≤ R.cells) (hs1 : slots + ds ≤ R.slots)
    (k : aj_Nx D cl cA tb.length base stA nL p l e R s m args below meth c Q (cells + dc) (slots + ds) pc' lv' st' h') : aj_Nx D cl cA tb.length base stA nL p l e R s m args below meth c Q cells slots pc lv st h := by
  obtain ⟨hx, hb, -, hown, hts, hK, hZ, hN, hbs⟩ := hC
  intro ls H locs hl hR
  unfold aj_step at h0
  dsimp only at h0
  split at h0
  · rename_i hlen
    subst hlen
    unfold aj_anew at h0
    split at h0
    · rename_i ci q0 hlink
      split at h0 <;> first | (cases h0; done) | skip
      rename_i hci
      subst hci
      unfold aj_newa at h0
      split at h0
      · rename_i n rest
        split at h0
        · rename_i hq
          obtain ⟨-, hn, hbn⟩ := hq
          cases h0
          obtain ⟨qq, hqq, hw, -, -⟩ := (hlk _ _ _ _ _ hlink).2.2.2.2.2.2.2.2.2.2.1 rfl
          have hqn : qq.1 = rn := by
            have z := (hcls _ _ hqq).1
            rw [hrc] at z
            cases z
            exact hrn
          rw [hqn] at hw
          refine va_newq (C := rn) (N' := n.toNatClampNeg) hx hb hown (hts _ hw) hK.2 hK.1 hR.2.1 (aj_D h) hR.2.2 (fun q hq => Nat.le_trans hbs hq) hn rfl (by omega) hc1 hs1 hdg (fun q cA1 H1 z0 z1 z2 z3 => aj_W_new (en := .inl (5, aj_blank 5 n.toNatClampNeg)) hR.1 ?_ hl z1 z2 z3 k)
          obtain ⟨_, _, _, _, _, e1⟩ := (z0.2 6 (cA1, .object rn) (by rw [List.getElem?_append_right (by simp)]; simp)).2
          obtain ⟨_, _, _, _, _, e2⟩ := (hK.1.2 5 (cA 5, .object rn) (by rfl)).2
          have e3 : cA 5 = cA1 := Option.some.inj (e2.symm.trans e1)
          show Sum.inl (cA 5, aj_ca _ (aj_blank 5 n.toNatClampNeg)) = Sum.inl (cA1, _)
          rw [e3]
          rfl
        · cases h0
      · cases h0
    · cases h0
  · cases h0
theorem aj_s_getstatic (hC : aj_Cx rn D cl cA tb base stA sf nw Ts own cc nL p s m args c) {rc : Nat} {cls : List aj_C} {lk : List aj_L} (hlk : aj_lksOK Ts nw cls mt sf own lk) {ret : Option FieldType} {isI : Bool} {idx len : Nat} (hdg : decode cc pc = .ok (.getstatic idx, len))
    (h0 : aj_step rc cls tb lk nL ret isI (.getstatic idx) len pc lv st h = some (.inl ((pc', lv', st'), h', dc, ds)))
    (k : aj_Nx D cl cA tb.length base stA nL p l e R s m args below meth c Q (cells + dc) (slots + ds) pc' lv' st' h') : aj_Nx D cl cA tb.length base stA nL p l e R s m args below meth c Q cells slots pc lv st h := by
  obtain ⟨hx, hb, -, hown, hts, hK, hZ, hN, hbs⟩ := hC
  intro ls H locs hl hR
  unfold aj_step at h0
  dsimp only at h0
  split at h0
  · rename_i hlen
    subst hlen
    unfold aj_gets at h0
    split at h0
    · rename_i sid b0 v0 hlink
      split at h0
      · rename_i hsid
        have go := aj_go_k h0 k ls H locs hl hR
        obtain ⟨q, hq, hw⟩ := (hlk _ _ _ _ _ hlink).2.2.2.2.2.2.2.1 rfl
        rw [List.map_cons, aj_c_sta hsid] at go
        exact va_gets hx hb (hZ.1 sid q hq) hR.2.2 hown (hts _ hw) (fun _ z => z) hdg go
      · cases h0
    · cases h0
  · cases h0
theorem aj_s_ldc (hC : aj_Cx rn D cl cA tb base stA sf nw Ts own cc nL p s m args c) {rc : Nat} {cls : List aj_C} {lk : List aj_L} (hlk : aj_lksOK Ts nw cls mt sf own lk) {ret : Option FieldType} {isI : Bool} {idx len : Nat} {i : Instr} (hi : i = .ldc idx ∨ i = .ldc_w idx ∨ i = .ldc2_w idx) (hdg : decode cc pc = .ok (i, len))
    (h0 : aj_step rc cls tb lk nL ret isI i len pc lv st h = some (.inl ((pc', lv', st'), h', dc, ds)))
    (k : aj_Nx D cl cA tb.length base stA nL p l e R s m args below meth c Q (cells + dc) (slots + ds) pc' lv' st' h') : aj_Nx D cl cA tb.length base stA nL p l e R s m args below meth c Q cells slots pc lv st h := by
  obtain ⟨hx, hb, -, hown, hts, hK, hZ, hN, hbs⟩ := hC
  intro ls H locs hl hR
  rcases hi with rfl | rfl | rfl
  · unfold aj_step at h0
    dsimp only at h0
    split at h0
    · rename_i hlen
      subst hlen
      unfold aj_ldc at h0
      split at h0
      · rename_i a0 b0 v0 hlink
        exact lv_ldc hx hb hown (hts _ ((hlk _ _ _ _ _ hlink).2.2.2.2.2.2.2.2.1 rfl)) hdg (aj_go_k h0 k ls H locs hl hR)
      · rename_i hlink
        rw [if_neg (by decide)] at h0
        cases h0
      · cases h0
    · cases h0
  · unfold aj_step at h0
    dsimp only at h0
    split at h0
    · rename_i hlen
      subst hlen
      split at h0
      · rename_i q0 hlink
        unfold aj_ldc at h0
        rw [hlink] at h0
        exact lv_ldcw hx hb hown (hts _ ((hlk _ _ _ _ _ hlink).2.2.2.2.2.2.2.2.1 rfl)) hdg (aj_go_k h0 k ls H locs hl hR)
      · cases h0
    · cases h0
  · unfold aj_step at h0
    dsimp only at h0
    split at h0
    · rename_i hlen
      subst hlen
      split at h0
      · rename_i q0 hlink
        unfold aj_ldc at h0
        rw [hlink] at h0
        exact lv_ldc2 hx hb hown (hts _ ((hlk _ _ _ _ _ hlink).2.2.2.2.2.2.2.2.2.1 rfl)) hdg (aj_go_k h0 k ls H locs hl hR)
      · cases h0
    · cases h0
end AJMAKE
