def aj_Rep (rn : String) (D : va_G) (cl : List vw_C) (cA : Nat → ClassId) (tb : aj_T) (base : Nat) (stA : Nat → Nat) (sf : List (String × String × String)) (nw : List Cond) (U : State) (h : aj_H) : Prop := U.heap.size = base + h.length ∧ va_P D cl (aj_ws (aj_ad tb.length base stA) cA base h) U.heap ∧ aj_K rn D cl cA U ∧ aj_Z rn tb stA sf (fun q => base ≤ q) U U.heap ∧ aj_N nw U
def aj_Pc (rn : String) (D : va_G) (cl : List vw_C) (cA : Nat → ClassId) (tb : aj_T) (base : Nat) (stA : Nat → Nat) (sf : List (String × String × String)) (nw : List Cond) (as : List Value) (h : aj_H) : Array Value → State → Prop := fun v U => v = (as.map (aj_c (aj_ad tb.length base stA))).toArray ∧ aj_Rep rn D cl cA tb base stA sf nw U h
def aj_Qc (rn : String) (D : va_G) (cl : List vw_C) (cA : Nat → ClassId) (tb : aj_T) (base : Nat) (stA : Nat → Nat) (sf : List (String × String × String)) (nw : List Cond) (r : Option Value) (h : aj_H) : Array Value → State → Outcome → State → Prop := fun _ st o t => o = .returned (r.map (aj_c (aj_ad tb.length base stA))) ∧ aj_Rep rn D cl cA tb base stA sf nw t h ∧ va_F (fun q => base ≤ q) st t
def aj_rm (d mc ms : Nat) : Room := { frames := d + 1, cells := mc, slots := ms, locals := 40 * d + 40 }
def aj_Met (rn : String) (D : va_G) (cl : List vw_C) (cA : Nat → ClassId) (tb : aj_T) (base : Nat) (stA : Nat → Nat) (sf : List (String × String × String)) (nw Ts : List Cond) (mt : List aj_M) (l : Launch) (d mi : Nat) (as : List Value) (h : aj_H) (mc ms : Nat) (r : Option Value) (h' : aj_H) : Prop :=
  ∀ mm : aj_M, mt[mi]? = some mm → Met l mm.1 (Cond.code mm.1 mm.2.1 mm.2.2.1 mm.2.2.2.1 :: Ts) (aj_rm d mc ms) (aj_Pc rn D cl cA tb base stA sf nw as h) (aj_Qc rn D cl cA tb base stA sf nw r h') mc ms (fun q => base ≤ q)
def aj_nwOK (nw : List Cond) : Prop := ∀ w ∈ nw, (∃ (a : String) (i : Nat) (b n d h : String), w = .fieldLinkNest a i b n d h) ∨ (∃ (a : String) (i : Nat) (x : MethodName) (h : String), w = .methodLinkNest a i x h)
def aj_mtOK (Ts nw : List Cond) (cls : List aj_C) (mt : List aj_M) (sf : List (String × String × String)) : Prop := ∀ (mi : Nat) (mm : aj_M), mt[mi]? = some mm → plainName mm.1.cls = true ∧ mm.2.2.1 ≤ 21 ∧ Cond.code mm.1 mm.2.1 mm.2.2.1 mm.2.2.2.1 ∈ Ts ∧ (mm.1.cls ≠ "java/lang/invoke/MethodHandle" ∧ mm.1.cls ≠ "java/lang/invoke/VarHandle") ∧ (parseMethodDescriptor mm.1.desc).map (fun d => d.parameters.length) = some mm.2.2.2.2.1 ∧ aj_lksOK Ts nw cls mt sf mm.1.cls mm.2.2.2.2.2.1
def aj_TsOK (Ts : List Cond) : Prop := ∀ w ∈ Ts, (w.onTables && w.keeps) = true ∨ ∃ ty, w = .arrayClass ty
section AJCALL
variable {rn : String} {D : va_G} {cl : List vw_C} {cA : Nat → ClassId} {tb : aj_T} {base : Nat} {stA : Nat → Nat} {sf : List (String × String × String)} {nw Ts : List Cond} {own : String} {cc : ByteArray} {nL S : Nat} {mt : List aj_M}
variable {p : Program} {l : Launch} {e : Env} {R : Room} {s : State} {m : MethodId} {args : Array Value} {below : List Frame} {meth : Method} {c : Code} {Q : State → Prop} {cells slots pc pc' dc ds : Nat} {lv lv' : aj_V} {st st' : List Value} {h h' : aj_H}
theorem aj_K_moved {u U : State} (hvm : u.vm.Alike U.vm) (hK : aj_K rn D cl cA u) : aj_K rn D cl cA U := ⟨hK.1.moved hvm, hK.2.moved hvm⟩
theorem aj_Z_moved {A : Nat → Prop} {u U : State} {H : Heap} (hvm : u.vm.Alike U.vm) (hZ : aj_Z rn tb stA sf A u H) : aj_Z rn tb stA sf A U H := ⟨fun i q hq => (hZ.1 i q hq).moved hvm, fun i k x hx => (hZ.2 i k x hx).moved hvm⟩
theorem aj_Z_kept {A : Nat → Prop} {U : State} {H H1 : Heap} (hZ : aj_Z rn tb stA sf A U H) (hq : ∀ a : Nat, a < H.size → ¬ A a → H1[a]? = H[a]?) : aj_Z rn tb stA sf A U H1 := ⟨fun i q h => (hZ.1 i q h).kept hq, fun i k x hx => (hZ.2 i k x hx).kept hq⟩
theorem aj_N_warm (hnw : aj_nwOK nw) {s U : State} (hW : s.WarmedH U.vm) (hN : aj_N nw s) : aj_N nw U := by
  intro w hw
  rcases hnw w hw with ⟨a, i, b, n, d, h, rfl⟩ | ⟨a, i, x, h, rfl⟩
  · exact va_Nw.warmF hW (hN _ hw)
  · exact va_Nw.warmM hW (hN _ hw)
theorem aj_size (hR : s.heap.size + cells = base + h.length) {H : Heap} {locs : List Loc} (hP : va_P D cl (aj_ws (aj_ad S base stA) cA base h) H) (hS : va_S (fun q => base ≤ q) s.heap H locs) (hbs : base ≤ s.heap.size) {T : State} (hT : T.heap = H) (X : Stand p l e R s m args below meth c T locs cells slots) : H.size = base + h.length := by
  have h1 := X.heapSize
  rw [hT] at h1
  have h2 := hS.1
  rcases Nat.eq_zero_or_pos h.length with h3 | h3
  · omega
  · have h4 : h[h.length - 1]? = some h[h.length - 1] := List.getElem?_eq_getElem (by omega)
    have h5 := (hP _ _ (aj_ws_get h4)).lt
    dsimp only at h5
    omega
theorem aj_Rep_of (hC : aj_Cx rn D cl cA tb base stA sf nw Ts own cc nL p s m args c) (hnw : aj_nwOK nw) {H : Heap} {locs : List Loc} (hsz : H.size = base + h.length) (hR : aj_Rw D cl cA tb.length base stA s cells h H locs) {U : State} (hU : U.heap = H) (hW : s.WarmedH U.vm) : aj_Rep rn D cl cA tb base stA sf nw U h := by
  obtain ⟨hx, hb, -, hown, hts, hK, hZ, hN, hbs⟩ := hC
  refine ⟨by rw [hU]; exact hsz, by rw [hU]; exact hR.2.1, aj_K_moved hW.alike hK, ?_, aj_N_warm hnw hW hN⟩
  rw [hU]
  exact aj_Z_kept (aj_Z_moved hW.alike hZ) hR.2.2.2.1
theorem aj_onT (hnw : aj_nwOK nw) {w : Cond} (hw : w ∈ nw) : w.onTables = true := by
  rcases hnw w hw with ⟨a, i, b, n, d, h, rfl⟩ | ⟨a, i, x, h, rfl⟩ <;> rfl
theorem aj_blind (hnw : aj_nwOK nw) (as : List Value) (h : aj_H) : FrameBlind (aj_Pc rn D cl cA tb base stA sf nw as h) := by
  intro a U g mk ⟨h1, h2, h3, h4, h5, h6⟩
  exact ⟨h1, h2, h3, aj_K_moved (u := U) (U := U.calling g mk a) (Vm.Alike.refl U.vm) h4, aj_Z_moved (u := U) (U := U.calling g mk a) (Vm.Alike.refl U.vm) h5, fun w hw => va_Nw.same (u := U) (U := U.calling g mk a) (aj_onT hnw hw) rfl (h6 w hw)⟩
theorem aj_sum_c (ad : Nat → Nat) (st : List Value) : ((st.map (aj_c ad)).map fun v => v.category).sum = aj_sum st := by
  unfold aj_sum
  rw [List.map_map]
  congr 1
  apply List.map_congr_left
  intro v _
  exact aj_c_cat ad v
/-- behind a call -/
theorem aj_after {H : Heap} {locs : List Loc} {ls : Array Slot} {st0 rest : List Value} {mc' ms' : Nat} {r' : Option Value} {h1 : aj_H} {a : Array Value} (hl : lv_has ls nL (aj_cv (aj_ad tb.length base stA) lv)) (hR : aj_Rw D cl cA tb.length base stA s cells h H locs) (hlen : h1.length = h.length + mc')
    (hr : va_Run p l e R s m args below meth c H locs cells slots mc' ms' (F0 m pc ls st0) (rest.map (aj_c (aj_ad tb.length base stA))) (aj_Qc rn D cl cA tb base stA sf nw r' h1 a) (fun q => base ≤ q))
    (k : aj_Nx D cl cA tb.length base stA nL p l e R s m args below meth c Q (cells + mc') (slots + ms') (pc + 3) lv (r'.toList ++ rest) h1) : W p l e R s m args below meth c H locs cells slots Q (F0 m pc ls st0) := by
  intro T hT X
  obtain ⟨v, st₀, t, T', L, h0, X', hL, e1, e2, ⟨ho, hRep, hF⟩, st⟩ := hr T hT X
  have hv : v = r'.map (aj_c (aj_ad tb.length base stA)) := Outcome.returned.inj ho
  subst hv
  obtain ⟨hsz, hP, hK1, hZ1, hN1⟩ := hRep
  obtain ⟨f1, f2⟩ := hF
  rw [h0] at f1 f2
  have hS : va_S (fun q => base ≤ q) s.heap T'.heap (locs ++ L) := by
    refine ⟨Nat.le_trans hR.2.2.1 (by rw [e1]; exact f1), fun q h1 h2 => ?_, fun q hq => ?_⟩
    · rw [e1, f2 q (Nat.lt_of_lt_of_le h1 hR.2.2.1) h2]
      exact hR.2.2.2.1 q h1 h2
    · rcases List.mem_append.mp hq with z | z
      · exact hR.2.2.2.2 q z
      · exact hL q z
  obtain ⟨t2, a1, b1⟩ := k ls T'.heap (locs ++ L) hl ⟨by have := hR.1; omega, by rw [e1]; exact hP, hS⟩ T' rfl X'
  refine ⟨t2, st t2 ?_, b1⟩
  have e3 : (r'.map (aj_c (aj_ad tb.length base stA))).toList ++ rest.map (aj_c (aj_ad tb.length base stA)) = (r'.toList ++ rest).map (aj_c (aj_ad tb.length base stA)) := by cases r' <;> rfl
  rw [e3]
  exact a1
/-- the calls -/
theorem aj_s_call (hC : aj_Cx rn D cl cA tb base stA sf nw Ts own cc nL p s m args c) {rc : Nat} {cls : List aj_C} (hcls : aj_clsOK Ts cl cls) (hmt : aj_mtOK Ts nw cls mt sf) (hnw : aj_nwOK nw) (hTs : aj_TsOK Ts) {lk : List aj_L} (hlk : aj_lksOK Ts nw cls mt sf own lk) {ret : Option FieldType} {isI : Bool} {i : Instr} {len : Nat} {kind mi : Nat} {as : List Value} (hdg : decode cc pc = .ok (i, len)) {d : Nat} (hRd : d + 2 ≤ R.frames ∧ 40 * d + 80 ≤ R.locals)
    (h0 : aj_step rc cls tb lk nL ret isI i len pc lv st h = some (.inr (.inl (kind, mi, as, (pc', lv', st')))))
    (k5 : kind = 5 → aj_Nx D cl cA tb.length base stA nL p l e R s m args below meth c Q cells slots pc' lv' st' h)
    (k : kind ≠ 5 → ∃ (mc' ms' : Nat) (r' : Option Value) (h1 : aj_H), aj_Met rn D cl cA tb base stA sf nw Ts mt l d mi as h mc' ms' r' h1 ∧ h1.length = h.length + mc' ∧ cells + mc' ≤ R.cells ∧ slots + ms' ≤ R.slots ∧ aj_Nx D cl cA tb.length base stA nL p l e R s m args below meth c Q (cells + mc') (slots + ms') pc' lv' (r'.toList ++ st') h1) :
    aj_Nx D cl cA tb.length base stA nL p l e R s m args below meth c Q cells slots pc lv st h := by
  have hC0 := hC
  obtain ⟨hx, hb, hml, hown, hts, hK, hZ, hN, hbs⟩ := hC
  have hGood : ∀ mm : aj_M, Cond.code mm.1 mm.2.1 mm.2.2.1 mm.2.2.2.1 ∈ Ts → GoodIn Ts (Cond.code mm.1 mm.2.1 mm.2.2.1 mm.2.2.2.1 :: Ts) := fun mm hmm w hw => by
    rcases List.mem_cons.mp hw with rfl | hw
    · exact ⟨hmm, hTs _ hmm⟩
    · exact ⟨hw, hTs _ hw⟩
  intro ls H locs hl hR
  obtain ⟨idx, lo, hi, rfl, hi0, hcl⟩ := aj_is_call h0
  unfold aj_call at hcl
  split at hcl
  · rename_i kind0 mi0 n v hlink
    have hok := hlk _ _ _ _ _ hlink
    split at hcl
    · rename_i hlohi
      split at hcl
      · rename_i hk6
        subst hk6
        split at hcl
        · rename_i hn
          cases hcl
          have hi6 : i = .invokestatic idx := by
            rcases hi0 with ⟨-, rfl, rfl⟩ | ⟨-, rfl, rfl⟩ | ⟨h1, -, -⟩
            · exact absurd hlohi (by omega)
            · exact absurd hlohi (by omega)
            · exact h1
          subst hi6
          obtain ⟨mm, hmm, hb0, w1, w2, w3⟩ := hok.2.2.2.2.2.2.1 rfl
          obtain ⟨mc', ms', r', h1, hM, hlen, hc1, hs1, kk⟩ := k (by decide)
          obtain ⟨g1, g2, g3, g4, g5, g6⟩ := hmt _ _ hmm
          intro T hT X
          have hsz := aj_size hR.1 hR.2.1 hR.2.2 hbs hT X
          have hst : st.map (aj_c (aj_ad tb.length base stA)) = (((st.take n).reverse).map (aj_c (aj_ad tb.length base stA))).reverse ++ (st.drop n).map (aj_c (aj_ad tb.length base stA)) := by
            rw [List.map_reverse, List.reverse_reverse, ← List.map_append, List.take_append_drop]
          refine aj_after hl hR hlen (va_runS (As := ((st.take n).reverse).map (aj_c (aj_ad tb.length base stA))) (rest := (st.drop n).map (aj_c (aj_ad tb.length base stA))) (Ts := Ts) ⟨hx, hb, hml, hown, hts⟩ (hM mm hmm) ⟨callB_of n hts (hGood mm g3) rfl rfl rfl (hts _ w3) (hts _ w1) ⟨g4.1, g4.2, by rw [g5, hb0]⟩ ⟨hRd.1, by have := hRd.2; show 8 + (mm.2.2.1 + 11) + (40 * d + 40) ≤ R.locals; omega⟩, hts _ w2⟩ ⟨aj_blind hnw _ _, fun U hU hW => ⟨rfl, aj_Rep_of hC0 hnw hsz hR hU hW⟩⟩ rfl ?_ hl.1 hst ?_ hdg ⟨hc1, hs1⟩) kk T hT X
          · rw [List.length_map, List.length_reverse, List.length_take]
            omega
          · exact lv_room (by rw [aj_sum_c]; exact hn.2)
        · cases hcl
      · rename_i hk6
        split at hcl
        · rename_i b rest hdrop
          split at hcl
          · rename_i hq
            cases hcl
            have hnl : n < st.length := by
              have z := congrArg List.length hdrop
              simp only [List.length_drop, List.length_cons] at z
              omega
            have hAs : (((st.take n).reverse).map (aj_c (aj_ad tb.length base stA))).length = n := by
              rw [List.length_map, List.length_reverse, List.length_take]
              omega
            have hst : st.map (aj_c (aj_ad tb.length base stA)) = (((st.take n).reverse).map (aj_c (aj_ad tb.length base stA))).reverse ++ .ref (aj_ad tb.length base stA b) :: st'.map (aj_c (aj_ad tb.length base stA)) := by
              have z : (.ref (aj_ad tb.length base stA b) :: st'.map (aj_c (aj_ad tb.length base stA)) : List Value) = (st.drop n).map (aj_c (aj_ad tb.length base stA)) := by rw [hdrop]; rfl
              rw [z, List.map_reverse, List.reverse_reverse, ← List.map_append, List.take_append_drop]
            rcases hi0 with ⟨rfl, rfl, rfl⟩ | ⟨rfl, rfl, rfl⟩ | ⟨rfl, rfl, rfl⟩
            · have hk2 : kind = 2 := by omega
              subst hk2
              obtain ⟨mm, hmm, ⟨cq, hcq, hcn⟩, hb0, w1, w2, w3, w4⟩ := hok.2.2.1 rfl
              obtain ⟨mc', ms', r', h1, hM, hlen, hc1, hs1, kk⟩ := k (by decide)
              obtain ⟨g1, g2, g3, g4, g5, g6⟩ := hmt _ _ hmm
              intro T hT X
              have hsz := aj_size hR.1 hR.2.1 hR.2.2 hbs hT X
              have hrcv := hq.1 rfl
              unfold aj_rcv at hrcv
              split at hrcv
              · rename_i ci fs hobj
                obtain ⟨hb1, hobj⟩ := aj_obj_k hobj
                have hci : ci = v.toNat := by simpa using hrcv
                subst hci
                have hcl1 := (hcls _ _ hcq).1
                have hrv := va_recv hK.1 hR.2.1 hcl1 (aj_ws_get hobj)
                have had : aj_ad tb.length base stA b = base + (b - tb.length) := by simp [aj_ad, hb1]
                rw [← had] at hrv
                rw [hcn] at hrv
                exact aj_after hl hR hlen (va_runV (C := mm.1.cls) (As := ((st.take n).reverse).map (aj_c (aj_ad tb.length base stA))) (rest := st'.map (aj_c (aj_ad tb.length base stA))) (Ts := Ts) ⟨hx, hb, hml, hown, hts⟩ (hM mm hmm) ⟨callB_of n hts (hGood mm g3) rfl rfl rfl (hts _ w4) (hts _ w1) ⟨g4.1, g4.2, by rw [g5, hb0]⟩ ⟨hRd.1, by have := hRd.2; show 8 + (mm.2.2.1 + 11) + (40 * d + 40) ≤ R.locals; omega⟩, hts _ w2, hts _ w3⟩ ⟨aj_blind hnw _ _, hrv, fun U hU hW => ⟨rfl, aj_Rep_of hC0 hnw hsz hR hU hW⟩⟩ rfl hAs hl.1 hst (lv_room (by rw [aj_sum_c]; exact hq.2)) hdg ⟨hc1, hs1⟩) kk T hT X
              · cases hrcv
            · rcases (by omega : kind = 3 ∨ kind = 4 ∨ kind = 5) with rfl | rfl | rfl
              · obtain ⟨mm, hmm, hb0, w0, wr, w1, w2, w3⟩ := hok.2.2.2.1 rfl
                obtain ⟨mc', ms', r', h1, hM, hlen, hc1, hs1, kk⟩ := k (by decide)
                obtain ⟨g1, g2, g3, g4, g5, g6⟩ := hmt _ _ hmm
                have hM := hM mm hmm
                rw [wr] at hM g3
                intro T hT X
                have hsz := aj_size hR.1 hR.2.1 hR.2.2 hbs hT X
                exact aj_after hl hR hlen (va_runI (As := ((st.take n).reverse).map (aj_c (aj_ad tb.length base stA))) (rest := st'.map (aj_c (aj_ad tb.length base stA))) (Ts := Ts) ⟨hx, hb, hml, hown, hts⟩ hM ⟨callB_of n hts (by have := hGood mm (by rw [wr]; exact g3); rw [wr] at this; exact this) rfl rfl rfl (hts _ w3) (hts _ w1) ⟨g4.1, g4.2, by rw [g5, hb0]⟩ ⟨hRd.1, by have := hRd.2; show 8 + (mm.2.2.1 + 11) + (40 * d + 40) ≤ R.locals; omega⟩, w0, hts _ w2⟩ ⟨aj_blind hnw _ _, fun U hU hW => ⟨rfl, aj_Rep_of hC0 hnw hsz hR hU hW⟩⟩ rfl hAs hl.1 hst (lv_room (by rw [aj_sum_c]; exact hq.2)) hdg ⟨hc1, hs1⟩) kk T hT X
              · obtain ⟨mm, hmm, hb0, w0, wr, ⟨host, w1⟩, w2, w3⟩ := hok.2.2.2.2.1 rfl
                obtain ⟨mc', ms', r', h1, hM, hlen, hc1, hs1, kk⟩ := k (by decide)
                obtain ⟨g1, g2, g3, g4, g5, g6⟩ := hmt _ _ hmm
                have hM := hM mm hmm
                rw [wr] at hM g3
                intro T hT X
                have hsz := aj_size hR.1 hR.2.1 hR.2.2 hbs hT X
                exact aj_after hl hR hlen (va_runIN (host := host) (As := ((st.take n).reverse).map (aj_c (aj_ad tb.length base stA))) (rest := st'.map (aj_c (aj_ad tb.length base stA))) (Ts := Ts) ⟨hx, hb, hml, hown, hts⟩ hM ⟨va_cnB n hts (by have := hGood mm (by rw [wr]; exact g3); rw [wr] at this; exact this) rfl rfl rfl (hN _ w1) (hts _ w3) ⟨g4.1, g4.2, by rw [g5, hb0]⟩ ⟨hRd.1, by have := hRd.2; show 8 + (mm.2.2.1 + 11) + (40 * d + 40) ≤ R.locals; omega⟩, w0, hts _ w2⟩ ⟨aj_blind hnw _ _, fun U hU hW => ⟨rfl, aj_Rep_of hC0 hnw hsz hR hU hW⟩⟩ rfl hAs hl.1 hst (lv_room (by rw [aj_sum_c]; exact hq.2)) hdg ⟨hc1, hs1⟩) kk T hT X
              · obtain ⟨hb0, w1, w2, w3⟩ := hok.2.2.2.2.2.1 rfl
                subst hb0
                have hst0 : st.map (aj_c (aj_ad tb.length base stA)) = .ref (aj_ad tb.length base stA b) :: st'.map (aj_c (aj_ad tb.length base stA)) := by
                  rw [hst]
                  rfl
                have hroom : 2 * (F0 m pc ls (st.map (aj_c (aj_ad tb.length base stA)))).monitorRoom + ((st'.map (aj_c (aj_ad tb.length base stA))).map fun v => v.category).sum ≤ 8 := lv_room (by rw [aj_sum_c]; exact hq.2)
                refine W.objInit hx hb hown (hts _ w1) (hts _ w2) (hts _ w3) rfl (by rw [hml]; exact hl.1) hst0 hdg (by have := hRd.1; omega) (by have := hRd.2; omega) ?_
                exact W.eq (g2 := F0 m (pc + 3) ls (st'.map (aj_c (aj_ad tb.length base stA)))) rfl (k5 rfl ls H locs hl hR)
            · exact absurd (by omega : kind = 6) hk6
          · cases hcl
        · cases hcl
    · cases hcl
  · cases hcl
end AJCALL
