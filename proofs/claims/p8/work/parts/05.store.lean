section AJSTORE
variable {rn : String} {D : va_G} {cl : List vw_C} {cA : Nat → ClassId} {tb : aj_T} {base : Nat} {stA : Nat → Nat} {sf : List (String × String × String)} {nw Ts : List Cond} {own : String} {cc : ByteArray} {nL S : Nat}
variable {p : Program} {l : Launch} {e : Env} {R : Room} {s : State} {m : MethodId} {args : Array Value} {below : List Frame} {meth : Method} {c : Code} {Q : State → Prop} {cells slots pc pc' dc ds : Nat} {lv lv' : aj_V} {st st' : List Value} {h h' : aj_H}
/-- a cell of the list is written: what the rows give is the written list's picture -/
theorem aj_Rw_set {H : Heap} {locs : List Loc} {H1 : Heap} {locs1 : List Loc} {k : Nat} {en : aj_E} (hR : aj_Rw D cl cA S base stA s cells h H locs)
    (hP : va_P D cl ((aj_ws (aj_ad S base stA) cA base h).set k (base + k, aj_ce (aj_ad S base stA) cA en)) H1) (hS : va_S (fun q => base ≤ q) s.heap H1 locs1) : aj_Rw D cl cA S base stA s cells (h.set k en) H1 locs1 := by
  refine ⟨by rw [List.length_set]; exact hR.1, ?_, hS⟩
  rw [← aj_ws_set]
  exact hP
theorem aj_ast_k {k : Nat} (h0 : aj_ast k tb pc lv st h = some (.inl ((pc', lv', st'), h', dc, ds)))
    (kk : aj_Nx D cl cA tb.length base stA nL p l e R s m args below meth c Q (cells + dc) (slots + ds) pc' lv' st' h')
    (rd : ∀ (ls : Array Slot) (H : Heap) (locs : List Loc) (rest : List Value) (q0 a n : Nat) (f : Nat → Int32) (i x : Int32), va_P D cl (aj_ws (aj_ad tb.length base stA) cA base h) H → va_S (fun q => base ≤ q) s.heap H locs → (aj_ws (aj_ad tb.length base stA) cA base h)[q0]? = some (a, .inl (cA k, n, .inl f)) → vp_in i n → (∀ (H1 : Heap) (locs1 : List Loc), va_P D cl ((aj_ws (aj_ad tb.length base stA) cA base h).set q0 (a, .inl (cA k, n, .inl (upd f i.toNatClampNeg (aj_nar k x))))) H1 → va_S (fun q => base ≤ q) s.heap H1 locs1 → W p l e R s m args below meth c H1 locs1 cells slots Q (F0 m (pc + 1) ls rest)) → W p l e R s m args below meth c H locs cells slots Q (F0 m pc ls (.int x :: .int i :: .ref a :: rest))) :
    aj_Nx D cl cA tb.length base stA nL p l e R s m args below meth c Q cells slots pc lv st h := by
  intro ls H locs hl hR
  unfold aj_ast at h0
  split at h0
  · rename_i x i r rest
    split at h0
    · cases h0
    · rename_i hr
      split at h0
      · rename_i k' n f harr
        split at h0
        · rename_i hq
          obtain ⟨rfl, hin⟩ := hq
          have go := aj_go_k h0 kk
          show W p l e R s m args below meth c H locs cells slots Q (F0 m pc ls (.int x :: .int i :: aj_c (aj_ad tb.length base stA) (.ref r) :: rest.map (aj_c (aj_ad tb.length base stA))))
          rw [aj_c_dyn hr]
          exact rd ls H locs _ _ _ n f i x hR.2.1 hR.2.2 (aj_ws_get harr) (aj_in_ok hin) (fun H1 locs1 hP hS => go ls H1 locs1 hl (aj_Rw_set hR hP hS))
        · cases h0
      · cases h0
  · cases h0
theorem aj_s_iastore (hC : aj_Cx rn D cl cA tb base stA sf nw Ts own cc nL p s m args c) {rc : Nat} {cls : List aj_C} {lk : List aj_L} {ret : Option FieldType} {isI : Bool} {len : Nat} (hdg : decode cc pc = .ok (.iastore, len))
    (h0 : aj_step rc cls tb lk nL ret isI .iastore len pc lv st h = some (.inl ((pc', lv', st'), h', dc, ds)))
    (k : aj_Nx D cl cA tb.length base stA nL p l e R s m args below meth c Q (cells + dc) (slots + ds) pc' lv' st' h') : aj_Nx D cl cA tb.length base stA nL p l e R s m args below meth c Q cells slots pc lv st h := by
  unfold aj_step at h0
  dsimp only at h0
  split at h0
  · rename_i hlen
    subst hlen
    exact aj_ast_k h0 k (fun ls H locs rest q0 a n f i x hP hS ha hin kk => va_iast hC.1 hC.2.1 hC.2.2.2.2.2.1.1 hP (aj_D h) hS q0 0 ha rfl hin hdg (fun H1 locs1 g1 _ g3 => kk H1 locs1 g1 g3))
  · cases h0
theorem aj_s_castore (hC : aj_Cx rn D cl cA tb base stA sf nw Ts own cc nL p s m args c) {rc : Nat} {cls : List aj_C} {lk : List aj_L} {ret : Option FieldType} {isI : Bool} {len : Nat} (hdg : decode cc pc = .ok (.castore, len))
    (h0 : aj_step rc cls tb lk nL ret isI .castore len pc lv st h = some (.inl ((pc', lv', st'), h', dc, ds)))
    (k : aj_Nx D cl cA tb.length base stA nL p l e R s m args below meth c Q (cells + dc) (slots + ds) pc' lv' st' h') : aj_Nx D cl cA tb.length base stA nL p l e R s m args below meth c Q cells slots pc lv st h := by
  unfold aj_step at h0
  dsimp only at h0
  split at h0
  · rename_i hlen
    subst hlen
    exact aj_ast_k h0 k (fun ls H locs rest q0 a n f i x hP hS ha hin kk => va_cast hC.1 hC.2.1 hC.2.2.2.2.2.1.1 hP (aj_D h) hS q0 3 ha rfl hin hdg (fun H1 locs1 g1 _ g3 => kk H1 locs1 g1 g3))
  · cases h0
theorem aj_s_bastore (hC : aj_Cx rn D cl cA tb base stA sf nw Ts own cc nL p s m args c) {rc : Nat} {cls : List aj_C} {lk : List aj_L} {ret : Option FieldType} {isI : Bool} {len : Nat} (hdg : decode cc pc = .ok (.bastore, len))
    (h0 : aj_step rc cls tb lk nL ret isI .bastore len pc lv st h = some (.inl ((pc', lv', st'), h', dc, ds)))
    (k : aj_Nx D cl cA tb.length base stA nL p l e R s m args below meth c Q (cells + dc) (slots + ds) pc' lv' st' h') : aj_Nx D cl cA tb.length base stA nL p l e R s m args below meth c Q cells slots pc lv st h := by
  unfold aj_step at h0
  dsimp only at h0
  split at h0
  · rename_i hlen
    subst hlen
    unfold aj_bst at h0
    split at h0
    · split at h0
      · exact aj_ast_k h0 k (fun ls H locs rest q0 a n f i x hP hS ha hin kk => va_zast hC.1 hC.2.1 hC.2.2.2.2.2.1.1 hP (aj_D h) hS q0 2 ha rfl hin hdg (fun H1 locs1 g1 _ g3 => kk H1 locs1 g1 g3))
      · exact aj_ast_k h0 k (fun ls H locs rest q0 a n f i x hP hS ha hin kk => va_bast hC.1 hC.2.1 hC.2.2.2.2.2.1.1 hP (aj_D h) hS q0 4 ha rfl hin hdg (fun H1 locs1 g1 _ g3 => kk H1 locs1 g1 g3))
    · cases h0
  · cases h0
theorem aj_s_lastore (hC : aj_Cx rn D cl cA tb base stA sf nw Ts own cc nL p s m args c) {rc : Nat} {cls : List aj_C} {lk : List aj_L} {ret : Option FieldType} {isI : Bool} {len : Nat} (hdg : decode cc pc = .ok (.lastore, len))
    (h0 : aj_step rc cls tb lk nL ret isI .lastore len pc lv st h = some (.inl ((pc', lv', st'), h', dc, ds)))
    (k : aj_Nx D cl cA tb.length base stA nL p l e R s m args below meth c Q (cells + dc) (slots + ds) pc' lv' st' h') : aj_Nx D cl cA tb.length base stA nL p l e R s m args below meth c Q cells slots pc lv st h := by
  intro ls H locs hl hR
  unfold aj_step at h0
  dsimp only at h0
  split at h0
  · rename_i hlen
    subst hlen
    unfold aj_lst at h0
    split at h0
    · rename_i x i r rest
      split at h0
      · cases h0
      · rename_i hr
        split at h0
        · rename_i n f harr
          split at h0
          · rename_i hin
            have go := aj_go_k h0 k
            show W p l e R s m args below meth c H locs cells slots Q (F0 m pc ls (.long x :: .int i :: aj_c (aj_ad tb.length base stA) (.ref r) :: rest.map (aj_c (aj_ad tb.length base stA))))
            rw [aj_c_dyn hr]
            exact va_last hC.1 hC.2.1 hC.2.2.2.2.2.1.1 hR.2.1 (aj_D h) hR.2.2 _ 1 (aj_ws_get harr) rfl (aj_in_ok hin) hdg (fun H1 locs1 g1 _ g3 => go ls H1 locs1 hl (aj_Rw_set hR g1 g3))
          · cases h0
        · cases h0
    · cases h0
  · cases h0
theorem aj_up_c (ad : Nat → Nat) (f : Nat → Option Nat) (k : Nat) (o : Option Nat) : (fun i => (va_up f k o i).map ad) = va_up (fun i => (f i).map ad) k (o.map ad) := by
  funext i
  by_cases hi : i = k <;> simp [va_up, hi]
theorem aj_s_aastore (hC : aj_Cx rn D cl cA tb base stA sf nw Ts own cc nL p s m args c) {rc : Nat} {rcl : vw_C} (hrc : cl[rc]? = some rcl) (hrn : rcl.1 = rn) {cls : List aj_C} {lk : List aj_L} {ret : Option FieldType} {isI : Bool} {len : Nat} (hdg : decode cc pc = .ok (.aastore, len))
    (h0 : aj_step rc cls tb lk nL ret isI .aastore len pc lv st h = some (.inl ((pc', lv', st'), h', dc, ds)))
    (k : aj_Nx D cl cA tb.length base stA nL p l e R s m args below meth c Q (cells + dc) (slots + ds) pc' lv' st' h') : aj_Nx D cl cA tb.length base stA nL p l e R s m args below meth c Q cells slots pc lv st h := by
  intro ls H locs hl hR
  unfold aj_step at h0
  dsimp only at h0
  split at h0
  · rename_i hlen
    subst hlen
    unfold aj_qst at h0
    split at h0
    · rename_i v i r rest
      split at h0
      · cases h0
      · rename_i hr
        split at h0
        · rename_i n f harr
          split at h0
          · rename_i ci fs hobj
            split at h0
            · rename_i hq
              obtain ⟨rfl, hin⟩ := hq
              have go := aj_go_k h0 k
              obtain ⟨hv, hobj⟩ := aj_obj_k hobj
              show W p l e R s m args below meth c H locs cells slots Q (F0 m pc ls (aj_c (aj_ad tb.length base stA) (.ref v) :: .int i :: aj_c (aj_ad tb.length base stA) (.ref r) :: rest.map (aj_c (aj_ad tb.length base stA))))
              rw [aj_c_dyn hr, aj_c_dyn hv]
              refine va_astq (r := rcl) hC.1 hC.2.1 hC.2.2.2.2.2.1.1 hR.2.1 (aj_D h) hR.2.2 _ 5 _ ci (aj_ws_get harr) (by rw [hrn]; rfl) (aj_ws_get hobj) hrc (aj_in_ok hin) hdg (fun H1 locs1 g1 _ g3 => go ls H1 locs1 hl (aj_Rw_set hR ?_ g3))
              have e1 : aj_ad tb.length base stA v = base + (v - tb.length) := by simp [aj_ad, hv]
              simp only [aj_ce, aj_ca, aj_up_c, Option.map_some, e1]
              exact g1
            · cases h0
          · cases h0
        · cases h0
    · rename_i i r rest
      split at h0
      · cases h0
      · rename_i hr
        split at h0
        · rename_i n f harr
          split at h0
          · rename_i hin
            have go := aj_go_k h0 k
            show W p l e R s m args below meth c H locs cells slots Q (F0 m pc ls (.null :: .int i :: aj_c (aj_ad tb.length base stA) (.ref r) :: rest.map (aj_c (aj_ad tb.length base stA))))
            rw [aj_c_dyn hr]
            refine va_astqN (C := rn) hC.1 hC.2.1 hC.2.2.2.2.2.1.1 hR.2.1 (aj_D h) hR.2.2 _ 5 (aj_ws_get harr) rfl (aj_in_ok hin) hdg (fun H1 locs1 g1 _ g3 => go ls H1 locs1 hl (aj_Rw_set hR ?_ g3))
            simp only [aj_ce, aj_ca, aj_up_c, Option.map_none]
            exact g1
          · cases h0
        · cases h0
    · cases h0
  · cases h0
end AJSTORE
