section AJHEAP
variable {rn : String} {D : va_G} {cl : List vw_C} {cA : Nat → ClassId} {tb : aj_T} {base : Nat} {stA : Nat → Nat} {sf : List (String × String × String)} {nw Ts : List Cond} {own : String} {cc : ByteArray} {nL S : Nat}
variable {p : Program} {l : Launch} {e : Env} {R : Room} {s : State} {m : MethodId} {args : Array Value} {below : List Frame} {meth : Method} {c : Code} {Q : State → Prop} {cells slots pc pc' dc ds : Nat} {lv lv' : aj_V} {st st' : List Value} {h h' : aj_H}
theorem aj_c_dyn {r : Nat} (hr : ¬ r < S) : aj_c (aj_ad S base stA) (.ref r) = .ref (base + (r - S)) := by simp [aj_c, aj_ad, hr]
theorem aj_c_sta {r : Nat} (hr : r < S) : aj_c (aj_ad S base stA) (.ref r) = .ref (stA r) := by simp [aj_c, aj_ad, hr]
theorem aj_arr_k {r k : Nat} {x : vp_A} (h0 : aj_arr tb h r = some (k, x)) : (r < tb.length ∧ tb[r]? = some (k, x)) ∨ (¬ r < tb.length ∧ h[r - tb.length]? = some (.inl (k, x))) := by
  unfold aj_arr at h0
  split at h0
  · rename_i hr
    exact Or.inl ⟨hr, h0⟩
  · rename_i hr
    refine Or.inr ⟨hr, ?_⟩
    split at h0
    · rename_i a ha
      cases h0
      exact ha
    · cases h0
theorem aj_obj_k {r ci : Nat} {fs : List Value} (h0 : aj_obj tb h r = some (ci, fs)) : ¬ r < tb.length ∧ h[r - tb.length]? = some (.inr (ci, fs)) := by
  unfold aj_obj at h0
  split at h0
  · cases h0
  · rename_i hr
    refine ⟨hr, ?_⟩
    split at h0
    · rename_i a ha
      cases h0
      exact ha
    · cases h0
theorem aj_ald_k {k : Nat} (hC : aj_Cx rn D cl cA tb base stA sf nw Ts own cc nL p s m args c) (h0 : aj_ald k tb pc lv st h = some (.inl ((pc', lv', st'), h', dc, ds)))
    (kk : aj_Nx D cl cA tb.length base stA nL p l e R s m args below meth c Q (cells + dc) (slots + ds) pc' lv' st' h')
    (rs : ∀ (ls : Array Slot) (H : Heap) (locs : List Loc) (rest : List Value) (t n : Nat) (f : Nat → Int32) (i : Int32), va_T (aj_ty rn k) t n (fun j => .int (f j)) (fun q => base ≤ q) s s.heap → va_S (fun q => base ≤ q) s.heap H locs → vp_in i n → W p l e R s m args below meth c H locs cells slots Q (F0 m (pc + 1) ls (.int (f i.toNatClampNeg) :: rest)) → W p l e R s m args below meth c H locs cells slots Q (F0 m pc ls (.int i :: .ref t :: rest)))
    (rd : ∀ (ls : Array Slot) (H : Heap) (locs : List Loc) (rest : List Value) (q0 a n : Nat) (f : Nat → Int32) (i : Int32), va_P D cl (aj_ws (aj_ad tb.length base stA) cA base h) H → (aj_ws (aj_ad tb.length base stA) cA base h)[q0]? = some (a, .inl (cA k, n, .inl f)) → vp_in i n → W p l e R s m args below meth c H locs cells slots Q (F0 m (pc + 1) ls (.int (f i.toNatClampNeg) :: rest)) → W p l e R s m args below meth c H locs cells slots Q (F0 m pc ls (.int i :: .ref a :: rest))) :
    aj_Nx D cl cA tb.length base stA nL p l e R s m args below meth c Q cells slots pc lv st h := by
  obtain ⟨hx, hb, -, hown, -, hK, hZ, -⟩ := hC
  intro ls H locs hl hR
  unfold aj_ald at h0
  split at h0
  · rename_i i r rest
    split at h0
    · rename_i k' n f harr
      split at h0
      · rename_i hq
        obtain ⟨rfl, hin⟩ := hq
        have go := aj_go_k h0 kk ls H locs hl hR
        show W p l e R s m args below meth c H locs cells slots Q (F0 m pc ls (.int i :: aj_c (aj_ad tb.length base stA) (.ref r) :: rest.map (aj_c (aj_ad tb.length base stA))))
        rcases aj_arr_k harr with ⟨hr, h1⟩ | ⟨hr, h1⟩
        · rw [aj_c_sta hr]
          exact rs ls H locs _ _ n f i (hZ.2 r _ _ h1) hR.2.2 (aj_in_ok hin) go
        · rw [aj_c_dyn hr]
          exact rd ls H locs _ _ _ n f i hR.2.1 (aj_ws_get h1) (aj_in_ok hin) go
      · cases h0
    · cases h0
  · cases h0
theorem aj_s_iaload (hC : aj_Cx rn D cl cA tb base stA sf nw Ts own cc nL p s m args c) {rc : Nat} {cls : List aj_C} {lk : List aj_L} {ret : Option FieldType} {isI : Bool} {len : Nat} (hdg : decode cc pc = .ok (.iaload, len))
    (h0 : aj_step rc cls tb lk nL ret isI .iaload len pc lv st h = some (.inl ((pc', lv', st'), h', dc, ds)))
    (k : aj_Nx D cl cA tb.length base stA nL p l e R s m args below meth c Q (cells + dc) (slots + ds) pc' lv' st' h') : aj_Nx D cl cA tb.length base stA nL p l e R s m args below meth c Q cells slots pc lv st h := by
  unfold aj_step at h0
  dsimp only at h0
  split at h0
  · rename_i hlen
    subst hlen
    exact aj_ald_k hC h0 k (fun ls H locs rest t n f i hT hS hin kk => va_ti hC.1 hC.2.1 hT hS hin rfl hdg kk) (fun ls H locs rest q0 a n f i hP ha hin kk => va_iald hC.1 hC.2.1 hC.2.2.2.2.2.1.1 hP q0 0 ha rfl hin hdg kk)
  · cases h0
theorem aj_s_caload (hC : aj_Cx rn D cl cA tb base stA sf nw Ts own cc nL p s m args c) {rc : Nat} {cls : List aj_C} {lk : List aj_L} {ret : Option FieldType} {isI : Bool} {len : Nat} (hdg : decode cc pc = .ok (.caload, len))
    (h0 : aj_step rc cls tb lk nL ret isI .caload len pc lv st h = some (.inl ((pc', lv', st'), h', dc, ds)))
    (k : aj_Nx D cl cA tb.length base stA nL p l e R s m args below meth c Q (cells + dc) (slots + ds) pc' lv' st' h') : aj_Nx D cl cA tb.length base stA nL p l e R s m args below meth c Q cells slots pc lv st h := by
  unfold aj_step at h0
  dsimp only at h0
  split at h0
  · rename_i hlen
    subst hlen
    exact aj_ald_k hC h0 k (fun ls H locs rest t n f i hT hS hin kk => va_tc hC.1 hC.2.1 hT hS hin rfl hdg kk) (fun ls H locs rest q0 a n f i hP ha hin kk => va_cald hC.1 hC.2.1 hC.2.2.2.2.2.1.1 hP q0 3 ha rfl hin hdg kk)
  · cases h0
theorem aj_s_baload (hC : aj_Cx rn D cl cA tb base stA sf nw Ts own cc nL p s m args c) {rc : Nat} {cls : List aj_C} {lk : List aj_L} {ret : Option FieldType} {isI : Bool} {len : Nat} (hdg : decode cc pc = .ok (.baload, len))
    (h0 : aj_step rc cls tb lk nL ret isI .baload len pc lv st h = some (.inl ((pc', lv', st'), h', dc, ds)))
    (k : aj_Nx D cl cA tb.length base stA nL p l e R s m args below meth c Q (cells + dc) (slots + ds) pc' lv' st' h') : aj_Nx D cl cA tb.length base stA nL p l e R s m args below meth c Q cells slots pc lv st h := by
  unfold aj_step at h0
  dsimp only at h0
  split at h0
  · rename_i hlen
    subst hlen
    unfold aj_bld at h0
    split at h0
    · split at h0
      · exact aj_ald_k hC h0 k (fun ls H locs rest t n f i hT hS hin kk => va_tz hC.1 hC.2.1 hT hS hin rfl hdg kk) (fun ls H locs rest q0 a n f i hP ha hin kk => va_zald hC.1 hC.2.1 hC.2.2.2.2.2.1.1 hP q0 2 ha rfl hin hdg kk)
      · exact aj_ald_k hC h0 k (fun ls H locs rest t n f i hT hS hin kk => va_tb hC.1 hC.2.1 hT hS hin rfl hdg kk) (fun ls H locs rest q0 a n f i hP ha hin kk => va_bald hC.1 hC.2.1 hC.2.2.2.2.2.1.1 hP q0 4 ha rfl hin hdg kk)
    · cases h0
  · cases h0
theorem aj_s_laload (hC : aj_Cx rn D cl cA tb base stA sf nw Ts own cc nL p s m args c) {rc : Nat} {cls : List aj_C} {lk : List aj_L} {ret : Option FieldType} {isI : Bool} {len : Nat} (hdg : decode cc pc = .ok (.laload, len))
    (h0 : aj_step rc cls tb lk nL ret isI .laload len pc lv st h = some (.inl ((pc', lv', st'), h', dc, ds)))
    (k : aj_Nx D cl cA tb.length base stA nL p l e R s m args below meth c Q (cells + dc) (slots + ds) pc' lv' st' h') : aj_Nx D cl cA tb.length base stA nL p l e R s m args below meth c Q cells slots pc lv st h := by
  obtain ⟨hx, hb, -, hown, -, hK, hZ, -⟩ := hC
  intro ls H locs hl hR
  unfold aj_step at h0
  dsimp only at h0
  split at h0
  · rename_i hlen
    subst hlen
    unfold aj_lld at h0
    split at h0
    · rename_i i r rest
      split at h0
      · rename_i n f harr
        split at h0
        · rename_i hin
          have go := aj_go_k h0 k ls H locs hl hR
          show W p l e R s m args below meth c H locs cells slots Q (F0 m pc ls (.int i :: aj_c (aj_ad tb.length base stA) (.ref r) :: rest.map (aj_c (aj_ad tb.length base stA))))
          rcases aj_arr_k harr with ⟨hr, h1⟩ | ⟨hr, h1⟩
          · rw [aj_c_sta hr]
            exact va_tl hx hb (hZ.2 r _ _ h1) hR.2.2 (aj_in_ok hin) rfl hdg go
          · rw [aj_c_dyn hr]
            exact va_lald hx hb hK.1 hR.2.1 _ 1 (aj_ws_get h1) rfl (aj_in_ok hin) hdg go
        · cases h0
      · cases h0
    · cases h0
  · cases h0
theorem aj_rf_c (ad : Nat → Nat) (o : Option Nat) : va_rf (o.map ad) = aj_c ad (va_rf o) := by cases o <;> rfl
theorem aj_s_aaload (hC : aj_Cx rn D cl cA tb base stA sf nw Ts own cc nL p s m args c) {rc : Nat} {cls : List aj_C} {lk : List aj_L} {ret : Option FieldType} {isI : Bool} {len : Nat} (hdg : decode cc pc = .ok (.aaload, len))
    (h0 : aj_step rc cls tb lk nL ret isI .aaload len pc lv st h = some (.inl ((pc', lv', st'), h', dc, ds)))
    (k : aj_Nx D cl cA tb.length base stA nL p l e R s m args below meth c Q (cells + dc) (slots + ds) pc' lv' st' h') : aj_Nx D cl cA tb.length base stA nL p l e R s m args below meth c Q cells slots pc lv st h := by
  obtain ⟨hx, hb, -, hown, -, hK, hZ, -⟩ := hC
  intro ls H locs hl hR
  unfold aj_step at h0
  dsimp only at h0
  split at h0
  · rename_i hlen
    subst hlen
    unfold aj_qld at h0
    split at h0
    · rename_i i r rest
      split at h0
      · cases h0
      · rename_i hr
        split at h0
        · rename_i n f harr
          split at h0
          · rename_i hin
            have go := aj_go_k h0 k ls H locs hl hR
            show W p l e R s m args below meth c H locs cells slots Q (F0 m pc ls (.int i :: aj_c (aj_ad tb.length base stA) (.ref r) :: rest.map (aj_c (aj_ad tb.length base stA))))
            rw [aj_c_dyn hr]
            refine va_aldq (C := rn) hx hb hK.1 hR.2.1 _ 5 (aj_ws_get harr) rfl (aj_in_ok hin) hdg ?_
            rw [aj_rf_c]
            exact go
          · cases h0
        · cases h0
    · cases h0
  · cases h0
theorem aj_s_arraylength (hC : aj_Cx rn D cl cA tb base stA sf nw Ts own cc nL p s m args c) {rc : Nat} {cls : List aj_C} {lk : List aj_L} {ret : Option FieldType} {isI : Bool} {len : Nat} (hdg : decode cc pc = .ok (.arraylength, len))
    (h0 : aj_step rc cls tb lk nL ret isI .arraylength len pc lv st h = some (.inl ((pc', lv', st'), h', dc, ds)))
    (k : aj_Nx D cl cA tb.length base stA nL p l e R s m args below meth c Q (cells + dc) (slots + ds) pc' lv' st' h') : aj_Nx D cl cA tb.length base stA nL p l e R s m args below meth c Q cells slots pc lv st h := by
  obtain ⟨hx, hb, -, hown, -, hK, hZ, -⟩ := hC
  intro ls H locs hl hR
  unfold aj_step at h0
  dsimp only at h0
  split at h0
  · rename_i hlen
    subst hlen
    unfold aj_alen at h0
    split at h0
    · rename_i r rest
      split at h0
      · rename_i k0 n x0 harr
        split at h0
        · rename_i hk
          have go := aj_go_k h0 k ls H locs hl hR
          show W p l e R s m args below meth c H locs cells slots Q (F0 m pc ls (aj_c (aj_ad tb.length base stA) (.ref r) :: rest.map (aj_c (aj_ad tb.length base stA))))
          rcases aj_arr_k harr with ⟨hr, h1⟩ | ⟨hr, h1⟩
          · rw [aj_c_sta hr]
            exact va_tlen hx hb (hZ.2 r _ _ h1) hR.2.2 rfl hdg go
          · rw [aj_c_dyn hr]
            have ht : ((List.range 6).map fun k => (cA k, aj_ty rn k))[k0]? = some (cA k0, aj_ty rn k0) := by simp [hk]
            refine va_alen hx hb hK.1 hR.2.1 _ k0 (aj_ws_get h1) ht ?_ hdg go
            obtain _ | _ | _ | _ | f := x0 <;> rfl
        · cases h0
      · cases h0
    · cases h0
  · cases h0
end AJHEAP
