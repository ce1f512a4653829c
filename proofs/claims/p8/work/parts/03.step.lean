def aj_K (rn : String) (D : va_G) (cl : List vw_C) (cA : Nat → ClassId) (U : State) : Prop := va_K D cl ((List.range 6).map fun k => (cA k, aj_ty rn k)) U ∧ va_AO rn U
def aj_tv : vp_A → Nat → Value
  | (_, .inl f) => fun j => .int (f j)
  | (_, .inr (.inl f)) => fun j => .long (f j)
  | _ => fun _ => .null
def aj_Z (rn : String) (tb : aj_T) (stA : Nat → Nat) (sf : List (String × String × String)) (A : Nat → Prop) (U : State) (H : Heap) : Prop := (∀ (i : Nat) (q : String × String × String), sf[i]? = some q → va_Z q.1 q.2.1 q.2.2 (.ref (stA i)) A U H) ∧ ∀ (i k : Nat) (x : vp_A), tb[i]? = some (k, x) → va_T (aj_ty rn k) (stA i) x.1 (aj_tv x) A U H
def aj_N (nw : List Cond) (U : State) : Prop := ∀ w ∈ nw, va_Nw w U
def aj_Rw (D : va_G) (cl : List vw_C) (cA : Nat → ClassId) (S base : Nat) (stA : Nat → Nat) (s : State) (cells : Nat) (h : aj_H) (H : Heap) (locs : List Loc) : Prop := s.heap.size + cells = base + h.length ∧ va_P D cl (aj_ws (aj_ad S base stA) cA base h) H ∧ va_S (fun q => base ≤ q) s.heap H locs
def aj_Cx (rn : String) (D : va_G) (cl : List vw_C) (cA : Nat → ClassId) (tb : aj_T) (base : Nat) (stA : Nat → Nat) (sf : List (String × String × String)) (nw Ts : List Cond) (own : String) (cc : ByteArray) (nL : Nat) (p : Program) (s : State) (m : MethodId) (args : Array Value) (c : Code) : Prop :=
  p.tables.exec = Jvm.exec ∧ c.code = cc ∧ c.maxLocals = nL ∧ s.vm.findClass own = some m.cls ∧ (∀ w ∈ Ts, w.before args s = true) ∧ aj_K rn D cl cA s ∧ aj_Z rn tb stA sf (fun q => base ≤ q) s s.heap ∧ aj_N nw s ∧ base ≤ s.heap.size
/-- from this frame and heap on, the machine comes to Q -/
def aj_Nx (D : va_G) (cl : List vw_C) (cA : Nat → ClassId) (S base : Nat) (stA : Nat → Nat) (nL : Nat) (p : Program) (l : Launch) (e : Env) (R : Room) (s : State) (m : MethodId) (args : Array Value) (below : List Frame) (meth : Method) (c : Code) (Q : State → Prop) (cells slots pc : Nat) (lv : aj_V) (st : List Value) (h : aj_H) : Prop :=
  ∀ (ls : Array Slot) (H : Heap) (locs : List Loc), lv_has ls nL (aj_cv (aj_ad S base stA) lv) → aj_Rw D cl cA S base stA s cells h H locs → W p l e R s m args below meth c H locs cells slots Q (F0 m pc ls (st.map (aj_c (aj_ad S base stA))))
section AJSTEP
variable {rn : String} {D : va_G} {cl : List vw_C} {cA : Nat → ClassId} {tb : aj_T} {base : Nat} {stA : Nat → Nat} {sf : List (String × String × String)} {nw Ts : List Cond} {own : String} {cc : ByteArray} {nL S : Nat}
variable {p : Program} {l : Launch} {e : Env} {R : Room} {s : State} {m : MethodId} {args : Array Value} {below : List Frame} {meth : Method} {c : Code} {Q : State → Prop} {cells slots pc pc' dc ds : Nat} {lv lv' : aj_V} {st st' : List Value} {h h' : aj_H}
theorem aj_go_k {pc1 : Nat} {lv1 : aj_V} {st1 : List Value} {h1 : aj_H} (h0 : aj_go pc1 lv1 st1 h1 = some (.inl ((pc', lv', st'), h', dc, ds))) (k : aj_Nx D cl cA S base stA nL p l e R s m args below meth c Q (cells + dc) (slots + ds) pc' lv' st' h') : aj_Nx D cl cA S base stA nL p l e R s m args below meth c Q cells slots pc1 lv1 st1 h1 := by
  unfold aj_go at h0
  cases h0
  exact k
theorem aj_jump_k {off : Int} {lv1 : aj_V} {st1 : List Value} {h1 : aj_H} (h0 : aj_jump pc off lv1 st1 h1 = some (.inl ((pc', lv', st'), h', dc, ds))) (k : aj_Nx D cl cA S base stA nL p l e R s m args below meth c Q (cells + dc) (slots + ds) pc' lv' st' h') : ∃ tgt : Nat, (pc : Int) + off = (tgt : Int) ∧ aj_Nx D cl cA S base stA nL p l e R s m args below meth c Q cells slots tgt lv1 st1 h1 := by
  unfold aj_jump at h0
  split at h0
  · rename_i hp
    exact ⟨((pc : Int) + off).toNat, by omega, aj_go_k h0 k⟩
  · cases h0
theorem aj_load_k {len i kind : Nat} (h0 : aj_load pc lv st h len i kind = some (.inl ((pc', lv', st'), h', dc, ds))) (k : aj_Nx D cl cA S base stA nL p l e R s m args below meth c Q (cells + dc) (slots + ds) pc' lv' st' h')
    (ri : kind = 0 → ∀ (ls : Array Slot) (H : Heap) (locs : List Loc) (x : Int32), ls[i]? = some (.val (.int x)) → W p l e R s m args below meth c H locs cells slots Q (F0 m (pc + len) ls (.int x :: st.map (aj_c (aj_ad S base stA)))) → W p l e R s m args below meth c H locs cells slots Q (F0 m pc ls (st.map (aj_c (aj_ad S base stA)))))
    (rl : kind = 1 → ∀ (ls : Array Slot) (H : Heap) (locs : List Loc) (x : Int64), ls[i]? = some (.val (.long x)) → W p l e R s m args below meth c H locs cells slots Q (F0 m (pc + len) ls (.long x :: st.map (aj_c (aj_ad S base stA)))) → W p l e R s m args below meth c H locs cells slots Q (F0 m pc ls (st.map (aj_c (aj_ad S base stA)))))
    (ra : kind = 2 → ∀ (ls : Array Slot) (H : Heap) (locs : List Loc) (x : Nat), ls[i]? = some (.val (.ref x)) → W p l e R s m args below meth c H locs cells slots Q (F0 m (pc + len) ls (.ref x :: st.map (aj_c (aj_ad S base stA)))) → W p l e R s m args below meth c H locs cells slots Q (F0 m pc ls (st.map (aj_c (aj_ad S base stA)))))
    (rn : kind = 2 → ∀ (ls : Array Slot) (H : Heap) (locs : List Loc), ls[i]? = some (.val .null) → W p l e R s m args below meth c H locs cells slots Q (F0 m (pc + len) ls (.null :: st.map (aj_c (aj_ad S base stA)))) → W p l e R s m args below meth c H locs cells slots Q (F0 m pc ls (st.map (aj_c (aj_ad S base stA))))) :
    aj_Nx D cl cA S base stA nL p l e R s m args below meth c Q cells slots pc lv st h := by
  intro ls H locs hl hR
  unfold aj_load at h0
  split at h0
  · rename_i x hx
    split at h0
    · rename_i hk
      exact ri hk ls H locs x (aj_lv_has hl hx) (aj_go_k h0 k ls H locs hl hR)
    · cases h0
  · rename_i x hx
    split at h0
    · rename_i hk
      exact rl hk ls H locs x (aj_lv_has hl hx) (aj_go_k h0 k ls H locs hl hR)
    · cases h0
  · rename_i x hx
    split at h0
    · rename_i hk
      exact ra hk ls H locs _ (aj_lv_has hl hx) (aj_go_k h0 k ls H locs hl hR)
    · cases h0
  · rename_i hx
    split at h0
    · rename_i hk
      exact rn hk ls H locs (aj_lv_has hl hx) (aj_go_k h0 k ls H locs hl hR)
    · cases h0
  · cases h0
theorem aj_simple (hC : aj_Cx rn D cl cA tb base stA sf nw Ts own cc nL p s m args c) {rc : Nat} {cls : List aj_C} {lk : List aj_L} {ret : Option FieldType} {isI : Bool} {i : Instr} {len : Nat} (hdg : decode cc pc = .ok (i, len))
    (h0 : aj_step rc cls tb lk nL ret isI i len pc lv st h = some (.inl ((pc', lv', st'), h', dc, ds)))
    (hi : match i with | .iconst _ | .bipush _ | .sipush _ | .lconst _ | .aconst_null | .iload_n _ | .iload _ | .lload_n _ | .lload _ | .aload_n _ | .aload _ => True | _ => False)
    (k : aj_Nx D cl cA tb.length base stA nL p l e R s m args below meth c Q (cells + dc) (slots + ds) pc' lv' st' h') : aj_Nx D cl cA tb.length base stA nL p l e R s m args below meth c Q cells slots pc lv st h := by
  obtain ⟨hx, hb, -, hown, -⟩ := hC
  unfold aj_step at h0
  cases i <;> first | exact False.elim hi | skip
  all_goals (dsimp only at h0; split at h0 <;> first | (cases h0; done) | skip)
  all_goals (rename_i hlen; subst hlen)
  all_goals first
    | exact fun ls H locs hl hR => lv_iconst hx hb hdg rfl (aj_go_k h0 k ls H locs hl hR)
    | exact fun ls H locs hl hR => lv_bipush hx hb hdg rfl (aj_go_k h0 k ls H locs hl hR)
    | exact fun ls H locs hl hR => lv_sipush hx hb hdg rfl (aj_go_k h0 k ls H locs hl hR)
    | exact fun ls H locs hl hR => lv_lconst hx hb hdg rfl (aj_go_k h0 k ls H locs hl hR)
    | exact fun ls H locs hl hR => lv_null hx hb hdg (aj_go_k h0 k ls H locs hl hR)
    | exact aj_load_k h0 k (fun _ ls H locs x hv kk => lv_iload_n hx hb hdg rfl hv kk) (fun q => absurd q (by decide)) (fun q => absurd q (by decide)) (fun q => absurd q (by decide))
    | exact aj_load_k h0 k (fun _ ls H locs x hv kk => lv_iload hx hb hdg hv kk) (fun q => absurd q (by decide)) (fun q => absurd q (by decide)) (fun q => absurd q (by decide))
    | exact aj_load_k h0 k (fun q => absurd q (by decide)) (fun _ ls H locs x hv kk => lv_lload_n hx hb hdg rfl hv kk) (fun q => absurd q (by decide)) (fun q => absurd q (by decide))
    | exact aj_load_k h0 k (fun q => absurd q (by decide)) (fun _ ls H locs x hv kk => lv_lload hx hb hdg hv kk) (fun q => absurd q (by decide)) (fun q => absurd q (by decide))
    | exact aj_load_k h0 k (fun q => absurd q (by decide)) (fun q => absurd q (by decide)) (fun _ ls H locs x hv kk => lv_aload_n hx hb hdg rfl hv kk) (fun _ ls H locs hv kk => lv_aload_nN hx hb hdg rfl hv kk)
    | exact aj_load_k h0 k (fun q => absurd q (by decide)) (fun q => absurd q (by decide)) (fun _ ls H locs x hv kk => lv_aload hx hb hdg hv kk) (fun _ ls H locs hv kk => lv_aloadN hx hb hdg hv kk)
theorem aj_store_k {len i kind : Nat} (h0 : aj_store nL pc lv st h len i kind = some (.inl ((pc', lv', st'), h', dc, ds))) (k : aj_Nx D cl cA S base stA nL p l e R s m args below meth c Q (cells + dc) (slots + ds) pc' lv' st' h')
    (ri : kind = 0 → i < nL → ∀ (ls : Array Slot) (H : Heap) (locs : List Loc) (x : Int32) (r : List Value) (lw : aj_V), lv_has ls nL (aj_cv (aj_ad S base stA) lv) → (i, Value.int x) :: (aj_cv (aj_ad S base stA) lv).filter (fun q => !(q.1 == i) && !(q.1 + 1 == i && q.2.category == 2)) = lw → (∀ ls, lv_has ls nL lw → W p l e R s m args below meth c H locs cells slots Q (F0 m (pc + len) ls r)) → W p l e R s m args below meth c H locs cells slots Q (F0 m pc ls (.int x :: r)))
    (rl : kind = 1 → i + 1 < nL → ∀ (ls : Array Slot) (H : Heap) (locs : List Loc) (x : Int64) (r : List Value) (lw : aj_V), lv_has ls nL (aj_cv (aj_ad S base stA) lv) → (i, Value.long x) :: (aj_cv (aj_ad S base stA) lv).filter (fun q => !(q.1 == i) && (!(q.1 == i + 1) && !(q.1 + 1 == i && q.2.category == 2))) = lw → (∀ ls, lv_has ls nL lw → W p l e R s m args below meth c H locs cells slots Q (F0 m (pc + len) ls r)) → W p l e R s m args below meth c H locs cells slots Q (F0 m pc ls (.long x :: r)))
    (ra : kind = 2 → i < nL → ∀ (ls : Array Slot) (H : Heap) (locs : List Loc) (x : Nat) (r : List Value) (lw : aj_V), lv_has ls nL (aj_cv (aj_ad S base stA) lv) → (i, Value.ref x) :: (aj_cv (aj_ad S base stA) lv).filter (fun q => !(q.1 == i) && !(q.1 + 1 == i && q.2.category == 2)) = lw → (∀ ls, lv_has ls nL lw → W p l e R s m args below meth c H locs cells slots Q (F0 m (pc + len) ls r)) → W p l e R s m args below meth c H locs cells slots Q (F0 m pc ls (.ref x :: r)))
    (rn : kind = 2 → i < nL → ∀ (ls : Array Slot) (H : Heap) (locs : List Loc) (r : List Value) (lw : aj_V), lv_has ls nL (aj_cv (aj_ad S base stA) lv) → (i, Value.null) :: (aj_cv (aj_ad S base stA) lv).filter (fun q => !(q.1 == i) && !(q.1 + 1 == i && q.2.category == 2)) = lw → (∀ ls, lv_has ls nL lw → W p l e R s m args below meth c H locs cells slots Q (F0 m (pc + len) ls r)) → W p l e R s m args below meth c H locs cells slots Q (F0 m pc ls (.null :: r))) :
    aj_Nx D cl cA S base stA nL p l e R s m args below meth c Q cells slots pc lv st h := by
  intro ls H locs hl hR
  unfold aj_store at h0
  split at h0
  · split at h0
    · rename_i hk
      exact ri hk.1 hk.2 ls H locs _ _ _ hl (aj_cv_set1 _ lv i (.int _)) (fun ls hl => aj_go_k h0 k ls H locs hl hR)
    · cases h0
  · split at h0
    · rename_i hk
      exact rl hk.1 hk.2 ls H locs _ _ _ hl (aj_cv_set2 _ lv i (.long _)) (fun ls hl => aj_go_k h0 k ls H locs hl hR)
    · cases h0
  · split at h0
    · rename_i hk
      exact ra hk.1 hk.2 ls H locs _ _ _ hl (aj_cv_set1 _ lv i (.ref _)) (fun ls hl => aj_go_k h0 k ls H locs hl hR)
    · cases h0
  · split at h0
    · rename_i hk
      exact rn hk.1 hk.2 ls H locs _ _ hl (aj_cv_set1 _ lv i .null) (fun ls hl => aj_go_k h0 k ls H locs hl hR)
    · cases h0
  · cases h0
theorem aj_stores (hC : aj_Cx rn D cl cA tb base stA sf nw Ts own cc nL p s m args c) {rc : Nat} {cls : List aj_C} {lk : List aj_L} {ret : Option FieldType} {isI : Bool} {i : Instr} {len : Nat} (hdg : decode cc pc = .ok (i, len))
    (h0 : aj_step rc cls tb lk nL ret isI i len pc lv st h = some (.inl ((pc', lv', st'), h', dc, ds)))
    (hi : match i with | .istore_n _ | .istore _ | .lstore_n _ | .lstore _ | .astore_n _ | .astore _ => True | _ => False)
    (k : aj_Nx D cl cA tb.length base stA nL p l e R s m args below meth c Q (cells + dc) (slots + ds) pc' lv' st' h') : aj_Nx D cl cA tb.length base stA nL p l e R s m args below meth c Q cells slots pc lv st h := by
  obtain ⟨hx, hb, -, hown, -⟩ := hC
  unfold aj_step at h0
  cases i <;> first | exact False.elim hi | skip
  all_goals (dsimp only at h0; split at h0 <;> first | (cases h0; done) | skip)
  all_goals (rename_i hlen; subst hlen)
  all_goals first
    | exact aj_store_k h0 k (fun _ hn ls H locs x r lw hl he kk => lv_istore_n hx hb hdg rfl hl hn he kk) (fun q => absurd q (by decide)) (fun q => absurd q (by decide)) (fun q => absurd q (by decide))
    | exact aj_store_k h0 k (fun _ hn ls H locs x r lw hl he kk => lv_istore hx hb hdg hl hn he kk) (fun q => absurd q (by decide)) (fun q => absurd q (by decide)) (fun q => absurd q (by decide))
    | exact aj_store_k h0 k (fun q => absurd q (by decide)) (fun _ hn ls H locs x r lw hl he kk => lv_lstore_n hx hb hdg rfl hl hn he kk) (fun q => absurd q (by decide)) (fun q => absurd q (by decide))
    | exact aj_store_k h0 k (fun q => absurd q (by decide)) (fun _ hn ls H locs x r lw hl he kk => lv_lstore hx hb hdg hl hn he kk) (fun q => absurd q (by decide)) (fun q => absurd q (by decide))
    | exact aj_store_k h0 k (fun q => absurd q (by decide)) (fun q => absurd q (by decide)) (fun _ hn ls H locs x r lw hl he kk => lv_astore_n hx hb hdg rfl hl hn he kk) (fun _ hn ls H locs r lw hl he kk => lv_astore_nN hx hb hdg rfl hl hn he kk)
    | exact aj_store_k h0 k (fun q => absurd q (by decide)) (fun q => absurd q (by decide)) (fun _ hn ls H locs x r lw hl he kk => lv_astore hx hb hdg hl hn he kk) (fun _ hn ls H locs r lw hl he kk => lv_astoreN hx hb hdg hl hn he kk)
theorem aj_iincs (hC : aj_Cx rn D cl cA tb base stA sf nw Ts own cc nL p s m args c) {rc : Nat} {cls : List aj_C} {lk : List aj_L} {ret : Option FieldType} {isI : Bool} {j : Nat} {n : Int} {len : Nat} (hdg : decode cc pc = .ok (.iinc j n, len))
    (h0 : aj_step rc cls tb lk nL ret isI (.iinc j n) len pc lv st h = some (.inl ((pc', lv', st'), h', dc, ds)))
    (k : aj_Nx D cl cA tb.length base stA nL p l e R s m args below meth c Q (cells + dc) (slots + ds) pc' lv' st' h') : aj_Nx D cl cA tb.length base stA nL p l e R s m args below meth c Q cells slots pc lv st h := by
  obtain ⟨hx, hb, -, hown, -⟩ := hC
  intro ls H locs hl hR
  unfold aj_step at h0
  dsimp only at h0
  split at h0
  · rename_i x hx0
    split at h0
    · rename_i hq
      obtain ⟨rfl, hn⟩ := hq
      obtain ⟨k1, hk1⟩ := aj_lv_idx (ad := aj_ad tb.length base stA) hx0
      exact lv_iinc hx hb hdg hl hk1 rfl hn (aj_cv_set1 _ lv j (.int _)) (fun ls hl => aj_go_k h0 k ls H locs hl hR)
    · cases h0
  · cases h0
theorem aj_ii_k {f : Int32 → Int32 → Int32} (h0 : aj_ii f pc lv st h = some (.inl ((pc', lv', st'), h', dc, ds))) (k : aj_Nx D cl cA S base stA nL p l e R s m args below meth c Q (cells + dc) (slots + ds) pc' lv' st' h')
    (r : ∀ (ls : Array Slot) (H : Heap) (locs : List Loc) (x y : Int32) (rest : List Value), W p l e R s m args below meth c H locs cells slots Q (F0 m (pc + 1) ls (.int (f x y) :: rest)) → W p l e R s m args below meth c H locs cells slots Q (F0 m pc ls (.int y :: .int x :: rest))) :
    aj_Nx D cl cA S base stA nL p l e R s m args below meth c Q cells slots pc lv st h := by
  intro ls H locs hl hR
  unfold aj_ii at h0
  split at h0
  · exact r ls H locs _ _ _ (aj_go_k h0 k ls H locs hl hR)
  · cases h0
theorem aj_iz_k {f : Int32 → Int32 → Int32} (h0 : aj_iz f pc lv st h = some (.inl ((pc', lv', st'), h', dc, ds))) (k : aj_Nx D cl cA S base stA nL p l e R s m args below meth c Q (cells + dc) (slots + ds) pc' lv' st' h')
    (r : ∀ (ls : Array Slot) (H : Heap) (locs : List Loc) (x y : Int32) (rest : List Value), ¬ y = 0 → W p l e R s m args below meth c H locs cells slots Q (F0 m (pc + 1) ls (.int (f x y) :: rest)) → W p l e R s m args below meth c H locs cells slots Q (F0 m pc ls (.int y :: .int x :: rest))) :
    aj_Nx D cl cA S base stA nL p l e R s m args below meth c Q cells slots pc lv st h := by
  intro ls H locs hl hR
  unfold aj_iz at h0
  split at h0
  · split at h0
    · cases h0
    · rename_i hz
      exact r ls H locs _ _ _ hz (aj_go_k h0 k ls H locs hl hR)
  · cases h0
theorem aj_ll_k {f : Int64 → Int64 → Int64} (h0 : aj_ll f pc lv st h = some (.inl ((pc', lv', st'), h', dc, ds))) (k : aj_Nx D cl cA S base stA nL p l e R s m args below meth c Q (cells + dc) (slots + ds) pc' lv' st' h')
    (r : ∀ (ls : Array Slot) (H : Heap) (locs : List Loc) (x y : Int64) (rest : List Value), W p l e R s m args below meth c H locs cells slots Q (F0 m (pc + 1) ls (.long (f x y) :: rest)) → W p l e R s m args below meth c H locs cells slots Q (F0 m pc ls (.long y :: .long x :: rest))) :
    aj_Nx D cl cA S base stA nL p l e R s m args below meth c Q cells slots pc lv st h := by
  intro ls H locs hl hR
  unfold aj_ll at h0
  split at h0
  · exact r ls H locs _ _ _ (aj_go_k h0 k ls H locs hl hR)
  · cases h0
theorem aj_arith (hC : aj_Cx rn D cl cA tb base stA sf nw Ts own cc nL p s m args c) {rc : Nat} {cls : List aj_C} {lk : List aj_L} {ret : Option FieldType} {isI : Bool} {i : Instr} {len : Nat} (hdg : decode cc pc = .ok (i, len))
    (h0 : aj_step rc cls tb lk nL ret isI i len pc lv st h = some (.inl ((pc', lv', st'), h', dc, ds)))
    (hi : match i with | .iadd | .isub | .imul | .iand | .ior | .ixor | .ishl | .ishr | .iushr | .idiv | .irem | .ladd | .lmul | .lor => True | _ => False)
    (k : aj_Nx D cl cA tb.length base stA nL p l e R s m args below meth c Q (cells + dc) (slots + ds) pc' lv' st' h') : aj_Nx D cl cA tb.length base stA nL p l e R s m args below meth c Q cells slots pc lv st h := by
  obtain ⟨hx, hb, -, hown, -⟩ := hC
  unfold aj_step at h0
  cases i <;> first | exact False.elim hi | skip
  all_goals (dsimp only at h0; split at h0 <;> first | (cases h0; done) | skip)
  all_goals (rename_i hlen; subst hlen)
  all_goals first
    | exact aj_ii_k h0 k (fun ls H locs x y rest kk => lv_iadd hx hb hdg kk)
    | exact aj_ii_k h0 k (fun ls H locs x y rest kk => lv_isub hx hb hdg kk)
    | exact aj_ii_k h0 k (fun ls H locs x y rest kk => lv_imul hx hb hdg kk)
    | exact aj_ii_k h0 k (fun ls H locs x y rest kk => lv_iand hx hb hdg kk)
    | exact aj_ii_k h0 k (fun ls H locs x y rest kk => lv_ior hx hb hdg kk)
    | exact aj_ii_k h0 k (fun ls H locs x y rest kk => lv_ixor hx hb hdg kk)
    | exact aj_ii_k h0 k (fun ls H locs x y rest kk => lv_ishl hx hb hdg kk)
    | exact aj_ii_k h0 k (fun ls H locs x y rest kk => lv_ishr hx hb hdg kk)
    | exact aj_ii_k h0 k (fun ls H locs x y rest kk => lv_iushr hx hb hdg rfl kk)
    | exact aj_iz_k h0 k (fun ls H locs x y rest hz kk => lv_idiv hx hb hdg hz kk)
    | exact aj_iz_k h0 k (fun ls H locs x y rest hz kk => lv_irem hx hb hdg hz kk)
    | exact aj_ll_k h0 k (fun ls H locs x y rest kk => lv_ladd hx hb hdg kk)
    | exact aj_ll_k h0 k (fun ls H locs x y rest kk => lv_lmul hx hb hdg kk)
    | exact aj_ll_k h0 k (fun ls H locs x y rest kk => lv_lor hx hb hdg kk)
theorem aj_s_lshl (hC : aj_Cx rn D cl cA tb base stA sf nw Ts own cc nL p s m args c) {rc : Nat} {cls : List aj_C} {lk : List aj_L} {ret : Option FieldType} {isI : Bool} {len : Nat} (hdg : decode cc pc = .ok (.lshl, len))
    (h0 : aj_step rc cls tb lk nL ret isI .lshl len pc lv st h = some (.inl ((pc', lv', st'), h', dc, ds)))
    (k : aj_Nx D cl cA tb.length base stA nL p l e R s m args below meth c Q (cells + dc) (slots + ds) pc' lv' st' h') : aj_Nx D cl cA tb.length base stA nL p l e R s m args below meth c Q cells slots pc lv st h := by
  obtain ⟨hx, hb, -, hown, -⟩ := hC
  intro ls H locs hl hR
  unfold aj_step at h0
  dsimp only at h0
  split at h0
  · try dsimp only at h0
    split at h0
    · rename_i hlen
      subst hlen
      exact lv_lshl hx hb hdg rfl (aj_go_k h0 k ls H locs hl hR)
    · cases h0
  · cases h0
theorem aj_s_lneg (hC : aj_Cx rn D cl cA tb base stA sf nw Ts own cc nL p s m args c) {rc : Nat} {cls : List aj_C} {lk : List aj_L} {ret : Option FieldType} {isI : Bool} {len : Nat} (hdg : decode cc pc = .ok (.lneg, len))
    (h0 : aj_step rc cls tb lk nL ret isI .lneg len pc lv st h = some (.inl ((pc', lv', st'), h', dc, ds)))
    (k : aj_Nx D cl cA tb.length base stA nL p l e R s m args below meth c Q (cells + dc) (slots + ds) pc' lv' st' h') : aj_Nx D cl cA tb.length base stA nL p l e R s m args below meth c Q cells slots pc lv st h := by
  obtain ⟨hx, hb, -, hown, -⟩ := hC
  intro ls H locs hl hR
  unfold aj_step at h0
  dsimp only at h0
  split at h0
  · try dsimp only at h0
    split at h0
    · rename_i hlen
      subst hlen
      exact lv_lneg hx hb hdg (aj_go_k h0 k ls H locs hl hR)
    · cases h0
  · cases h0
theorem aj_s_lcmp (hC : aj_Cx rn D cl cA tb base stA sf nw Ts own cc nL p s m args c) {rc : Nat} {cls : List aj_C} {lk : List aj_L} {ret : Option FieldType} {isI : Bool} {len : Nat} (hdg : decode cc pc = .ok (.lcmp, len))
    (h0 : aj_step rc cls tb lk nL ret isI .lcmp len pc lv st h = some (.inl ((pc', lv', st'), h', dc, ds)))
    (k : aj_Nx D cl cA tb.length base stA nL p l e R s m args below meth c Q (cells + dc) (slots + ds) pc' lv' st' h') : aj_Nx D cl cA tb.length base stA nL p l e R s m args below meth c Q cells slots pc lv st h := by
  obtain ⟨hx, hb, -, hown, -⟩ := hC
  intro ls H locs hl hR
  unfold aj_step at h0
  dsimp only at h0
  split at h0
  · try dsimp only at h0
    split at h0
    · rename_i hlen
      subst hlen
      exact W.lcmp hx hb hdg (aj_go_k h0 k ls H locs hl hR)
    · cases h0
  · cases h0
theorem aj_s_i2l (hC : aj_Cx rn D cl cA tb base stA sf nw Ts own cc nL p s m args c) {rc : Nat} {cls : List aj_C} {lk : List aj_L} {ret : Option FieldType} {isI : Bool} {len : Nat} (hdg : decode cc pc = .ok (.i2l, len))
    (h0 : aj_step rc cls tb lk nL ret isI .i2l len pc lv st h = some (.inl ((pc', lv', st'), h', dc, ds)))
    (k : aj_Nx D cl cA tb.length base stA nL p l e R s m args below meth c Q (cells + dc) (slots + ds) pc' lv' st' h') : aj_Nx D cl cA tb.length base stA nL p l e R s m args below meth c Q cells slots pc lv st h := by
  obtain ⟨hx, hb, -, hown, -⟩ := hC
  intro ls H locs hl hR
  unfold aj_step at h0
  dsimp only at h0
  split at h0
  · try dsimp only at h0
    split at h0
    · rename_i hlen
      subst hlen
      exact lv_i2l hx hb hdg rfl (aj_go_k h0 k ls H locs hl hR)
    · cases h0
  · cases h0
theorem aj_s_l2i (hC : aj_Cx rn D cl cA tb base stA sf nw Ts own cc nL p s m args c) {rc : Nat} {cls : List aj_C} {lk : List aj_L} {ret : Option FieldType} {isI : Bool} {len : Nat} (hdg : decode cc pc = .ok (.l2i, len))
    (h0 : aj_step rc cls tb lk nL ret isI .l2i len pc lv st h = some (.inl ((pc', lv', st'), h', dc, ds)))
    (k : aj_Nx D cl cA tb.length base stA nL p l e R s m args below meth c Q (cells + dc) (slots + ds) pc' lv' st' h') : aj_Nx D cl cA tb.length base stA nL p l e R s m args below meth c Q cells slots pc lv st h := by
  obtain ⟨hx, hb, -, hown, -⟩ := hC
  intro ls H locs hl hR
  unfold aj_step at h0
  dsimp only at h0
  split at h0
  · try dsimp only at h0
    split at h0
    · rename_i hlen
      subst hlen
      exact lv_l2i hx hb hdg rfl (aj_go_k h0 k ls H locs hl hR)
    · cases h0
  · cases h0
theorem aj_s_i2b (hC : aj_Cx rn D cl cA tb base stA sf nw Ts own cc nL p s m args c) {rc : Nat} {cls : List aj_C} {lk : List aj_L} {ret : Option FieldType} {isI : Bool} {len : Nat} (hdg : decode cc pc = .ok (.i2b, len))
    (h0 : aj_step rc cls tb lk nL ret isI .i2b len pc lv st h = some (.inl ((pc', lv', st'), h', dc, ds)))
    (k : aj_Nx D cl cA tb.length base stA nL p l e R s m args below meth c Q (cells + dc) (slots + ds) pc' lv' st' h') : aj_Nx D cl cA tb.length base stA nL p l e R s m args below meth c Q cells slots pc lv st h := by
  obtain ⟨hx, hb, -, hown, -⟩ := hC
  intro ls H locs hl hR
  unfold aj_step at h0
  dsimp only at h0
  split at h0
  · try dsimp only at h0
    split at h0
    · rename_i hlen
      subst hlen
      exact lv_i2b hx hb hdg rfl (aj_go_k h0 k ls H locs hl hR)
    · cases h0
  · cases h0
theorem aj_s_i2c (hC : aj_Cx rn D cl cA tb base stA sf nw Ts own cc nL p s m args c) {rc : Nat} {cls : List aj_C} {lk : List aj_L} {ret : Option FieldType} {isI : Bool} {len : Nat} (hdg : decode cc pc = .ok (.i2c, len))
    (h0 : aj_step rc cls tb lk nL ret isI .i2c len pc lv st h = some (.inl ((pc', lv', st'), h', dc, ds)))
    (k : aj_Nx D cl cA tb.length base stA nL p l e R s m args below meth c Q (cells + dc) (slots + ds) pc' lv' st' h') : aj_Nx D cl cA tb.length base stA nL p l e R s m args below meth c Q cells slots pc lv st h := by
  obtain ⟨hx, hb, -, hown, -⟩ := hC
  intro ls H locs hl hR
  unfold aj_step at h0
  dsimp only at h0
  split at h0
  · try dsimp only at h0
    split at h0
    · rename_i hlen
      subst hlen
      exact lv_i2c hx hb hdg rfl (aj_go_k h0 k ls H locs hl hR)
    · cases h0
  · cases h0
theorem aj_dups (hC : aj_Cx rn D cl cA tb base stA sf nw Ts own cc nL p s m args c) {rc : Nat} {cls : List aj_C} {lk : List aj_L} {ret : Option FieldType} {isI : Bool} {i : Instr} {len : Nat} (hdg : decode cc pc = .ok (i, len))
    (h0 : aj_step rc cls tb lk nL ret isI i len pc lv st h = some (.inl ((pc', lv', st'), h', dc, ds)))
    (hi : i = .dup ∨ i = .pop ∨ i = .dup2)
    (k : aj_Nx D cl cA tb.length base stA nL p l e R s m args below meth c Q (cells + dc) (slots + ds) pc' lv' st' h') : aj_Nx D cl cA tb.length base stA nL p l e R s m args below meth c Q cells slots pc lv st h := by
  obtain ⟨hx, hb, -, hown, -⟩ := hC
  intro ls H locs hl hR
  rcases hi with rfl | rfl | rfl
  · rcases st with _ | ⟨v, r⟩
    · cases h0
    · by_cases hq : len = 1 ∧ v.category = 1
      · obtain ⟨rfl, h1⟩ := hq
        have h0 : (if 1 = 1 ∧ v.category = 1 then aj_go (pc + 1) lv (v :: v :: r) h else none) = some (.inl ((pc', lv', st'), h', dc, ds)) := h0
        rw [if_pos ⟨rfl, h1⟩] at h0
        exact lv_dup hx hb hdg ((aj_c_cat _ _).trans h1) (aj_go_k h0 k ls H locs hl hR)
      · have h0 : (if len = 1 ∧ v.category = 1 then aj_go (pc + 1) lv (v :: v :: r) h else none) = some (.inl ((pc', lv', st'), h', dc, ds)) := h0
        rw [if_neg hq] at h0
        cases h0
  · rcases st with _ | ⟨v, r⟩
    · cases h0
    · by_cases hq : len = 1 ∧ v.category = 1
      · obtain ⟨rfl, h1⟩ := hq
        have h0 : (if 1 = 1 ∧ v.category = 1 then aj_go (pc + 1) lv r h else none) = some (.inl ((pc', lv', st'), h', dc, ds)) := h0
        rw [if_pos ⟨rfl, h1⟩] at h0
        exact lv_pop hx hb hdg ((aj_c_cat _ _).trans h1) (aj_go_k h0 k ls H locs hl hR)
      · have h0 : (if len = 1 ∧ v.category = 1 then aj_go (pc + 1) lv r h else none) = some (.inl ((pc', lv', st'), h', dc, ds)) := h0
        rw [if_neg hq] at h0
        cases h0
  · rcases st with _ | ⟨v, _ | ⟨w, r⟩⟩
    · cases h0
    · cases h0
    · by_cases hq : len = 1 ∧ v.category = 1 ∧ w.category = 1
      · obtain ⟨rfl, h1, h2⟩ := hq
        have h0 : (if 1 = 1 ∧ v.category = 1 ∧ w.category = 1 then aj_go (pc + 1) lv (v :: w :: v :: w :: r) h else none) = some (.inl ((pc', lv', st'), h', dc, ds)) := h0
        rw [if_pos ⟨rfl, h1, h2⟩] at h0
        exact lv_dup2_11 hx hb hdg ((aj_c_cat _ _).trans h1) ((aj_c_cat _ _).trans h2) (aj_go_k h0 k ls H locs hl hR)
      · have h0 : (if len = 1 ∧ v.category = 1 ∧ w.category = 1 then aj_go (pc + 1) lv (v :: w :: v :: w :: r) h else none) = some (.inl ((pc', lv', st'), h', dc, ds)) := h0
        rw [if_neg hq] at h0
        cases h0
theorem aj_br_k {cnd : ClassFile.Cond} {x y : Int32} {off : Int} {lv1 : aj_V} {st1 : List Value} {h1 : aj_H} (h0 : aj_br cnd x y pc off lv1 st1 h1 = some (.inl ((pc', lv', st'), h', dc, ds))) (k : aj_Nx D cl cA S base stA nL p l e R s m args below meth c Q (cells + dc) (slots + ds) pc' lv' st' h') :
    ∃ tgt : Nat, (pc : Int) + off = (tgt : Int) ∧ (aj_test cnd x y = true → aj_Nx D cl cA S base stA nL p l e R s m args below meth c Q cells slots tgt lv1 st1 h1) ∧ (¬ aj_test cnd x y = true → aj_Nx D cl cA S base stA nL p l e R s m args below meth c Q cells slots (pc + 3) lv1 st1 h1) := by
  unfold aj_br at h0
  split at h0
  · rename_i hp
    refine ⟨((pc : Int) + off).toNat, by omega, ?_, ?_⟩
    · intro ht
      rw [if_pos ht] at h0
      exact aj_go_k h0 k
    · intro ht
      rw [if_neg ht] at h0
      exact aj_go_k h0 k
  · cases h0
theorem aj_test_t {cnd : ClassFile.Cond} {x y : Int32} : (aj_test cnd x y = true) ↔ (match cnd with | .eq => x = y | .ne => ¬ x = y | .lt => x < y | .ge => y ≤ x | .gt => y < x | .le => x ≤ y) := by
  cases cnd <;> simp [aj_test]
theorem aj_s_if (hC : aj_Cx rn D cl cA tb base stA sf nw Ts own cc nL p s m args c) {rc : Nat} {cls : List aj_C} {lk : List aj_L} {ret : Option FieldType} {isI : Bool} {cnd : ClassFile.Cond} {off : Int} {len : Nat} (hdg : decode cc pc = .ok (.ifCond cnd off, len))
    (h0 : aj_step rc cls tb lk nL ret isI (.ifCond cnd off) len pc lv st h = some (.inl ((pc', lv', st'), h', dc, ds)))
    (k : aj_Nx D cl cA tb.length base stA nL p l e R s m args below meth c Q (cells + dc) (slots + ds) pc' lv' st' h') : aj_Nx D cl cA tb.length base stA nL p l e R s m args below meth c Q cells slots pc lv st h := by
  obtain ⟨hx, hb, -, hown, -⟩ := hC
  intro ls H locs hl hR
  unfold aj_step at h0
  dsimp only at h0
  split at h0
  · try dsimp only at h0
    split at h0
    · rename_i hlen
      subst hlen
      obtain ⟨tgt, ht, k1, k2⟩ := aj_br_k h0 k
      simp only [aj_test_t] at k1 k2
      cases cnd
      · exact lv_if_eq hx hb hdg ht (fun q => k1 q ls H locs hl hR) (fun q => k2 q ls H locs hl hR)
      · exact lv_if_ne hx hb hdg ht (fun q => k1 q ls H locs hl hR) (fun q => k2 (fun z => z q) ls H locs hl hR)
      · exact lv_if_lt hx hb hdg ht (fun q => k1 q ls H locs hl hR) (fun q => k2 q ls H locs hl hR)
      · exact lv_if_ge hx hb hdg ht (fun q => k1 q ls H locs hl hR) (fun q => k2 q ls H locs hl hR)
      · exact lv_if_gt hx hb hdg ht (fun q => k1 q ls H locs hl hR) (fun q => k2 q ls H locs hl hR)
      · exact lv_if_le hx hb hdg ht (fun q => k1 q ls H locs hl hR) (fun q => k2 q ls H locs hl hR)
    · cases h0
  · cases h0
theorem aj_s_icmp (hC : aj_Cx rn D cl cA tb base stA sf nw Ts own cc nL p s m args c) {rc : Nat} {cls : List aj_C} {lk : List aj_L} {ret : Option FieldType} {isI : Bool} {cnd : ClassFile.Cond} {off : Int} {len : Nat} (hdg : decode cc pc = .ok (.if_icmp cnd off, len))
    (h0 : aj_step rc cls tb lk nL ret isI (.if_icmp cnd off) len pc lv st h = some (.inl ((pc', lv', st'), h', dc, ds)))
    (k : aj_Nx D cl cA tb.length base stA nL p l e R s m args below meth c Q (cells + dc) (slots + ds) pc' lv' st' h') : aj_Nx D cl cA tb.length base stA nL p l e R s m args below meth c Q cells slots pc lv st h := by
  obtain ⟨hx, hb, -, hown, -⟩ := hC
  intro ls H locs hl hR
  unfold aj_step at h0
  dsimp only at h0
  split at h0
  · try dsimp only at h0
    split at h0
    · rename_i hlen
      subst hlen
      obtain ⟨tgt, ht, k1, k2⟩ := aj_br_k h0 k
      simp only [aj_test_t] at k1 k2
      cases cnd
      · exact lv_icmp_eq hx hb hdg ht (fun q => k1 q ls H locs hl hR) (fun q => k2 q ls H locs hl hR)
      · exact lv_icmp_ne hx hb hdg ht (fun q => k1 q ls H locs hl hR) (fun q => k2 (fun z => z q) ls H locs hl hR)
      · exact lv_icmp_lt hx hb hdg ht (fun q => k1 q ls H locs hl hR) (fun q => k2 q ls H locs hl hR)
      · exact lv_icmp_ge hx hb hdg ht (fun q => k1 q ls H locs hl hR) (fun q => k2 q ls H locs hl hR)
      · exact lv_icmp_gt hx hb hdg ht (fun q => k1 q ls H locs hl hR) (fun q => k2 q ls H locs hl hR)
      · exact lv_icmp_le hx hb hdg ht (fun q => k1 q ls H locs hl hR) (fun q => k2 q ls H locs hl hR)
    · cases h0
  · cases h0
theorem aj_s_goto (hC : aj_Cx rn D cl cA tb base stA sf nw Ts own cc nL p s m args c) {rc : Nat} {cls : List aj_C} {lk : List aj_L} {ret : Option FieldType} {isI : Bool} {off : Int} {len : Nat} (hdg : decode cc pc = .ok (.goto off, len))
    (h0 : aj_step rc cls tb lk nL ret isI (.goto off) len pc lv st h = some (.inl ((pc', lv', st'), h', dc, ds)))
    (k : aj_Nx D cl cA tb.length base stA nL p l e R s m args below meth c Q (cells + dc) (slots + ds) pc' lv' st' h') : aj_Nx D cl cA tb.length base stA nL p l e R s m args below meth c Q cells slots pc lv st h := by
  obtain ⟨hx, hb, -, hown, -⟩ := hC
  intro ls H locs hl hR
  unfold aj_step at h0
  dsimp only at h0
  split at h0
  · rename_i hlen
    subst hlen
    obtain ⟨tgt, ht, kk⟩ := aj_jump_k h0 k
    exact lv_goto hx hb hdg ht (kk ls H locs hl hR)
  · cases h0
theorem aj_s_ifnull (hC : aj_Cx rn D cl cA tb base stA sf nw Ts own cc nL p s m args c) {rc : Nat} {cls : List aj_C} {lk : List aj_L} {ret : Option FieldType} {isI : Bool} {off : Int} {len : Nat} (hdg : decode cc pc = .ok (.ifnull off, len))
    (h0 : aj_step rc cls tb lk nL ret isI (.ifnull off) len pc lv st h = some (.inl ((pc', lv', st'), h', dc, ds)))
    (k : aj_Nx D cl cA tb.length base stA nL p l e R s m args below meth c Q (cells + dc) (slots + ds) pc' lv' st' h') : aj_Nx D cl cA tb.length base stA nL p l e R s m args below meth c Q cells slots pc lv st h := by
  obtain ⟨hx, hb, -, hown, -⟩ := hC
  intro ls H locs hl hR
  unfold aj_step at h0
  dsimp only at h0
  split at h0
  · try dsimp only at h0
    split at h0
    · rename_i hlen
      subst hlen
      obtain ⟨tgt, ht, kk⟩ := aj_jump_k h0 k
      exact lv_ifnullN hx hb hdg ht (kk ls H locs hl hR)
    · cases h0
  · try dsimp only at h0
    split at h0
    · rename_i hlen
      subst hlen
      exact lv_ifnull hx hb hdg (aj_go_k h0 k ls H locs hl hR)
    · cases h0
  · cases h0
theorem aj_s_ifnonnull (hC : aj_Cx rn D cl cA tb base stA sf nw Ts own cc nL p s m args c) {rc : Nat} {cls : List aj_C} {lk : List aj_L} {ret : Option FieldType} {isI : Bool} {off : Int} {len : Nat} (hdg : decode cc pc = .ok (.ifnonnull off, len))
    (h0 : aj_step rc cls tb lk nL ret isI (.ifnonnull off) len pc lv st h = some (.inl ((pc', lv', st'), h', dc, ds)))
    (k : aj_Nx D cl cA tb.length base stA nL p l e R s m args below meth c Q (cells + dc) (slots + ds) pc' lv' st' h') : aj_Nx D cl cA tb.length base stA nL p l e R s m args below meth c Q cells slots pc lv st h := by
  obtain ⟨hx, hb, -, hown, -⟩ := hC
  intro ls H locs hl hR
  unfold aj_step at h0
  dsimp only at h0
  split at h0
  · try dsimp only at h0
    split at h0
    · rename_i hlen
      subst hlen
      exact lv_ifnonnullN hx hb hdg (aj_go_k h0 k ls H locs hl hR)
    · cases h0
  · try dsimp only at h0
    split at h0
    · rename_i hlen
      subst hlen
      obtain ⟨tgt, ht, kk⟩ := aj_jump_k h0 k
      exact lv_ifnonnull hx hb hdg ht (kk ls H locs hl hR)
    · cases h0
  · cases h0
theorem aj_s_table (hC : aj_Cx rn D cl cA tb base stA sf nw Ts own cc nL p s m args c) {rc : Nat} {cls : List aj_C} {lk : List aj_L} {ret : Option FieldType} {isI : Bool} {dflt lo hi : Int} {offs : Array Int} {len : Nat} (hdg : decode cc pc = .ok (.tableswitch dflt lo hi offs, len))
    (h0 : aj_step rc cls tb lk nL ret isI (.tableswitch dflt lo hi offs) len pc lv st h = some (.inl ((pc', lv', st'), h', dc, ds)))
    (k : aj_Nx D cl cA tb.length base stA nL p l e R s m args below meth c Q (cells + dc) (slots + ds) pc' lv' st' h') : aj_Nx D cl cA tb.length base stA nL p l e R s m args below meth c Q cells slots pc lv st h := by
  obtain ⟨hx, hb, -, hown, -⟩ := hC
  intro ls H locs hl hR
  unfold aj_step at h0
  dsimp only at h0
  split at h0
  · try dsimp only at h0
    split at h0
    · rename_i hq
      obtain ⟨tgt, ht, kk⟩ := aj_jump_k h0 k
      exact lv_tableOut hx hb hdg hq ht (kk ls H locs hl hR)
    · rename_i hq
      split at h0
      · rename_i off ho
        obtain ⟨tgt, ht, kk⟩ := aj_jump_k h0 k
        exact lv_tableIn hx hb hdg (fun z => hq (Or.inl z)) (fun z => hq (Or.inr z)) ho ht (kk ls H locs hl hR)
      · cases h0
  · cases h0
theorem aj_s_lookup (hC : aj_Cx rn D cl cA tb base stA sf nw Ts own cc nL p s m args c) {rc : Nat} {cls : List aj_C} {lk : List aj_L} {ret : Option FieldType} {isI : Bool} {dflt : Int} {ps : Array (Int × Int)} {len : Nat} (hdg : decode cc pc = .ok (.lookupswitch dflt ps, len))
    (h0 : aj_step rc cls tb lk nL ret isI (.lookupswitch dflt ps) len pc lv st h = some (.inl ((pc', lv', st'), h', dc, ds)))
    (k : aj_Nx D cl cA tb.length base stA nL p l e R s m args below meth c Q (cells + dc) (slots + ds) pc' lv' st' h') : aj_Nx D cl cA tb.length base stA nL p l e R s m args below meth c Q cells slots pc lv st h := by
  obtain ⟨hx, hb, -, hown, -⟩ := hC
  intro ls H locs hl hR
  unfold aj_step at h0
  dsimp only at h0
  split at h0
  · try dsimp only at h0
    split at h0
    · rename_i hq
      obtain ⟨tgt, ht, kk⟩ := aj_jump_k h0 k
      exact lv_lookup hx hb hdg hq rfl ht (kk ls H locs hl hR)
    · cases h0
  · cases h0
end AJSTEP
