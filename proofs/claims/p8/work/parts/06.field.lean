/-- the tables: each class's rows, each link's words -/
def aj_clsOK (Ts : List Cond) (cl : List vw_C) (cls : List aj_C) : Prop := ∀ (ci : Nat) (q : aj_C), cls[ci]? = some q → cl[ci]? = some (q.1, q.2.1, q.2.2.1) ∧ (∀ w ∈ u_ws q.1 q.2.1 q.2.2.1, w ∈ Ts) ∧ (∀ k, k < q.2.2.1 → parseFieldDescriptor (q.2.1 k).2.2.1 = some (q.2.2.2 k)) ∧ (∀ a, a < q.2.2.1 → ∀ b, b < q.2.2.1 → a ≠ b → (q.2.1 a).2.1 ≠ (q.2.1 b).2.1)
/-- what stands behind a link of the class own -/
def aj_lkOK (Ts nw : List Cond) (cls : List aj_C) (mt : List aj_M) (sf : List (String × String × String)) (own : String) (i kind a b : Nat) (v : Int) : Prop :=
  (kind = 0 → ∃ q : aj_C, cls[a]? = some q ∧ b < q.2.2.1 ∧ Cond.fieldLink own i (q.2.1 b).1 (q.2.1 b).2.1 (q.2.1 b).2.2.1 ∈ Ts ∧ (v = 0 → (q.2.1 b).2.2.2 = false) ∧ (v = 1 → (q.2.1 b).2.2.2 = true ∧ (q.2.1 b).1 = own)) ∧
  (kind = 1 → ∃ q : aj_C, cls[a]? = some q ∧ b < q.2.2.1 ∧ (∃ host : String, Cond.fieldLinkNest own i (q.2.1 b).1 (q.2.1 b).2.1 (q.2.1 b).2.2.1 host ∈ nw) ∧ (v = 0 → (q.2.1 b).2.2.2 = false)) ∧
  (kind = 2 → ∃ m : aj_M, mt[a]? = some m ∧ (∃ q : aj_C, cls[v.toNat]? = some q ∧ q.1 = m.1.cls) ∧ b = m.2.2.2.2.1 ∧ Cond.methodLink own i m.1 ∈ Ts ∧ Cond.instanceMethod m.1 ∈ Ts ∧ Cond.selects m.1.cls m.1 m.1 ∈ Ts ∧ Cond.initialized m.1.cls ∈ Ts) ∧
  (kind = 3 → ∃ m : aj_M, mt[a]? = some m ∧ b = m.2.2.2.2.1 ∧ m.1.name = "<init>" ∧ m.2.2.2.1 = none ∧ Cond.methodLink own i m.1 ∈ Ts ∧ Cond.instanceMethod m.1 ∈ Ts ∧ Cond.initialized m.1.cls ∈ Ts) ∧
  (kind = 4 → ∃ m : aj_M, mt[a]? = some m ∧ b = m.2.2.2.2.1 ∧ m.1.name = "<init>" ∧ m.2.2.2.1 = none ∧ (∃ host : String, Cond.methodLinkNest own i m.1 host ∈ nw) ∧ Cond.instanceMethod m.1 ∈ Ts ∧ Cond.initialized m.1.cls ∈ Ts) ∧
  (kind = 5 → b = 0 ∧ Cond.methodLink own i Lib.objectInit ∈ Ts ∧ Cond.instanceMethod Lib.objectInit ∈ Ts ∧ Cond.code Lib.objectInit ⟨#[0xb1]⟩ 1 none ∈ Ts) ∧
  (kind = 6 → ∃ m : aj_M, mt[a]? = some m ∧ b = m.2.2.2.2.1 ∧ Cond.methodLink own i m.1 ∈ Ts ∧ Cond.static m.1 ∈ Ts ∧ Cond.initialized m.1.cls ∈ Ts) ∧
  (kind = 9 → ∃ q : String × String × String, sf[a]? = some q ∧ Cond.fieldLink own i q.1 q.2.1 q.2.2 ∈ Ts) ∧
  (kind = 10 → Cond.constant own i (Int32.ofInt v) ∈ Ts) ∧
  (kind = 11 → Cond.constantLong own i (Int64.ofInt v) ∈ Ts) ∧
  (kind = 12 → ∃ q : aj_C, cls[a]? = some q ∧ Cond.classLink own i q.1 ∈ Ts ∧ Cond.instantiable q.1 q.2.2.1 ∈ Ts ∧ Cond.initialized q.1 ∈ Ts) ∧
  (kind = 7 → Cond.methodLink own i Lib.Math.min.name ∈ Ts ∧ Cond.static Lib.Math.min.name ∈ Ts ∧ Cond.initialized "java/lang/Math" ∈ Ts ∧ Cond.code Lib.Math.min.name Lib.Math.min.code 2 (some .int) ∈ Ts) ∧
  (kind = 8 → Cond.methodLink own i Lib.Math.max.name ∈ Ts ∧ Cond.static Lib.Math.max.name ∈ Ts ∧ Cond.initialized "java/lang/Math" ∈ Ts ∧ Cond.code Lib.Math.max.name Lib.Math.max.code 2 (some .int) ∈ Ts) ∧
  (kind = 13 → Cond.methodLink own i arraycopyName ∈ Ts ∧ Cond.native arraycopyName ∈ Ts ∧ Cond.static arraycopyName ∈ Ts ∧ Cond.initialized "java/lang/System" ∈ Ts)
def aj_lksOK (Ts nw : List Cond) (cls : List aj_C) (mt : List aj_M) (sf : List (String × String × String)) (own : String) (lk : List aj_L) : Prop := ∀ (i kind a b : Nat) (v : Int), aj_link lk i = some (kind, a, b, v) → aj_lkOK Ts nw cls mt sf own i kind a b v
theorem aj_fit_ok {ty : FieldType} {v : Value} (h : aj_fit ty v = true) (ad : Nat → Nat) : narrow ty (aj_c ad v) = aj_c ad v ∧ fits ty (aj_c ad v) = true := by
  cases ty <;> cases v <;> first
    | exact ⟨rfl, rfl⟩
    | exact absurd h Bool.false_ne_true
    | skip
  · simp only [aj_fit, Bool.and_eq_true, decide_eq_true_eq] at h
    refine ⟨?_, ?_⟩
    · show Value.int _ = Value.int _
      rw [h.1]
    · show (decide _ && decide _) = true
      simp [h.2.1, h.2.2]
  · simp only [aj_fit, Bool.or_eq_true, decide_eq_true_eq] at h
    rcases h with rfl | rfl <;> exact ⟨rfl, rfl⟩
section AJFIELD
variable {rn : String} {D : va_G} {cl : List vw_C} {cA : Nat → ClassId} {tb : aj_T} {base : Nat} {stA : Nat → Nat} {sf : List (String × String × String)} {nw Ts : List Cond} {own : String} {cc : ByteArray} {nL S : Nat} {mt : List aj_M}
variable {p : Program} {l : Launch} {e : Env} {R : Room} {s : State} {m : MethodId} {args : Array Value} {below : List Frame} {meth : Method} {c : Code} {Q : State → Prop} {cells slots pc pc' dc ds : Nat} {lv lv' : aj_V} {st st' : List Value} {h h' : aj_H}
theorem aj_s_getfield (hC : aj_Cx rn D cl cA tb base stA sf nw Ts own cc nL p s m args c) {rc : Nat} {cls : List aj_C} (hcls : aj_clsOK Ts cl cls) {lk : List aj_L} (hlk : aj_lksOK Ts nw cls mt sf own lk) {ret : Option FieldType} {isI : Bool} {idx len : Nat} (hdg : decode cc pc = .ok (.getfield idx, len))
    (h0 : aj_step rc cls tb lk nL ret isI (.getfield idx) len pc lv st h = some (.inl ((pc', lv', st'), h', dc, ds)))
    (k : aj_Nx D cl cA tb.length base stA nL p l e R s m args below meth c Q (cells + dc) (slots + ds) pc' lv' st' h') : aj_Nx D cl cA tb.length base stA nL p l e R s m args below meth c Q cells slots pc lv st h := by
  obtain ⟨hx, hb, -, hown, hts, hK, hZ, hN, -⟩ := hC
  intro ls H locs hl hR
  unfold aj_step at h0
  dsimp only at h0
  split at h0
  · rename_i hlen
    subst hlen
    unfold aj_getf at h0
    split at h0
    · rename_i r rest
      split at h0
      · rename_i kind ci k1 v1 ci' fs hlink hobj
        split at h0
        · rename_i v hv
          split at h0
          · rename_i hq
            obtain ⟨hkind, rfl⟩ := hq
            have go := aj_go_k h0 k ls H locs hl hR
            obtain ⟨hr, hobj⟩ := aj_obj_k hobj
            have hok := hlk _ _ _ _ _ hlink
            show W p l e R s m args below meth c H locs cells slots Q (F0 m pc ls (aj_c (aj_ad tb.length base stA) (.ref r) :: rest.map (aj_c (aj_ad tb.length base stA))))
            rw [aj_c_dyn hr]
            have hfv : (fs.map (aj_c (aj_ad tb.length base stA)))[k1]? = some (aj_c (aj_ad tb.length base stA) v) := by rw [List.getElem?_map, hv]; rfl
            rcases (by omega : kind = 0 ∨ kind = 1) with rfl | rfl
            · obtain ⟨q, hq, hk, hw, -⟩ := hok.1 rfl
              obtain ⟨g1, g2, -⟩ := hcls _ _ hq
              exact va_get hx hb hts g2 hown hK.1 hR.2.1 _ (aj_ws_get hobj) g1 k1 hk (hts _ hw) (fun _ z => z) hfv hdg go
            · obtain ⟨q, hq, hk, ⟨host, hw⟩, -⟩ := hok.2.1 rfl
              obtain ⟨g1, g2, -⟩ := hcls _ _ hq
              exact va_getN hx hb hts g2 hown hK.1 hR.2.1 _ (aj_ws_get hobj) g1 k1 hk (va_Nw.use rfl (hN _ hw)) (fun _ z => z) hfv hdg go
          · cases h0
        · cases h0
      · cases h0
    · cases h0
  · cases h0
theorem aj_s_putfield (hC : aj_Cx rn D cl cA tb base stA sf nw Ts own cc nL p s m args c) {rc : Nat} {cls : List aj_C} (hcls : aj_clsOK Ts cl cls) {lk : List aj_L} (hlk : aj_lksOK Ts nw cls mt sf own lk) {ret : Option FieldType} {isI : Bool} (hI : isI = true → meth.name = "<init>") {idx len : Nat} (hdg : decode cc pc = .ok (.putfield idx, len))
    (h0 : aj_step rc cls tb lk nL ret isI (.putfield idx) len pc lv st h = some (.inl ((pc', lv', st'), h', dc, ds)))
    (k : aj_Nx D cl cA tb.length base stA nL p l e R s m args below meth c Q (cells + dc) (slots + ds) pc' lv' st' h') : aj_Nx D cl cA tb.length base stA nL p l e R s m args below meth c Q cells slots pc lv st h := by
  obtain ⟨hx, hb, -, hown, hts, hK, hZ, hN, -⟩ := hC
  intro ls H locs hl hR
  unfold aj_step at h0
  dsimp only at h0
  split at h0
  · rename_i hlen
    subst hlen
    unfold aj_putf at h0
    split at h0
    · rename_i v r rest
      split at h0
      · rename_i kind ci k1 fin ci' fs hlink hobj
        split at h0
        · rename_i C0 T0 N0 ty0 hc0
          split at h0
          · rename_i hq
            obtain ⟨hkind, rfl, hlen2, hfit, hfin⟩ := hq
            have go := aj_go_k h0 k
            obtain ⟨hr, hobj⟩ := aj_obj_k hobj
            have hok := hlk _ _ _ _ _ hlink
            show W p l e R s m args below meth c H locs cells slots Q (F0 m pc ls (aj_c (aj_ad tb.length base stA) v :: aj_c (aj_ad tb.length base stA) (.ref r) :: rest.map (aj_c (aj_ad tb.length base stA))))
            rw [aj_c_dyn hr]
            obtain ⟨hn, hft⟩ := aj_fit_ok hfit (aj_ad tb.length base stA)
            have hset : aj_ce (aj_ad tb.length base stA) cA (.inr (ci', fs.set k1 v)) = .inr (ci', (fs.map (aj_c (aj_ad tb.length base stA))).set k1 (aj_c (aj_ad tb.length base stA) v)) := by simp [aj_ce, List.map_set]
            have hll : k1 < (fs.map (aj_c (aj_ad tb.length base stA))).length := by simpa using hlen2
            rcases (by omega : kind = 0 ∨ kind = 1) with rfl | rfl
            · obtain ⟨q, hq, hk, hw, hf0, hf1⟩ := hok.1 rfl
              rw [hc0] at hq
              cases hq
              obtain ⟨g1, g2, g3, g4⟩ := hcls _ _ hc0
              rcases hfin with rfl | ⟨rfl, -, hi⟩
              · exact va_put hx hb hts g2 ty0 g3 g4 hown hK.1 hR.2.1 (aj_D h) hR.2.2 _ (aj_ws_get hobj) g1 k1 hk (hts _ hw) (fun _ z => z) (hf0 rfl) (g3 k1 hk) hn hft hll hdg (fun H1 locs1 z1 _ z3 => go ls H1 locs1 hl (aj_Rw_set hR (by rw [hset]; exact z1) z3))
              · obtain ⟨w1, w2⟩ := hf1 rfl
                exact va_putF hx hb hts g2 ty0 g3 g4 hown hK.1 hR.2.1 (aj_D h) hR.2.2 _ (aj_ws_get hobj) g1 k1 hk (hts _ hw) (fun _ z => z) w1 (hI hi) w2 (g3 k1 hk) hn hft hll hdg (fun H1 locs1 z1 _ z3 => go ls H1 locs1 hl (aj_Rw_set hR (by rw [hset]; exact z1) z3))
            · obtain ⟨q, hq, hk, ⟨host, hw⟩, hf0⟩ := hok.2.1 rfl
              rw [hc0] at hq
              cases hq
              obtain ⟨g1, g2, g3, g4⟩ := hcls _ _ hc0
              rcases hfin with rfl | ⟨rfl, z, hi⟩
              · exact va_putN hx hb hts g2 ty0 g3 g4 hown hK.1 hR.2.1 (aj_D h) hR.2.2 _ (aj_ws_get hobj) g1 k1 hk (va_Nw.use rfl (hN _ hw)) (fun _ z => z) (hf0 rfl) (g3 k1 hk) hn hft hll hdg (fun H1 locs1 z1 _ z3 => go ls H1 locs1 hl (aj_Rw_set hR (by rw [hset]; exact z1) z3))
              · exact absurd z (by decide)
          · cases h0
        · cases h0
      · cases h0
    · cases h0
  · cases h0
end AJFIELD
