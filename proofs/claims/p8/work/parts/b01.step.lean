/-! STEPS: a run of a frame from here, in less than N steps, ends so -/
/-- what a cell is stays -/
def fx_le (X X1 : fx_X) : Prop := X.2.2.2.2 ≤ X1.2.2.2.2 ∧ ∀ r, (X.2.2.2.1 r).1 ≠ 9 → X1.2.2.2.1 r = X.2.2.2.1 r
theorem fx_le_rf {X : fx_X} : fx_le X X := ⟨Nat.le_refl _, fun _ _ => rfl⟩
theorem fx_le_tr {X X1 X2 : fx_X} (h1 : fx_le X X1) (h2 : fx_le X1 X2) : fx_le X X2 := ⟨Nat.le_trans h1.1 h2.1, fun r hr => (h2.2 r (by rw [h1.2 r hr]; exact hr)).trans (h1.2 r hr)⟩
theorem fx_le_eq {X X1 : fx_X} (h : X1.2.2.2 = X.2.2.2) : fx_le X X1 := ⟨by rw [h]; exact Nat.le_refl _, fun r _ => by rw [h]⟩
def fx_W (tb : aj_T) (mm : aj_M) (N pc : Nat) (lv : aj_V) (st : List Value) (X : fx_X) (Q : Option Value → fx_X → Prop) : Prop := ∀ n, n < N → ∀ (deep : Bool) (call : Nat → List Value → aj_H → Nat → Nat → Option Value → aj_H → Prop) (h : aj_H) (kc ks mc ms : Nat) (r : Option Value) (hF : aj_H), (∀ mi as h mc ms r h', call mi as h mc ms r h' → ∃ d, aj_runs aj_rc aj_cls tb aj_mt d mi as h mc ms r h') → fx_T tb h → fx_V tb h = X → aj_frm aj_rc aj_cls tb mm false deep call n pc lv st h kc ks mc ms r hF → fx_T tb hF ∧ fx_le X (fx_V tb hF) ∧ Q r (fx_V tb hF)
/-- a method's run ends so -/
def fx_K (tb : aj_T) (i : Nat) (as : List Value) (X : fx_X) (Q : Option Value → fx_X → Prop) : Prop := ∀ (d : Nat) (h : aj_H) (mc ms : Nat) (r : Option Value) (h' : aj_H), fx_T tb h → fx_V tb h = X → aj_runs aj_rc aj_cls tb aj_mt d i as h mc ms r h' → fx_T tb h' ∧ fx_le X (fx_V tb h') ∧ Q r (fx_V tb h')
section FX1
variable {tb : aj_T} {mm : aj_M} {M N pc pc' : Nat} {lv lv' : aj_V} {st st' rest : List Value} {X : fx_X} {Q Q' : Option Value → fx_X → Prop} {ct : List (Nat × Instr × Nat)} {i : Instr} {len : Nat}
theorem fx_m {k : Nat} {as : List Value} (hm : aj_mt[k]? = some mm) (hi : aj_isI mm = false) (kk : ∀ N, fx_W tb mm N 0 (lv_args 0 as) [] X Q) : fx_K tb k as X Q := by
  intro d h mc ms r h' hT hV q
  cases d with
  | zero =>
    obtain ⟨m, e, -, n, q⟩ := q
    rw [hm] at e
    cases e
    rw [hi] at q
    exact kk (n + 1) n (Nat.lt_succ_self _) false _ h 0 0 mc ms r h' (fun _ _ _ _ _ _ _ z => z.elim) hT hV q
  | succ d =>
    obtain ⟨m, e, -, n, q⟩ := q
    rw [hm] at e
    cases e
    rw [hi] at q
    exact kk (n + 1) n (Nat.lt_succ_self _) true _ h 0 0 mc ms r h' (fun _ _ _ _ _ _ _ z => ⟨d, z⟩) hT hV q
theorem fx_mono (hq : ∀ r X', Q r X' → Q' r X') (k : fx_W tb mm N pc lv st X Q) : fx_W tb mm N pc lv st X Q' := fun n hn deep call h kc ks mc ms r hF hc hT hV q => ⟨(k n hn deep call h kc ks mc ms r hF hc hT hV q).1, (k n hn deep call h kc ks mc ms r hF hc hT hV q).2.1, hq _ _ (k n hn deep call h kc ks mc ms r hF hc hT hV q).2.2⟩
theorem fx_z : fx_W tb mm 0 pc lv st X Q := fun n hn => absurd hn (Nat.not_lt_zero n)
/-- any step that stays in the frame -/
theorem fx_g0 (hct : aj_ctOK ct mm.2.1) (hd : aj_ct ct pc = some (i, len)) (hM : M ≤ N + 1) (hs : ∀ h, fx_T tb h → fx_V tb h = X → ∀ out, aj_step aj_rc aj_cls tb mm.2.2.2.2.2.1 mm.2.2.1 mm.2.2.2.1 false i len pc lv st h = some out → (∃ v, out = .inr (.inr v) ∧ Q v X) ∨ ∃ (pc' : Nat) (lv' : aj_V) (st' : List Value) (h' : aj_H) (dc ds : Nat), out = .inl ((pc', lv', st'), h', dc, ds) ∧ fx_T tb h' ∧ fx_le X (fx_V tb h') ∧ fx_W tb mm N pc' lv' st' (fx_V tb h') Q) : fx_W tb mm M pc lv st X Q := by
  intro n hn deep call h kc ks mc ms r hF hc hT hV q
  cases n with
  | zero => exact q.elim
  | succ n =>
    unfold aj_frm at q
    rw [aj_ct_ok hct hd] at q
    dsimp only at q
    cases ho : aj_step aj_rc aj_cls tb mm.2.2.2.2.2.1 mm.2.2.1 mm.2.2.2.1 false i len pc lv st h with
    | none => rw [ho] at q; exact q.elim
    | some out =>
      rw [ho] at q
      rcases hs h hT hV out ho with ⟨v, rfl, hq⟩ | ⟨pc', lv', st', h', dc, ds, rfl, hT', hle, k⟩
      · obtain ⟨rfl, rfl, -⟩ := q
        exact ⟨hT, by rw [hV]; exact fx_le_rf, by rw [hV]; exact hq⟩
      · obtain ⟨p1, p2, p3⟩ := k n (by omega) deep call h' _ _ _ _ _ _ hc hT' rfl q.2.2
        exact ⟨p1, fx_le_tr hle p2, p3⟩
theorem fx_n (hct : aj_ctOK ct mm.2.1) (hd : aj_ct ct pc = some (i, len)) (hM : M ≤ N + 1) (hs : ∀ h, aj_step aj_rc aj_cls tb mm.2.2.2.2.2.1 mm.2.2.1 mm.2.2.2.1 false i len pc lv st h = some (.inl ((pc', lv', st'), h, 0, 0))) (k : fx_W tb mm N pc' lv' st' X Q) : fx_W tb mm M pc lv st X Q :=
  fx_g0 hct hd hM fun h hT hV out ho => by
    rw [hs h] at ho
    cases ho
    exact Or.inr ⟨_, _, _, _, _, _, rfl, hT, by rw [hV]; exact fx_le_rf, by rw [hV]; exact k⟩
/-- no step is possible -/
theorem fx_d (hct : aj_ctOK ct mm.2.1) (hd : aj_ct ct pc = some (i, len)) (hs : ∀ h, aj_step aj_rc aj_cls tb mm.2.2.2.2.2.1 mm.2.2.1 mm.2.2.2.1 false i len pc lv st h = none) : fx_W tb mm M pc lv st X Q :=
  fx_g0 (N := M) hct hd (Nat.le_succ _) fun h hT hV out ho => by
    rw [hs h] at ho
    cases ho
theorem fx_i0 (hct : aj_ctOK ct mm.2.1) (hd : aj_ct ct pc = some (i, len)) (hM : M ≤ N + 1) {j : Nat} (hi : ∀ h, aj_step aj_rc aj_cls tb mm.2.2.2.2.2.1 mm.2.2.1 mm.2.2.2.1 false i len pc lv st h = aj_load pc lv st h len j 0) {x : Int32} (hv : aj_lv lv j = some (.int x)) (k : fx_W tb mm N (pc + len) lv (.int x :: st) X Q) : fx_W tb mm M pc lv st X Q :=
  fx_n hct hd hM (fun h => by rw [hi]; unfold aj_load; rw [hv]; rfl) k
theorem fx_i1 (hct : aj_ctOK ct mm.2.1) (hd : aj_ct ct pc = some (i, len)) (hM : M ≤ N + 1) {j : Nat} (hi : ∀ h, aj_step aj_rc aj_cls tb mm.2.2.2.2.2.1 mm.2.2.1 mm.2.2.2.1 false i len pc lv st h = aj_load pc lv st h len j 1) {x : Int64} (hv : aj_lv lv j = some (.long x)) (k : fx_W tb mm N (pc + len) lv (.long x :: st) X Q) : fx_W tb mm M pc lv st X Q :=
  fx_n hct hd hM (fun h => by rw [hi]; unfold aj_load; rw [hv]; rfl) k
theorem fx_i2 (hct : aj_ctOK ct mm.2.1) (hd : aj_ct ct pc = some (i, len)) (hM : M ≤ N + 1) {j : Nat} (hi : ∀ h, aj_step aj_rc aj_cls tb mm.2.2.2.2.2.1 mm.2.2.1 mm.2.2.2.1 false i len pc lv st h = aj_load pc lv st h len j 2) {x : Nat} (hv : aj_lv lv j = some (.ref x)) (k : fx_W tb mm N (pc + len) lv (.ref x :: st) X Q) : fx_W tb mm M pc lv st X Q :=
  fx_n hct hd hM (fun h => by rw [hi]; unfold aj_load; rw [hv]; rfl) k
theorem fx_i3 (hct : aj_ctOK ct mm.2.1) (hd : aj_ct ct pc = some (i, len)) (hM : M ≤ N + 1) {j : Nat} (hi : ∀ h, aj_step aj_rc aj_cls tb mm.2.2.2.2.2.1 mm.2.2.1 mm.2.2.2.1 false i len pc lv st h = aj_load pc lv st h len j 2) (hv : aj_lv lv j = some .null) (k : fx_W tb mm N (pc + len) lv (.null :: st) X Q) : fx_W tb mm M pc lv st X Q :=
  fx_n hct hd hM (fun h => by rw [hi]; unfold aj_load; rw [hv]; rfl) k
theorem fx_s0 (hct : aj_ctOK ct mm.2.1) (hd : aj_ct ct pc = some (i, len)) (hM : M ≤ N + 1) {j : Nat} (hj : j < mm.2.2.1) {x : Int32} (hi : ∀ h, aj_step aj_rc aj_cls tb mm.2.2.2.2.2.1 mm.2.2.1 mm.2.2.2.1 false i len pc lv (.int x :: st) h = aj_store mm.2.2.1 pc lv (.int x :: st) h len j 0) (k : fx_W tb mm N (pc + len) (aj_set1 lv j (.int x)) st X Q) : fx_W tb mm M pc lv (.int x :: st) X Q :=
  fx_n hct hd hM (fun h => by rw [hi]; unfold aj_store; dsimp only; rw [if_pos ⟨rfl, hj⟩]; rfl) k
theorem fx_s1 (hct : aj_ctOK ct mm.2.1) (hd : aj_ct ct pc = some (i, len)) (hM : M ≤ N + 1) {j : Nat} (hj : j + 1 < mm.2.2.1) {x : Int64} (hi : ∀ h, aj_step aj_rc aj_cls tb mm.2.2.2.2.2.1 mm.2.2.1 mm.2.2.2.1 false i len pc lv (.long x :: st) h = aj_store mm.2.2.1 pc lv (.long x :: st) h len j 1) (k : fx_W tb mm N (pc + len) (aj_set2 lv j (.long x)) st X Q) : fx_W tb mm M pc lv (.long x :: st) X Q :=
  fx_n hct hd hM (fun h => by rw [hi]; unfold aj_store; dsimp only; rw [if_pos ⟨rfl, hj⟩]; rfl) k
theorem fx_s2 (hct : aj_ctOK ct mm.2.1) (hd : aj_ct ct pc = some (i, len)) (hM : M ≤ N + 1) {j : Nat} (hj : j < mm.2.2.1) {x : Nat} (hi : ∀ h, aj_step aj_rc aj_cls tb mm.2.2.2.2.2.1 mm.2.2.1 mm.2.2.2.1 false i len pc lv (.ref x :: st) h = aj_store mm.2.2.1 pc lv (.ref x :: st) h len j 2) (k : fx_W tb mm N (pc + len) (aj_set1 lv j (.ref x)) st X Q) : fx_W tb mm M pc lv (.ref x :: st) X Q :=
  fx_n hct hd hM (fun h => by rw [hi]; unfold aj_store; dsimp only; rw [if_pos ⟨rfl, hj⟩]; rfl) k
theorem fx_s3 (hct : aj_ctOK ct mm.2.1) (hd : aj_ct ct pc = some (i, len)) (hM : M ≤ N + 1) {j : Nat} (hj : j < mm.2.2.1) (hi : ∀ h, aj_step aj_rc aj_cls tb mm.2.2.2.2.2.1 mm.2.2.1 mm.2.2.2.1 false i len pc lv (.null :: st) h = aj_store mm.2.2.1 pc lv (.null :: st) h len j 2) (k : fx_W tb mm N (pc + len) (aj_set1 lv j .null) st X Q) : fx_W tb mm M pc lv (.null :: st) X Q :=
  fx_n hct hd hM (fun h => by rw [hi]; unfold aj_store; dsimp only; rw [if_pos ⟨rfl, hj⟩]; rfl) k
theorem fx_inc (hct : aj_ctOK ct mm.2.1) {j : Nat} {a : Int} (hd : aj_ct ct pc = some (.iinc j a, 3)) (hM : M ≤ N + 1) {x : Int32} (hv : aj_lv lv j = some (.int x)) (hj : j < mm.2.2.1) (k : fx_W tb mm N (pc + 3) (aj_set1 lv j (.int (x + Int32.ofInt a))) st X Q) : fx_W tb mm M pc lv st X Q :=
  fx_n hct hd hM (fun h => by unfold aj_step; dsimp only; rw [hv]; dsimp only; rw [if_pos ⟨rfl, hj⟩]; rfl) k
/-- branches -/
theorem fx_b (hct : aj_ctOK ct mm.2.1) {c : ClassFile.Cond} {off : Int} {tgt : Nat} (hd : aj_ct ct pc = some (.if_icmp c off, 3)) (hM : M ≤ N + 1) (ht : (pc : Int) + off = (tgt : Int)) {x y : Int32} (k1 : aj_test c x y = true → fx_W tb mm N tgt lv rest X Q) (k2 : aj_test c x y = false → fx_W tb mm N (pc + 3) lv rest X Q) : fx_W tb mm M pc lv (.int y :: .int x :: rest) X Q := by
  have h0 : ∀ h, aj_step aj_rc aj_cls tb mm.2.2.2.2.2.1 mm.2.2.1 mm.2.2.2.1 false (.if_icmp c off) 3 pc lv (.int y :: .int x :: rest) h = if 0 ≤ (pc : Int) + off then (if aj_test c x y = true then aj_go ((pc : Int) + off).toNat lv rest h else aj_go (pc + 3) lv rest h) else none := fun h => rfl
  cases hb : aj_test c x y with
  | true => exact fx_n hct hd hM (fun h => by rw [h0, if_pos (by omega), if_pos hb, ht]; rfl) (k1 hb)
  | false => exact fx_n hct hd hM (fun h => by rw [h0, if_pos (by omega), if_neg (by rw [hb]; decide)]; rfl) (k2 hb)
theorem fx_b0 (hct : aj_ctOK ct mm.2.1) {c : ClassFile.Cond} {off : Int} {tgt : Nat} (hd : aj_ct ct pc = some (.ifCond c off, 3)) (hM : M ≤ N + 1) (ht : (pc : Int) + off = (tgt : Int)) {x : Int32} (k1 : aj_test c x 0 = true → fx_W tb mm N tgt lv rest X Q) (k2 : aj_test c x 0 = false → fx_W tb mm N (pc + 3) lv rest X Q) : fx_W tb mm M pc lv (.int x :: rest) X Q := by
  have h0 : ∀ h, aj_step aj_rc aj_cls tb mm.2.2.2.2.2.1 mm.2.2.1 mm.2.2.2.1 false (.ifCond c off) 3 pc lv (.int x :: rest) h = if 0 ≤ (pc : Int) + off then (if aj_test c x 0 = true then aj_go ((pc : Int) + off).toNat lv rest h else aj_go (pc + 3) lv rest h) else none := fun h => rfl
  cases hb : aj_test c x 0 with
  | true => exact fx_n hct hd hM (fun h => by rw [h0, if_pos (by omega), if_pos hb, ht]; rfl) (k1 hb)
  | false => exact fx_n hct hd hM (fun h => by rw [h0, if_pos (by omega), if_neg (by rw [hb]; decide)]; rfl) (k2 hb)
theorem fx_ts (hct : aj_ctOK ct mm.2.1) {dflt lo hi : Int} {offs : Array Int} (hd : aj_ct ct pc = some (.tableswitch dflt lo hi offs, len)) (hM : M ≤ N + 1) {x : Int32} {a : Int} (hx : x.toInt = a) (h1 : lo ≤ a ∧ a ≤ hi) {off : Int} (ho : offs[(a - lo).toNat]? = some off) {tgt : Nat} (ht : (pc : Int) + off = (tgt : Int)) (k : fx_W tb mm N tgt lv rest X Q) : fx_W tb mm M pc lv (.int x :: rest) X Q := by
  refine fx_n hct hd hM (fun h => ?_) k
  unfold aj_step
  dsimp only
  rw [hx, if_neg (by omega), ho]
  unfold aj_jump
  dsimp only
  rw [if_pos (by omega), ht]
  rfl
theorem fx_td (hct : aj_ctOK ct mm.2.1) {dflt lo hi : Int} {offs : Array Int} (hd : aj_ct ct pc = some (.tableswitch dflt lo hi offs, len)) (hM : M ≤ N + 1) {x : Int32} (h1 : x.toInt < lo ∨ hi < x.toInt) {tgt : Nat} (ht : (pc : Int) + dflt = (tgt : Int)) (k : fx_W tb mm N tgt lv rest X Q) : fx_W tb mm M pc lv (.int x :: rest) X Q := by
  refine fx_n hct hd hM (fun h => ?_) k
  unfold aj_step
  dsimp only
  rw [if_pos h1]
  unfold aj_jump
  rw [if_pos (by omega), ht]
  rfl
theorem fx_lk (hct : aj_ctOK ct mm.2.1) {dflt : Int} {ps : Array (Int × Int)} (hd : aj_ct ct pc = some (.lookupswitch dflt ps, len)) (hM : M ≤ N + 1) {x : Int32} (hs : (ps.toList.zip (ps.toList.drop 1)).all (fun (a, next) => a.1 < next.1) = true) {off : Int} (ho : Op.lookupswitch.offset ps.toList dflt x.toInt = off) {tgt : Nat} (ht : (pc : Int) + off = (tgt : Int)) (k : fx_W tb mm N tgt lv rest X Q) : fx_W tb mm M pc lv (.int x :: rest) X Q := by
  refine fx_n hct hd hM (fun h => ?_) k
  unfold aj_step
  dsimp only
  rw [if_pos hs, ho]
  unfold aj_jump
  rw [if_pos (by omega), ht]
  rfl
/-- ends -/
theorem fx_r (hct : aj_ctOK ct mm.2.1) (hd : aj_ct ct pc = some (i, len)) {v : Option Value} (hs : ∀ h out, aj_step aj_rc aj_cls tb mm.2.2.2.2.2.1 mm.2.2.1 mm.2.2.2.1 false i len pc lv st h = some out → out = .inr (.inr v)) (hq : Q v X) : fx_W tb mm M pc lv st X Q :=
  fx_g0 (N := M) hct hd (Nat.le_succ _) fun h hT hV out ho => Or.inl ⟨v, hs h out ho, hq⟩
theorem fx_ri (hct : aj_ctOK ct mm.2.1) (hd : aj_ct ct pc = some (.ireturn, 1)) {x : Int32} (hq : Q (some (.int x)) X) : fx_W tb mm M pc lv [.int x] X Q := by
  refine fx_r hct hd (fun h out ho => ?_) hq
  have h0 : aj_step aj_rc aj_cls tb mm.2.2.2.2.2.1 mm.2.2.1 mm.2.2.2.1 false .ireturn 1 pc lv [.int x] h = aj_ret mm.2.2.2.1 [.int x] 0 := rfl
  rw [h0] at ho
  unfold aj_ret at ho
  split at ho
  all_goals first
    | (cases ho; done)
    | (split at ho
       · cases ho; rename_i e _ _; cases e; rfl
       · cases ho)
    | (split at ho
       · cases ho; rename_i e _; cases e; rfl
       · cases ho)
theorem fx_rn (hct : aj_ctOK ct mm.2.1) (hd : aj_ct ct pc = some (.return_, 1)) (hq : Q none X) : fx_W tb mm M pc lv [] X Q := by
  refine fx_r hct hd (fun h out ho => ?_) hq
  have h0 : aj_step aj_rc aj_cls tb mm.2.2.2.2.2.1 mm.2.2.1 mm.2.2.2.1 false .return_ 1 pc lv [] h = aj_ret mm.2.2.2.1 [] 3 := rfl
  rw [h0] at ho
  unfold aj_ret at ho
  split at ho
  all_goals first
    | (cases ho; done)
    | (split at ho
       · cases ho; rfl
       · cases ho)
    | contradiction
theorem fx_rl (hct : aj_ctOK ct mm.2.1) (hd : aj_ct ct pc = some (.lreturn, 1)) (hr : mm.2.2.2.1 = some .long) {x : Int64} (hq : Q (some (.long x)) X) : fx_W tb mm M pc lv [.long x] X Q := by
  refine fx_r hct hd (fun h out ho => ?_) hq
  have h0 : aj_step aj_rc aj_cls tb mm.2.2.2.2.2.1 mm.2.2.1 mm.2.2.2.1 false .lreturn 1 pc lv [.long x] h = aj_ret mm.2.2.2.1 [.long x] 2 ∨ True := Or.inr trivial
  have h1 : aj_step aj_rc aj_cls tb mm.2.2.2.2.2.1 mm.2.2.1 mm.2.2.2.1 false .lreturn 1 pc lv [.long x] h = aj_ret mm.2.2.2.1 [.long x] 1 := rfl
  rw [h1, hr] at ho
  unfold aj_ret at ho
  dsimp only at ho
  rw [if_pos rfl] at ho
  cases ho
  rfl
theorem fx_ra (hct : aj_ctOK ct mm.2.1) (hd : aj_ct ct pc = some (.areturn, 1)) {x : Nat} (hq : Q (some (.ref x)) X) : fx_W tb mm M pc lv [.ref x] X Q := by
  refine fx_r hct hd (fun h out ho => ?_) hq
  have h1 : aj_step aj_rc aj_cls tb mm.2.2.2.2.2.1 mm.2.2.1 mm.2.2.2.1 false .areturn 1 pc lv [.ref x] h = aj_ret mm.2.2.2.1 [.ref x] 2 := rfl
  rw [h1] at ho
  unfold aj_ret at ho
  split at ho
  all_goals first
    | (cases ho; done)
    | (rename_i e _; cases e; done)
    | (rw [if_pos rfl] at ho; cases ho; rename_i e _; cases e; rfl)
theorem fx_ra0 (hct : aj_ctOK ct mm.2.1) (hd : aj_ct ct pc = some (.areturn, 1)) (hq : Q (some .null) X) : fx_W tb mm M pc lv [.null] X Q := by
  refine fx_r hct hd (fun h out ho => ?_) hq
  have h1 : aj_step aj_rc aj_cls tb mm.2.2.2.2.2.1 mm.2.2.1 mm.2.2.2.1 false .areturn 1 pc lv [.null] h = aj_ret mm.2.2.2.1 [.null] 2 := rfl
  rw [h1] at ho
  unfold aj_ret at ho
  split at ho
  all_goals first
    | (cases ho; done)
    | (rename_i e _; cases e; done)
    | (rw [if_pos rfl] at ho; cases ho; rfl)
end FX1
