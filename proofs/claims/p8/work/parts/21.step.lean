/-! STEPS OF THE ABSTRACT MACHINE BY HAND: one lemma an instruction that reads or writes the heap; all others by 'aj_tn .. rfl' -/
def aj_TF (rc : Nat) (cls : List aj_C) (tb : aj_T) (m : aj_M) (isI deep : Bool) (call : Nat → List Value → aj_H → Nat → Nat → Option Value → aj_H → Prop) (pc : Nat) (lv : aj_V) (st : List Value) (h : aj_H) (kc ks mc ms : Nat) (r : Option Value) (hF : aj_H) : Prop := ∃ n, aj_frm rc cls tb m isI deep call n pc lv st h kc ks mc ms r hF
section AJHAND
variable {rc : Nat} {cls : List aj_C} {tb : aj_T} {m : aj_M} {isI deep : Bool} {call : Nat → List Value → aj_H → Nat → Nat → Option Value → aj_H → Prop} {pc : Nat} {lv : aj_V} {st : List Value} {h : aj_H} {kc ks mc ms : Nat} {r : Option Value} {hF : aj_H} {ct : List (Nat × Instr × Nat)}
theorem aj_tn (hct : aj_ctOK ct m.2.1) (hk : kc ≤ mc ∧ ks ≤ ms) {i : Instr} {len : Nat} (hd : aj_ct ct pc = some (i, len)) {pc' : Nat} {lv' : aj_V} {st' : List Value} {h' : aj_H} (hs : aj_step rc cls tb m.2.2.2.2.2.1 m.2.2.1 m.2.2.2.1 isI i len pc lv st h = some (.inl ((pc', lv', st'), h', 0, 0))) (k : aj_TF rc cls tb m isI deep call pc' lv' st' h' kc ks mc ms r hF) : aj_TF rc cls tb m isI deep call pc lv st h kc ks mc ms r hF := by
  obtain ⟨n, hn⟩ := k
  refine ⟨n + 1, ?_⟩
  unfold aj_frm
  rw [aj_ct_ok hct hd]
  dsimp only
  rw [hs]
  exact ⟨hk.1, hk.2, hn⟩
/-- getfield -/
theorem aj_tg (hct : aj_ctOK ct m.2.1) (hk : kc ≤ mc ∧ ks ≤ ms) {idx : Nat} (hd : aj_ct ct pc = some (.getfield idx, 3)) {kind ci k : Nat} {fin : Int} (hl : aj_link m.2.2.2.2.2.1 idx = some (kind, ci, k, fin)) (hk2 : kind < 2) {a : Nat} {fs : List Value} {rest : List Value} (ho : aj_obj tb h a = some (ci, fs)) {v : Value} (hv : fs[k]? = some v) (kk : aj_TF rc cls tb m isI deep call (pc + 3) lv (v :: rest) h kc ks mc ms r hF) : aj_TF rc cls tb m isI deep call pc lv (.ref a :: rest) h kc ks mc ms r hF := by
  refine aj_tn hct hk hd ?_ kk
  unfold aj_step
  dsimp only
  rw [if_pos rfl]
  simp only [aj_getf, hl, ho, hv]
  exact if_pos ⟨hk2, trivial⟩
/-- putfield -/
theorem aj_tp (hct : aj_ctOK ct m.2.1) (hk : kc ≤ mc ∧ ks ≤ ms) {idx : Nat} (hd : aj_ct ct pc = some (.putfield idx, 3)) {kind ci k : Nat} {fin : Int} (hl : aj_link m.2.2.2.2.2.1 idx = some (kind, ci, k, fin)) (hk2 : kind < 2) (hfin : fin = 0 ∨ (fin = 1 ∧ kind = 0 ∧ isI = true)) {a : Nat} {fs : List Value} {rest : List Value} {v : Value} (ho : aj_obj tb h a = some (ci, fs)) {q : aj_C} (hc : cls[ci]? = some q) (hlen : k < fs.length) (hf : aj_fit (q.2.2.2 k) v = true) (kk : aj_TF rc cls tb m isI deep call (pc + 3) lv rest (h.set (a - tb.length) (.inr (ci, fs.set k v))) kc ks mc ms r hF) : aj_TF rc cls tb m isI deep call pc lv (v :: .ref a :: rest) h kc ks mc ms r hF := by
  refine aj_tn hct hk hd ?_ kk
  unfold aj_step
  dsimp only
  rw [if_pos rfl]
  obtain ⟨q1, q2, q3, q4⟩ := q
  simp only [aj_putf, hl, ho, hc]
  exact if_pos ⟨hk2, trivial, hlen, hf, hfin⟩
/-- a load from an array of ints, booleans, chars, bytes -/
theorem aj_ta (hct : aj_ctOK ct m.2.1) (hk : kc ≤ mc ∧ ks ≤ ms) {i : Instr} {kd : Nat} (hi : i = .iaload ∧ kd = 0 ∨ i = .caload ∧ kd = 3 ∨ i = .baload ∧ kd = 2 ∨ i = .baload ∧ kd = 4) (hd : aj_ct ct pc = some (i, 1)) {a n : Nat} {f : Nat → Int32} {x : Int32} {rest : List Value} (ha : aj_arr tb h a = some (kd, n, .inl f)) (hx : aj_in x n = true) (kk : aj_TF rc cls tb m isI deep call (pc + 1) lv (.int (f x.toNatClampNeg) :: rest) h kc ks mc ms r hF) : aj_TF rc cls tb m isI deep call pc lv (.int x :: .ref a :: rest) h kc ks mc ms r hF := by
  refine aj_tn hct hk hd ?_ kk
  rcases hi with ⟨rfl, rfl⟩ | ⟨rfl, rfl⟩ | ⟨rfl, rfl⟩ | ⟨rfl, rfl⟩
  all_goals (unfold aj_step; dsimp only; rw [if_pos rfl])
  · simp only [aj_ald, ha]
    exact if_pos ⟨trivial, hx⟩
  · simp only [aj_ald, ha]
    exact if_pos ⟨trivial, hx⟩
  · simp only [aj_bld, aj_ald, ha]
    exact if_pos ⟨trivial, hx⟩
  · simp only [aj_bld, aj_ald, ha]
    exact if_pos ⟨trivial, hx⟩
/-- a store into an array of ints, booleans, chars, bytes -/
theorem aj_ts (hct : aj_ctOK ct m.2.1) (hk : kc ≤ mc ∧ ks ≤ ms) {i : Instr} {kd : Nat} (hi : i = .iastore ∧ kd = 0 ∨ i = .castore ∧ kd = 3 ∨ i = .bastore ∧ kd = 2 ∨ i = .bastore ∧ kd = 4) (hd : aj_ct ct pc = some (i, 1)) {a n : Nat} {f : Nat → Int32} {x v : Int32} {rest : List Value} (hr : ¬ a < tb.length) (ha : h[a - tb.length]? = some (.inl (kd, n, .inl f))) (hx : aj_in x n = true) (kk : aj_TF rc cls tb m isI deep call (pc + 1) lv rest (h.set (a - tb.length) (.inl (kd, n, .inl (upd f x.toNatClampNeg (aj_nar kd v))))) kc ks mc ms r hF) : aj_TF rc cls tb m isI deep call pc lv (.int v :: .int x :: .ref a :: rest) h kc ks mc ms r hF := by
  refine aj_tn hct hk hd ?_ kk
  rcases hi with ⟨rfl, rfl⟩ | ⟨rfl, rfl⟩ | ⟨rfl, rfl⟩ | ⟨rfl, rfl⟩
  all_goals (unfold aj_step; dsimp only; rw [if_pos rfl])
  · simp only [aj_ast, if_neg hr, ha]
    exact if_pos ⟨trivial, hx⟩
  · simp only [aj_ast, if_neg hr, ha]
    exact if_pos ⟨trivial, hx⟩
  · simp only [aj_bst, aj_ast, if_neg hr, ha]
    exact if_pos ⟨trivial, hx⟩
  · simp only [aj_bst, aj_ast, if_neg hr, ha]
    exact if_pos ⟨trivial, hx⟩
/-- arraylength -/
theorem aj_tl (hct : aj_ctOK ct m.2.1) (hk : kc ≤ mc ∧ ks ≤ ms) (hd : aj_ct ct pc = some (.arraylength, 1)) {a kd n : Nat} {x : (Nat → Int32) ⊕ (Nat → Int64) ⊕ (Nat → UInt32) ⊕ (Nat → UInt64) ⊕ (Nat → Option Nat)} {rest : List Value} (ha : aj_arr tb h a = some (kd, n, x)) (hkd : kd < 6) (kk : aj_TF rc cls tb m isI deep call (pc + 1) lv (.int (Int32.ofNat n) :: rest) h kc ks mc ms r hF) : aj_TF rc cls tb m isI deep call pc lv (.ref a :: rest) h kc ks mc ms r hF := by
  refine aj_tn hct hk hd ?_ kk
  unfold aj_step
  dsimp only
  rw [if_pos rfl]
  simp only [aj_alen, ha]
  exact if_pos hkd
/-- if_icmp, if -/
theorem aj_tc (hct : aj_ctOK ct m.2.1) (hk : kc ≤ mc ∧ ks ≤ ms) {c : ClassFile.Cond} {off : Int} {tgt : Nat} (hd : aj_ct ct pc = some (.if_icmp c off, 3)) (ht : (pc : Int) + off = (tgt : Int)) {x y : Int32} {rest : List Value} (k1 : aj_test c x y = true → aj_TF rc cls tb m isI deep call tgt lv rest h kc ks mc ms r hF) (k2 : aj_test c x y = false → aj_TF rc cls tb m isI deep call (pc + 3) lv rest h kc ks mc ms r hF) : aj_TF rc cls tb m isI deep call pc lv (.int y :: .int x :: rest) h kc ks mc ms r hF := by
  cases hb : aj_test c x y with
  | true =>
    refine aj_tn hct hk hd ?_ (k1 hb)
    unfold aj_step
    dsimp only
    rw [if_pos rfl]
    simp only [aj_br, hb, if_true, ht, Int.toNat_natCast, aj_go]
    exact if_pos (Int.natCast_nonneg _)
  | false =>
    refine aj_tn hct hk hd ?_ (k2 hb)
    unfold aj_step
    dsimp only
    rw [if_pos rfl]
    simp only [aj_br, hb, if_pos (show 0 ≤ (pc : Int) + off by omega), aj_go]
    rfl
theorem aj_tz (hct : aj_ctOK ct m.2.1) (hk : kc ≤ mc ∧ ks ≤ ms) {c : ClassFile.Cond} {off : Int} {tgt : Nat} (hd : aj_ct ct pc = some (.ifCond c off, 3)) (ht : (pc : Int) + off = (tgt : Int)) {x : Int32} {rest : List Value} (k1 : aj_test c x 0 = true → aj_TF rc cls tb m isI deep call tgt lv rest h kc ks mc ms r hF) (k2 : aj_test c x 0 = false → aj_TF rc cls tb m isI deep call (pc + 3) lv rest h kc ks mc ms r hF) : aj_TF rc cls tb m isI deep call pc lv (.int x :: rest) h kc ks mc ms r hF := by
  cases hb : aj_test c x 0 with
  | true =>
    refine aj_tn hct hk hd ?_ (k1 hb)
    unfold aj_step
    dsimp only
    rw [if_pos rfl]
    simp only [aj_br, hb, if_true, ht, Int.toNat_natCast, aj_go]
    exact if_pos (Int.natCast_nonneg _)
  | false =>
    refine aj_tn hct hk hd ?_ (k2 hb)
    unfold aj_step
    dsimp only
    rw [if_pos rfl]
    simp only [aj_br, hb, if_pos (show 0 ≤ (pc : Int) + off by omega), aj_go]
    rfl
/-- a call -/
theorem aj_tk (hct : aj_ctOK ct m.2.1) {i : Instr} {len : Nat} (hd : aj_ct ct pc = some (i, len)) {kind mi : Nat} {as : List Value} {pc' : Nat} {lv' : aj_V} {st' : List Value} (hs : aj_step rc cls tb m.2.2.2.2.2.1 m.2.2.1 m.2.2.2.1 isI i len pc lv st h = some (.inr (.inl (kind, mi, as, (pc', lv', st'))))) (hdeep : deep = true) (h5 : kind ≠ 5) {mc' ms' : Nat} {r' : Option Value} {h' : aj_H} (hc : call mi as h mc' ms' r' h') (hlen : h'.length = h.length + mc') (hk : kc + mc' ≤ mc ∧ ks + ms' ≤ ms) (kk : aj_TF rc cls tb m isI deep call pc' lv' (r'.toList ++ st') h' (kc + mc') (ks + ms') mc ms r hF) : aj_TF rc cls tb m isI deep call pc lv st h kc ks mc ms r hF := by
  obtain ⟨n, hn⟩ := kk
  refine ⟨n + 1, ?_⟩
  unfold aj_frm
  rw [aj_ct_ok hct hd]
  dsimp only
  rw [hs]
  exact ⟨hdeep, Or.inr ⟨h5, mc', ms', r', h', hc, hlen, hk.1, hk.2, hn⟩⟩
/-- a call of an object's method -/
theorem aj_tiv (hct : aj_ctOK ct m.2.1) {idx mi n : Nat} {v : Int} (hd : aj_ct ct pc = some (.invokevirtual idx, 3)) (hl : aj_link m.2.2.2.2.2.1 idx = some (2, mi, n, v)) (args : List Value) {b ci : Nat} {fs rest : List Value} (hst : st = args ++ .ref b :: rest) (hn : args.length = n) (ho : aj_obj tb h b = some (ci, fs)) (hci : ci = v.toNat) (hsum : aj_sum rest ≤ 8) (hdeep : deep = true) {mc' ms' : Nat} {r' : Option Value} {h' : aj_H} (hc : call mi (.ref b :: args.reverse) h mc' ms' r' h') (hlen : h'.length = h.length + mc') (hk : kc + mc' ≤ mc ∧ ks + ms' ≤ ms) (kk : aj_TF rc cls tb m isI deep call (pc + 3) lv (r'.toList ++ rest) h' (kc + mc') (ks + ms') mc ms r hF) : aj_TF rc cls tb m isI deep call pc lv st h kc ks mc ms r hF := by
  refine aj_tk hct hd ?_ hdeep (kind := 2) (by decide) hc hlen hk kk
  subst hst
  subst hn
  unfold aj_step
  dsimp only
  rw [if_pos rfl]
  have e1 : (args ++ .ref b :: rest).drop args.length = .ref b :: rest := by simp
  have e2 : (args ++ .ref b :: rest).take args.length = args := by simp
  have e3 : aj_rcv tb h b v = true := by
    unfold aj_rcv
    rw [ho]
    simp [hci]
  simp only [aj_call, hl, e1, e2]
  rw [if_pos ⟨Nat.le_refl _, Nat.le_refl _⟩, if_neg (by decide)]
  exact if_pos ⟨fun _ => e3, hsum⟩
/-- an end -/
theorem aj_te (hct : aj_ctOK ct m.2.1) {i : Instr} {len : Nat} (hd : aj_ct ct pc = some (i, len)) {v : Option Value} (hs : aj_step rc cls tb m.2.2.2.2.2.1 m.2.2.1 m.2.2.2.1 isI i len pc lv st h = some (.inr (.inr v))) : aj_TF rc cls tb m isI deep call pc lv st h mc ks mc ms v h := by
  refine ⟨1, ?_⟩
  unfold aj_frm
  rw [aj_ct_ok hct hd]
  dsimp only
  rw [hs]
  exact ⟨rfl, rfl, rfl⟩
end AJHAND
