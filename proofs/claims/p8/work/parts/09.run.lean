section AJRUN
variable {rn : String} {D : va_G} {cl : List vw_C} {cA : Nat → ClassId} {tb : aj_T} {base : Nat} {stA : Nat → Nat} {sf : List (String × String × String)} {nw Ts : List Cond} {own : String} {cc : ByteArray} {nL S : Nat} {mt : List aj_M}
variable {p : Program} {l : Launch} {e : Env} {R : Room} {s : State} {m : MethodId} {args : Array Value} {below : List Frame} {meth : Method} {c : Code} {Q : State → Prop} {cells slots pc pc' dc ds : Nat} {lv lv' : aj_V} {st st' : List Value} {h h' : aj_H}
theorem aj_one (hC : aj_Cx rn D cl cA tb base stA sf nw Ts own cc nL p s m args c) {rc : Nat} {rcl : vw_C} (hrc : cl[rc]? = some rcl) (hrn : rcl.1 = rn) {cls : List aj_C} (hcls : aj_clsOK Ts cl cls) (hA : ∀ k, k < 5 → Cond.arrayClass (aj_ty rn k) ∈ Ts) {lk : List aj_L} (hlk : aj_lksOK Ts nw cls mt sf own lk) {ret : Option FieldType} {isI : Bool} (hI : isI = true → meth.name = "<init>") {i : Instr} {len : Nat} (hR1 : 1 ≤ R.frames ∧ 40 ≤ R.locals) (hcR : cells ≤ R.cells) (hsR : slots ≤ R.slots) (hdg : decode cc pc = .ok (i, len))
    (h0 : aj_step rc cls tb lk nL ret isI i len pc lv st h = some (.inl ((pc', lv', st'), h', dc, ds))) (hc1 : cells + dc ≤ R.cells) (hs1 : slots + ds ≤ R.slots)
    (k : aj_Nx D cl cA tb.length base stA nL p l e R s m args below meth c Q (cells + dc) (slots + ds) pc' lv' st' h') : aj_Nx D cl cA tb.length base stA nL p l e R s m args below meth c Q cells slots pc lv st h := by
  cases i
  case aaload => exact aj_s_aaload hC hdg h0 k
  case aastore => exact aj_s_aastore hC hrc hrn hdg h0 k
  case aconst_null => exact aj_simple hC hdg h0 trivial k
  case aload => exact aj_simple hC hdg h0 trivial k
  case aload_n => exact aj_simple hC hdg h0 trivial k
  case anewarray => exact aj_s_anewarray hC hrc hrn hcls hlk hdg h0 hc1 hs1 k
  case arraylength => exact aj_s_arraylength hC hdg h0 k
  case astore => exact aj_stores hC hdg h0 trivial k
  case astore_n => exact aj_stores hC hdg h0 trivial k
  case baload => exact aj_s_baload hC hdg h0 k
  case bastore => exact aj_s_bastore hC hdg h0 k
  case bipush => exact aj_simple hC hdg h0 trivial k
  case caload => exact aj_s_caload hC hdg h0 k
  case castore => exact aj_s_castore hC hdg h0 k
  case dup => exact aj_dups hC hdg h0 (Or.inl rfl) k
  case dup2 => exact aj_dups hC hdg h0 (Or.inr (Or.inr rfl)) k
  case getfield => exact aj_s_getfield hC hcls hlk hdg h0 k
  case getstatic => exact aj_s_getstatic hC hlk hdg h0 k
  case goto => exact aj_s_goto hC hdg h0 k
  case i2b => exact aj_s_i2b hC hdg h0 k
  case i2c => exact aj_s_i2c hC hdg h0 k
  case i2l => exact aj_s_i2l hC hdg h0 k
  case iadd => exact aj_arith hC hdg h0 trivial k
  case iaload => exact aj_s_iaload hC hdg h0 k
  case iand => exact aj_arith hC hdg h0 trivial k
  case iastore => exact aj_s_iastore hC hdg h0 k
  case iconst => exact aj_simple hC hdg h0 trivial k
  case idiv => exact aj_arith hC hdg h0 trivial k
  case if_icmp => exact aj_s_icmp hC hdg h0 k
  case ifCond => exact aj_s_if hC hdg h0 k
  case ifnonnull => exact aj_s_ifnonnull hC hdg h0 k
  case ifnull => exact aj_s_ifnull hC hdg h0 k
  case iinc => exact aj_iincs hC hdg h0 k
  case iload => exact aj_simple hC hdg h0 trivial k
  case iload_n => exact aj_simple hC hdg h0 trivial k
  case imul => exact aj_arith hC hdg h0 trivial k
  case invokestatic => exact aj_s_nat hC hlk hR1 hcR hsR hdg h0 k
  case ior => exact aj_arith hC hdg h0 trivial k
  case irem => exact aj_arith hC hdg h0 trivial k
  case ishl => exact aj_arith hC hdg h0 trivial k
  case ishr => exact aj_arith hC hdg h0 trivial k
  case istore => exact aj_stores hC hdg h0 trivial k
  case istore_n => exact aj_stores hC hdg h0 trivial k
  case isub => exact aj_arith hC hdg h0 trivial k
  case iushr => exact aj_arith hC hdg h0 trivial k
  case ixor => exact aj_arith hC hdg h0 trivial k
  case l2i => exact aj_s_l2i hC hdg h0 k
  case ladd => exact aj_arith hC hdg h0 trivial k
  case laload => exact aj_s_laload hC hdg h0 k
  case lastore => exact aj_s_lastore hC hdg h0 k
  case lcmp => exact aj_s_lcmp hC hdg h0 k
  case lconst => exact aj_simple hC hdg h0 trivial k
  case ldc => exact aj_s_ldc hC hlk (Or.inl rfl) hdg h0 k
  case ldc_w => exact aj_s_ldc hC hlk (Or.inr (Or.inl rfl)) hdg h0 k
  case ldc2_w => exact aj_s_ldc hC hlk (Or.inr (Or.inr rfl)) hdg h0 k
  case lload => exact aj_simple hC hdg h0 trivial k
  case lload_n => exact aj_simple hC hdg h0 trivial k
  case lmul => exact aj_arith hC hdg h0 trivial k
  case lneg => exact aj_s_lneg hC hdg h0 k
  case lookupswitch => exact aj_s_lookup hC hdg h0 k
  case lor => exact aj_arith hC hdg h0 trivial k
  case lshl => exact aj_s_lshl hC hdg h0 k
  case lstore => exact aj_stores hC hdg h0 trivial k
  case lstore_n => exact aj_stores hC hdg h0 trivial k
  case new => exact aj_s_new hC hcls hlk hdg h0 hc1 hs1 k
  case newarray => exact aj_s_newarray hC hA hdg h0 hc1 hs1 k
  case pop => exact aj_dups hC hdg h0 (Or.inr (Or.inl rfl)) k
  case putfield => exact aj_s_putfield hC hcls hlk hI hdg h0 k
  case sipush => exact aj_simple hC hdg h0 trivial k
  case tableswitch => exact aj_s_table hC hdg h0 k
  all_goals first
    | (cases h0; done)
    | (exfalso
       unfold aj_step at h0
       dsimp only at h0
       split at h0
       · first | exact aj_call_nl _ _ _ _ _ _ _ _ _ _ h0 | exact aj_ret_nl _ _ _ _ h0
       · cases h0)
theorem aj_frm_ok (hC : aj_Cx rn D cl cA tb base stA sf nw Ts own cc nL p s m args c) {rc : Nat} {rcl : vw_C} (hrc : cl[rc]? = some rcl) (hrn : rcl.1 = rn) {cls : List aj_C} (hcls : aj_clsOK Ts cl cls) (hmt : aj_mtOK Ts nw cls mt sf) (hnw : aj_nwOK nw) (hTs : aj_TsOK Ts) (hA : ∀ k, k < 5 → Cond.arrayClass (aj_ty rn k) ∈ Ts) {mm : aj_M} (hcc : cc = mm.2.1) (hnl : nL = mm.2.2.1) (hlk : aj_lksOK Ts nw cls mt sf own mm.2.2.2.2.2.1) {isI : Bool} (hI : isI = true → meth.name = "<init>")
    {d mc ms : Nat} {deep : Bool} {call : Nat → List Value → aj_H → Nat → Nat → Option Value → aj_H → Prop} (hcall : ∀ mi as h mc ms r h', call mi as h mc ms r h' → aj_Met rn D cl cA tb base stA sf nw Ts mt l d mi as h mc ms r h') (hR1 : 1 ≤ R.frames ∧ 40 ≤ R.locals) (hRd : deep = true → d + 2 ≤ R.frames ∧ 40 * d + 80 ≤ R.locals) (hRc : mc ≤ R.cells) (hRs : ms ≤ R.slots) {r : Option Value} {hF : aj_H}
    (hend : ∀ (i : Instr) (pc : Nat) (lv : aj_V) (st : List Value) (slots k : Nat), decode cc pc = .ok (i, 1) → (i = .ireturn ∧ k = 0 ∨ i = .lreturn ∧ k = 1 ∨ i = .areturn ∧ k = 2 ∨ i = .return_ ∧ k = 3) → aj_ret mm.2.2.2.1 st k = some (.inr (.inr r)) → slots ≤ ms → aj_Nx D cl cA tb.length base stA nL p l e R s m args below meth c Q mc slots pc lv st hF) :
    ∀ (n pc : Nat) (lv : aj_V) (st : List Value) (h : aj_H) (kc ks : Nat), kc ≤ mc → ks ≤ ms → aj_frm rc cls tb mm isI deep call n pc lv st h kc ks mc ms r hF → aj_Nx D cl cA tb.length base stA nL p l e R s m args below meth c Q kc ks pc lv st h := by
  intro n
  induction n with
  | zero => intro pc lv st h kc ks _ _ hf; exact hf.elim
  | succ n ih =>
    intro pc lv st h kc ks hkc hks hf
    unfold aj_frm at hf
    split at hf
    · rename_i i len hd
      rw [← hcc] at hd
      split at hf
      · rename_i pc' lv' st' h' dc ds h0
        obtain ⟨h1, h2, h3⟩ := hf
        rw [← hnl] at h0
        exact aj_one hC hrc hrn hcls hA hlk hI hR1 (Nat.le_trans hkc hRc) (Nat.le_trans hks hRs) hd h0 (Nat.le_trans h1 hRc) (Nat.le_trans h2 hRs) (ih _ _ _ _ _ _ h1 h2 h3)
      · rename_i kind mi as pc' lv' st' h0
        obtain ⟨hdeep, hf⟩ := hf
        rw [← hnl] at h0
        refine aj_s_call hC hcls hmt hnw hTs hlk hd (hRd hdeep) h0 (fun h5 => ?_) (fun h5 => ?_)
        · rcases hf with ⟨-, hf⟩ | ⟨q, -⟩
          · exact ih _ _ _ _ _ _ hkc hks hf
          · exact absurd h5 q
        · rcases hf with ⟨q, -⟩ | ⟨-, mc', ms', r', h', g1, g2, g3, g4, g5⟩
          · exact absurd q h5
          · exact ⟨mc', ms', r', h', hcall _ _ _ _ _ _ _ g1, g2, Nat.le_trans g3 hRc, Nat.le_trans g4 hRs, ih _ _ _ _ _ _ g3 g4 g5⟩
      · rename_i v h0
        obtain ⟨rfl, rfl, rfl⟩ := hf
        obtain ⟨k, rfl, hk, hr⟩ := aj_is_ret h0
        exact hend i pc lv st ks k hd hk hr hks
      · exact hf.elim
    · exact hf.elim
theorem aj_args_c (ad : Nat → Nat) : ∀ (as : List Value) (i : Nat), lv_args i (as.map (aj_c ad)) = aj_cv ad (lv_args i as) := by
  intro as
  induction as with
  | nil => intro i; rfl
  | cons v vs ih =>
    intro i
    simp only [List.map_cons, lv_args, aj_c_cat, ih, aj_cv]
theorem aj_sl_c (ad : Nat → Nat) (as : List Value) : (lg_sl (as.map (aj_c ad))).length = (lg_sl as).length := by
  unfold lg_sl
  induction as with
  | nil => rfl
  | cons v vs ih =>
    simp only [List.map_cons, List.flatMap_cons, List.length_append, ih, aj_c_cat]
    congr 1
    split <;> rfl
/-- a frame's end, as a contract has it -/
theorem aj_hend (hC : aj_Cx rn D cl cA tb base stA sf nw Ts own cc nL p s m args c) (hnw : aj_nwOK nw) {ret : Option FieldType} (hret : meth.sig.returnType = ret) (hlocks : meth.locks = false) {mc ms : Nat} {r : Option Value} {hF : aj_H} {i : Instr} {k : Nat} (hd : decode cc pc = .ok (i, 1)) (hk : i = .ireturn ∧ k = 0 ∨ i = .lreturn ∧ k = 1 ∨ i = .areturn ∧ k = 2 ∨ i = .return_ ∧ k = 3) (hr : aj_ret ret st k = some (.inr (.inr r))) (hsl : slots ≤ ms) :
    aj_Nx D cl cA tb.length base stA nL p l e R s m args below meth c (MQ below (aj_Qc rn D cl cA tb base stA sf nw r hF) args s mc ms (fun q => base ≤ q)) mc slots pc lv st hF := by
  have hC0 := hC
  obtain ⟨hx, hb, hml, hown, hts, hK, hZ, hN, hbs⟩ := hC
  intro ls H locs hl hR T hT X
  have hsz := aj_size hR.1 hR.2.1 hR.2.2 hbs hT X
  refine W.widen (k := mc) (n := ms) (Nat.le_refl _) hsl ?_ T hT X
  have hq : ∀ t : State, t.heap = H → s.WarmedH t.vm → aj_Qc rn D cl cA tb base stA sf nw r hF args s (.returned (r.map (aj_c (aj_ad tb.length base stA)))) t := fun t ht hW => ⟨rfl, aj_Rep_of hC0 hnw hsz hR ht hW, hR.2.2.F ht⟩
  unfold aj_ret at hr
  split at hr
  · split at hr
    · rename_i hk3
      subst hk3
      cases hr
      have hi : i = .return_ := by rcases hk with ⟨-, z⟩ | ⟨-, z⟩ | ⟨-, z⟩ | ⟨z, -⟩ <;> first | exact z | exact absurd z (by decide)
      subst hi
      exact W.vret hx hb hret hq hR.2.2.2.2 hd hlocks
    · cases hr
  · split at hr
    · rename_i hk3
      subst hk3
      cases hr
      have hi : i = .ireturn := by rcases hk with ⟨z, -⟩ | ⟨-, z⟩ | ⟨-, z⟩ | ⟨-, z⟩ <;> first | exact z | exact absurd z (by decide)
      subst hi
      exact W.iret hx hb hret hq hR.2.2.2.2 hd hlocks
    · cases hr
  · split at hr
    · rename_i v hk3
      obtain ⟨rfl, hfit⟩ := hk3
      cases hr
      have hi : i = .ireturn := by rcases hk with ⟨z, -⟩ | ⟨-, z⟩ | ⟨-, z⟩ | ⟨-, z⟩ <;> first | exact z | exact absurd z (by decide)
      subst hi
      exact W.zret (v := v) hx hb hret (aj_fit_ok hfit (fun n => n)).1 hq hR.2.2.2.2 hd hlocks
    · cases hr
  · split at hr
    · rename_i hk3
      subst hk3
      cases hr
      have hi : i = .lreturn := by rcases hk with ⟨-, z⟩ | ⟨z, -⟩ | ⟨-, z⟩ | ⟨-, z⟩ <;> first | exact z | exact absurd z (by decide)
      subst hi
      exact W.lret hx hb hret hq hR.2.2.2.2 hd hlocks
    · cases hr
  all_goals first
    | (cases hr; done)
    | (split at hr
       · rename_i hk3
         subst hk3
         cases hr
         have hi : i = .areturn := by rcases hk with ⟨-, z⟩ | ⟨-, z⟩ | ⟨z, -⟩ | ⟨-, z⟩ <;> first | exact z | exact absurd z (by decide)
         subst hi
         first
           | exact W.aret hx hb hret (Or.inl ⟨_, rfl⟩) (Or.inr ⟨_, rfl⟩) hq hR.2.2.2.2 hd hlocks
           | exact W.aret hx hb hret (Or.inl ⟨_, rfl⟩) (Or.inl rfl) hq hR.2.2.2.2 hd hlocks
           | exact W.aret hx hb hret (Or.inr ⟨_, rfl⟩) (Or.inr ⟨_, rfl⟩) hq hR.2.2.2.2 hd hlocks
           | exact W.aret hx hb hret (Or.inr ⟨_, rfl⟩) (Or.inl rfl) hq hR.2.2.2.2 hd hlocks
       · cases hr)
/-- what a run does, the method does -/
theorem aj_runs_ok {rc : Nat} {rcl : vw_C} (hrc : cl[rc]? = some rcl) (hrn : rcl.1 = rn) {cls : List aj_C} (hcls : aj_clsOK Ts cl cls) (hmt : aj_mtOK Ts nw cls mt sf) (hnw : aj_nwOK nw) (hTs : aj_TsOK Ts) (hA : ∀ k, k < 5 → Cond.arrayClass (aj_ty rn k) ∈ Ts) (l : Launch) :
    ∀ (d mi : Nat) (as : List Value) (h : aj_H) (mc ms : Nat) (r : Option Value) (h' : aj_H), aj_runs rc cls tb mt d mi as h mc ms r h' → aj_Met rn D cl cA tb base stA sf nw Ts mt l d mi as h mc ms r h' := by
  have key : ∀ (d mi : Nat) (as : List Value) (h : aj_H) (mc ms : Nat) (r : Option Value) (h' : aj_H) (mm : aj_M) (deep : Bool) (call : Nat → List Value → aj_H → Nat → Nat → Option Value → aj_H → Prop), mt[mi]? = some mm → (lg_sl as).length ≤ mm.2.2.1 → (∀ mi as h mc ms r h', call mi as h mc ms r h' → ∃ d', d' + 1 = d ∧ aj_Met rn D cl cA tb base stA sf nw Ts mt l d' mi as h mc ms r h') → (deep = true → ∃ d', d' + 1 = d) → (∃ n, aj_frm rc cls tb mm (aj_isI mm) deep call n 0 (lv_args 0 as) [] h 0 0 mc ms r h') → Met l mm.1 (Cond.code mm.1 mm.2.1 mm.2.2.1 mm.2.2.2.1 :: Ts) (aj_rm d mc ms) (aj_Pc rn D cl cA tb base stA sf nw as h) (aj_Qc rn D cl cA tb base stA sf nw r h') mc ms (fun q => base ≤ q) := by
    intro d mi as h mc ms r h' mm deep call hmm hal hcall hdeep ⟨n, hf⟩
    obtain ⟨g1, g2, g3, g4, g5, g6⟩ := hmt _ _ hmm
    refine Met.ofW (cc := mm.2.1) (maxL := mm.2.2.1) (ret := mm.2.2.2.1) g1 rfl ?_
    intro p e s m args below meth c s₁ B hml hv
    obtain ⟨rfl, hsz, hP, hK, hZ, hN⟩ := hv
    have hts0 := atoms_spec (ws := Cond.code mm.1 mm.2.1 mm.2.2.1 mm.2.2.2.1 :: Ts) B.pre
    have hown : s.vm.findClass mm.1.cls = some m.cls := findClass_of_methodNamed B.named
    have hC : aj_Cx rn D cl cA tb base stA sf nw Ts mm.1.cls mm.2.1 mm.2.2.1 p s m _ c := ⟨B.exec, B.bytes, hml, hown, fun w hw => hts0 w (List.mem_cons_of_mem _ hw), hK, hZ, hN, by omega⟩
    have hl := lv_entry (as.map (aj_c (aj_ad tb.length base stA))) (n := mm.2.2.1) (by rw [aj_sl_c]; exact hal)
    rw [lg_entry_eq]
    rw [aj_args_c] at hl
    cases d with
    | zero =>
      have hd : deep = false := by
        cases deep
        · rfl
        · obtain ⟨d', hd'⟩ := hdeep rfl
          omega
      subst hd
      refine aj_frm_ok (d := 0) hC hrc hrn hcls hmt hnw hTs hA rfl rfl g6 (fun hi => ?_) (fun mi as h mc ms r h' hc => ?_) ⟨Nat.le_refl _, by show 40 ≤ 40 * 0 + 40; omega⟩ (fun z => by cases z) (Nat.le_refl _) (Nat.le_refl _) (fun i pc lv st slots k hd hk hr hs => aj_hend hC hnw B.returns B.notSynchronized hd hk hr hs) n 0 (lv_args 0 as) [] h 0 0 (Nat.zero_le _) (Nat.zero_le _) hf _ s.heap [] hl ⟨by omega, hP, va_S.rf⟩
      · rw [(name_of_methodNamed B.named B.method).1]
        exact of_decide_eq_true hi
      · obtain ⟨d', hd', -⟩ := hcall _ _ _ _ _ _ _ hc
        omega
    | succ d =>
      refine aj_frm_ok (d := d) hC hrc hrn hcls hmt hnw hTs hA rfl rfl g6 (fun hi => ?_) (fun mi as h mc ms r h' hc => ?_) ⟨by show 1 ≤ d + 1 + 1; omega, by show 40 ≤ 40 * (d + 1) + 40; omega⟩ (fun z => ⟨Nat.le_refl _, by show 40 * d + 80 ≤ 40 * (d + 1) + 40; omega⟩) (Nat.le_refl _) (Nat.le_refl _) (fun i pc lv st slots k hd hk hr hs => aj_hend hC hnw B.returns B.notSynchronized hd hk hr hs) n 0 (lv_args 0 as) [] h 0 0 (Nat.zero_le _) (Nat.zero_le _) hf _ s.heap [] hl ⟨by omega, hP, va_S.rf⟩
      · rw [(name_of_methodNamed B.named B.method).1]
        exact of_decide_eq_true hi
      · obtain ⟨d', hd', z⟩ := hcall _ _ _ _ _ _ _ hc
        have : d' = d := by omega
        subst this
        exact z
  intro d
  induction d with
  | zero =>
    intro mi as h mc ms r h' ⟨mm, hmm, hal, hf⟩ mm' hmm'
    rw [hmm] at hmm'
    cases hmm'
    exact key 0 mi as h mc ms r h' mm false _ hmm hal (fun _ _ _ _ _ _ _ z => z.elim) (fun z => by cases z) hf
  | succ d ih =>
    intro mi as h mc ms r h' ⟨mm, hmm, hal, hf⟩ mm' hmm'
    rw [hmm] at hmm'
    cases hmm'
    exact key (d + 1) mi as h mc ms r h' mm true _ hmm hal (fun mi as h mc ms r h' z => ⟨d, rfl, ih mi as h mc ms r h' z⟩) (fun _ => ⟨d, rfl⟩) hf
end AJRUN
