/-! THE CHECKER: what reads the heap -/
def ak_isC (T : ak_TT) (c t : Nat) : Bool := decide (52 ≤ t) && (match T.1[t]? with
  | some (.inl c') => c' == c
  | _ => false)
def ak_lkF (F : ak_F) (j k : Nat) : Option (Int × Int) := (F.find? (fun z => z.1.1 == j && z.1.2 == k)).map (fun z => z.2)
def ak_gfx (F : ak_F) (p : ak_P) (k : Nat) (x : ak_A) : ak_A := match x, p with
  | .inl q, some (.inl j) => (match ak_lkF F j k with
    | some q' => .inl q'
    | none => .inl q)
  | _, _ => x
def ak_gfp (p : ak_P) (k : Nat) : ak_P := match p with
  | some (.inl j) => some (.inr (j, k))
  | _ => none
def ak_gf (T : ak_TT) (lk : List aj_L) (a : ak_AS) (idx : Nat) : Option ak_AS := match a.2.1 with
  | (.inr (some (ts, false)), p) :: R => match aj_link lk idx with
    | some (kind, c, k, _) => if kind < 2 ∧ ts.all (ak_isC T c) = true then (match T.2.1[c]? with
      | some fa => match fa[k]? with
        | some x => some (a.1, (ak_gfx a.2.2 p k x, ak_gfp p k) :: R, a.2.2)
        | none => none
      | none => none) else none
    | none => none
  | _ => none
/-- a load from an array of one of two kinds -/
def ak_al (T : ak_TT) (kd1 kd2 : Nat) (a : ak_AS) : Option ak_AS := match a.2.1 with
  | (.inl q, _) :: (.inr (some ([t], false)), _) :: R => match T.1[t]? with
    | some (.inr (kd, n1, _, x)) => if (kd = kd1 ∨ kd = kd2) ∧ 0 ≤ q.1 ∧ q.2 < (n1 : Int) ∧ (kd = 5 → 52 ≤ t) then some (a.1, (x, none) :: R, a.2.2) else none
    | _ => none
  | _ => none
def ak_len (T : ak_TT) (a : ak_AS) : Option ak_AS := match a.2.1 with
  | (.inr (some ([t], false)), _) :: R => match T.1[t]? with
    | some (.inr (kd, n1, n2, _)) => if kd < 6 ∧ n2 < 2147483648 then some (a.1, (.inl ((n1 : Int), (n2 : Int)), none) :: R, a.2.2) else none
    | _ => none
  | _ => none
def ak_a4 (T : ak_TT) (lk : List aj_L) (i : Instr) (len : Nat) (a : ak_AS) : Option ak_AS := match i with
  | .getfield idx => if len = 3 then ak_gf T lk a idx else none
  | .iaload => if len = 1 then ak_al T 0 0 a else none
  | .caload => if len = 1 then ak_al T 3 3 a else none
  | .baload => if len = 1 then ak_al T 2 4 a else none
  | .laload => if len = 1 then ak_al T 1 1 a else none
  | .aaload => if len = 1 then ak_al T 5 5 a else none
  | .arraylength => if len = 1 then ak_len T a else none
  | .getstatic idx => if len = 3 then (match aj_link lk idx with
    | some (9, sid, _, _) => if sid < 52 then some (a.1, (.inr (some ([sid], false)), none) :: a.2.1, a.2.2) else none
    | _ => none) else none
  | .ldc idx => if len = 2 then (match aj_link lk idx with
    | some (10, _, _, v) => if -2147483648 ≤ v ∧ v < 2147483648 then some (a.1, (.inl (v, v), none) :: a.2.1, a.2.2) else none
    | _ => none) else none
  | .ldc_w idx => if len = 3 then (match aj_link lk idx with
    | some (10, _, _, v) => if -2147483648 ≤ v ∧ v < 2147483648 then some (a.1, (.inl (v, v), none) :: a.2.1, a.2.2) else none
    | _ => none) else none
  | .ldc2_w idx => if len = 3 then (match aj_link lk idx with
    | some (11, _, _, _) => some (a.1, (.inr none, none) :: a.2.1, a.2.2)
    | _ => none) else none
  | _ => none
section AKRD
variable {T : ak_TT} {s : List Nat} {tb : aj_T} {h : aj_H} {old : Nat → Int} {lv : aj_V} {st : List Value} {a a' : ak_AS} {v w : Value} {pc len : Nat} {lk : List aj_L}
theorem ak_xOK_mono {kd n : Nat} {x : (Nat → Int32) ⊕ (Nat → Int64) ⊕ (Nat → UInt32) ⊕ (Nat → UInt64) ⊕ (Nat → Option Nat)} {y : ak_A} (u : List Nat) (hx : ak_xOK s kd n x y) : ak_xOK (s ++ u) kd n x y := by
  unfold ak_xOK at hx ⊢
  split at hx
  · exact ⟨hx.1, hx.2.1, fun j hj => ak_gam_mono (hx.2.2 j hj)⟩
  · exact hx
  · exact ⟨hx.1, fun j hj => ak_gam_mono (hx.2 j hj)⟩
  · exact hx.elim
theorem ak_ty_obj (htb : ak_tbOK T tb) (hT : ak_Ty T s h) {r t c : Nat} (hr : ak_ty s r t) (hc : ak_isC T c t = true) : ∃ fs fa, aj_obj tb h r = some (c, fs) ∧ 52 ≤ r ∧ s[r - 52]? = some t ∧ h[r - 52]? = some (.inr (c, fs)) ∧ T.1[t]? = some (.inl c) ∧ T.2.1[c]? = some fa ∧ fs.length = fa.length ∧ ∀ (k : Nat) (a : ak_A), fa[k]? = some a → ∃ v, fs[k]? = some v ∧ ak_gam s a v := by
  unfold ak_isC at hc
  rw [Bool.and_eq_true, decide_eq_true_eq] at hc
  obtain ⟨h52, hc⟩ := hc
  rcases hr with ⟨q1, q2⟩ | ⟨q1, q2, q3⟩
  · omega
  · obtain ⟨-, e, he, hce⟩ := hT.2 _ _ q3
    split at hc
    · rename_i c' hc'
      have hc : c' = c := by simpa using hc
      subst hc
      unfold ak_cOK at hce
      rw [hc'] at hce
      obtain ⟨fs, rfl, fa, g1, g2, g3⟩ := hce
      refine ⟨fs, fa, ?_, q1, q3, he, hc', g1, g2, g3⟩
      unfold aj_obj
      rw [htb.1, if_neg (by omega), he]
    · cases hc
theorem ak_ty_arr (htb : ak_tbOK T tb) (hT : ak_Ty T s h) {r t kd n1 n2 : Nat} {x : ak_A} (hr : ak_ty s r t) (ht : T.1[t]? = some (.inr (kd, n1, n2, x))) : ∃ n f, aj_arr tb h r = some (kd, n, f) ∧ n1 ≤ n ∧ n ≤ n2 ∧ ak_xOK s kd n f x ∧ (52 ≤ t → 52 ≤ r ∧ s[r - 52]? = some t ∧ h[r - 52]? = some (.inl (kd, n, f))) := by
  rcases hr with ⟨q1, q2⟩ | ⟨q1, q2, q3⟩
  · subst q2
    have hl : t < tb.length := by rw [htb.1]; exact q1
    obtain ⟨m1, m2, y, g1, g2, g3, g4⟩ := htb.2 t tb[t] (List.getElem?_eq_getElem hl)
    rw [ht] at g1
    cases g1
    refine ⟨tb[t].2.1, tb[t].2.2, ?_, g2, g3, ?_, fun z => absurd z (by omega)⟩
    · unfold aj_arr
      rw [if_pos hl, List.getElem?_eq_getElem hl]
    · exact ak_xOK_mono s g4
  · obtain ⟨-, e, he, hce⟩ := hT.2 _ _ q3
    unfold ak_cOK at hce
    rw [ht] at hce
    obtain ⟨n, f, rfl, g1, g2, g3⟩ := hce
    refine ⟨n, f, ?_, g1, g2, g3, fun _ => ⟨q1, q3, he⟩⟩
    unfold aj_arr
    rw [htb.1, if_neg (by omega), he]
theorem ak_in_ok {q : Int × Int} {x : Int32} {n : Nat} (hx : ak_win q x) (h1 : 0 ≤ q.1) (h2 : q.2 < (n : Int)) : aj_in x n = true ∧ x.toNatClampNeg < n := by
  unfold ak_win at hx
  have e : x.toNatClampNeg = x.toInt.toNat := rfl
  have hl : x.toNatClampNeg < n := by omega
  refine ⟨?_, hl⟩
  unfold aj_in
  have hn : ¬ x < 0 := fun z => by
    have z := Int32.lt_iff_toInt_lt.mp z
    rw [Int32.toInt_zero] at z
    omega
  simp [hn, hl]
theorem ak_gf_ok (htb : ak_tbOK T tb) (hT : ak_Ty T s h) {idx : Nat} (ha : ak_gAS s tb h old lv st a) (h0 : ak_gf T lk a idx = some a') : ∃ st', aj_getf tb lk pc idx lv st h = some (.inl ((pc + 3, lv, st'), h, 0, 0)) ∧ ak_gAS s tb h old lv st' a' := by
  obtain ⟨L, S, F⟩ := a
  unfold ak_gf at h0
  dsimp only at h0
  split at h0
  · rename_i ts p R
    split at h0
    · rename_i kind c k fin hlk
      split at h0
      · rename_i hq
        obtain ⟨hL, hS, hF⟩ := ha
        obtain ⟨v, st', rfl, g1, g2, g3⟩ := ak_gS_c hS
        split at h0
        · rename_i fa hfa
          split at h0
          · rename_i x hx
            cases h0
            rcases ak_gr g1 with ⟨-, z⟩ | ⟨r, t, rfl, ht, hty⟩
            · cases z
            · obtain ⟨fs, fa', k1, k2, k3, k4, k5, k6, k7, k8⟩ := ak_ty_obj htb hT hty (List.all_eq_true.mp hq.2 t ht)
              rw [hfa] at k6
              cases k6
              obtain ⟨v, hv, hgv⟩ := k8 k x hx
              refine ⟨v :: st', ?_, hL, ⟨?_, ?_, g3⟩, hF⟩
              · unfold aj_getf
                simp only [hlk, k1, hv]
                exact if_pos ⟨hq.1, trivial⟩
              · show ak_gam s (ak_gfx F p k x) v
                unfold ak_gfx
                split
                · rename_i q j
                  split
                  · rename_i q' hF'
                    unfold ak_lkF at hF'
                    obtain ⟨z, z1, z2⟩ := Option.map_eq_some_iff.mp hF'
                    have z3 := List.find?_some z1
                    simp only [Bool.and_eq_true, beq_iff_eq] at z3
                    obtain ⟨r', c', fs', y, m1, m2, m3, m4⟩ := hF z (List.mem_of_find?_eq_some z1)
                    have g2 : aj_lv lv j = some (.ref r) := g2
                    rw [z3.1, g2] at m1
                    cases m1
                    rw [k1] at m2
                    cases m2
                    rw [z3.2, hv] at m3
                    cases m3
                    rw [z2] at m4
                    exact m4
                  · exact hgv
                · exact hgv
              · show ak_gP tb h lv (ak_gfp p k) v
                unfold ak_gfp
                split
                · exact ⟨r, c, fs, g2, k1, hv⟩
                · trivial
          · cases h0
        · cases h0
      · cases h0
    · cases h0
  · cases h0
theorem ak_al_ok (htb : ak_tbOK T tb) (hT : ak_Ty T s h) {kd1 kd2 : Nat} (ha : ak_gAS s tb h old lv st a) (h0 : ak_al T kd1 kd2 a = some a') : ∃ (x : Int32) (r t n kd : Nat) (f : (Nat → Int32) ⊕ (Nat → Int64) ⊕ (Nat → UInt32) ⊕ (Nat → UInt64) ⊕ (Nat → Option Nat)) (y : ak_A) (st' : List Value), st = .int x :: .ref r :: st' ∧ aj_arr tb h r = some (kd, n, f) ∧ (kd = kd1 ∨ kd = kd2) ∧ aj_in x n = true ∧ x.toNatClampNeg < n ∧ ak_xOK s kd n f y ∧ (kd = 5 → 52 ≤ r ∧ h[r - 52]? = some (.inl (kd, n, f))) ∧ ∀ v, ak_gam s y v → ak_gAS s tb h old lv (v :: st') a' := by
  obtain ⟨L, S, F⟩ := a
  unfold ak_al at h0
  dsimp only at h0
  split at h0
  · rename_i q p1 t p2 R
    split at h0
    · rename_i kd n1 n2 y ht
      split at h0
      · rename_i hq
        cases h0
        obtain ⟨hL, hS, hF⟩ := ha
        obtain ⟨v1, st1, rfl, g1, -, g3⟩ := ak_gS_c hS
        obtain ⟨v2, st2, rfl, g4, -, g6⟩ := ak_gS_c g3
        obtain ⟨x, rfl, hw⟩ := ak_gi g1
        rcases ak_gr g4 with ⟨-, z⟩ | ⟨r, t', rfl, ht', hty⟩
        · cases z
        · have ht' : t' = t := List.mem_singleton.mp ht'
          subst ht'
          obtain ⟨n, f, k1, k2, k3, k4, k5⟩ := ak_ty_arr htb hT hty ht
          obtain ⟨m1, m2⟩ := ak_in_ok (n := n) hw hq.2.1 (by omega)
          exact ⟨x, r, t', n, kd, f, y, st2, rfl, k1, hq.1, m1, m2, k4, fun z => ⟨(k5 (hq.2.2.2 z)).1, (k5 (hq.2.2.2 z)).2.2⟩, fun v hv => ⟨hL, ⟨hv, trivial, g6⟩, hF⟩⟩
      · cases h0
    · cases h0
  · cases h0
theorem ak_x_int {kd n : Nat} {f : (Nat → Int32) ⊕ (Nat → Int64) ⊕ (Nat → UInt32) ⊕ (Nat → UInt64) ⊕ (Nat → Option Nat)} {y : ak_A} (hx : ak_xOK s kd n f y) (h1 : kd ≠ 1) (h5 : kd ≠ 5) : ∃ g : Nat → Int32, f = .inl g ∧ ∀ j, j < n → ak_gam s y (.int (g j)) := by
  unfold ak_xOK at hx
  split at hx
  · exact ⟨_, rfl, hx.2.2⟩
  · exact absurd hx.1 h1
  · exact absurd hx.1 h5
  · exact hx.elim
theorem ak_a4_ok (htb : ak_tbOK T tb) (hT : ak_Ty T s h) (rc : Nat) (cls : List aj_C) (nL : Nat) (ret : Option FieldType) (isI : Bool) {i : Instr} (ha : ak_gAS s tb h old lv st a) (h0 : ak_a4 T lk i len a = some a') : ∃ st', aj_step rc cls tb lk nL ret isI i len pc lv st h = some (.inl ((pc + len, lv, st'), h, 0, 0)) ∧ ak_gAS s tb h old lv st' a' := by
  unfold ak_a4 at h0
  cases i
  case getfield idx =>
    dsimp only at h0
    split at h0
    · rename_i hq
      subst hq
      obtain ⟨st', g1, g2⟩ := ak_gf_ok (pc := pc) htb hT ha h0
      exact ⟨st', g1, g2⟩
    · cases h0
  case iaload =>
    dsimp only at h0
    split at h0
    · rename_i hq
      subst hq
      obtain ⟨x, r, t, n, kd, f, y, st', rfl, k1, k2, k3, k4, k5, k6, k7⟩ := ak_al_ok htb hT ha h0
      have k2 : kd = 0 := k2.elim id id
      subst k2
      obtain ⟨g, rfl, hg⟩ := ak_x_int k5 (by decide) (by decide)
      refine ⟨_, ?_, k7 _ (hg _ k4)⟩
      unfold aj_step
      dsimp only
      rw [if_pos rfl]
      unfold aj_ald
      simp only [k1]
      exact if_pos ⟨trivial, k3⟩
    · cases h0
  case caload =>
    dsimp only at h0
    split at h0
    · rename_i hq
      subst hq
      obtain ⟨x, r, t, n, kd, f, y, st', rfl, k1, k2, k3, k4, k5, k6, k7⟩ := ak_al_ok htb hT ha h0
      have k2 : kd = 3 := k2.elim id id
      subst k2
      obtain ⟨g, rfl, hg⟩ := ak_x_int k5 (by decide) (by decide)
      refine ⟨_, ?_, k7 _ (hg _ k4)⟩
      unfold aj_step
      dsimp only
      rw [if_pos rfl]
      unfold aj_ald
      simp only [k1]
      exact if_pos ⟨trivial, k3⟩
    · cases h0
  case baload =>
    dsimp only at h0
    split at h0
    · rename_i hq
      subst hq
      obtain ⟨x, r, t, n, kd, f, y, st', rfl, k1, k2, k3, k4, k5, k6, k7⟩ := ak_al_ok htb hT ha h0
      rcases k2 with rfl | rfl
      · obtain ⟨g, rfl, hg⟩ := ak_x_int k5 (by decide) (by decide)
        refine ⟨_, ?_, k7 _ (hg _ k4)⟩
        unfold aj_step
        dsimp only
        rw [if_pos rfl]
        unfold aj_bld aj_ald
        simp only [k1]
        exact if_pos ⟨trivial, k3⟩
      · obtain ⟨g, rfl, hg⟩ := ak_x_int k5 (by decide) (by decide)
        refine ⟨_, ?_, k7 _ (hg _ k4)⟩
        unfold aj_step
        dsimp only
        rw [if_pos rfl]
        unfold aj_bld aj_ald
        simp only [k1]
        exact if_pos ⟨trivial, k3⟩
    · cases h0
  case laload =>
    dsimp only at h0
    split at h0
    · rename_i hq
      subst hq
      obtain ⟨x, r, t, n, kd, f, y, st', rfl, k1, k2, k3, k4, k5, k6, k7⟩ := ak_al_ok htb hT ha h0
      have k2 : kd = 1 := k2.elim id id
      subst k2
      have hf : ∃ g : Nat → Int64, f = .inr (.inl g) ∧ y = .inr none := by
        unfold ak_xOK at k5
        split at k5
        · exact absurd rfl k5.1
        · exact ⟨_, rfl, k5.2⟩
        · exact absurd k5.1 (by decide)
        · exact k5.elim
      obtain ⟨g, rfl, rfl⟩ := hf
      refine ⟨.long (g x.toNatClampNeg) :: st', ?_, k7 _ trivial⟩
      unfold aj_step
      dsimp only
      rw [if_pos rfl]
      unfold aj_lld
      simp only [k1]
      exact if_pos k3
    · cases h0
  case aaload =>
    dsimp only at h0
    split at h0
    · rename_i hq
      subst hq
      obtain ⟨x, r, t, n, kd, f, y, st', rfl, k1, k2, k3, k4, k5, k6, k7⟩ := ak_al_ok htb hT ha h0
      have k2 : kd = 5 := k2.elim id id
      subst k2
      obtain ⟨m1, m2⟩ := k6 rfl
      have hf : ∃ g : Nat → Option Nat, f = .inr (.inr (.inr (.inr g))) ∧ ∀ j, j < n → ak_gam s y (va_rf (g j)) := by
        unfold ak_xOK at k5
        split at k5
        · exact absurd k5.2.1 (by decide)
        · exact absurd k5.1 (by decide)
        · exact ⟨_, rfl, k5.2⟩
        · exact k5.elim
      obtain ⟨g, rfl, hg⟩ := hf
      refine ⟨_, ?_, k7 _ (hg _ k4)⟩
      unfold aj_step
      dsimp only
      rw [if_pos rfl]
      unfold aj_qld
      dsimp only
      rw [htb.1, if_neg (show ¬ r < 52 by omega)]
      simp only [m2]
      exact if_pos k3
    · cases h0
  case arraylength =>
    dsimp only at h0
    split at h0
    · rename_i hq
      subst hq
      obtain ⟨L, S, F⟩ := a
      unfold ak_len at h0
      dsimp only at h0
      split at h0
      · rename_i t p R
        split at h0
        · rename_i kd n1 n2 y ht
          split at h0
          · rename_i hq
            cases h0
            obtain ⟨hL, hS, hF⟩ := ha
            obtain ⟨v1, st1, rfl, g1, -, g3⟩ := ak_gS_c hS
            rcases ak_gr g1 with ⟨-, z⟩ | ⟨r, t', rfl, ht', hty⟩
            · cases z
            · have ht' : t' = t := List.mem_singleton.mp ht'
              subst ht'
              obtain ⟨n, f, k1, k2, k3, k4, k5⟩ := ak_ty_arr htb hT hty ht
              refine ⟨.int (Int32.ofNat n) :: st1, ?_, hL, ⟨?_, trivial, g3⟩, hF⟩
              · unfold aj_step
                dsimp only
                rw [if_pos rfl]
                unfold aj_alen
                simp only [k1]
                exact if_pos hq.1
              · show (n1 : Int) ≤ (Int32.ofNat n).toInt ∧ (Int32.ofNat n).toInt ≤ (n2 : Int)
                rw [toInt_of rfl (by omega)]
                omega
          · cases h0
        · cases h0
      · cases h0
    · cases h0
  case getstatic idx =>
    dsimp only at h0
    split at h0
    · rename_i hq
      subst hq
      split at h0
      · rename_i sid x1 x2 hlk
        split at h0
        · rename_i hs
          cases h0
          refine ⟨.ref sid :: st, ?_, ha.1, ⟨⟨sid, List.mem_singleton.mpr rfl, Or.inl ⟨hs, rfl⟩⟩, trivial, ha.2.1⟩, ha.2.2⟩
          unfold aj_step
          dsimp only
          rw [if_pos rfl]
          unfold aj_gets
          simp only [hlk]
          exact if_pos (by rw [htb.1]; exact hs)
        · cases h0
      · cases h0
    · cases h0
  case ldc idx =>
    dsimp only at h0
    split at h0
    · rename_i hq
      subst hq
      split at h0
      · rename_i x1 x2 v hlk
        split at h0
        · rename_i hs
          cases h0
          refine ⟨.int (Int32.ofInt v) :: st, ?_, ha.1, ⟨ak_win_k (Int32.toInt_ofInt_of_le (by omega) (by omega)), trivial, ha.2.1⟩, ha.2.2⟩
          unfold aj_step
          dsimp only
          rw [if_pos rfl]
          unfold aj_ldc
          simp only [hlk]
          rfl
        · cases h0
      · cases h0
    · cases h0
  case ldc_w idx =>
    dsimp only at h0
    split at h0
    · rename_i hq
      subst hq
      split at h0
      · rename_i x1 x2 v hlk
        split at h0
        · rename_i hs
          cases h0
          refine ⟨.int (Int32.ofInt v) :: st, ?_, ha.1, ⟨ak_win_k (Int32.toInt_ofInt_of_le (by omega) (by omega)), trivial, ha.2.1⟩, ha.2.2⟩
          unfold aj_step
          dsimp only
          rw [if_pos rfl]
          unfold aj_ldc
          simp only [hlk]
          rfl
        · cases h0
      · cases h0
    · cases h0
  case ldc2_w idx =>
    dsimp only at h0
    split at h0
    · rename_i hq
      subst hq
      split at h0
      · rename_i x1 x2 v hlk
        cases h0
        refine ⟨.long (Int64.ofInt v) :: st, ?_, ha.1, ⟨trivial, trivial, ha.2.1⟩, ha.2.2⟩
        unfold aj_step
        dsimp only
        rw [if_pos rfl]
        unfold aj_ldc
        simp only [hlk]
        exact if_pos trivial
      · cases h0
    · cases h0
  all_goals cases h0
end AKRD
