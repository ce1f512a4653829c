/-! THE CLASS'S CHECKER: its loop -/
section CX26
variable {X X' X1 X2 : fx_X} {T : md_T} {v p p0 p1 p2 : Int32} {w q : Int64} {u : Unit} {sr i k d n near lead : Nat} {U : md_U} {cu cu' : Option (Int64 × List Int32)} {TB TB' : md_TB} {rw rw' : Int × Int} {sk sk' : List (List Int64)} {pk pk' cs : List Int64} {fr fr' : Int64} {hz : Prop} {cn : Option Int} {a c0 : Int} {vs : List Int32} {nm : Int64} {b : Bool} {ns : List md_Nt}
theorem cx_85 (hT : cx_Tk X T) (hN : cx_N X i (a, near, lead)) (hn : near ≤ 2000) (hl : lead ≤ 100000) (hp1 : p1.toInt = a) (hp2 : p2.toInt = (i : Int)) (hA : (X.1 86 i).toInt = (if a = 186 then c0 else 0)) (ha : a < 200) (h137 : a ≠ 137) (hC : cx_CS X sr hz (U, cu, TB, rw, sk, pk, fr)) (g : gx_85 p1 p2 X u X') : cx_Pq T sr hz (some c0) (U, cu, TB, rw, sk, pk, fr) (a, near, lead) i X X' := by
  by_cases h185 : a ≤ 185
  · exact cx_85a hT hN hn hp1 hp2 (by rw [hA, if_neg (by omega)]) h185 h137 hC g
  unfold gx_85 at g
  rw [hp1, if_neg (by omega), if_neg (by omega), if_neg (by omega), if_neg (by omega), if_neg (by omega), if_neg (by omega)] at g
  rcases fy_ifd g with ⟨c, gg⟩ | ⟨c186, g⟩
  · subst c
    obtain ⟨_, X71, r1, rfl⟩ := gg
    exact cx_94 hT hN hp2 (by rw [hA, if_pos rfl]) hC r1
  rw [if_neg c186] at hA
  rcases fy_ifd g with ⟨c, gg⟩ | ⟨c191, g⟩
  · subst c
    obtain ⟨_, X74, r1, rfl⟩ := gg
    rcases cx_91 hT hN hp2 hC r1 with ⟨a1, a2, a3⟩ | ⟨a1, a2, rfl⟩
    · exact cx_Pq_n (by rw [md_k191, if_pos a1]) (by decide) a3
    · exact cx_Pq_k hA (by rw [md_k191, if_neg (by omega)]) rfl (fun _ => rfl) hC cx_fc_rf
  rcases fy_ifd g with ⟨c, gg⟩ | ⟨c192, g⟩
  · subst c
    obtain ⟨_, X77, r1, rfl⟩ := gg
    exact cx_96 hT hN hl hp2 hC r1
  rw [g]
  by_cases h187 : a = 187
  · subst h187
    have hC' : cx_CS X sr hz (U, cu, TB, (rw.1, rw.2 + 1), sk, pk, fr) := by
      obtain ⟨g0, g1⟩ := hC
      exact ⟨md_gd_rw g0, g1⟩
    exact cx_Pq_k hA md_k187 rfl (fun _ => rfl) hC' cx_fc_rf
  · exact cx_Pq_k hA (md_kx (by omega)) rfl (fun _ => rfl) hC cx_fc_rf
/-- any note -/
theorem cx_note (hT : cx_Tk X T) (hN : cx_N X i (a, near, lead)) (hn : near ≤ 2000) (hl : lead ≤ 100000) (hp1 : p1.toInt = a) (hp2 : p2.toInt = (i : Int)) (hA : (X.1 86 i).toInt = (if a = 186 then c0 else 0)) (h137 : a ≠ 137) (hC : cx_CS X sr hz (U, cu, TB, rw, sk, pk, fr)) {P : fx_X → Prop} (g : (if (p1).toInt < 210 then ((if (p1).toInt < 200 then (∃ (w17 : Unit) (X16 : fx_X), gx_85 p1 p2 X w17 X16 ∧ P X16) else (∃ (w21 : Unit) (X20 : fx_X), gx_81 p1 p2 X w21 X20 ∧ P X20))) else (∃ (w25 : Unit) (X24 : fx_X), gx_58 p1 p2 X w25 X24 ∧ P X24))) : ∃ Y, P Y ∧ cx_Pq T sr hz (some c0) (U, cu, TB, rw, sk, pk, fr) (a, near, lead) i X Y := by
  rcases fy_ifd g with ⟨c, g⟩ | ⟨c, g⟩
  · rcases fy_ifd g with ⟨c1, g⟩ | ⟨c1, g⟩
    · obtain ⟨_, Y, r, g⟩ := g
      exact ⟨Y, g, cx_85 hT hN hn hl hp1 hp2 hA (by omega) h137 hC r⟩
    · obtain ⟨_, Y, r, g⟩ := g
      exact ⟨Y, g, cx_81 hT hN hn hp1 hp2 (by rw [hA, if_neg (by omega)]) (by omega) (by omega) hC r, fun _ => cx_fc_fy (gf_81 r) (by decide) (by decide) (by decide)⟩
  · obtain ⟨_, Y, r, g⟩ := g
    exact ⟨Y, g, cx_58 hT hN hp1 hp2 (by rw [hA, if_neg (by omega)]) (by omega) hC r, fun _ => cx_fc_fy (gf_58 r) (by decide) (by decide) (by decide)⟩
/-- behind a fault -/
theorem cx_58f (hf : (X.1 82 5).toInt ≠ 0) (hp : p1.toInt = 216 ∨ p1.toInt = 220) (g : gx_58 p1 p2 X u X') : (X'.1 82 5).toInt ≠ 0 := by
  unfold gx_58 at g
  rcases hp with hp | hp
  · rw [hp, if_neg (by decide), if_neg (by decide), if_neg (by decide), if_neg (by decide), if_neg (by decide), if_pos rfl] at g
    obtain ⟨_, X27, ⟨w3, X2, r1, w6, X5, r2, g⟩, rfl⟩ := g
    have e2 : X2 = X := fy_e (gf_60 r1)
    have e5 : X5 = X2 := fy_e (gf_74 r2)
    rcases fy_ifd g with ⟨c, g⟩ | ⟨c, g⟩
    · obtain ⟨_, X29, r3, _, X32, r4, rfl⟩ := g
      rw [cx_41f r4]; exact cx_64n (by decide) r3
    · obtain ⟨w10, X9, r3, g⟩ := g
      have e9 : X9 = X5 := fy_e (gf_76 r3)
      rcases fy_ifd g with ⟨c, g⟩ | ⟨c, g⟩
      · rcases fy_ifd g with ⟨c, g⟩ | ⟨c, g⟩
        · obtain ⟨-, X19, rfl, X20, rfl, _, X22, r4, rfl⟩ := g
          rw [cx_41f r4, fx_rIn (by decide), fx_rL1, e9, e5, e2]; exact hf
        · obtain ⟨_, X15, r4, rfl⟩ := g
          rw [cx_41f r4, e9, e5, e2]; exact hf
      · obtain ⟨_, X24, r4, _, X27, r5, rfl⟩ := g
        rw [cx_41f r5]; exact cx_64n (by decide) r4
  · rw [hp, if_neg (by decide), if_neg (by decide), if_neg (by decide), if_neg (by decide), if_neg (by decide), if_neg (by decide), if_neg (by decide), if_neg (by decide), if_neg (by decide), if_pos rfl] at g
    rcases fy_ifd g with ⟨c, g⟩ | ⟨c, g⟩
    · rw [g]; exact hf
    · obtain ⟨_, X55, r1, rfl⟩ := g
      exact cx_71n (by decide) r1
theorem cx_56f : ∀ (n : Nat) (y2 : Int32) (X : fx_X), (X.1 82 5).toInt ≠ 0 → gxF_56 sr n 17 [y2] [] [] X u X' → (X'.1 82 5).toInt ≠ 0 ∧ cx_fc sr X X' := by
  intro n
  induction n with
  | zero => intro y2 X _ g; exact g.elim
  | succ n ih =>
    intro y2 X hf g
    replace g := gxO_56_17 g
    rcases fy_ifd g with ⟨c, g⟩ | ⟨c, g⟩
    · obtain ⟨w10, X9, r, g1⟩ := g
      have e9 : X9 = X := fy_e (gf_57 r)
      rw [e9, if_neg hf] at g1
      clear c
      rcases fy_ifd g1 with ⟨c, g⟩ | ⟨c, g⟩
      · rw [if_neg (by omega)] at g
        obtain ⟨_, X39, r2, x41, rfl, g⟩ := g
        obtain ⟨a1, a2⟩ := ih _ X39 (cx_58f hf (Or.inl c) r2) g
        exact ⟨a1, cx_fc_tr (cx_fc_fy (gf_58 r2) (by decide) (by decide) (by decide)) a2⟩
      · rcases fy_ifd g with ⟨c, g⟩ | ⟨c, g⟩
        · rw [if_neg (by omega)] at g
          obtain ⟨_, X39, r2, x41, rfl, g⟩ := g
          obtain ⟨a1, a2⟩ := ih _ X39 (cx_58f hf (Or.inr c) r2) g
          exact ⟨a1, cx_fc_tr (cx_fc_fy (gf_58 r2) (by decide) (by decide) (by decide)) a2⟩
        · rw [g]; exact ⟨hf, cx_fc_rf⟩
    · rw [g]; exact ⟨hf, cx_fc_rf⟩
/-- what holds ahead of a note -/
def cx_LI (T : md_T) (sr : Nat) (hz : Prop) (ns : List md_Nt) (X : fx_X) (s : md_CS) (i : Nat) : Prop := cx_Tk X T ∧ (X.1 82 5).toInt = 0 ∧ (X.1 82 4).toInt = (ns.length : Int) ∧ ns.length ≤ 2002 ∧ cx_CS X sr hz s ∧ (∀ j x, ns[j]? = some x → (X.1 83 j).toInt = x.1 ∧ (X.1 84 j).toInt = (x.2.1 : Int) ∧ (X.1 85 j).toInt = (x.2.2.1 : Int)) ∧ ∀ j x, i ≤ j → ns[j]? = some x → X.1 86 j = x.2.2.2
theorem cx_56l {ns : List md_Nt} : ∀ (es : List md_Ev), (∀ e, e ∈ es → e.2.1 ≤ 2000 ∧ e.2.2 ≤ 100000) → md_cnt es ≤ 100000 → (∀ es1 es2, es = es1 ++ es2 → md_cnt es2 ≤ 100000) → ∀ (n i : Nat) (y2 : Int32) (X : fx_X) (s : md_CS), y2.toInt = (i : Int) → i ≤ ns.length → ns.drop i = md_nts es → cx_LI T sr hz ns X s i → gxF_56 sr n 17 [y2] [] [] X u X' → md_fc T s es = none ∨ (md_fc T s es = some none ∧ (X'.1 82 5).toInt ≠ 0 ∧ cx_fc sr X X') ∨ ∃ s' as, md_fc T s es = some (some (s', as)) ∧ (X'.1 82 5).toInt = 0 ∧ cx_CS X' sr hz s' ∧ as.length = (md_nts es).length ∧ (∀ j x, as[j]? = some x → (X'.1 86 (i + j)).toInt = x) ∧ (∀ j, j < i → X'.1 86 j = X.1 86 j) ∧ cx_fc sr X X' := by
  intro es
  induction es with
  | nil =>
    intro _ _ _ n i y2 X s hy hi hd hL g
    obtain ⟨h1, h2, h3, h4, h5, h6, h7⟩ := hL
    have hil : i = ns.length := by
      have := congrArg List.length hd
      rw [List.length_drop] at this
      have : ns.length - i = 0 := this
      omega
    cases n with
    | zero => exact g.elim
    | succ n =>
      replace g := gxO_56_17 g
      unfold gxT_56_17 at g
      rw [if_neg (by omega)] at g
      subst g
      exact Or.inr (Or.inr ⟨s, [], rfl, h2, h5, rfl, (fun j x hx => by cases hx), fun _ _ => rfl, cx_fc_rf⟩)
  | cons e es ih =>
    intro hb hc0 hc n i y2 X s hy hi hd hL g
    have hb' : ∀ e, e ∈ es → e.2.1 ≤ 2000 ∧ e.2.2 ≤ 100000 := fun e he => hb e (List.mem_cons_of_mem _ he)
    have hc' : ∀ es1 es2, es = es1 ++ es2 → md_cnt es2 ≤ 100000 := fun es1 es2 h => hc (e :: es1) es2 (by rw [h]; rfl)
    have hce : md_cnt es ≤ 100000 := hc [e] es rfl
    by_cases hq : md_quiet e.1 = true
    · have e1 : md_nts (e :: es) = md_nts es := if_pos hq
      have e2 : md_fc T s (e :: es) = md_fc T s es := if_pos hq
      rw [e1] at hd
      rw [e2, e1]
      exact ih hb' hce hc' n i y2 X s hy hi hd hL g
    · have e1 : md_nts (e :: es) = (e.1, e.2.1, e.2.2, Int32.ofNat (if e.1 = 186 then md_cnt es else 0)) :: md_nts es := if_neg hq
      have e2 : md_fc T s (e :: es) = md_bd (md_ckg (some (md_cnt es : Int)) T s e) (fun q => md_bd (md_fc T q.1 es) (fun q2 => md_k (q2.1, q.2 :: q2.2))) := if_neg hq
      rw [e1] at hd
      obtain ⟨h1, h2, h3, h4, h5, h6, h7⟩ := hL
      have hlt : i < ns.length := by
        have := congrArg List.length hd
        rw [List.length_drop] at this
        have : ns.length - i = (md_nts es).length + 1 := this
        omega
      have hni : ns[i]? = some (e.1, e.2.1, e.2.2, Int32.ofNat (if e.1 = 186 then md_cnt es else 0)) := by
        have := congrArg (fun l => l[0]?) hd
        rw [List.getElem?_drop, Nat.add_zero] at this
        exact this
      have hd1 : ns.drop (i + 1) = md_nts es := by
        have := congrArg List.tail hd
        rw [List.tail_drop] at this
        exact this
      cases n with
      | zero => exact g.elim
      | succ n =>
        replace g := gxO_56_17 g
        unfold gxT_56_17 at g
        rw [if_pos (by omega)] at g
        obtain ⟨w10, X9, r, g⟩ := g
        obtain ⟨rfl, rfl⟩ := cx_57 hy (by omega) r
        rw [if_pos h2] at g
        have hN : cx_N X i e := ⟨by omega, h6 i _ hni⟩
        have h137 : e.1 ≠ 137 := fun z => hq (by rw [z]; rfl)
        have hA : (X.1 86 i).toInt = (if e.1 = 186 then (md_cnt es : Int) else 0) := by
          rw [h7 i _ (Nat.le_refl _) hni]
          show (Int32.ofNat (if e.1 = 186 then md_cnt es else 0)).toInt = _
          split
          · exact fx_ofI (a := (md_cnt es : Int)) (by omega) (by omega)
          · rfl
        obtain ⟨U, cu, TB, rw, sk, pk, fr⟩ := s
        obtain ⟨a, near, lead⟩ := e
        have hbb := hb (a, near, lead) List.mem_cons_self
        obtain ⟨Y, ⟨x18, rfl, g⟩, k1, k2⟩ := cx_note (P := fun Y => ∃ x18 : Int32, x18 = y2 + Int32.ofInt 1 ∧ gxF_56 sr n 17 [x18] [] [] Y u X') h1 hN hbb.1 hbb.2 (h6 i _ hni).1 hy hA h137 h5 g
        unfold cx_Po at k1
        rw [e2]
        cases hm : md_ckg (some (md_cnt es : Int)) T (U, cu, TB, rw, sk, pk, fr) (a, near, lead) with
        | none => exact Or.inl rfl
        | some o =>
          have k3 := k2 (by rw [hm]; intro z; cases z)
          rw [hm] at k1
          cases o with
          | none =>
            obtain ⟨f1, f2⟩ := cx_56f n _ Y k1 g
            exact Or.inr (Or.inl ⟨rfl, f1, cx_fc_tr k3 f2⟩)
          | some q =>
            obtain ⟨q1, q2, q3, q4⟩ := k1
            have hst : ∀ r k, r < 86 → r ≠ 82 → r ≥ 78 → Y.1 r k = X.1 r k := fun r k h h' h'' => k3.1 r k (by
              have hs := h5.2.2.2.2.2.2.2.2.2
              unfold cx_wi cx_wa; omega) (fun t ht z => by
              have := (h5.2.2.2.2.2.2.2.1.2.1 (sr + 8, t) r (cx_slot h5.2.2.2.2.2.2.2.2.2 ht) z).1
              omega) (by have := h5.2.2.2.2.2.2.2.1.1; omega)
            have h824 : Y.1 82 4 = X.1 82 4 := k3.1 82 4 (by
              have hs := h5.2.2.2.2.2.2.2.2.2
              unfold cx_wi cx_wa; omega) (fun t ht z => by
              have := (h5.2.2.2.2.2.2.2.1.2.1 (sr + 8, t) 82 (cx_slot h5.2.2.2.2.2.2.2.2.2 ht) z).1
              omega) (by have := h5.2.2.2.2.2.2.2.1.1; omega)
            have hL' : cx_LI T sr hz ns Y q.1 (i + 1) := by
              refine ⟨fun j => ?_, by rw [q1]; exact h2, by rw [h824]; exact h3, h4, q2, fun j x hx => ?_, fun j x hj hx => ?_⟩
              · rw [hst 79 j (by decide) (by decide) (by decide), k3.2.1 81 j (by
                  have hs := h5.2.2.2.2.2.2.2.2.2
                  unfold cx_wa; omega)]
                exact h1 j
              · rw [hst 83 j (by decide) (by decide) (by decide), hst 84 j (by decide) (by decide) (by decide), hst 85 j (by decide) (by decide) (by decide)]
                exact h6 j x hx
              · rw [q4 j (by omega)]; exact h7 j x (by omega) hx
            have key := ih hb' hce hc' n (i + 1) _ Y q.1 (cx_inc hy (by omega)) (by omega) hd1 hL' g
            rcases key with z | ⟨z, z1, z2⟩ | ⟨s', as, z, z1, z2, z3, z4, z5, z6⟩
            · left; show md_bd (md_fc T q.1 es) _ = none; rw [z]; rfl
            · right; left
              refine ⟨?_, z1, cx_fc_tr k3 z2⟩
              show md_bd (md_fc T q.1 es) _ = some none; rw [z]; rfl
            · right; right
              refine ⟨s', q.2 :: as, ?_, z1, z2, ?_, fun j x hx => ?_, fun j hj => by rw [z5 j (by omega), q4 j (by omega)], cx_fc_tr k3 z6⟩
              · show md_bd (md_fc T q.1 es) _ = _; rw [z]; rfl
              · rw [e1]; show as.length + 1 = (md_nts es).length + 1; rw [z3]
              · cases j with
                | zero =>
                  cases hx
                  rw [Nat.add_zero, z5 i (by omega)]
                  exact q3
                | succ j =>
                  have := z4 j x hx
                  rw [show i + 1 + j = i + (j + 1) by omega] at this
                  exact this
end CX26
