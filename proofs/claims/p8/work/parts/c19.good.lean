/-! THE MODEL OF THE CHECKER: lists stay such as can be -/
theorem fy_ife {α : Type} {c : Prop} [Decidable c] {A B r : α} (g : (if c then A else B) = r) : (c ∧ A = r) ∨ (¬ c ∧ B = r) := by
  by_cases q : c
  · rw [if_pos q] at g; exact Or.inl ⟨q, g⟩
  · rw [if_neg q] at g; exact Or.inr ⟨q, g⟩
theorem md_all_app {U : md_U} {x : Int64 × List Int32} : md_all (U ++ [x]) = md_all U * x.2.length := by
  unfold md_all
  rw [List.map_append, List.foldl_append]
  rfl
theorem md_nodup_set : ∀ {l : List Int64} {i : Nat} {a : Int64}, l.Nodup → a ∉ l → (l.set i a).Nodup
  | [], _, _, _, _ => List.nodup_nil
  | x :: l, 0, a, h, ha => List.nodup_cons.mpr ⟨fun z => ha (List.mem_cons_of_mem _ z), (List.nodup_cons.mp h).2⟩
  | x :: l, i + 1, a, h, ha => by
    refine List.nodup_cons.mpr ⟨fun z => ?_, md_nodup_set (List.nodup_cons.mp h).2 (fun z => ha (List.mem_cons_of_mem _ z))⟩
    rcases List.mem_or_eq_of_mem_set z with y | y
    · exact (List.nodup_cons.mp h).1 y
    · exact ha (by rw [← y]; exact List.mem_cons_self)
section MDG
variable {cn : Option Int} {T : md_T} {s' : md_CS} {e : md_Ev} {arg : Int} {U : md_U} {cu : Option (Int64 × List Int32)} {TB : md_TB} {rw : Int × Int} {sk : List (List Int64)} {pk cs : List Int64} {fr : Int64} {near lead : Nat} {rw' : Int × Int} {fr' : Int64}
theorem md_gd_cu {cu' : Option (Int64 × List Int32)} (h : md_gd (U, cu, TB, rw, sk, pk, fr)) (hc : ∀ x, cu' = some x → x.2.length ≤ 64 ∧ U.length < 8) : md_gd (U, cu', TB, rw, sk, pk, fr) := ⟨h.1, h.2.1, h.2.2.1, h.2.2.2.1, h.2.2.2.2.1, h.2.2.2.2.2.1, h.2.2.2.2.2.2.1, hc, h.2.2.2.2.2.2.2.2⟩
theorem md_gd_TB {TB' : md_TB} (h : md_gd (U, cu, TB, rw, sk, pk, fr)) (hT : ∀ x, x ∈ TB' → md_cl x.2.2) (hl : TB'.length ≤ 10) : md_gd (U, cu, TB', rw', sk, pk, fr) := ⟨hT, h.2.1, h.2.2.1, h.2.2.2.1, hl, h.2.2.2.2.2.1, h.2.2.2.2.2.2.1, h.2.2.2.2.2.2.2.1, h.2.2.2.2.2.2.2.2⟩
theorem md_gd_sk {sk' : List (List Int64)} {pk' : List Int64} (h : md_gd (U, cu, TB, rw, sk, pk, fr)) (hs : ∀ x, x ∈ sk' → md_cl x) (hl : sk'.length ≤ 20) (hp : md_cl pk') : md_gd (U, cu, TB, rw', sk', pk', fr') := ⟨h.1, hs, hp, h.2.2.2.1, h.2.2.2.2.1, hl, h.2.2.2.2.2.2.1, h.2.2.2.2.2.2.2.1, h.2.2.2.2.2.2.2.2⟩
theorem md_gd_rw (h : md_gd (U, cu, TB, rw, sk, pk, fr)) : md_gd (U, cu, TB, rw', sk, pk, fr') := ⟨h.1, h.2.1, h.2.2.1, h.2.2.2.1, h.2.2.2.2.1, h.2.2.2.2.2.1, h.2.2.2.2.2.2.1, h.2.2.2.2.2.2.2.1, h.2.2.2.2.2.2.2.2⟩
theorem md_gd_tl {x : List Int64} {pk' : List Int64} (h : md_gd (U, cu, TB, rw, cs :: sk, pk, fr)) (hx : md_cl x) (hp : md_cl pk') : md_gd (U, cu, TB, rw', x :: sk, pk', fr') := md_gd_sk h (fun y hy => by
  rcases List.mem_cons.mp hy with z | z
  · rw [z]; exact hx
  · exact h.2.1 y (List.mem_cons_of_mem _ z)) h.2.2.2.2.2.1 hp
theorem md_k_inj {α : Type} {a b : α} (h : md_k a = some (some b)) : a = b := Option.some.inj (Option.some.inj h)
theorem md_gd_ck : ∀ {s : md_CS} {e : md_Ev}, md_gd s → md_ckg cn T s e = some (some (s', arg)) → md_gd s'
  | (U, cu, TB, rw, sk, pk, fr), (a, near, lead), hg, h => by
    by_cases h180 : a = 180
    · subst h180; rw [md_k180] at h
      rcases fy_ife h with ⟨c, h⟩ | ⟨c, h⟩
      · cases h
      · rcases fy_ife h with ⟨c, h⟩ | ⟨c, h⟩
        · cases h
        · cases md_k_inj h
          exact md_gd_cu hg (fun x hx => by cases hx; exact ⟨Nat.zero_le _, by omega⟩)
    by_cases h181 : a = 181
    · subst h181; rw [md_k181] at h
      cases cu with
      | none => cases h
      | some x =>
        obtain ⟨n, vs⟩ := x
        rcases fy_ife h with ⟨c, h⟩ | ⟨c, h⟩
        · cases h
        · cases md_k_inj h
          exact md_gd_cu hg (fun x hx => by
            cases hx
            refine ⟨?_, (hg.2.2.2.2.2.2.2.1 _ rfl).2⟩
            show (vs ++ _).length ≤ 64
            rw [List.length_append]
            show vs.length + 1 ≤ 64
            simp only [not_or] at c
            omega)
    by_cases h182 : a = 182
    · subst h182; rw [md_k182] at h
      match cu, h, hg with
      | none, h, _ => cases h
      | some (n, []), h, _ => cases h
      | some (n, [f]), h, hg =>
        rcases fy_ife h with ⟨c0, h⟩ | ⟨c0, h⟩
        · cases h
        rcases fy_ife h with ⟨c, h⟩ | ⟨c, h⟩
        · cases h
        · cases md_k_inj h
          refine md_gd_cu hg (fun x hx => ?_)
          cases hx
          simp only [not_or] at c
          refine ⟨?_, (hg.2.2.2.2.2.2.2.1 _ rfl).2⟩
          show (List.map _ (List.range _)).length ≤ 64
          rw [List.length_map, List.length_range]
          omega
      | some (n, _ :: _ :: _), h, _ => cases h
    by_cases h183 : a = 183
    · subst h183; rw [md_k183] at h
      cases cu with
      | none => cases h
      | some x =>
        rcases fy_ife h with ⟨c, h⟩ | ⟨c, h⟩
        · cases h
        · rcases fy_ife h with ⟨c1, h⟩ | ⟨c1, h⟩
          · cases h
          · cases md_k_inj h
            refine ⟨hg.1, hg.2.1, hg.2.2.1, ?_, hg.2.2.2.2.1, hg.2.2.2.2.2.1, fun y hy => ?_, fun y hy => (by cases hy), ?_⟩
            · show (U ++ [x]).length ≤ 8
              rw [List.length_append]; show U.length + 1 ≤ 8; omega
            · rcases List.mem_append.mp hy with z | z
              · exact hg.2.2.2.2.2.2.1 y z
              · simp at z; subst z; exact (hg.2.2.2.2.2.2.2.1 y rfl).1
            · show md_all (U ++ [x]) ≤ 1024
              rw [md_all_app]; omega
    by_cases h184 : a = 184
    · subst h184; rw [md_k184] at h
      rcases fy_ife h with ⟨c, h⟩ | ⟨c, h⟩
      · cases h
      · rcases fy_ife h with ⟨c1, h⟩ | ⟨c1, h⟩
        · cases h
        · cases md_k_inj h
          refine md_gd_TB hg (fun x hx => ?_) (by rw [List.length_append]; show TB.length + 1 ≤ 10; omega)
          rcases List.mem_append.mp hx with z | z
          · exact hg.1 x z
          · simp at z; subst z; exact md_cl_nil
    by_cases h185 : a = 185
    · subst h185; rw [md_k185] at h
      cases hl : TB.getLast? with
      | none => rw [hl] at h; cases h
      | some x =>
        obtain ⟨n, b, cs⟩ := x
        rw [hl] at h
        rcases fy_ife h with ⟨c, h⟩ | ⟨c, h⟩
        · cases h
        · cases md_k_inj h
          simp only [not_or] at c
          have hm : (n, b, cs) ∈ TB := List.mem_of_getLast? hl
          have hne : TB ≠ [] := fun z => by rw [z] at hm; cases hm
          refine md_gd_TB hg (fun x hx => ?_) ?_
          · rcases List.mem_append.mp hx with z | z
            · exact hg.1 x (List.dropLast_subset _ z)
            · simp at z; subst z; exact md_cl_add (hg.1 _ hm) c.2 (by omega)
          · rw [List.length_append, List.length_dropLast]
            have : TB.length ≤ 10 := hg.2.2.2.2.1
            have : 0 < TB.length := List.length_pos_iff.mpr hne
            show TB.length - 1 + 1 ≤ 10
            omega
    by_cases h186 : a = 186
    · subst h186; rw [md_k186] at h
      rcases fy_ife h with ⟨c, h⟩ | ⟨c, h⟩
      · cases h
      · cases hl : TB[(md_ix (T.2 near) (TB.map (·.1)) 0).toNat]? with
        | none => rw [hl] at h; cases h
        | some x =>
          obtain ⟨n, b, cs⟩ := x
          rw [hl] at h
          rcases fy_ife h with ⟨c, h⟩ | ⟨c, h⟩
          · cases h
          · cases md_k_inj h; exact md_gd_rw hg
    by_cases h187 : a = 187
    · subst h187; rw [md_k187] at h; cases md_k_inj h; exact md_gd_rw hg
    by_cases h137 : a = 137
    · subst h137; rw [md_k137] at h
      rcases fy_ife h with ⟨c, h⟩ | ⟨c, h⟩
      · cases md_k_inj h; exact hg
      · cases h
    by_cases h191 : a = 191
    · subst h191; rw [md_k191] at h
      rcases fy_ife h with ⟨c, h⟩ | ⟨c, h⟩
      · cases h
      · cases md_k_inj h; exact hg
    by_cases h192 : a = 192
    · subst h192; rw [md_k192] at h
      cases sk with
      | nil => cases h
      | cons cs sk =>
        rcases fy_ife h with ⟨c, h⟩ | ⟨c, h⟩
        · cases h
        · cases md_k_inj h
          refine md_gd_sk (sk := cs :: sk) (rw := rw) (md_gd_TB hg (fun x hx => ?_) (by rw [List.length_append]; show TB.length + 1 ≤ 10; omega)) (fun y hy => hg.2.1 y (List.mem_cons_of_mem _ hy)) (by have := hg.2.2.2.2.2.1; exact Nat.le_of_succ_le this) hg.2.2.1
          rcases List.mem_append.mp hx with z | z
          · exact hg.1 x z
          · simp at z; subst z; exact hg.2.1 cs List.mem_cons_self
    by_cases h200 : a = 200
    · subst h200; rw [md_k200] at h; cases md_k_inj h; exact hg
    by_cases h201 : a = 201
    · subst h201; rw [md_k201] at h
      rcases fy_ife h with ⟨c, h⟩ | ⟨c, h⟩
      · cases h
      · cases md_k_inj h; exact hg
    by_cases h202 : a = 202
    · subst h202; rw [md_k202] at h
      cases sk with
      | nil => cases h
      | cons cs sk =>
        rcases fy_ife h with ⟨c, h⟩ | ⟨c, h⟩
        · cases h
        · cases md_k_inj h; exact hg
    by_cases h203 : a = 203
    · subst h203; rw [md_k203] at h; cases md_k_inj h; exact hg
    by_cases h210 : a = 210
    · subst h210; rw [md_k210] at h
      rcases fy_ife h with ⟨c, h⟩ | ⟨c, h⟩
      · cases h
      · cases hl : TB[(md_ix (T.2 near) (TB.map (·.1)) 0).toNat]? with
        | none => rw [hl] at h; cases h
        | some x =>
          obtain ⟨n, b, cs⟩ := x
          rw [hl] at h
          rcases fy_ife h with ⟨c, h⟩ | ⟨c, h⟩
          · cases h
          · cases md_k_inj h
            refine md_gd_sk hg (fun y hy => ?_) (by show sk.length + 1 ≤ 20; omega) hg.2.2.1
            rcases List.mem_cons.mp hy with z | z
            · rw [z]; exact hg.1 _ (List.mem_of_getElem? hl)
            · exact hg.2.1 y z
    by_cases h211 : a = 211
    · subst h211; rw [md_k211] at h; unfold md_pm at h
      match sk, h, hg with
      | [], h, _ => cases h
      | [_], h, _ => cases h
      | y :: x :: sk', h, hg =>
        rcases fy_ife h with ⟨c, h⟩ | ⟨c, h⟩
        · cases md_k_inj h
          exact md_gd_sk hg (fun z hz => hg.2.1 z (List.mem_cons_of_mem _ hz)) (Nat.le_of_succ_le hg.2.2.2.2.2.1) hg.2.2.1
        · cases h
    by_cases h212 : a = 212
    · subst h212; rw [md_k212] at h; unfold md_pm at h
      match sk, h, hg with
      | [], h, _ => cases h
      | [_], h, _ => cases h
      | y :: x :: sk', h, hg =>
        rcases fy_ife h with ⟨c, h⟩ | ⟨c, h⟩
        · cases md_k_inj h
          exact md_gd_sk hg (fun z hz => hg.2.1 z (List.mem_cons_of_mem _ hz)) (Nat.le_of_succ_le hg.2.2.2.2.2.1) hg.2.2.1
        · cases h
    by_cases h213 : a = 213
    · subst h213; rw [md_k213] at h
      match sk, h, hg with
      | [], h, _ => cases h
      | [_], h, _ => cases h
      | y :: x :: sk', h, hg =>
        rcases fy_ife h with ⟨c, h⟩ | ⟨c, h⟩
        · cases h
        · cases md_k_inj h
          refine md_gd_sk hg (fun z hz => ?_) (Nat.le_of_succ_le hg.2.2.2.2.2.1) hg.2.2.1
          rcases List.mem_cons.mp hz with q | q
          · rw [q]
            exact md_cl_new (hg.2.1 x (List.mem_cons_of_mem _ List.mem_cons_self)) (hg.2.1 y List.mem_cons_self) (by omega)
          · exact hg.2.1 z (List.mem_cons_of_mem _ (List.mem_cons_of_mem _ q))
    by_cases h215 : a = 215
    · subst h215; rw [md_k215] at h; cases md_k_inj h; exact md_gd_sk hg hg.2.1 hg.2.2.2.2.2.1 md_cl_nil
    by_cases h216 : a = 216
    · subst h216; rw [md_k216] at h
      cases sk with
      | nil => cases h
      | cons cs sk =>
        rcases fy_ife h with ⟨c, h⟩ | ⟨c, h⟩
        · cases h
        · rcases fy_ife h with ⟨c1, h⟩ | ⟨c1, h⟩
          · cases h
          · rcases fy_ife h with ⟨c2, h⟩ | ⟨c2, h⟩
            · cases h
            · cases md_k_inj h
              exact md_gd_sk hg hg.2.1 hg.2.2.2.2.2.1 (md_cl_add hg.2.2.1 c1 (by omega))
    by_cases h217 : a = 217
    · subst h217; rw [md_k217] at h
      cases sk with
      | nil => cases h
      | cons cs sk => cases md_k_inj h; exact md_gd_tl hg hg.2.2.1 hg.2.2.1
    by_cases h218 : a = 218
    · subst h218; rw [md_k218] at h
      cases sk with
      | nil => cases h
      | cons cs sk =>
        rcases fy_ife h with ⟨c, h⟩ | ⟨c, h⟩
        · cases h
        · cases md_k_inj h; exact md_gd_rw hg
    by_cases h219 : a = 219
    · subst h219; rw [md_k219] at h
      cases sk with
      | nil => cases h
      | cons cs sk =>
        rcases fy_ife h with ⟨c, h⟩ | ⟨c, h⟩
        · cases h
        · rcases fy_ife h with ⟨c1, h⟩ | ⟨c1, h⟩
          · cases h
          · cases md_k_inj h
            exact md_gd_tl hg ⟨md_nodup_set (hg.2.1 cs List.mem_cons_self).1 c1, by rw [List.length_set]; exact (hg.2.1 cs List.mem_cons_self).2⟩ hg.2.2.1
    by_cases h220 : a = 220
    · subst h220; rw [md_k220] at h
      rcases fy_ife h with ⟨c, h⟩ | ⟨c, h⟩
      · cases h
      · cases md_k_inj h; exact hg
    by_cases h221 : a = 221
    · subst h221; rw [md_k221] at h; cases md_k_inj h; exact hg
    by_cases h222 : a = 222
    · subst h222; rw [md_k222] at h
      cases sk with
      | nil => cases h
      | cons cs sk =>
        rcases fy_ife h with ⟨c, h⟩ | ⟨c, h⟩
        · cases h
        · cases md_k_inj h; exact hg
    by_cases h223 : a = 223
    · subst h223; rw [md_k223] at h
      cases sk with
      | nil => cases h
      | cons cs sk =>
        rcases fy_ife h with ⟨c, h⟩ | ⟨c, h⟩
        · cases h
        · rcases fy_ife h with ⟨c1, h⟩ | ⟨c1, h⟩
          · cases h
          · cases md_k_inj h
            exact md_gd_tl hg (md_cl_add hg.2.2.1 c (by omega)) hg.2.2.1
    rw [md_kx ⟨h180, h181, h182, h183, h184, h185, h186, h187, h137, h191, h192, h200, h201, h202, h203, h210, h211, h212, h213, h215, h216, h217, h218, h219, h220, h221, h222, h223⟩] at h
    cases md_k_inj h
    exact hg
end MDG
