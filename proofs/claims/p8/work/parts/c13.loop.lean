/-! THE CLASS'S PARSER: the loop -/
def md_sr (K : List md_Sy) : Prop := ∀ x, x ∈ K → 1 ≤ x.1 ∧ x.1 < 256 ∧ x.2 ≤ 2000
/-- what holds of the model's state, whatever the tokens -/
def md_in (K : List md_Sy) (j near : Nat) (c : md_C) (ns : Nat) (rn : Int) : Prop := md_dp K ∧ md_op K ∧ md_sh K - md_on K = (c 14).toInt ∧ (c 14).toInt ≤ 8 ∧ (ns : Int) + md_need K ≤ 2 * (j : Int) ∧ ((j : Int) + md_e1 K ≤ 1001 ∧ md_e1 K ≤ 1) ∧ near ≤ j ∧ md_sr K ∧ rn < (ns : Int)
def cx_PS (T : md_T) (X : fx_X) (K : List md_Sy) (j near : Nat) (c : md_C) (nm : md_Nm) (ns : List md_Nt) (rn : Int) : Prop := cx_rX X ∧ cx_Tk X T ∧ (X.1 82 5).toInt = 0 ∧ (X.1 87 6).toInt = (j : Int) ∧ (X.1 87 7).toInt = (near : Int) ∧ cx_sk X K ∧ cx_ct X c ∧ cx_ns X nm ∧ cx_nt X ns rn ∧ md_in K j near c ns.length rn
section CX13
variable {X X' X1 : fx_X} {T : md_T} {p : Int32} {u : Unit} {j near l n : Nat} {c c' : md_C} {nm : md_Nm} {K : List md_Sy} {ns : List md_Nt} {rn s : Int} {r : List Int}
theorem md_in_len (h : md_in K j near c n rn) : (K.length : Int) ≤ 250 := by
  obtain ⟨h1, h2, h3, h4, -⟩ := h
  have a1 := md_len h1
  have a2 := md_ln_24 h1
  have a3 := md_op_1 h2
  omega
theorem md_in_tail (h : md_in ((s, l) :: K) j near c n rn) : md_dp K ∧ md_op K ∧ (130 ≤ s → md_on K = 0) ∧ md_sr K ∧ 1 ≤ s ∧ s < 256 ∧ l ≤ 2000 := by
  obtain ⟨h1, h2, h3, h4, h5, h6, h7, h8, h9⟩ := h
  exact ⟨h1.2, (md_op_t h2).1, (md_op_t h2).2, fun x hx => h8 x (List.mem_cons_of_mem _ hx), (h8 (s, l) (List.mem_cons_self)).1, (h8 (s, l) (List.mem_cons_self)).2.1, (h8 (s, l) (List.mem_cons_self)).2.2⟩
theorem md_in_note {m : Nat} {rn' : Int} (h : md_in ((s, l) :: K) j near c n rn) (hs : 170 ≤ s) (hc : (c' 14).toInt = (c 14).toInt + (if s = 170 then 1 else if s = 171 then -1 else 0) ∧ (c' 14).toInt ≤ 8) (hm : m = n ∨ (m = n + 1 ∧ 173 ≤ s)) (hrn : rn' < (m : Int)) : md_in K j near c' m rn' := by
  obtain ⟨b1, b2, b3, b4, -⟩ := md_in_tail h
  obtain ⟨h1, h2, h3, h4, h5, h6, h7, h8, h9⟩ := h
  have e3 : (if s = 171 then 1 else 0) + md_sh K - ((if s = 170 then 1 else 0) + md_on K) = (c 14).toInt := h3
  have e5 : (n : Int) + (if 173 ≤ s then 1 + md_need K else max 0 (md_wt s + md_need K)) ≤ 2 * (j : Int) := h5
  have e6 : (j : Int) + ((if s = 1 then 1 else 0) + md_e1 K) ≤ 1001 := h6.1
  have e7 : (if s = 1 then 1 else 0) + md_e1 K ≤ 1 := h6.2
  rw [if_neg (by omega)] at e6 e7
  refine ⟨b1, b2, ?_, hc.2, ?_, ⟨by omega, by omega⟩, h7, b4, hrn⟩
  · rw [hc.1]
    by_cases z : s = 170
    · subst z
      rw [if_pos rfl, if_neg (by decide)] at e3
      rw [if_pos rfl]; omega
    · rw [if_neg z] at e3 ⊢
      by_cases z1 : s = 171
      · rw [if_pos z1] at e3 ⊢; omega
      · rw [if_neg z1] at e3 ⊢; omega
  · by_cases z : 173 ≤ s
    · rw [if_pos z] at e5; omega
    · rw [if_neg z] at e5
      have hw : md_wt s = 0 := by unfold md_wt; rw [if_neg z, if_pos (by omega)]
      rw [hw] at e5
      omega
theorem md_in_rule (h : md_in ((s, l) :: K) j near c n rn) (hs : 130 ≤ s) (hs2 : s < 170) (hr : md_ok s r = true) : md_in (r.map (fun a => (a, j)) ++ K) j near c n rn ∧ md_st (r.map (fun a => (a, j)) ++ K) + 1 ≤ md_st ((s, l) :: K) := by
  obtain ⟨b1, b2, b3, b4, -⟩ := md_in_tail h
  obtain ⟨h1, h2, h3, h4, h5, h6, h7, h8, h9⟩ := h
  unfold md_ok at hr
  simp only [Bool.and_eq_true] at hr
  obtain ⟨⟨⟨⟨⟨⟨⟨⟨⟨⟨⟨r1, r2⟩, r3⟩, r4⟩, r5⟩, r6⟩, r7⟩, r8⟩, r9⟩, r10⟩, r11⟩, r12⟩ := hr
  have e3 : (if s = 171 then 1 else 0) + md_sh K - ((if s = 170 then 1 else 0) + md_on K) = (c 14).toInt := h3
  have e5 : (n : Int) + (if 173 ≤ s then 1 + md_need K else max 0 (md_wt s + md_need K)) ≤ 2 * (j : Int) := h5
  have e6 : (j : Int) + ((if s = 1 then 1 else 0) + md_e1 K) ≤ 1001 := h6.1
  have e7 : (if s = 1 then 1 else 0) + md_e1 K ≤ 1 := h6.2
  rw [if_neg (by omega), if_neg (by omega)] at e3
  rw [if_neg (by omega)] at e5 e6 e7
  have hw : md_wt s = md_np s := by unfold md_wt; rw [if_neg (by omega), if_neg (by omega), if_pos hs]
  rw [hw] at e5
  have r7' : r.contains 1 = false := by simpa using r7
  have a1 := of_decide_eq_true r1
  have a2 := of_decide_eq_true r2
  have a4 := of_decide_eq_true r4
  have a6 := of_decide_eq_true r6
  have d1 : md_h0 s + md_ln K ≤ 24 := by
    have : s = 171 ∨ md_h0 s + md_ln K ≤ 24 := h1.1
    omega
  refine ⟨⟨md_dp_app r3 d1 b1, md_op_app r5 (b3 hs), ?_, h4, ?_, ?_, h7, ?_, h9⟩, ?_⟩
  · rw [md_sh_app, md_on_app]; omega
  · have := md_need_app (r := r) (j := j) (K := K)
    omega
  · rw [md_e1_app r7']; exact ⟨by omega, by omega⟩
  · intro x hx
    rcases List.mem_append.mp hx with hx | hx
    · obtain ⟨a, ha, rfl⟩ := List.mem_map.mp hx
      have := of_decide_eq_true (List.all_eq_true.mp r12 a ha)
      have e1 := md_e1_0 (K := K)
      exact ⟨this.1, this.2, by show j ≤ 2000; omega⟩
    · exact b4 x hx
  · rw [md_st_app]
    show md_str r + md_st K + 1 ≤ md_cst s + md_st K
    omega
theorem md_in_take (h : md_in ((s, l) :: K) j near c n rn) (hs : s < 130) (hj : ¬ (1000 ≤ j ∧ s ≠ 1)) : md_in K (j + 1) j c n rn ∧ md_st K = md_st ((s, l) :: K) + 19 := by
  obtain ⟨b1, b2, b3, b4, -⟩ := md_in_tail h
  obtain ⟨h1, h2, h3, h4, h5, h6, h7, h8, h9⟩ := h
  have e3 : (if s = 171 then 1 else 0) + md_sh K - ((if s = 170 then 1 else 0) + md_on K) = (c 14).toInt := h3
  have e5 : (n : Int) + (if 173 ≤ s then 1 + md_need K else max 0 (md_wt s + md_need K)) ≤ 2 * (j : Int) := h5
  have e6 : (j : Int) + ((if s = 1 then 1 else 0) + md_e1 K) ≤ 1001 := h6.1
  have e7 : (if s = 1 then 1 else 0) + md_e1 K ≤ 1 := h6.2
  rw [if_neg (by omega), if_neg (by omega)] at e3
  rw [if_neg (by omega)] at e5
  have hw : md_wt s = -2 := by unfold md_wt; rw [if_neg (by omega), if_neg (by omega), if_neg (by omega)]
  rw [hw] at e5
  have e1 := md_e1_0 (K := K)
  refine ⟨⟨b1, b2, by omega, h4, by omega, ⟨?_, ?_⟩, by omega, b4, h9⟩, ?_⟩
  · split at e6
    · omega
    · rename_i z
      have : ¬ 1000 ≤ j := fun y => hj ⟨y, z⟩
      split at e7 <;> omega
  · split at e7 <;> omega
  · show md_st K = md_cst s + md_st K + 19
    have : md_cst s = -19 := by unfold md_cst; rw [if_neg (by omega), if_pos hs]
    omega
theorem md_ac_len {e : md_Ev} (h : rn < (ns.length : Int)) : (md_ac (ns, rn) e).2 < ((md_ac (ns, rn) e).1.length : Int) ∧ (((md_ac (ns, rn) e).1.length = ns.length) ∨ ((md_ac (ns, rn) e).1.length = ns.length + 1 ∧ ¬ md_quiet e.1 = true)) := by
  unfold md_ac
  split
  · exact ⟨h, Or.inl rfl⟩
  · rename_i q
    split
    · show (ns.length : Int) < ((ns ++ _).length : Int) ∧ ((ns ++ _).length = _ ∨ ((ns ++ _).length = _ ∧ _))
      rw [List.length_append]
      exact ⟨by show (ns.length : Int) < ((ns.length + 1 : Nat) : Int); omega, Or.inr ⟨rfl, q⟩⟩
    · split
      · show rn < ((md_inc ns rn ++ _).length : Int) ∧ ((md_inc ns rn ++ _).length = _ ∨ ((md_inc ns rn ++ _).length = _ ∧ _))
        rw [List.length_append, md_inc_len]
        exact ⟨by show rn < ((ns.length + 1 : Nat) : Int); omega, Or.inr ⟨rfl, q⟩⟩
      · show rn < ((ns ++ _).length : Int) ∧ ((ns ++ _).length = _ ∨ ((ns ++ _).length = _ ∧ _))
        rw [List.length_append]
        exact ⟨by show rn < ((ns.length + 1 : Nat) : Int); omega, Or.inr ⟨rfl, q⟩⟩
/-- what the parser leaves -/
def cx_PR (X' : fx_X) (ns : List md_Nt) (rn : Int) (r : Option (List md_Ev)) : Prop := match r with
  | none => (X'.1 82 5).toInt ≠ 0
  | some es => (X'.1 82 5).toInt = 0 ∧ cx_nt X' (es.foldl md_ac (ns, rn)).1 (es.foldl md_ac (ns, rn)).2 ∧ (es.foldl md_ac (ns, rn)).1.length ≤ 2002
theorem cx_32l : ∀ (n k : Nat) (y2 : Int32) (X : fx_X) (K : List md_Sy) (j near : Nat) (c : md_C) (nm : md_Nm) (ns : List md_Nt) (rn : Int), y2.toInt = (k : Int) → cx_PS T X K j near c nm ns rn → (k : Int) + md_st K + (1001 - (j : Int)) * 20 + 4750 ≤ 100000 → gxF_32 p n 67 [y2] [] [] X u X' → ∃ m r, md_am T m K j near c nm = some r ∧ cx_PR X' ns rn r := by
  intro n
  induction n with
  | zero => intro k y2 X K j near c nm ns rn _ _ _ g; exact g.elim
  | succ n ih =>
    intro k y2 X K j near c nm ns rn hk hS hM g
    obtain ⟨hX, hT, hf, hj, hne, hs, hc, hn, ht, hi⟩ := hS
    have hlen := md_in_len hi
    have hlow := md_st_low (K := K)
    have hje := hi.2.2.2.2.2.1.1
    have he1 := md_e1_0 (K := K)
    have hni : 0 ≤ md_need K := md_need_0
    have hnl : (ns.length : Int) ≤ 2002 := by have := hi.2.2.2.2.1; omega
    replace g := gxO_32_67 g
    unfold gxT_32_67 at g
    rw [if_pos (by omega)] at g
    cases K with
    | nil =>
      have e0 : (X.1 87 5).toInt = 0 := hs.1
      rw [if_neg (by omega)] at g
      rw [g]
      exact ⟨1, some [], rfl, hf, ht, by show ns.length ≤ 2002; omega⟩
    | cons a K =>
      obtain ⟨s, l⟩ := a
      obtain ⟨b1, b2, b3, b4, b5, b6, b7⟩ := md_in_tail hi
      have hd : (X.1 87 5).toInt = ((K.length + 1 : Nat) : Int) := hs.1
      have hlen2 : ((K.length + 1 : Nat) : Int) ≤ 250 := hlen
      rw [if_pos (by omega), if_pos hf] at g
      obtain ⟨X22, rfl, g⟩ := g
      have e22 : (X.1 87 5 - Int32.ofInt 1).toInt = (K.length : Int) := by
        rw [fx_sub (by rw [hd]; show -2147483648 ≤ ((K.length + 1 : Nat) : Int) - 1; omega) (by rw [hd]; show ((K.length + 1 : Nat) : Int) - 1 ≤ 2147483647; omega), hd]
        show ((K.length + 1 : Nat) : Int) - 1 = _
        omega
      rw [fx_rIe, if_pos (by omega)] at g
      obtain ⟨-, x44, rfl, x46, rfl, g⟩ := g
      rw [fx_rIn (by decide), fx_in e22] at g
      obtain ⟨sN, rfl⟩ : ∃ sN : Nat, s = (sN : Int) := ⟨s.toNat, by omega⟩
      have htop : (X.1 88 K.length).toInt = ((256 * l + sN : Nat) : Int) := by
        have := hs.2.1
        omega
      obtain ⟨u1, u2⟩ := fx_unp htop (by omega)
      rw [u1] at g
      -- the state at X22
      obtain ⟨Y, hY⟩ : ∃ Y, Y = fx_wI X 87 5 (X.1 87 5 - Int32.ofInt 1) := ⟨_, rfl⟩
      rw [← hY] at g
      have yX : cx_rX Y := by rw [hY]; intro i a1 a2; rw [fx_rIn (by omega)]; exact hX i a1 a2
      have yT : cx_Tk Y T := by rw [hY]; intro i; rw [fx_rIn (by decide)]; exact hT i
      have yf : (Y.1 82 5).toInt = 0 := by rw [hY, fx_rIn (by decide)]; exact hf
      have yj : (Y.1 87 6).toInt = (j : Int) := by rw [hY, fx_rIk (by decide)]; exact hj
      have yne : (Y.1 87 7).toInt = (near : Int) := by rw [hY, fx_rIk (by decide)]; exact hne
      have ys : cx_sk Y K := by rw [hY]; exact ⟨by rw [fx_rIe]; exact e22, by rw [fx_rIn (by decide)]; exact hs.2.2⟩
      have yc : cx_ct Y c := by rw [hY]; intro k a1 a2 a3; rw [fx_rIk (by omega)]; exact hc k a1 a2 a3
      have yn : cx_ns Y nm := by rw [hY]; exact cx_ns_w hn (by decide)
      have yt : cx_nt Y ns rn := by
        rw [hY]
        refine ⟨by rw [fx_rIn (by decide)]; exact ht.1, by rw [fx_rIk (by decide)]; exact ht.2.1, fun i x hx => ?_⟩
        rw [fx_rIn (by decide), fx_rIn (by decide), fx_rIn (by decide), fx_rIn (by decide)]
        exact ht.2.2 i x hx
      have hk1 : (y2 + Int32.ofInt 1).toInt = ((k + 1 : Nat) : Int) := by
        rw [fx_add (by rw [hk]; show -2147483648 ≤ (k : Int) + 1; omega) (by rw [hk]; show (k : Int) + 1 ≤ 2147483647; omega), hk]; rfl
      by_cases z : 170 ≤ sN
      · -- a note
        rw [if_neg (by omega)] at g
        obtain ⟨w, X1, r1, x2, rfl, g⟩ := g
        have hfr := gf_34 r1
        rcases cx_34 yT yne yc yn yt (by omega) (by have := hi.2.2.2.2.2.2.2.2; omega) u1 (by omega) u2 r1 with ⟨h1, h2⟩ | ⟨c', nm', h1, h2, h3, h4, h5⟩
        · refine ⟨1, none, ?_, ?_⟩
          · unfold md_am
            rw [if_pos (by omega), h1]
          · rw [cx_32f h2 g]; exact h2
        · have h14 := md_room_14 h1 (by have := hi.2.2.1; have a3 := md_op_1 hi.2.1; have a4 : ∀ K : List md_Sy, 0 ≤ md_sh K := (fun K => by
            induction K with
            | nil => exact Int.le_refl _
            | cons a K ih => obtain ⟨s, l⟩ := a; unfold md_sh; split <;> omega); have := a4 (((sN : Int), l) :: K); omega) hi.2.2.2.1
          obtain ⟨m1, m2⟩ := md_ac_len (ns := ns) (rn := rn) (e := ((sN : Int), near, l)) (by have := hi.2.2.2.2.2.2.2.2; omega)
          have hi' : md_in K j near c' (md_ac (ns, rn) ((sN : Int), near, l)).1.length (md_ac (ns, rn) ((sN : Int), near, l)).2 := md_in_note hi (by omega) h14 (by
            rcases m2 with m2 | ⟨m2, m3⟩
            · exact Or.inl m2
            · refine Or.inr ⟨m2, ?_⟩
              unfold md_quiet at m3
              simp at m3
              omega) m1
          obtain ⟨m, r, e1, e2⟩ := ih (k + 1) _ X1 K j near c' nm' _ _ hk1 ⟨cx_rX_fr yX hfr (by decide) (by decide), cx_Tk_fr yT hfr (by decide) (by decide) (by decide) (by decide), by rw [h5]; exact yf, by rw [hfr.2.2 87 6 (by decide) (by decide)]; exact yj, by rw [hfr.2.2 87 7 (by decide) (by decide)]; exact yne, ⟨by rw [hfr.2.2 87 5 (by decide) (by decide)]; exact ys.1, by rw [fy_ra hfr (by decide) (by decide)]; exact ys.2⟩, h2, h3, h4, hi'⟩ (by
            have : md_st (((sN : Int), l) :: K) = md_cst (sN : Int) + md_st K := rfl
            have : md_cst (sN : Int) = 1 := if_pos (by omega)
            omega) g
          refine ⟨m + 1, r.map (fun es => ((sN : Int), near, l) :: es), ?_, ?_⟩
          · unfold md_am
            rw [if_pos (by omega), h1]
            dsimp only
            rw [e1]
            rfl
          · cases r with
            | none => exact e2
            | some es => exact e2
      · rw [if_pos (by omega)] at g
        by_cases z2 : 130 ≤ sN
        · -- a part
          rw [if_neg (by omega)] at g
          obtain ⟨w, X1, r1, x2, rfl, g⟩ := g
          have hfr := gf_45 r1
          rcases cx_45 yX yT yj (by omega) (by omega) ys u1 r1 with ⟨h1, h2⟩ | ⟨r, h1, h2, h3⟩
          · refine ⟨1, none, ?_, ?_⟩
            · unfold md_am
              rw [if_neg (by omega), if_pos (by omega), h1]
            · rw [cx_32f h2 g]; exact h2
          · obtain ⟨hi', hM'⟩ := md_in_rule hi (by omega) (by omega) (md_rule_ok h1)
            obtain ⟨m, r', e1, e2⟩ := ih (k + 1) _ X1 _ j near c nm _ _ hk1 ⟨cx_rX_fr yX hfr (by decide) (by decide), cx_Tk_fr yT hfr (by decide) (by decide) (by decide) (by decide), by rw [h3]; exact yf, by rw [hfr.2.2 87 6 (by decide) (by decide)]; exact yj, by rw [hfr.2.2 87 7 (by decide) (by decide)]; exact yne, h2, fun k a1 a2 a3 => by rw [hfr.2.2 87 k (by decide) (by simp; omega)]; exact yc k a1 a2 a3, ⟨by rw [hfr.2.2 87 9 (by decide) (by decide)]; exact yn.1, yn.2.1, fun i x hx => by rw [fy_rl hfr (by decide) (by decide), fy_ra hfr (by decide) (by decide)]; exact yn.2.2 i x hx⟩, ⟨by rw [hfr.2.2 82 4 (by decide) (by decide)]; exact yt.1, by rw [hfr.2.2 87 15 (by decide) (by decide)]; exact yt.2.1, fun i x hx => by rw [fy_ra hfr (by decide) (by decide), fy_ra hfr (by decide) (by decide), fy_ra hfr (by decide) (by decide), fy_ra hfr (by decide) (by decide)]; exact yt.2.2 i x hx⟩, hi'⟩ (by omega) g
            by_cases z3 : sN = 137
            · refine ⟨m + 1, r'.map (fun es => (137, near, l) :: es), ?_, ?_⟩
              · unfold md_am
                rw [if_neg (by omega), if_pos (by omega), h1]
                dsimp only
                rw [if_pos (by omega), e1]
                rfl
              · cases r' with
                | none => exact e2
                | some es => exact e2
            · refine ⟨m + 1, r', ?_, e2⟩
              unfold md_am
              rw [if_neg (by omega), if_pos (by omega), h1]
              dsimp only
              rw [if_neg (by omega), e1]
        · -- a token
          rw [if_pos (by omega)] at g
          obtain ⟨w, X1, r1, x2, rfl, g⟩ := g
          rcases cx_55 yT yj u1 r1 with ⟨h1, h2, h3⟩ | ⟨h1, h2⟩
          · obtain ⟨hi', hM'⟩ := md_in_take hi (by omega) h2
            have hj1 : (Y.1 87 6 + Int32.ofInt 1).toInt = ((j + 1 : Nat) : Int) := by
              rw [fx_add (by rw [yj]; show -2147483648 ≤ (j : Int) + 1; omega) (by rw [yj]; show (j : Int) + 1 ≤ 2147483647; omega), yj]; rfl
            have q1 : ∀ i r, r ≠ 87 → X1.1 r i = Y.1 r i := fun i r hr => by rw [h3, fx_rIn hr, fx_rIn hr]
            have q2 : ∀ i, i ≠ 6 → i ≠ 7 → X1.1 87 i = Y.1 87 i := fun i a1 a2 => by rw [h3, fx_rIk a1, fx_rIk a2]
            have q3 : X1.2 = Y.2 := by rw [h3]; rfl
            obtain ⟨m, r', e1, e2⟩ := ih (k + 1) _ X1 K (j + 1) j c nm _ _ hk1 ⟨fun i a1 a2 => by rw [q3]; exact ⟨(yX i a1 a2).1, fun j hj => by rw [q1 _ _ (by omega)]; exact (yX i a1 a2).2 j hj⟩, fun i => by rw [q1 _ _ (by decide), q3]; exact yT i, by rw [q1 _ _ (by decide)]; exact yf, by rw [h3, fx_rIe]; exact hj1, by rw [h3, fx_rIk (by decide), fx_rIe]; exact yj, ⟨by rw [q2 _ (by decide) (by decide)]; exact ys.1, cx_stk_w ys.2 (fun i _ => q1 _ _ (by decide))⟩, fun k a1 a2 a3 => by rw [q2 _ (by omega) (by omega)]; exact yc k a1 a2 a3, ⟨by rw [q2 _ (by decide) (by decide)]; exact yn.1, yn.2.1, fun i x hx => by rw [q1 _ _ (by decide), q3]; exact yn.2.2 i x hx⟩, ⟨by rw [q1 _ _ (by decide)]; exact yt.1, by rw [q2 _ (by decide) (by decide)]; exact yt.2.1, fun i x hx => by rw [q1 _ _ (by decide), q1 _ _ (by decide), q1 _ _ (by decide), q1 _ _ (by decide)]; exact yt.2.2 i x hx⟩, hi'⟩ (by omega) g
            refine ⟨m + 1, r', ?_, e2⟩
            unfold md_am
            rw [if_neg (by omega), if_neg (by omega), if_pos h1, if_neg h2, e1]
          · refine ⟨1, none, ?_, ?_⟩
            · unfold md_am
              rw [if_neg (by omega), if_neg (by omega)]
              by_cases y1 : T.1 j = (sN : Int)
              · rw [if_pos y1, if_pos (by
                  by_cases y2 : 1000 ≤ j ∧ (sN : Int) ≠ 1
                  · exact y2
                  · exact absurd ⟨y1, y2⟩ h1)]
              · rw [if_neg y1]
            · rw [cx_32f h2 g]; exact h2
/-- the class's parser -/
theorem cx_32 (hX : cx_rX X) (hT : cx_Tk X T) (hf : (X.1 82 5).toInt = 0) (hn : (X.1 82 4).toInt = 0) (hp : p.toInt = 130 ∨ p.toInt = 138) (g : gx_32 p X u X') : ∃ m r, md_am T m [(p.toInt, 0), (1, 0)] 0 0 (fun _ => Int32.ofInt 0) [] = some r ∧ cx_PR X' [] (-1) r := by
  obtain ⟨n, g⟩ := g
  unfold gxE_32 at g
  obtain ⟨X2, rfl, X3, rfl, X4, rfl, X5, rfl, X6, rfl, X7, rfl, X8, rfl, X9, rfl, X10, rfl, X11, rfl, X12, e12, w14, X13, r1, w16, X15, r2, g⟩ := g
  have f12 : ∀ r i, r ≠ 87 → X12.1 r i = X.1 r i := fun r i hr => by
    rw [e12]
    iterate 11 rw [fx_rIn hr]
  have g12 : X12.2 = X.2 := by rw [e12]; rfl
  have c12 : ∀ i, 5 ≤ i → i ≤ 15 → X12.1 87 i = if i = 15 then Int32.ofInt (-1) else Int32.ofInt 0 := fun i h1 h2 => by
    rw [e12]
    have : i = 5 ∨ i = 6 ∨ i = 7 ∨ i = 8 ∨ i = 9 ∨ i = 10 ∨ i = 11 ∨ i = 12 ∨ i = 13 ∨ i = 14 ∨ i = 15 := by omega
    rcases this with rfl | rfl | rfl | rfl | rfl | rfl | rfl | rfl | rfl | rfl | rfl <;> simp [fx_rI]
  have hs12 : cx_sk X12 [] := ⟨by rw [c12 5 (by decide) (by decide)]; rfl, True.intro⟩
  obtain ⟨s1, s2⟩ := cx_33S (j := 0) (s := 1) hs12 (by rw [c12 6 (by decide) (by decide)]; rfl) (by decide) (by decide) rfl (by decide) r1
  obtain ⟨sp, hsp, hsp2⟩ : ∃ sp : Nat, p.toInt = (sp : Int) ∧ (sp = 130 ∨ sp = 138) := ⟨p.toInt.toNat, by omega, by omega⟩
  obtain ⟨s3, s4⟩ := cx_33S (j := 0) (s := sp) s1 s2 (by decide) (by decide) hsp (by omega) r2
  have f1 := gf_33 r1
  have f2 := gf_33 r2
  have f3 := fy_tr f1 f2
  have cc : ∀ i, 6 ≤ i → i ≤ 15 → X15.1 87 i = if i = 15 then Int32.ofInt (-1) else Int32.ofInt 0 := fun i h1 h2 => by
    rw [f3.2.2 87 i (by decide) (by simp; omega), c12 i (by omega) h2]
  have c0 : ∀ r i, r ≠ 87 → r ≠ 88 → X15.1 r i = X.1 r i := fun r i h1 h2 => by
    rw [fy_ra f3 (by simp; omega) (by intro q hq; simp at hq; subst hq; exact fun z => h1 z.symm), f12 r i h1]
  have x12 : cx_rX X12 := fun i a1 a2 => by
    rw [g12]
    exact ⟨(hX i a1 a2).1, fun j hj => by rw [f12 _ _ (by omega)]; exact (hX i a1 a2).2 j hj⟩
  have t12 : cx_Tk X12 T := fun i => by
    rw [f12 _ _ (by decide), g12]
    exact hT i
  have hin : md_in [((sp : Int), 0), (1, 0)] 0 0 (fun _ => Int32.ofInt 0) ([] : List md_Nt).length (-1) := by
    have hsr : md_sr [((sp : Int), 0), (1, 0)] := by
      intro x hx
      simp only [List.mem_cons, List.not_mem_nil, or_false] at hx
      rcases hx with rfl | rfl
      · exact ⟨by show 1 ≤ (sp : Int); omega, by show (sp : Int) < 256; omega, by show 0 ≤ 2000; decide⟩
      · decide
    rcases hsp2 with rfl | rfl
    · exact ⟨⟨Or.inr (by decide), Or.inr (by decide), True.intro⟩, Or.inl (by decide), by decide, by decide, by decide, ⟨by decide, by decide⟩, by decide, hsr, by decide⟩
    · exact ⟨⟨Or.inr (by decide), Or.inr (by decide), True.intro⟩, Or.inl (by decide), by decide, by decide, by decide, ⟨by decide, by decide⟩, by decide, hsr, by decide⟩
  have hM : md_st [((sp : Int), 0), (1, 0)] ≤ 100 := by
    rcases hsp2 with rfl | rfl <;> decide
  rw [hsp]
  exact cx_32l n 0 _ X15 [((sp : Int), 0), (1, 0)] 0 0 (fun _ => Int32.ofInt 0) [] [] (-1) rfl ⟨cx_rX_fr x12 f3 (by decide) (by decide), cx_Tk_fr t12 f3 (by decide) (by decide) (by decide) (by decide), by rw [c0 82 5 (by decide) (by decide)]; exact hf, s4, by rw [cc 7 (by decide) (by decide)]; rfl, s3, fun i a1 a2 a3 => by rw [cc i (by omega) (by omega), if_neg (by omega)], ⟨by rw [cc 9 (by decide) (by decide)]; rfl, Nat.zero_le _, fun i x hx => by cases hx⟩, ⟨by rw [c0 82 4 (by decide) (by decide)]; exact hn, by rw [cc 15 (by decide) (by decide)]; rfl, fun i x hx => by cases hx⟩, hin⟩ (by omega) g
end CX13
