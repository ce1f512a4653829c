/-! A NOTE OF A Q, BY HAND (printed by wip/p2/cwalk/g78.py) -/
section CW78
variable {Φ : List Nat → Option Value → aj_H → Prop} {tb : aj_T} {d : Nat} {s s' s2 s0 : List Nat} {h h' h2 h0 : aj_H} {i j p q x c k l l' D D' D2 : Nat} {b b' b2 : Int} {o o' o2 o0 : cw_O} {EF : Nat → Nat → Nat → Prop} {EA : Nat → Prop} {n nt iv dp v w : Int32} {f g : Nat → Int32}
theorem cw_sk_q (hT : ak_Ty ak_CW s h) (hB : cw_B s) (hl : l < 20) (h0 : cw_sk (cw_o h) l (52 + i)) : s[i]? = some 58 := by
  obtain ⟨f3, a49, hf⟩ := cw_sk_A h0
  obtain ⟨i', e, qi⟩ := cw_refs (T := ak_CW) (t := 93) (n1 := 20) (n2 := 20) hT (cw_s0 hB rfl) rfl a49 hl hf
  obtain rfl : i = i' := by omega
  exact qi
theorem cw_sk_ne (hI : cw_I cw_XB s h) (hl : l < 20) (hl' : l' < 20) (hn : l ≠ l') (h1 : cw_sk (cw_o h) l (52 + i)) (h2 : cw_sk (cw_o h) l' (52 + j)) : i ≠ j := by
  obtain ⟨f, p', d1, d2, d3, d4⟩ := hI.2.2.1
  obtain ⟨f1, e1, g1⟩ := h1
  obtain ⟨f2, e2, g2⟩ := h2
  have := d1.symm.trans e1
  cases this
  have := d1.symm.trans e2
  cases this
  intro z
  subst z
  exact hn (d3 _ _ _ hl hl' g1 g2)
theorem cw_sk_p (hI : cw_I cw_XB s h) (hl : l < 20) (h1 : cw_sk (cw_o h) l (52 + i)) (hp : cw_F h 43 9 5 (.ref (52 + p))) : i ≠ p := by
  obtain ⟨f, p', d1, d2, d3, d4⟩ := hI.2.2.1
  obtain ⟨f1, e1, g1⟩ := h1
  have := d1.symm.trans e1
  cases this
  have e := (cw_F_u ((cw_fo_F (by decide)).mp d2) hp).2
  intro z
  subst z
  exact d4 _ _ hl g1 (Value.ref.inj e).symm
/-- the worker's depth or shelf, set -/
theorem cw_I_w9 (hT : ak_Ty ak_CW s h) (hI : cw_I cw_XB s h) (hk : k = 4 ∨ k = 7) {v w : Value} (fd : cw_F h 43 9 k v) : cw_I cw_XB s (cw_sf h 43 k w) ∧ cw_kp (fun a c k' => a = 43 ∧ c = 9 ∧ k' = k) (fun _ => False) (cw_o h) (cw_o (cw_sf h 43 k w)) := by
  have k5 : cw_kp (fun a c k' => a = 43 ∧ c = 9 ∧ k' = k) (fun _ => False) (cw_o h) (cw_o (cw_sf h 43 k w)) := cw_kp_sf fd ⟨rfl, rfl, rfl⟩
  exact ⟨⟨hI.1, cw_wds_kp k5 id hI.2.1, cw_dis_kp k5 id (fun z => by omega) hI.2.2.1, cw_gd_kp (T := ak_CW) rfl rfl hT hI.1 k5 id ⟨fun z => by omega, fun z => by omega⟩ hI.2.2.2.1, cw_H_sfo hI.2.2.2.2.1 fd (by decide), cw_rm_kp k5 (fun _ _ z => z) ⟨fun z => by omega, fun z => by omega⟩ hI.2.2.2.2.2⟩, k5⟩
/-- what working out a note may change -/
abbrev cw_EW : Nat → Nat → Nat → Prop := fun a c k => c = 6 ∨ (c = 4 ∧ k ≠ 4) ∨ (a = 43 ∧ c = 9 ∧ (k = 4 ∨ k = 5))
abbrev cw_A49 : Nat → Prop := fun a => a = 49
theorem cw_k5 (hk : cw_kp (fun a c k' => a = 43 ∧ c = 9 ∧ k' = 4) (fun _ => False) o o') : cw_kp cw_EW cw_A49 o o' := cw_kp_sub hk (fun _ _ _ z => Or.inr (Or.inr ⟨z.1, z.2.1, Or.inl z.2.2⟩)) (fun _ z => z.elim)
theorem cw_k64 (hk : cw_kp cw_E64 cw_E0 o o') : cw_kp cw_EW cw_A49 o o' := cw_kp_sub hk (fun _ _ _ z => z.elim Or.inl (fun z => Or.inr (Or.inl z))) (fun _ z => z.elim)
theorem cw_k6 (hk : cw_kp cw_E6 cw_E0 o o') : cw_kp cw_EW cw_A49 o o' := cw_kp_sub hk (fun _ _ _ z => Or.inl z) (fun _ z => z.elim)
theorem cw_kf (hk : cw_kp (fun _ c k => c = 4 ∧ k ≠ 4) cw_E0 o o') : cw_kp cw_EW cw_A49 o o' := cw_kp_sub hk (fun _ _ _ z => Or.inr (Or.inl z)) (fun _ z => z.elim)
theorem cw_kJ (hk : cw_kp cw_EJ (fun a => a = 49) o o') : cw_kp cw_EW cw_A49 o o' := cw_kp_sub hk (fun _ _ _ z => z.elim Or.inl (fun z => Or.inr (z.elim Or.inl (fun z => Or.inr ⟨z.1, z.2.1, Or.inr z.2.2⟩)))) (fun _ z => z)
theorem cw_ks5 (hk : cw_kp (fun a c k => a = 43 ∧ c = 9 ∧ k = 5) (fun a => a = 49) o o') : cw_kp cw_EW cw_A49 o o' := cw_kp_sub hk (fun _ _ _ z => Or.inr (Or.inr ⟨z.1, z.2.1, Or.inr z.2.2⟩)) (fun _ z => z)
theorem cw_kl (hk : cw_kp (fun a c k => c = 6 ∨ (a = 43 ∧ c = 9 ∧ k = 4)) (fun a => a = 49) o o') : cw_kp cw_EW cw_A49 o o' := cw_kp_sub hk (fun _ _ _ z => z.elim Or.inl (fun z => Or.inr (Or.inr ⟨z.1, z.2.1, Or.inl z.2.2⟩))) (fun _ z => z)
/-- a note, worked out -/
def cw_WQ (D : Nat) (b : Int) (s : List Nat) (h : aj_H) (s' : List Nat) (h' : aj_H) : Prop := (∃ u, s' = s ++ u) ∧ cw_I cw_XB s' h' ∧ cw_kp cw_EW cw_A49 (cw_o h) (cw_o h') ∧ cw_sy b (b + 8) (cw_o h) (cw_o h') ∧ (∃ y : Int32, y.toInt = (D : Int) ∧ cw_F h' 43 9 4 (.int y)) ∧ cw_Lv D (b + 8) (cw_o h')
theorem cw_sy_mono (hy : cw_sy b b' o o') (hb : b' ≤ b2) : cw_sy b b2 o o' := fun i z => cw_ok_mono hb (hy i z)
theorem cw_sy_rf (hb : b ≤ b') : cw_sy b b' o o := fun _ z => cw_ok_mono hb z
theorem cw_s00 : ∃ u : List Nat, s = s ++ u := ⟨[], (List.append_nil _).symm⟩
theorem cw_noteX (htb : ak_tbOK ak_CW tb) (hT : ak_Ty ak_CW s h) (hI : cw_I cw_XB s h) (hd : 1 ≤ d) {x : Int32} (hx : 0 ≤ x.toInt ∧ x.toInt ≤ 2499) (a0 : cw_A h 31 0 2500 (.inl f)) : cw_K ak_CW (fun s' r h' => s' = s ∧ h' = h ∧ r = some (.int (f x.toInt.toNat))) tb d (cw_nW 57 (some (.inl ((-2147483648), 2147483647)))) [.ref (52 + 30), .int x] s h := by
  obtain ⟨d, rfl⟩ : ∃ e, d = e + 1 := ⟨d - 1, by omega⟩
  have hB := hI.1
  refine cw_m (con := cw_nW 57 (some (.inl ((-2147483648), 2147483647)))) aj_m57_at (Nat.le_of_ble_eq_true rfl) ?_
  show cw_W _ _ _ _ _ _ _ _ _ _ 0 [(0, .ref (52 + 30)), (1, .int x)] []
  refine cw_n aj_d57 rfl rfl ?_
  refine cw_z (tgt := 22) aj_d57 rfl rfl (fun q1001 => ?_) (fun q1001 => ?_)
  · have q1001 : x.toInt < (0 : Int) := aw_t_lt (a := x.toInt) (b := (0 : Int)) rfl rfl q1001
    exfalso
    omega
  · have q1001 : x.toInt ≥ (0 : Int) := aw_t_lt (a := x.toInt) (b := (0 : Int)) rfl rfl q1001
    refine cw_n aj_d57 rfl rfl ?_
    refine cw_n aj_d57 rfl rfl ?_
    obtain ⟨v1002, f1002, g1002⟩ := cw_tyF (i := 30) (t := 56) (c := 4) (k := 0) (y := (.inr (some ([79], false)))) hT (cw_s0 hB rfl) rfl rfl rfl
    obtain rfl := cw_gu (i := 31) hB g1002 (by decide) (by decide) (by decide)
    refine cw_g (i := 30) (v := .ref (52 + 31)) htb.1 aj_d57 rfl rfl (by decide) f1002 ?_
    refine cw_alen (i := 31) htb.1 aj_d57 rfl a0 (by decide) (by omega) (fun x1003 ex1003 => ?_)
    refine cw_c (tgt := 22) aj_d57 rfl rfl (fun q1004 => ?_) (fun q1004 => ?_)
    · have q1004 : x.toInt ≥ (2500 : Int) := aw_t_ge (a := x.toInt) (b := (2500 : Int)) rfl ex1003 q1004
      exfalso
      omega
    · have q1004 : x.toInt < (2500 : Int) := aw_t_ge (a := x.toInt) (b := (2500 : Int)) rfl ex1003 q1004
      refine cw_n aj_d57 rfl rfl ?_
      refine cw_g (i := 30) (v := .ref (52 + 31)) htb.1 aj_d57 rfl rfl (by decide) f1002 ?_
      refine cw_n aj_d57 rfl rfl ?_
      refine cw_ld (i := 31) htb.1 aj_d57 (Or.inl ⟨rfl, rfl⟩) rfl a0 (a := x.toInt) rfl (by omega) (by omega) (fun x1005 ex1005 => ?_)
      refine cw_n aj_d57 rfl rfl ?_
      refine cw_Wr aj_d57 rfl rfl hT ?_ ?_
      · exact ⟨rfl, rfl, by rw [ex1005]⟩
      · exact cw_full _
theorem cw_argX (htb : ak_tbOK ak_CW tb) (hT : ak_Ty ak_CW s h) (hI : cw_I cw_XB s h) (hd : 1 ≤ d) {x : Int32} (hx : 0 ≤ x.toInt ∧ x.toInt ≤ 2499) (a0 : cw_A h 34 0 2500 (.inl g)) : cw_K ak_CW (fun s' r h' => s' = s ∧ h' = h ∧ r = some (.int (g x.toInt.toNat))) tb d (cw_nW 40 (some (.inl ((-2147483648), 2147483647)))) [.ref (52 + 30), .int x] s h := by
  obtain ⟨d, rfl⟩ : ∃ e, d = e + 1 := ⟨d - 1, by omega⟩
  have hB := hI.1
  refine cw_m (con := cw_nW 40 (some (.inl ((-2147483648), 2147483647)))) aj_m40_at (Nat.le_of_ble_eq_true rfl) ?_
  show cw_W _ _ _ _ _ _ _ _ _ _ 0 [(0, .ref (52 + 30)), (1, .int x)] []
  refine cw_n aj_d40 rfl rfl ?_
  refine cw_z (tgt := 22) aj_d40 rfl rfl (fun q1006 => ?_) (fun q1006 => ?_)
  · have q1006 : x.toInt < (0 : Int) := aw_t_lt (a := x.toInt) (b := (0 : Int)) rfl rfl q1006
    exfalso
    omega
  · have q1006 : x.toInt ≥ (0 : Int) := aw_t_lt (a := x.toInt) (b := (0 : Int)) rfl rfl q1006
    refine cw_n aj_d40 rfl rfl ?_
    refine cw_n aj_d40 rfl rfl ?_
    obtain ⟨v1007, f1007, g1007⟩ := cw_tyF (i := 30) (t := 56) (c := 4) (k := 3) (y := (.inr (some ([82], false)))) hT (cw_s0 hB rfl) rfl rfl rfl
    obtain rfl := cw_gu (i := 34) hB g1007 (by decide) (by decide) (by decide)
    refine cw_g (i := 30) (v := .ref (52 + 34)) htb.1 aj_d40 rfl rfl (by decide) f1007 ?_
    refine cw_alen (i := 34) htb.1 aj_d40 rfl a0 (by decide) (by omega) (fun x1008 ex1008 => ?_)
    refine cw_c (tgt := 22) aj_d40 rfl rfl (fun q1009 => ?_) (fun q1009 => ?_)
    · have q1009 : x.toInt ≥ (2500 : Int) := aw_t_ge (a := x.toInt) (b := (2500 : Int)) rfl ex1008 q1009
      exfalso
      omega
    · have q1009 : x.toInt < (2500 : Int) := aw_t_ge (a := x.toInt) (b := (2500 : Int)) rfl ex1008 q1009
      refine cw_n aj_d40 rfl rfl ?_
      refine cw_g (i := 30) (v := .ref (52 + 34)) htb.1 aj_d40 rfl rfl (by decide) f1007 ?_
      refine cw_n aj_d40 rfl rfl ?_
      refine cw_ld (i := 34) htb.1 aj_d40 (Or.inl ⟨rfl, rfl⟩) rfl a0 (a := x.toInt) rfl (by omega) (by omega) (fun x1010 ex1010 => ?_)
      refine cw_n aj_d40 rfl rfl ?_
      refine cw_Wr aj_d40 rfl rfl hT ?_ ?_
      · exact ⟨rfl, rfl, by rw [ex1010]⟩
      · exact cw_full _
/-- the rows of a table -/
theorem cw_rowsOf {N : Prop} (htb : ak_tbOK ak_CW tb) (hT : ak_Ty ak_CW s h) (hB : cw_B s) (hd : 1 ≤ d) {q : Nat} (hq : q = 2 ∨ q = 14) {x nt : Int32} (hZ : cw_Z N q nt b (cw_o h)) : cw_K ak_CW (fun s' r h' => s' = s ∧ h' = h ∧ (((¬ (0 ≤ x.toInt ∧ x.toInt < nt.toInt) ∨ N) ∧ r = some .null) ∨ (0 ≤ x.toInt ∧ x.toInt < nt.toInt) ∧ ∃ i, r = some (.ref (52 + i)) ∧ s[i]? = some 58 ∧ cw_ok b (cw_o h) i)) tb d (cw_nW 63 (some (.inr (some ([58], true))))) [.ref (52 + q), .int x] s h := by
  obtain ⟨d, rfl⟩ : ∃ e, d = e + 1 := ⟨d - 1, by omega⟩
  obtain ⟨a, q3, ⟨ha, -⟩, f12, f7, a10, hZ⟩ := hZ
  have f12 := (cw_fo_F (h := h) (by decide)).mp f12
  have f7 := (cw_fo_F (h := h) (by decide)).mp f7
  refine cw_m (con := cw_nW 63 (some (.inr (some ([58], true))))) aj_m63_at (Nat.le_of_ble_eq_true rfl) ?_
  rcases hq with rfl | rfl
  · rcases ha with rfl | rfl
    · have a10 : cw_A h 10 5 10 (cw_q q3) := (cw_oa_A (by decide)).mp a10
      have f7 : cw_F h 2 7 7 (.ref (52 + 10)) := f7
      obtain ⟨v', f', g'⟩ := cw_tyF (i := 2) (t := 59) (c := 7) (k := 12) (y := .inl (0, 10)) hT (cw_s0 hB rfl) rfl rfl rfl
      cases (cw_F_u f' f12).2
      obtain ⟨x', e, hx'⟩ := ak_gi g'
      cases e
      dsimp only [ak_win] at hx'
      show cw_W _ _ _ _ _ _ _ _ _ _ 0 [(0, .ref (52 + 2)), (1, .int x)] []
      refine cw_n aj_d63 rfl rfl ?_
      refine cw_z (tgt := 30) aj_d63 rfl rfl (fun q1011 => ?_) (fun q1011 => ?_)
      · have q1011 : x.toInt < (0 : Int) := aw_t_lt (a := x.toInt) (b := (0 : Int)) rfl rfl q1011
        refine cw_n aj_d63 rfl rfl ?_
        refine cw_Wr aj_d63 rfl rfl hT ?_ ?_
        · exact ⟨rfl, rfl, Or.inl ⟨Or.inl (by omega), rfl⟩⟩
        · exact rfl
      · have q1011 : x.toInt ≥ (0 : Int) := aw_t_lt (a := x.toInt) (b := (0 : Int)) rfl rfl q1011
        refine cw_n aj_d63 rfl rfl ?_
        refine cw_n aj_d63 rfl rfl ?_
        refine cw_g (i := 2) (v := .int nt) htb.1 aj_d63 rfl rfl (by decide) f12 ?_
        refine cw_c (tgt := 30) aj_d63 rfl rfl (fun q1012 => ?_) (fun q1012 => ?_)
        · have q1012 : x.toInt ≥ nt.toInt := aw_t_ge (a := x.toInt) (b := nt.toInt) rfl rfl q1012
          refine cw_n aj_d63 rfl rfl ?_
          refine cw_Wr aj_d63 rfl rfl hT ?_ ?_
          · exact ⟨rfl, rfl, Or.inl ⟨Or.inl (by omega), rfl⟩⟩
          · exact rfl
        · have q1012 : x.toInt < nt.toInt := aw_t_ge (a := x.toInt) (b := nt.toInt) rfl rfl q1012
          refine cw_n aj_d63 rfl rfl ?_
          refine cw_n aj_d63 rfl rfl ?_
          refine cw_g (i := 2) (v := .ref (52 + 10)) htb.1 aj_d63 rfl rfl (by decide) f7 ?_
          refine cw_alen (i := 10) htb.1 aj_d63 rfl a10 (by decide) (by omega) (fun x1013 ex1013 => ?_)
          refine cw_c (tgt := 30) aj_d63 rfl rfl (fun q1014 => ?_) (fun q1014 => ?_)
          · have q1014 : x.toInt ≥ (10 : Int) := aw_t_ge (a := x.toInt) (b := (10 : Int)) rfl ex1013 q1014
            refine cw_n aj_d63 rfl rfl ?_
            refine cw_Wr aj_d63 rfl rfl hT ?_ ?_
            · exact ⟨rfl, rfl, Or.inl ⟨Or.inl (by omega), rfl⟩⟩
            · exact rfl
          · have q1014 : x.toInt < (10 : Int) := aw_t_ge (a := x.toInt) (b := (10 : Int)) rfl ex1013 q1014
            refine cw_n aj_d63 rfl rfl ?_
            refine cw_g (i := 2) (v := .ref (52 + 10)) htb.1 aj_d63 rfl rfl (by decide) f7 ?_
            refine cw_n aj_d63 rfl rfl ?_
            refine cw_ldq (i := 10) htb.1 aj_d63 rfl a10 (a := x.toInt) rfl (by omega) (by omega) ?_
            have hxn : x.toInt.toNat < nt.toInt.toNat := by omega
            rcases hZ _ hxn with ⟨hN, hi⟩ | ⟨i, hi, oki⟩
            · rw [hi]
              show cw_W _ _ _ _ _ _ _ _ _ _ 27 [(0, .ref (52 + 2)), (1, .int x)] [.null]
              refine cw_n aj_d63 rfl rfl ?_
              refine cw_Wr aj_d63 rfl rfl hT ?_ ?_
              · exact ⟨rfl, rfl, Or.inl ⟨Or.inr hN, rfl⟩⟩
              · exact rfl
            · obtain ⟨i', ei, qi⟩ := cw_refs (T := ak_CW) (t := 72) (n1 := 10) (n2 := 10) hT (cw_s0 hB rfl) rfl a10 (l := x.toInt.toNat) (by omega) hi
              obtain rfl : i = i' := by omega
              rw [hi]
              show cw_W _ _ _ _ _ _ _ _ _ _ 27 [(0, .ref (52 + 2)), (1, .int x)] [.ref (52 + i)]
              refine cw_n aj_d63 rfl rfl ?_
              refine cw_Wr aj_d63 rfl rfl hT ?_ ?_
              · exact ⟨rfl, rfl, Or.inr ⟨⟨by omega, by omega⟩, i, rfl, qi, oki⟩⟩
              · exact cw_gR qi (by decide) (by decide)
    · have a10 : cw_A h 22 5 10 (cw_q q3) := (cw_oa_A (by decide)).mp a10
      have f7 : cw_F h 2 7 7 (.ref (52 + 22)) := f7
      obtain ⟨v', f', g'⟩ := cw_tyF (i := 2) (t := 59) (c := 7) (k := 12) (y := .inl (0, 10)) hT (cw_s0 hB rfl) rfl rfl rfl
      cases (cw_F_u f' f12).2
      obtain ⟨x', e, hx'⟩ := ak_gi g'
      cases e
      dsimp only [ak_win] at hx'
      show cw_W _ _ _ _ _ _ _ _ _ _ 0 [(0, .ref (52 + 2)), (1, .int x)] []
      refine cw_n aj_d63 rfl rfl ?_
      refine cw_z (tgt := 30) aj_d63 rfl rfl (fun q1015 => ?_) (fun q1015 => ?_)
      · have q1015 : x.toInt < (0 : Int) := aw_t_lt (a := x.toInt) (b := (0 : Int)) rfl rfl q1015
        refine cw_n aj_d63 rfl rfl ?_
        refine cw_Wr aj_d63 rfl rfl hT ?_ ?_
        · exact ⟨rfl, rfl, Or.inl ⟨Or.inl (by omega), rfl⟩⟩
        · exact rfl
      · have q1015 : x.toInt ≥ (0 : Int) := aw_t_lt (a := x.toInt) (b := (0 : Int)) rfl rfl q1015
        refine cw_n aj_d63 rfl rfl ?_
        refine cw_n aj_d63 rfl rfl ?_
        refine cw_g (i := 2) (v := .int nt) htb.1 aj_d63 rfl rfl (by decide) f12 ?_
        refine cw_c (tgt := 30) aj_d63 rfl rfl (fun q1016 => ?_) (fun q1016 => ?_)
        · have q1016 : x.toInt ≥ nt.toInt := aw_t_ge (a := x.toInt) (b := nt.toInt) rfl rfl q1016
          refine cw_n aj_d63 rfl rfl ?_
          refine cw_Wr aj_d63 rfl rfl hT ?_ ?_
          · exact ⟨rfl, rfl, Or.inl ⟨Or.inl (by omega), rfl⟩⟩
          · exact rfl
        · have q1016 : x.toInt < nt.toInt := aw_t_ge (a := x.toInt) (b := nt.toInt) rfl rfl q1016
          refine cw_n aj_d63 rfl rfl ?_
          refine cw_n aj_d63 rfl rfl ?_
          refine cw_g (i := 2) (v := .ref (52 + 22)) htb.1 aj_d63 rfl rfl (by decide) f7 ?_
          refine cw_alen (i := 22) htb.1 aj_d63 rfl a10 (by decide) (by omega) (fun x1017 ex1017 => ?_)
          refine cw_c (tgt := 30) aj_d63 rfl rfl (fun q1018 => ?_) (fun q1018 => ?_)
          · have q1018 : x.toInt ≥ (10 : Int) := aw_t_ge (a := x.toInt) (b := (10 : Int)) rfl ex1017 q1018
            refine cw_n aj_d63 rfl rfl ?_
            refine cw_Wr aj_d63 rfl rfl hT ?_ ?_
            · exact ⟨rfl, rfl, Or.inl ⟨Or.inl (by omega), rfl⟩⟩
            · exact rfl
          · have q1018 : x.toInt < (10 : Int) := aw_t_ge (a := x.toInt) (b := (10 : Int)) rfl ex1017 q1018
            refine cw_n aj_d63 rfl rfl ?_
            refine cw_g (i := 2) (v := .ref (52 + 22)) htb.1 aj_d63 rfl rfl (by decide) f7 ?_
            refine cw_n aj_d63 rfl rfl ?_
            refine cw_ldq (i := 22) htb.1 aj_d63 rfl a10 (a := x.toInt) rfl (by omega) (by omega) ?_
            have hxn : x.toInt.toNat < nt.toInt.toNat := by omega
            rcases hZ _ hxn with ⟨hN, hi⟩ | ⟨i, hi, oki⟩
            · rw [hi]
              show cw_W _ _ _ _ _ _ _ _ _ _ 27 [(0, .ref (52 + 2)), (1, .int x)] [.null]
              refine cw_n aj_d63 rfl rfl ?_
              refine cw_Wr aj_d63 rfl rfl hT ?_ ?_
              · exact ⟨rfl, rfl, Or.inl ⟨Or.inr hN, rfl⟩⟩
              · exact rfl
            · obtain ⟨i', ei, qi⟩ := cw_refs (T := ak_CW) (t := 72) (n1 := 10) (n2 := 10) hT (cw_s0 hB rfl) rfl a10 (l := x.toInt.toNat) (by omega) hi
              obtain rfl : i = i' := by omega
              rw [hi]
              show cw_W _ _ _ _ _ _ _ _ _ _ 27 [(0, .ref (52 + 2)), (1, .int x)] [.ref (52 + i)]
              refine cw_n aj_d63 rfl rfl ?_
              refine cw_Wr aj_d63 rfl rfl hT ?_ ?_
              · exact ⟨rfl, rfl, Or.inr ⟨⟨by omega, by omega⟩, i, rfl, qi, oki⟩⟩
              · exact cw_gR qi (by decide) (by decide)
  · rcases ha with rfl | rfl
    · have a10 : cw_A h 10 5 10 (cw_q q3) := (cw_oa_A (by decide)).mp a10
      have f7 : cw_F h 14 7 7 (.ref (52 + 10)) := f7
      obtain ⟨v', f', g'⟩ := cw_tyF (i := 14) (t := 59) (c := 7) (k := 12) (y := .inl (0, 10)) hT (cw_s0 hB rfl) rfl rfl rfl
      cases (cw_F_u f' f12).2
      obtain ⟨x', e, hx'⟩ := ak_gi g'
      cases e
      dsimp only [ak_win] at hx'
      show cw_W _ _ _ _ _ _ _ _ _ _ 0 [(0, .ref (52 + 14)), (1, .int x)] []
      refine cw_n aj_d63 rfl rfl ?_
      refine cw_z (tgt := 30) aj_d63 rfl rfl (fun q1019 => ?_) (fun q1019 => ?_)
      · have q1019 : x.toInt < (0 : Int) := aw_t_lt (a := x.toInt) (b := (0 : Int)) rfl rfl q1019
        refine cw_n aj_d63 rfl rfl ?_
        refine cw_Wr aj_d63 rfl rfl hT ?_ ?_
        · exact ⟨rfl, rfl, Or.inl ⟨Or.inl (by omega), rfl⟩⟩
        · exact rfl
      · have q1019 : x.toInt ≥ (0 : Int) := aw_t_lt (a := x.toInt) (b := (0 : Int)) rfl rfl q1019
        refine cw_n aj_d63 rfl rfl ?_
        refine cw_n aj_d63 rfl rfl ?_
        refine cw_g (i := 14) (v := .int nt) htb.1 aj_d63 rfl rfl (by decide) f12 ?_
        refine cw_c (tgt := 30) aj_d63 rfl rfl (fun q1020 => ?_) (fun q1020 => ?_)
        · have q1020 : x.toInt ≥ nt.toInt := aw_t_ge (a := x.toInt) (b := nt.toInt) rfl rfl q1020
          refine cw_n aj_d63 rfl rfl ?_
          refine cw_Wr aj_d63 rfl rfl hT ?_ ?_
          · exact ⟨rfl, rfl, Or.inl ⟨Or.inl (by omega), rfl⟩⟩
          · exact rfl
        · have q1020 : x.toInt < nt.toInt := aw_t_ge (a := x.toInt) (b := nt.toInt) rfl rfl q1020
          refine cw_n aj_d63 rfl rfl ?_
          refine cw_n aj_d63 rfl rfl ?_
          refine cw_g (i := 14) (v := .ref (52 + 10)) htb.1 aj_d63 rfl rfl (by decide) f7 ?_
          refine cw_alen (i := 10) htb.1 aj_d63 rfl a10 (by decide) (by omega) (fun x1021 ex1021 => ?_)
          refine cw_c (tgt := 30) aj_d63 rfl rfl (fun q1022 => ?_) (fun q1022 => ?_)
          · have q1022 : x.toInt ≥ (10 : Int) := aw_t_ge (a := x.toInt) (b := (10 : Int)) rfl ex1021 q1022
            refine cw_n aj_d63 rfl rfl ?_
            refine cw_Wr aj_d63 rfl rfl hT ?_ ?_
            · exact ⟨rfl, rfl, Or.inl ⟨Or.inl (by omega), rfl⟩⟩
            · exact rfl
          · have q1022 : x.toInt < (10 : Int) := aw_t_ge (a := x.toInt) (b := (10 : Int)) rfl ex1021 q1022
            refine cw_n aj_d63 rfl rfl ?_
            refine cw_g (i := 14) (v := .ref (52 + 10)) htb.1 aj_d63 rfl rfl (by decide) f7 ?_
            refine cw_n aj_d63 rfl rfl ?_
            refine cw_ldq (i := 10) htb.1 aj_d63 rfl a10 (a := x.toInt) rfl (by omega) (by omega) ?_
            have hxn : x.toInt.toNat < nt.toInt.toNat := by omega
            rcases hZ _ hxn with ⟨hN, hi⟩ | ⟨i, hi, oki⟩
            · rw [hi]
              show cw_W _ _ _ _ _ _ _ _ _ _ 27 [(0, .ref (52 + 14)), (1, .int x)] [.null]
              refine cw_n aj_d63 rfl rfl ?_
              refine cw_Wr aj_d63 rfl rfl hT ?_ ?_
              · exact ⟨rfl, rfl, Or.inl ⟨Or.inr hN, rfl⟩⟩
              · exact rfl
            · obtain ⟨i', ei, qi⟩ := cw_refs (T := ak_CW) (t := 72) (n1 := 10) (n2 := 10) hT (cw_s0 hB rfl) rfl a10 (l := x.toInt.toNat) (by omega) hi
              obtain rfl : i = i' := by omega
              rw [hi]
              show cw_W _ _ _ _ _ _ _ _ _ _ 27 [(0, .ref (52 + 14)), (1, .int x)] [.ref (52 + i)]
              refine cw_n aj_d63 rfl rfl ?_
              refine cw_Wr aj_d63 rfl rfl hT ?_ ?_
              · exact ⟨rfl, rfl, Or.inr ⟨⟨by omega, by omega⟩, i, rfl, qi, oki⟩⟩
              · exact cw_gR qi (by decide) (by decide)
    · have a10 : cw_A h 22 5 10 (cw_q q3) := (cw_oa_A (by decide)).mp a10
      have f7 : cw_F h 14 7 7 (.ref (52 + 22)) := f7
      obtain ⟨v', f', g'⟩ := cw_tyF (i := 14) (t := 59) (c := 7) (k := 12) (y := .inl (0, 10)) hT (cw_s0 hB rfl) rfl rfl rfl
      cases (cw_F_u f' f12).2
      obtain ⟨x', e, hx'⟩ := ak_gi g'
      cases e
      dsimp only [ak_win] at hx'
      show cw_W _ _ _ _ _ _ _ _ _ _ 0 [(0, .ref (52 + 14)), (1, .int x)] []
      refine cw_n aj_d63 rfl rfl ?_
      refine cw_z (tgt := 30) aj_d63 rfl rfl (fun q1023 => ?_) (fun q1023 => ?_)
      · have q1023 : x.toInt < (0 : Int) := aw_t_lt (a := x.toInt) (b := (0 : Int)) rfl rfl q1023
        refine cw_n aj_d63 rfl rfl ?_
        refine cw_Wr aj_d63 rfl rfl hT ?_ ?_
        · exact ⟨rfl, rfl, Or.inl ⟨Or.inl (by omega), rfl⟩⟩
        · exact rfl
      · have q1023 : x.toInt ≥ (0 : Int) := aw_t_lt (a := x.toInt) (b := (0 : Int)) rfl rfl q1023
        refine cw_n aj_d63 rfl rfl ?_
        refine cw_n aj_d63 rfl rfl ?_
        refine cw_g (i := 14) (v := .int nt) htb.1 aj_d63 rfl rfl (by decide) f12 ?_
        refine cw_c (tgt := 30) aj_d63 rfl rfl (fun q1024 => ?_) (fun q1024 => ?_)
        · have q1024 : x.toInt ≥ nt.toInt := aw_t_ge (a := x.toInt) (b := nt.toInt) rfl rfl q1024
          refine cw_n aj_d63 rfl rfl ?_
          refine cw_Wr aj_d63 rfl rfl hT ?_ ?_
          · exact ⟨rfl, rfl, Or.inl ⟨Or.inl (by omega), rfl⟩⟩
          · exact rfl
        · have q1024 : x.toInt < nt.toInt := aw_t_ge (a := x.toInt) (b := nt.toInt) rfl rfl q1024
          refine cw_n aj_d63 rfl rfl ?_
          refine cw_n aj_d63 rfl rfl ?_
          refine cw_g (i := 14) (v := .ref (52 + 22)) htb.1 aj_d63 rfl rfl (by decide) f7 ?_
          refine cw_alen (i := 22) htb.1 aj_d63 rfl a10 (by decide) (by omega) (fun x1025 ex1025 => ?_)
          refine cw_c (tgt := 30) aj_d63 rfl rfl (fun q1026 => ?_) (fun q1026 => ?_)
          · have q1026 : x.toInt ≥ (10 : Int) := aw_t_ge (a := x.toInt) (b := (10 : Int)) rfl ex1025 q1026
            refine cw_n aj_d63 rfl rfl ?_
            refine cw_Wr aj_d63 rfl rfl hT ?_ ?_
            · exact ⟨rfl, rfl, Or.inl ⟨Or.inl (by omega), rfl⟩⟩
            · exact rfl
          · have q1026 : x.toInt < (10 : Int) := aw_t_ge (a := x.toInt) (b := (10 : Int)) rfl ex1025 q1026
            refine cw_n aj_d63 rfl rfl ?_
            refine cw_g (i := 14) (v := .ref (52 + 22)) htb.1 aj_d63 rfl rfl (by decide) f7 ?_
            refine cw_n aj_d63 rfl rfl ?_
            refine cw_ldq (i := 22) htb.1 aj_d63 rfl a10 (a := x.toInt) rfl (by omega) (by omega) ?_
            have hxn : x.toInt.toNat < nt.toInt.toNat := by omega
            rcases hZ _ hxn with ⟨hN, hi⟩ | ⟨i, hi, oki⟩
            · rw [hi]
              show cw_W _ _ _ _ _ _ _ _ _ _ 27 [(0, .ref (52 + 14)), (1, .int x)] [.null]
              refine cw_n aj_d63 rfl rfl ?_
              refine cw_Wr aj_d63 rfl rfl hT ?_ ?_
              · exact ⟨rfl, rfl, Or.inl ⟨Or.inr hN, rfl⟩⟩
              · exact rfl
            · obtain ⟨i', ei, qi⟩ := cw_refs (T := ak_CW) (t := 72) (n1 := 10) (n2 := 10) hT (cw_s0 hB rfl) rfl a10 (l := x.toInt.toNat) (by omega) hi
              obtain rfl : i = i' := by omega
              rw [hi]
              show cw_W _ _ _ _ _ _ _ _ _ _ 27 [(0, .ref (52 + 14)), (1, .int x)] [.ref (52 + i)]
              refine cw_n aj_d63 rfl rfl ?_
              refine cw_Wr aj_d63 rfl rfl hT ?_ ?_
              · exact ⟨rfl, rfl, Or.inr ⟨⟨by omega, by omega⟩, i, rfl, qi, oki⟩⟩
              · exact cw_gR qi (by decide) (by decide)
theorem cw_q211 (htb : ak_tbOK ak_CW tb) (hT : ak_Ty ak_CW s h) (hI : cw_I cw_XB s h) (hd : 7 ≤ d) (hx : x = 2 ∨ x = 14) (qx : s[x]? = some 59) (hb : 30 ≤ b ∧ b ≤ 40000) (hi : 0 ≤ iv.toInt ∧ iv.toInt ≤ 2499) (fs7 : cw_F h 43 9 7 (.ref (52 + x))) (fd : cw_F h 43 9 4 (.int dp)) (hdp : dp.toInt = (D : Int)) (hD20 : D ≤ 20) (lv : cw_Lv D b (cw_o h)) (hD : 2 ≤ D) : cw_K ak_CW (fun s' r h' => r = none ∧ cw_WQ (D - 1) b s h s' h') tb d (cw_nW 98 none) [.ref (52 + 43), .int 211, .int iv] s h := by
  obtain ⟨d, rfl⟩ : ∃ e, d = e + 1 := ⟨d - 1, by omega⟩
  have hB := hI.1
  refine cw_m (con := cw_nW 98 none) aj_m98_at (Nat.le_of_ble_eq_true rfl) ?_
  show cw_W _ _ _ _ _ _ _ _ _ _ 0 [(0, .ref (52 + 43)), (1, .int 211), (2, .int iv)] []
  refine cw_n aj_d98 rfl rfl ?_
  refine cw_tsw (tgt := 94) (a := (211 : Int)) aj_d98 rfl rfl ⟨by decide, by decide⟩ rfl rfl ?_
  refine cw_n aj_d98 rfl rfl ?_
  refine cw_n aj_d98 rfl rfl ?_
  refine cw_g (i := 43) (v := .int dp) htb.1 aj_d98 rfl rfl (by decide) fd ?_
  refine cw_n aj_d98 rfl rfl ?_
  refine cw_sub aj_d98 rfl (a := dp.toInt) (b := (1 : Int)) rfl rfl (by omega) (by omega) (fun x1027 ex1027 => ?_)
  refine cw_p (i := 43) (t := 61) (c := 9) (k := 4) (v := .int x1027) (y := (.inl ((-3000), 3000))) htb aj_d98 rfl rfl hT (cw_s0 hB rfl) rfl rfl rfl (cw_gw (a := x1027.toInt) rfl (by omega) (by omega)) (by decide) rfl rfl (fun hT1028 => ?_)
  have f1029 : cw_F (cw_sf h 43 4 (.int x1027)) 43 9 7 (.ref (52 + x)) := cw_sf_ne fs7 (Or.inr (by decide))
  have f1030 : cw_F (cw_sf h 43 4 (.int x1027)) 43 9 4 (.int x1027) := cw_sf_same fd
  obtain ⟨I5, k5⟩ := cw_I_w9 (w := .int x1027) hT hI (Or.inl rfl) fd
  have lv5 : cw_Lv D b (cw_o (cw_sf h 43 4 (.int x1027))) := cw_Lv_kp (fun l r z => cw_sk_kp k5 id z) (cw_sy_n k5 (fun _ _ z => absurd z.2.1 (by decide))) lv
  obtain ⟨i, ski, oki⟩ := lv5 (D - 2) (by omega)
  obtain ⟨j, skj, okj⟩ := lv5 (D - 1) (by omega)
  have qi := cw_sk_q hT1028 hB (by omega) ski
  have qj := cw_sk_q hT1028 hB (by omega) skj
  have hne := cw_sk_ne I5 (by omega) (by omega) (by omega) ski skj
  refine cw_n aj_d98 rfl rfl ?_
  refine cw_n aj_d98 rfl rfl ?_
  refine cw_n aj_d98 rfl rfl ?_
  refine cw_g (i := 43) (v := .int x1027) htb.1 aj_d98 rfl rfl (by decide) f1030 ?_
  refine cw_n aj_d98 rfl rfl ?_
  refine cw_sub aj_d98 rfl (a := x1027.toInt) (b := (1 : Int)) rfl rfl (by omega) (by omega) (fun x1031 ex1031 => ?_)
  refine cw_k0 (i := 43) (t := 61) (con' := cw_nW 100 (some (.inr (some ([58], false))))) aj_d98 htb hT1028 rfl rfl [_] rfl rfl (cw_s0 hB rfl) rfl (Nat.le_of_ble_eq_true rfl) ⟨by decide, by decide⟩ (cw_rowsE htb hT1028 I5 (by omega) (x := x1031) ⟨by omega, by omega⟩ qi (by rw [show x1031.toInt.toNat = D - 2 from by omega]; exact ski)) ?_
  rintro rhT1032 hhT1032 hT1032 ⟨ehhT1032, erhT1032⟩ -
  subst erhT1032
  obtain rfl := ehhT1032.symm
  show cw_W _ _ _ _ _ _ _ _ _ _ 115 [(0, .ref (52 + 43)), (1, .int 211), (2, .int iv)] [.ref (52 + i), .ref (52 + 43)]
  refine cw_n aj_d98 rfl rfl ?_
  refine cw_n aj_d98 rfl rfl ?_
  refine cw_g (i := 43) (v := .int x1027) htb.1 aj_d98 rfl rfl (by decide) f1030 ?_
  refine cw_k0 (i := 43) (t := 61) (con' := cw_nW 100 (some (.inr (some ([58], false))))) aj_d98 htb hT1032 rfl rfl [_] rfl rfl (cw_s0 hB rfl) rfl (Nat.le_of_ble_eq_true rfl) ⟨by decide, by decide⟩ (cw_rowsE htb hT1032 I5 (by omega) (x := x1027) ⟨by omega, by omega⟩ qj (by rw [show x1027.toInt.toNat = D - 1 from by omega]; exact skj)) ?_
  rintro rhT1033 hhT1033 hT1033 ⟨ehhT1033, erhT1033⟩ -
  subst erhT1033
  obtain rfl := ehhT1033.symm
  show cw_W _ _ _ _ _ _ _ _ _ _ 123 [(0, .ref (52 + 43)), (1, .int 211), (2, .int iv)] [.ref (52 + j), .ref (52 + i), .ref (52 + 43)]
  refine cw_n aj_d98 rfl rfl ?_
  obtain ⟨v1034, f1034, g1034⟩ := cw_tyF (i := i) (t := 58) (c := 6) (k := 4) (y := (.inl (0, 20000000))) hT1033 qi rfl rfl rfl
  obtain ⟨x1034, rfl, b1034⟩ := ak_gi g1034
  dsimp only [ak_win] at b1034
  obtain ⟨v1035, f1035, g1035⟩ := cw_tyF (i := j) (t := 58) (c := 6) (k := 4) (y := (.inl (0, 20000000))) hT1033 qj rfl rfl rfl
  obtain ⟨x1035, rfl, b1035⟩ := ak_gi g1035
  dsimp only [ak_win] at b1035
  refine cw_k0 (i := 43) (t := 61) (con' := cw_nW 106 none) aj_d98 htb hT1033 rfl rfl [_, _, _] rfl rfl (cw_s0 hB rfl) rfl (Nat.le_of_ble_eq_true rfl) ⟨by decide, by decide⟩ (cw_plus htb hT1033 I5 (by omega) hne qi qj hi f1034 f1035 ⟨by omega, by omega⟩ ⟨by omega, by omega⟩ hb.1 oki) ?_
  rintro rp hp hTp ⟨rfl, Ip, kp, sp⟩ hRp
  show cw_W _ _ _ _ _ _ _ _ _ _ 127 [(0, .ref (52 + 43)), (1, .int 211), (2, .int iv)] []
  refine cw_n aj_d98 rfl rfl ?_
  refine cw_Wr aj_d98 rfl rfl hTp ?_ ?_
  · exact ⟨rfl, cw_s00, Ip, cw_kp_tr (cw_k5 k5) (cw_k64 kp), cw_sy_tr (cw_sy_n k5 (fun _ _ z => absurd z.2.1 (by decide))) (cw_sy_mono sp (by omega)), ⟨x1027, by omega, cw_kp_F kp (by decide) (by decide) f1030⟩, cw_Lv_le (cw_Lv_kp (fun l r z => cw_sk_kp kp id z) (cw_sy_mono sp (by omega)) lv5) (by omega)⟩
  · trivial
theorem cw_q212 (htb : ak_tbOK ak_CW tb) (hT : ak_Ty ak_CW s h) (hI : cw_I cw_XB s h) (hd : 7 ≤ d) (hx : x = 2 ∨ x = 14) (qx : s[x]? = some 59) (hb : 30 ≤ b ∧ b ≤ 40000) (hi : 0 ≤ iv.toInt ∧ iv.toInt ≤ 2499) (fs7 : cw_F h 43 9 7 (.ref (52 + x))) (fd : cw_F h 43 9 4 (.int dp)) (hdp : dp.toInt = (D : Int)) (hD20 : D ≤ 20) (lv : cw_Lv D b (cw_o h)) (hD : 2 ≤ D) : cw_K ak_CW (fun s' r h' => r = none ∧ cw_WQ (D - 1) b s h s' h') tb d (cw_nW 98 none) [.ref (52 + 43), .int 212, .int iv] s h := by
  obtain ⟨d, rfl⟩ : ∃ e, d = e + 1 := ⟨d - 1, by omega⟩
  have hB := hI.1
  refine cw_m (con := cw_nW 98 none) aj_m98_at (Nat.le_of_ble_eq_true rfl) ?_
  show cw_W _ _ _ _ _ _ _ _ _ _ 0 [(0, .ref (52 + 43)), (1, .int 212), (2, .int iv)] []
  refine cw_n aj_d98 rfl rfl ?_
  refine cw_tsw (tgt := 130) (a := (212 : Int)) aj_d98 rfl rfl ⟨by decide, by decide⟩ rfl rfl ?_
  refine cw_n aj_d98 rfl rfl ?_
  refine cw_n aj_d98 rfl rfl ?_
  refine cw_g (i := 43) (v := .int dp) htb.1 aj_d98 rfl rfl (by decide) fd ?_
  refine cw_n aj_d98 rfl rfl ?_
  refine cw_sub aj_d98 rfl (a := dp.toInt) (b := (1 : Int)) rfl rfl (by omega) (by omega) (fun x1036 ex1036 => ?_)
  refine cw_p (i := 43) (t := 61) (c := 9) (k := 4) (v := .int x1036) (y := (.inl ((-3000), 3000))) htb aj_d98 rfl rfl hT (cw_s0 hB rfl) rfl rfl rfl (cw_gw (a := x1036.toInt) rfl (by omega) (by omega)) (by decide) rfl rfl (fun hT1037 => ?_)
  have f1038 : cw_F (cw_sf h 43 4 (.int x1036)) 43 9 7 (.ref (52 + x)) := cw_sf_ne fs7 (Or.inr (by decide))
  have f1039 : cw_F (cw_sf h 43 4 (.int x1036)) 43 9 4 (.int x1036) := cw_sf_same fd
  obtain ⟨I5, k5⟩ := cw_I_w9 (w := .int x1036) hT hI (Or.inl rfl) fd
  have lv5 : cw_Lv D b (cw_o (cw_sf h 43 4 (.int x1036))) := cw_Lv_kp (fun l r z => cw_sk_kp k5 id z) (cw_sy_n k5 (fun _ _ z => absurd z.2.1 (by decide))) lv
  obtain ⟨i, ski, oki⟩ := lv5 (D - 2) (by omega)
  obtain ⟨j, skj, okj⟩ := lv5 (D - 1) (by omega)
  have qi := cw_sk_q hT1037 hB (by omega) ski
  have qj := cw_sk_q hT1037 hB (by omega) skj
  have hne := cw_sk_ne I5 (by omega) (by omega) (by omega) ski skj
  refine cw_n aj_d98 rfl rfl ?_
  refine cw_n aj_d98 rfl rfl ?_
  refine cw_n aj_d98 rfl rfl ?_
  refine cw_g (i := 43) (v := .int x1036) htb.1 aj_d98 rfl rfl (by decide) f1039 ?_
  refine cw_n aj_d98 rfl rfl ?_
  refine cw_sub aj_d98 rfl (a := x1036.toInt) (b := (1 : Int)) rfl rfl (by omega) (by omega) (fun x1040 ex1040 => ?_)
  refine cw_k0 (i := 43) (t := 61) (con' := cw_nW 100 (some (.inr (some ([58], false))))) aj_d98 htb hT1037 rfl rfl [_] rfl rfl (cw_s0 hB rfl) rfl (Nat.le_of_ble_eq_true rfl) ⟨by decide, by decide⟩ (cw_rowsE htb hT1037 I5 (by omega) (x := x1040) ⟨by omega, by omega⟩ qi (by rw [show x1040.toInt.toNat = D - 2 from by omega]; exact ski)) ?_
  rintro rhT1041 hhT1041 hT1041 ⟨ehhT1041, erhT1041⟩ -
  subst erhT1041
  obtain rfl := ehhT1041.symm
  show cw_W _ _ _ _ _ _ _ _ _ _ 151 [(0, .ref (52 + 43)), (1, .int 212), (2, .int iv)] [.ref (52 + i), .ref (52 + 43)]
  refine cw_n aj_d98 rfl rfl ?_
  refine cw_n aj_d98 rfl rfl ?_
  refine cw_g (i := 43) (v := .int x1036) htb.1 aj_d98 rfl rfl (by decide) f1039 ?_
  refine cw_k0 (i := 43) (t := 61) (con' := cw_nW 100 (some (.inr (some ([58], false))))) aj_d98 htb hT1041 rfl rfl [_] rfl rfl (cw_s0 hB rfl) rfl (Nat.le_of_ble_eq_true rfl) ⟨by decide, by decide⟩ (cw_rowsE htb hT1041 I5 (by omega) (x := x1036) ⟨by omega, by omega⟩ qj (by rw [show x1036.toInt.toNat = D - 1 from by omega]; exact skj)) ?_
  rintro rhT1042 hhT1042 hT1042 ⟨ehhT1042, erhT1042⟩ -
  subst erhT1042
  obtain rfl := ehhT1042.symm
  show cw_W _ _ _ _ _ _ _ _ _ _ 159 [(0, .ref (52 + 43)), (1, .int 212), (2, .int iv)] [.ref (52 + j), .ref (52 + i), .ref (52 + 43)]
  refine cw_k0 (i := 43) (t := 61) (con' := ap_c111) aj_d98 htb hT1042 rfl rfl [_, _] rfl rfl (cw_s0 hB rfl) rfl (Nat.le_of_ble_eq_true rfl) ⟨by decide, by decide⟩ (cw_a1 (by omega) (ap_W_111 htb (cw_SP1c _ _ rfl rfl) cw_hK) hT1042 hB rfl ⟨(cw_gR (cw_s0 hB rfl) (by decide) (by decide)), (cw_gR qi (by decide) (by decide)), (cw_gR qj (by decide) (by decide)), trivial⟩) ?_
  rintro ru1043 h1043 hT1043 ho1043 hRu1043
  have f1044 : cw_F h1043 43 9 7 (.ref (52 + x)) := cw_trF ho1043 (by decide) f1038
  have f1045 : cw_F h1043 43 9 4 (.int x1036) := cw_trF ho1043 (by decide) f1039
  obtain rfl := cw_rN hRu1043
  show cw_W _ _ _ _ _ _ _ _ _ _ 162 [(0, .ref (52 + 43)), (1, .int 212), (2, .int iv)] []
  refine cw_n aj_d98 rfl rfl ?_
  refine cw_Wr aj_d98 rfl rfl hT1043 ?_ ?_
  · exact ⟨rfl, cw_s00, cw_I_eq (ho1043.trans rfl) I5, cw_kp_tr (cw_k5 k5) (cw_kp_eq (ho1043.trans rfl)), cw_sy_tr (cw_sy_n k5 (fun _ _ z => absurd z.2.1 (by decide))) (fun a z => cw_ok_mono (by omega) (cw_ok_eq (ho1043.trans rfl) z)), ⟨x1036, by omega, f1045⟩, cw_Lv_le (cw_Lv_kp (fun l r z => cw_sk_kp (cw_kp_eq (EF := fun _ _ _ => False) (EA := fun _ => False) (ho1043.trans rfl)) id z) (fun a z => cw_ok_mono (by omega) (cw_ok_eq (ho1043.trans rfl) z)) lv5) (by omega)⟩
  · trivial
theorem cw_q213 (htb : ak_tbOK ak_CW tb) (hT : ak_Ty ak_CW s h) (hI : cw_I cw_XB s h) (hd : 7 ≤ d) (hx : x = 2 ∨ x = 14) (qx : s[x]? = some 59) (hb : 30 ≤ b ∧ b ≤ 40000) (hi : 0 ≤ iv.toInt ∧ iv.toInt ≤ 2499) (fs7 : cw_F h 43 9 7 (.ref (52 + x))) (fd : cw_F h 43 9 4 (.int dp)) (hdp : dp.toInt = (D : Int)) (hD20 : D ≤ 20) (lv : cw_Lv D b (cw_o h)) (hD : 2 ≤ D) : cw_K ak_CW (fun s' r h' => r = none ∧ cw_WQ (D - 1) b s h s' h') tb d (cw_nW 98 none) [.ref (52 + 43), .int 213, .int iv] s h := by
  obtain ⟨d, rfl⟩ : ∃ e, d = e + 1 := ⟨d - 1, by omega⟩
  have hB := hI.1
  refine cw_m (con := cw_nW 98 none) aj_m98_at (Nat.le_of_ble_eq_true rfl) ?_
  show cw_W _ _ _ _ _ _ _ _ _ _ 0 [(0, .ref (52 + 43)), (1, .int 213), (2, .int iv)] []
  refine cw_n aj_d98 rfl rfl ?_
  refine cw_tsw (tgt := 165) (a := (213 : Int)) aj_d98 rfl rfl ⟨by decide, by decide⟩ rfl rfl ?_
  refine cw_n aj_d98 rfl rfl ?_
  refine cw_n aj_d98 rfl rfl ?_
  refine cw_g (i := 43) (v := .int dp) htb.1 aj_d98 rfl rfl (by decide) fd ?_
  refine cw_n aj_d98 rfl rfl ?_
  refine cw_sub aj_d98 rfl (a := dp.toInt) (b := (1 : Int)) rfl rfl (by omega) (by omega) (fun x1046 ex1046 => ?_)
  refine cw_p (i := 43) (t := 61) (c := 9) (k := 4) (v := .int x1046) (y := (.inl ((-3000), 3000))) htb aj_d98 rfl rfl hT (cw_s0 hB rfl) rfl rfl rfl (cw_gw (a := x1046.toInt) rfl (by omega) (by omega)) (by decide) rfl rfl (fun hT1047 => ?_)
  have f1048 : cw_F (cw_sf h 43 4 (.int x1046)) 43 9 7 (.ref (52 + x)) := cw_sf_ne fs7 (Or.inr (by decide))
  have f1049 : cw_F (cw_sf h 43 4 (.int x1046)) 43 9 4 (.int x1046) := cw_sf_same fd
  obtain ⟨I5, k5⟩ := cw_I_w9 (w := .int x1046) hT hI (Or.inl rfl) fd
  have lv5 : cw_Lv D b (cw_o (cw_sf h 43 4 (.int x1046))) := cw_Lv_kp (fun l r z => cw_sk_kp k5 id z) (cw_sy_n k5 (fun _ _ z => absurd z.2.1 (by decide))) lv
  obtain ⟨i, ski, oki⟩ := lv5 (D - 2) (by omega)
  obtain ⟨j, skj, okj⟩ := lv5 (D - 1) (by omega)
  have qi := cw_sk_q hT1047 hB (by omega) ski
  have qj := cw_sk_q hT1047 hB (by omega) skj
  have hne := cw_sk_ne I5 (by omega) (by omega) (by omega) ski skj
  refine cw_n aj_d98 rfl rfl ?_
  refine cw_n aj_d98 rfl rfl ?_
  refine cw_n aj_d98 rfl rfl ?_
  refine cw_g (i := 43) (v := .int x1046) htb.1 aj_d98 rfl rfl (by decide) f1049 ?_
  refine cw_n aj_d98 rfl rfl ?_
  refine cw_sub aj_d98 rfl (a := x1046.toInt) (b := (1 : Int)) rfl rfl (by omega) (by omega) (fun x1050 ex1050 => ?_)
  refine cw_k0 (i := 43) (t := 61) (con' := cw_nW 100 (some (.inr (some ([58], false))))) aj_d98 htb hT1047 rfl rfl [_] rfl rfl (cw_s0 hB rfl) rfl (Nat.le_of_ble_eq_true rfl) ⟨by decide, by decide⟩ (cw_rowsE htb hT1047 I5 (by omega) (x := x1050) ⟨by omega, by omega⟩ qi (by rw [show x1050.toInt.toNat = D - 2 from by omega]; exact ski)) ?_
  rintro rhT1051 hhT1051 hT1051 ⟨ehhT1051, erhT1051⟩ -
  subst erhT1051
  obtain rfl := ehhT1051.symm
  show cw_W _ _ _ _ _ _ _ _ _ _ 186 [(0, .ref (52 + 43)), (1, .int 213), (2, .int iv)] [.ref (52 + i), .ref (52 + 43)]
  refine cw_n aj_d98 rfl rfl ?_
  refine cw_n aj_d98 rfl rfl ?_
  refine cw_g (i := 43) (v := .int x1046) htb.1 aj_d98 rfl rfl (by decide) f1049 ?_
  refine cw_k0 (i := 43) (t := 61) (con' := cw_nW 100 (some (.inr (some ([58], false))))) aj_d98 htb hT1051 rfl rfl [_] rfl rfl (cw_s0 hB rfl) rfl (Nat.le_of_ble_eq_true rfl) ⟨by decide, by decide⟩ (cw_rowsE htb hT1051 I5 (by omega) (x := x1046) ⟨by omega, by omega⟩ qj (by rw [show x1046.toInt.toNat = D - 1 from by omega]; exact skj)) ?_
  rintro rhT1052 hhT1052 hT1052 ⟨ehhT1052, erhT1052⟩ -
  subst erhT1052
  obtain rfl := ehhT1052.symm
  show cw_W _ _ _ _ _ _ _ _ _ _ 194 [(0, .ref (52 + 43)), (1, .int 213), (2, .int iv)] [.ref (52 + j), .ref (52 + i), .ref (52 + 43)]
  refine cw_n aj_d98 rfl rfl ?_
  obtain ⟨v1053, f1053, g1053⟩ := cw_tyF (i := 43) (t := 61) (c := 9) (k := 5) (y := (.inr (some ([58], false)))) hT1052 (cw_s0 hB rfl) rfl rfl rfl
  obtain ⟨i1053, rfl, q1053⟩ := cw_gr g1053 (by decide)
  refine cw_k0 (i := 43) (t := 61) (con' := cw_nW 115 none) aj_d98 htb hT1052 rfl rfl [_, _, _] rfl rfl (cw_s0 hB rfl) rfl (Nat.le_of_ble_eq_true rfl) ⟨by decide, by decide⟩ (cw_join (b := b) htb hT1052 I5 (by omega) ⟨by omega, by omega⟩ (cw_sk_p I5 (by omega) ski f1053) (cw_sk_p I5 (by omega) skj f1053) qi qj q1053 hi (dp := x1046) ⟨by omega, by omega⟩ f1049 f1053 (by rw [show (x1046.toInt - 1).toNat = D - 2 from by omega]; exact ski) oki okj) ?_
  rintro rj hj hTj ⟨rfl, Ij, kj, sj, pj, rj2⟩ hRj
  have e2 : (x1046.toInt - 1).toNat = D - 2 := by omega
  rw [e2] at pj rj2
  show cw_W _ _ _ _ _ _ _ _ _ _ 198 [(0, .ref (52 + 43)), (1, .int 213), (2, .int iv)] []
  refine cw_n aj_d98 rfl rfl ?_
  refine cw_Wr aj_d98 rfl rfl hTj ?_ ?_
  · exact ⟨rfl, cw_s00, Ij, cw_kp_tr (cw_k5 k5) (cw_kJ kj), cw_sy_tr (cw_sy_n k5 (fun _ _ z => absurd z.2.1 (by decide))) (cw_sy_mono sj (by omega)), ⟨x1046, by omega, cw_kp_F kj (by decide) (by decide) f1049⟩, by
        obtain ⟨E, rfl⟩ : ∃ E, D = E + 2 := ⟨D - 2, by omega⟩
        exact cw_Lv_u (b := b) pj (cw_sy_mono sj (by omega)) (cw_Lv_le lv5 (by omega)) (rj2.imp (fun r z => ⟨z.1, cw_ok_mono (by omega) z.2⟩))⟩
  · trivial
theorem cw_q214 (htb : ak_tbOK ak_CW tb) (hT : ak_Ty ak_CW s h) (hI : cw_I cw_XB s h) (hd : 7 ≤ d) (hx : x = 2 ∨ x = 14) (qx : s[x]? = some 59) (hb : 30 ≤ b ∧ b ≤ 40000) (hi : 0 ≤ iv.toInt ∧ iv.toInt ≤ 2499) (fs7 : cw_F h 43 9 7 (.ref (52 + x))) (fd : cw_F h 43 9 4 (.int dp)) (hdp : dp.toInt = (D : Int)) (hD20 : D ≤ 20) (lv : cw_Lv D b (cw_o h)) (hD : 1 ≤ D) : cw_K ak_CW (fun s' r h' => r = none ∧ cw_WQ (D) b s h s' h') tb d (cw_nW 98 none) [.ref (52 + 43), .int 214, .int iv] s h := by
  obtain ⟨d, rfl⟩ : ∃ e, d = e + 1 := ⟨d - 1, by omega⟩
  have hB := hI.1
  refine cw_m (con := cw_nW 98 none) aj_m98_at (Nat.le_of_ble_eq_true rfl) ?_
  show cw_W _ _ _ _ _ _ _ _ _ _ 0 [(0, .ref (52 + 43)), (1, .int 214), (2, .int iv)] []
  refine cw_n aj_d98 rfl rfl ?_
  obtain ⟨i, ski, oki⟩ := lv (D - 1) (by omega)
  have qi := cw_sk_q hT hB (by omega) ski
  refine cw_tsw (tgt := 201) (a := (214 : Int)) aj_d98 rfl rfl ⟨by decide, by decide⟩ rfl rfl ?_
  refine cw_n aj_d98 rfl rfl ?_
  refine cw_n aj_d98 rfl rfl ?_
  refine cw_n aj_d98 rfl rfl ?_
  refine cw_g (i := 43) (v := .int dp) htb.1 aj_d98 rfl rfl (by decide) fd ?_
  refine cw_n aj_d98 rfl rfl ?_
  refine cw_sub aj_d98 rfl (a := dp.toInt) (b := (1 : Int)) rfl rfl (by omega) (by omega) (fun x1054 ex1054 => ?_)
  refine cw_k0 (i := 43) (t := 61) (con' := cw_nW 100 (some (.inr (some ([58], false))))) aj_d98 htb hT rfl rfl [_] rfl rfl (cw_s0 hB rfl) rfl (Nat.le_of_ble_eq_true rfl) ⟨by decide, by decide⟩ (cw_rowsE htb hT hI (by omega) (x := x1054) ⟨by omega, by omega⟩ qi (by rw [show x1054.toInt.toNat = D - 1 from by omega]; exact ski)) ?_
  rintro rhT1055 hhT1055 hT1055 ⟨ehhT1055, erhT1055⟩ -
  subst erhT1055
  obtain rfl := ehhT1055.symm
  show cw_W _ _ _ _ _ _ _ _ _ _ 212 [(0, .ref (52 + 43)), (1, .int 214), (2, .int iv)] [.ref (52 + i), .ref (52 + 43)]
  refine cw_k0 (i := 43) (t := 61) (con' := ap_c121) aj_d98 htb hT1055 rfl rfl [_] rfl rfl (cw_s0 hB rfl) rfl (Nat.le_of_ble_eq_true rfl) ⟨by decide, by decide⟩ (cw_a1 (by omega) (ap_W_121 htb (cw_SP1c _ _ rfl rfl) cw_hK) hT1055 hB rfl ⟨(cw_gR (cw_s0 hB rfl) (by decide) (by decide)), (cw_gR qi (by decide) (by decide)), trivial⟩) ?_
  rintro ru1056 h1056 hT1056 ho1056 hRu1056
  have f1057 : cw_F h1056 43 9 7 (.ref (52 + x)) := cw_trF ho1056 (by decide) fs7
  have f1058 : cw_F h1056 43 9 4 (.int dp) := cw_trF ho1056 (by decide) fd
  obtain rfl := cw_rN hRu1056
  show cw_W _ _ _ _ _ _ _ _ _ _ 215 [(0, .ref (52 + 43)), (1, .int 214), (2, .int iv)] []
  refine cw_n aj_d98 rfl rfl ?_
  refine cw_Wr aj_d98 rfl rfl hT1056 ?_ ?_
  · exact ⟨rfl, cw_s00, cw_I_eq (ho1056.trans rfl) hI, cw_kp_eq (ho1056.trans rfl), (fun a z => cw_ok_mono (by omega) (cw_ok_eq (ho1056.trans rfl) z)), ⟨dp, hdp, f1058⟩, cw_Lv_kp (fun l r z => cw_sk_kp (cw_kp_eq (EF := fun _ _ _ => False) (EA := fun _ => False) (ho1056.trans rfl)) id z) (fun a z => cw_ok_mono (by omega) (cw_ok_eq (ho1056.trans rfl) z)) lv⟩
  · trivial
theorem cw_q215 (htb : ak_tbOK ak_CW tb) (hT : ak_Ty ak_CW s h) (hI : cw_I cw_XB s h) (hd : 7 ≤ d) (hx : x = 2 ∨ x = 14) (qx : s[x]? = some 59) (hb : 30 ≤ b ∧ b ≤ 40000) (hi : 0 ≤ iv.toInt ∧ iv.toInt ≤ 2499) (fs7 : cw_F h 43 9 7 (.ref (52 + x))) (fd : cw_F h 43 9 4 (.int dp)) (hdp : dp.toInt = (D : Int)) (hD20 : D ≤ 20) (lv : cw_Lv D b (cw_o h))  : cw_K ak_CW (fun s' r h' => r = none ∧ cw_WQ (D) b s h s' h') tb d (cw_nW 98 none) [.ref (52 + 43), .int 215, .int iv] s h := by
  obtain ⟨d, rfl⟩ : ∃ e, d = e + 1 := ⟨d - 1, by omega⟩
  have hB := hI.1
  refine cw_m (con := cw_nW 98 none) aj_m98_at (Nat.le_of_ble_eq_true rfl) ?_
  show cw_W _ _ _ _ _ _ _ _ _ _ 0 [(0, .ref (52 + 43)), (1, .int 215), (2, .int iv)] []
  refine cw_n aj_d98 rfl rfl ?_
  refine cw_tsw (tgt := 218) (a := (215 : Int)) aj_d98 rfl rfl ⟨by decide, by decide⟩ rfl rfl ?_
  refine cw_n aj_d98 rfl rfl ?_
  obtain ⟨v1059, f1059, g1059⟩ := cw_tyF (i := 43) (t := 61) (c := 9) (k := 2) (y := (.inr (some ([53], false)))) hT (cw_s0 hB rfl) rfl rfl rfl
  obtain rfl := cw_gu (i := 44) hB g1059 (by decide) (by decide) (by decide)
  refine cw_g (i := 43) (v := .ref (52 + 44)) htb.1 aj_d98 rfl rfl (by decide) f1059 ?_
  refine cw_n aj_d98 rfl rfl ?_
  refine cw_p1 (kind := 1) (by decide) (i := 44) (t := 53) (c := 1) (k := 1) (v := .int (Int32.ofInt 0)) (y := (.inl (0, 6))) htb aj_d98 rfl rfl hT (cw_s0 hB rfl) rfl rfl rfl (cw_gw (a := (0 : Int)) rfl (by omega) (by omega)) (by decide) rfl rfl (fun hT1060 => ?_)
  obtain ⟨v1061, f1061, g1061⟩ := cw_tyF (i := 44) (t := 53) (c := 1) (k := 1) (y := (.inl (0, 6))) hT (cw_s0 hB rfl) rfl rfl rfl
  obtain ⟨x1061, rfl, b1061⟩ := ak_gi g1061
  dsimp only [ak_win] at b1061
  have f1062 : cw_F (cw_sf h 44 1 (.int (Int32.ofInt 0))) 43 9 7 (.ref (52 + x)) := cw_sf_ne fs7 (Or.inr (by decide))
  have f1063 : cw_F (cw_sf h 44 1 (.int (Int32.ofInt 0))) 43 9 4 (.int dp) := cw_sf_ne fd (Or.inr (by decide))
  have f1064 : cw_F (cw_sf h 44 1 (.int (Int32.ofInt 0))) 43 9 2 (.ref (52 + 44)) := cw_sf_ne f1059 (Or.inr (by decide))
  have f1065 : cw_F (cw_sf h 44 1 (.int (Int32.ofInt 0))) 44 1 1 (.int (Int32.ofInt 0)) := cw_sf_same f1061
  refine cw_n aj_d98 rfl rfl ?_
  refine cw_Wr aj_d98 rfl rfl hT1060 ?_ ?_
  · exact ⟨rfl, cw_s00, cw_I_eq ((cw_o_sf f1061 (by decide)).trans rfl) hI, cw_kp_eq ((cw_o_sf f1061 (by decide)).trans rfl), (fun a z => cw_ok_mono (by omega) (cw_ok_eq ((cw_o_sf f1061 (by decide)).trans rfl) z)), ⟨dp, hdp, f1063⟩, cw_Lv_kp (fun l r z => cw_sk_kp (cw_kp_eq (EF := fun _ _ _ => False) (EA := fun _ => False) ((cw_o_sf f1061 (by decide)).trans rfl)) id z) (fun a z => cw_ok_mono (by omega) (cw_ok_eq ((cw_o_sf f1061 (by decide)).trans rfl) z)) lv⟩
  · trivial
theorem cw_q216 (htb : ak_tbOK ak_CW tb) (hT : ak_Ty ak_CW s h) (hI : cw_I cw_XB s h) (hd : 7 ≤ d) (hx : x = 2 ∨ x = 14) (qx : s[x]? = some 59) (hb : 30 ≤ b ∧ b ≤ 40000) (hi : 0 ≤ iv.toInt ∧ iv.toInt ≤ 2499) (fs7 : cw_F h 43 9 7 (.ref (52 + x))) (fd : cw_F h 43 9 4 (.int dp)) (hdp : dp.toInt = (D : Int)) (hD20 : D ≤ 20) (lv : cw_Lv D b (cw_o h))  : cw_K ak_CW (fun s' r h' => r = none ∧ cw_WQ (D) b s h s' h') tb d (cw_nW 98 none) [.ref (52 + 43), .int 216, .int iv] s h := by
  obtain ⟨d, rfl⟩ : ∃ e, d = e + 1 := ⟨d - 1, by omega⟩
  have hB := hI.1
  refine cw_m (con := cw_nW 98 none) aj_m98_at (Nat.le_of_ble_eq_true rfl) ?_
  show cw_W _ _ _ _ _ _ _ _ _ _ 0 [(0, .ref (52 + 43)), (1, .int 216), (2, .int iv)] []
  refine cw_n aj_d98 rfl rfl ?_
  refine cw_tsw (tgt := 229) (a := (216 : Int)) aj_d98 rfl rfl ⟨by decide, by decide⟩ rfl rfl ?_
  refine cw_n aj_d98 rfl rfl ?_
  obtain ⟨v1066, f1066, g1066⟩ := cw_tyF (i := 43) (t := 61) (c := 9) (k := 2) (y := (.inr (some ([53], false)))) hT (cw_s0 hB rfl) rfl rfl rfl
  obtain rfl := cw_gu (i := 44) hB g1066 (by decide) (by decide) (by decide)
  refine cw_g (i := 43) (v := .ref (52 + 44)) htb.1 aj_d98 rfl rfl (by decide) f1066 ?_
  refine cw_n aj_d98 rfl rfl ?_
  obtain ⟨v1067, f1067, g1067⟩ := cw_tyF (i := 43) (t := 61) (c := 9) (k := 1) (y := (.inr (some ([56], false)))) hT (cw_s0 hB rfl) rfl rfl rfl
  obtain rfl := cw_gu (i := 30) hB g1067 (by decide) (by decide) (by decide)
  refine cw_g (i := 43) (v := .ref (52 + 30)) htb.1 aj_d98 rfl rfl (by decide) f1067 ?_
  refine cw_n aj_d98 rfl rfl ?_
  refine cw_k0 (i := 30) (t := 56) (con' := ap_c40) aj_d98 htb hT rfl rfl [_] rfl rfl (cw_s0 hB rfl) rfl (Nat.le_of_ble_eq_true rfl) ⟨by decide, by decide⟩ (cw_a1 (by omega) (ap_W_40 htb (cw_SP1c _ _ rfl rfl) cw_hK) hT hB rfl ⟨(cw_gR (cw_s0 hB rfl) (by decide) (by decide)), (cw_full _), trivial⟩) ?_
  rintro ru1068 h1068 hT1068 ho1068 hRu1068
  have f1069 : cw_F h1068 43 9 7 (.ref (52 + x)) := cw_trF ho1068 (by decide) fs7
  have f1070 : cw_F h1068 43 9 4 (.int dp) := cw_trF ho1068 (by decide) fd
  obtain ⟨x1071, rfl, bx1071⟩ := cw_rI hRu1068
  show cw_W _ _ _ _ _ _ _ _ _ _ 241 [(0, .ref (52 + 43)), (1, .int 216), (2, .int iv)] [.int x1071, .ref (52 + 44)]
  refine cw_k0 (i := 44) (t := 53) (con' := ap_c125) aj_d98 htb hT1068 rfl rfl [_] rfl rfl (cw_s0 hB rfl) rfl (Nat.le_of_ble_eq_true rfl) ⟨by decide, by decide⟩ (cw_a1 (by omega) (ap_W_125 htb (cw_SP1c _ _ rfl rfl) cw_hK) hT1068 hB rfl ⟨(cw_gR (cw_s0 hB rfl) (by decide) (by decide)), (cw_full _), trivial⟩) ?_
  rintro ru1072 h1072 hT1072 ho1072 hRu1072
  have f1073 : cw_F h1072 43 9 7 (.ref (52 + x)) := cw_trF ho1072 (by decide) f1069
  have f1074 : cw_F h1072 43 9 4 (.int dp) := cw_trF ho1072 (by decide) f1070
  obtain rfl := cw_rN hRu1072
  show cw_W _ _ _ _ _ _ _ _ _ _ 244 [(0, .ref (52 + 43)), (1, .int 216), (2, .int iv)] []
  refine cw_n aj_d98 rfl rfl ?_
  refine cw_Wr aj_d98 rfl rfl hT1072 ?_ ?_
  · exact ⟨rfl, cw_s00, cw_I_eq (ho1072.trans (ho1068.trans rfl)) hI, cw_kp_eq (ho1072.trans (ho1068.trans rfl)), (fun a z => cw_ok_mono (by omega) (cw_ok_eq (ho1072.trans (ho1068.trans rfl)) z)), ⟨dp, hdp, f1074⟩, cw_Lv_kp (fun l r z => cw_sk_kp (cw_kp_eq (EF := fun _ _ _ => False) (EA := fun _ => False) (ho1072.trans (ho1068.trans rfl))) id z) (fun a z => cw_ok_mono (by omega) (cw_ok_eq (ho1072.trans (ho1068.trans rfl)) z)) lv⟩
  · trivial
theorem cw_q218 (htb : ak_tbOK ak_CW tb) (hT : ak_Ty ak_CW s h) (hI : cw_I cw_XB s h) (hd : 7 ≤ d) (hx : x = 2 ∨ x = 14) (qx : s[x]? = some 59) (hb : 30 ≤ b ∧ b ≤ 40000) (hi : 0 ≤ iv.toInt ∧ iv.toInt ≤ 2499) (fs7 : cw_F h 43 9 7 (.ref (52 + x))) (fd : cw_F h 43 9 4 (.int dp)) (hdp : dp.toInt = (D : Int)) (hD20 : D ≤ 20) (lv : cw_Lv D b (cw_o h))  : cw_K ak_CW (fun s' r h' => r = none ∧ cw_WQ (D) b s h s' h') tb d (cw_nW 98 none) [.ref (52 + 43), .int 218, .int iv] s h := by
  obtain ⟨d, rfl⟩ : ∃ e, d = e + 1 := ⟨d - 1, by omega⟩
  have hB := hI.1
  refine cw_m (con := cw_nW 98 none) aj_m98_at (Nat.le_of_ble_eq_true rfl) ?_
  show cw_W _ _ _ _ _ _ _ _ _ _ 0 [(0, .ref (52 + 43)), (1, .int 218), (2, .int iv)] []
  refine cw_n aj_d98 rfl rfl ?_
  refine cw_tsw (tgt := 343) (a := (218 : Int)) aj_d98 rfl rfl ⟨by decide, by decide⟩ rfl rfl ?_
  refine cw_Wr aj_d98 rfl rfl hT ?_ ?_
  · exact ⟨rfl, cw_s00, cw_I_eq rfl hI, cw_kp_eq rfl, (fun a z => cw_ok_mono (by omega) (cw_ok_eq rfl z)), ⟨dp, hdp, fd⟩, cw_Lv_kp (fun l r z => cw_sk_kp (cw_kp_eq (EF := fun _ _ _ => False) (EA := fun _ => False) rfl) id z) (fun a z => cw_ok_mono (by omega) (cw_ok_eq rfl z)) lv⟩
  · trivial
theorem cw_q219 (htb : ak_tbOK ak_CW tb) (hT : ak_Ty ak_CW s h) (hI : cw_I cw_XB s h) (hd : 7 ≤ d) (hx : x = 2 ∨ x = 14) (qx : s[x]? = some 59) (hb : 30 ≤ b ∧ b ≤ 40000) (hi : 0 ≤ iv.toInt ∧ iv.toInt ≤ 2499) (fs7 : cw_F h 43 9 7 (.ref (52 + x))) (fd : cw_F h 43 9 4 (.int dp)) (hdp : dp.toInt = (D : Int)) (hD20 : D ≤ 20) (lv : cw_Lv D b (cw_o h))  : cw_K ak_CW (fun s' r h' => r = none ∧ cw_WQ (D) b s h s' h') tb d (cw_nW 98 none) [.ref (52 + 43), .int 219, .int iv] s h := by
  obtain ⟨d, rfl⟩ : ∃ e, d = e + 1 := ⟨d - 1, by omega⟩
  have hB := hI.1
  refine cw_m (con := cw_nW 98 none) aj_m98_at (Nat.le_of_ble_eq_true rfl) ?_
  show cw_W _ _ _ _ _ _ _ _ _ _ 0 [(0, .ref (52 + 43)), (1, .int 219), (2, .int iv)] []
  refine cw_n aj_d98 rfl rfl ?_
  refine cw_tsw (tgt := 343) (a := (219 : Int)) aj_d98 rfl rfl ⟨by decide, by decide⟩ rfl rfl ?_
  refine cw_Wr aj_d98 rfl rfl hT ?_ ?_
  · exact ⟨rfl, cw_s00, cw_I_eq rfl hI, cw_kp_eq rfl, (fun a z => cw_ok_mono (by omega) (cw_ok_eq rfl z)), ⟨dp, hdp, fd⟩, cw_Lv_kp (fun l r z => cw_sk_kp (cw_kp_eq (EF := fun _ _ _ => False) (EA := fun _ => False) rfl) id z) (fun a z => cw_ok_mono (by omega) (cw_ok_eq rfl z)) lv⟩
  · trivial
theorem cw_q220 (htb : ak_tbOK ak_CW tb) (hT : ak_Ty ak_CW s h) (hI : cw_I cw_XB s h) (hd : 7 ≤ d) (hx : x = 2 ∨ x = 14) (qx : s[x]? = some 59) (hb : 30 ≤ b ∧ b ≤ 40000) (hi : 0 ≤ iv.toInt ∧ iv.toInt ≤ 2499) (fs7 : cw_F h 43 9 7 (.ref (52 + x))) (fd : cw_F h 43 9 4 (.int dp)) (hdp : dp.toInt = (D : Int)) (hD20 : D ≤ 20) (lv : cw_Lv D b (cw_o h))  : cw_K ak_CW (fun s' r h' => r = none ∧ cw_WQ (D) b s h s' h') tb d (cw_nW 98 none) [.ref (52 + 43), .int 220, .int iv] s h := by
  obtain ⟨d, rfl⟩ : ∃ e, d = e + 1 := ⟨d - 1, by omega⟩
  have hB := hI.1
  refine cw_m (con := cw_nW 98 none) aj_m98_at (Nat.le_of_ble_eq_true rfl) ?_
  show cw_W _ _ _ _ _ _ _ _ _ _ 0 [(0, .ref (52 + 43)), (1, .int 220), (2, .int iv)] []
  refine cw_n aj_d98 rfl rfl ?_
  refine cw_tsw (tgt := 343) (a := (220 : Int)) aj_d98 rfl rfl ⟨by decide, by decide⟩ rfl rfl ?_
  refine cw_Wr aj_d98 rfl rfl hT ?_ ?_
  · exact ⟨rfl, cw_s00, cw_I_eq rfl hI, cw_kp_eq rfl, (fun a z => cw_ok_mono (by omega) (cw_ok_eq rfl z)), ⟨dp, hdp, fd⟩, cw_Lv_kp (fun l r z => cw_sk_kp (cw_kp_eq (EF := fun _ _ _ => False) (EA := fun _ => False) rfl) id z) (fun a z => cw_ok_mono (by omega) (cw_ok_eq rfl z)) lv⟩
  · trivial
theorem cw_q221 (htb : ak_tbOK ak_CW tb) (hT : ak_Ty ak_CW s h) (hI : cw_I cw_XB s h) (hd : 7 ≤ d) (hx : x = 2 ∨ x = 14) (qx : s[x]? = some 59) (hb : 30 ≤ b ∧ b ≤ 40000) (hi : 0 ≤ iv.toInt ∧ iv.toInt ≤ 2499) (fs7 : cw_F h 43 9 7 (.ref (52 + x))) (fd : cw_F h 43 9 4 (.int dp)) (hdp : dp.toInt = (D : Int)) (hD20 : D ≤ 20) (lv : cw_Lv D b (cw_o h))  : cw_K ak_CW (fun s' r h' => r = none ∧ cw_WQ (D) b s h s' h') tb d (cw_nW 98 none) [.ref (52 + 43), .int 221, .int iv] s h := by
  obtain ⟨d, rfl⟩ : ∃ e, d = e + 1 := ⟨d - 1, by omega⟩
  have hB := hI.1
  refine cw_m (con := cw_nW 98 none) aj_m98_at (Nat.le_of_ble_eq_true rfl) ?_
  show cw_W _ _ _ _ _ _ _ _ _ _ 0 [(0, .ref (52 + 43)), (1, .int 221), (2, .int iv)] []
  refine cw_n aj_d98 rfl rfl ?_
  refine cw_tsw (tgt := 267) (a := (221 : Int)) aj_d98 rfl rfl ⟨by decide, by decide⟩ rfl rfl ?_
  refine cw_n aj_d98 rfl rfl ?_
  obtain ⟨v1075, f1075, g1075⟩ := cw_tyF (i := 43) (t := 61) (c := 9) (k := 2) (y := (.inr (some ([53], false)))) hT (cw_s0 hB rfl) rfl rfl rfl
  obtain rfl := cw_gu (i := 44) hB g1075 (by decide) (by decide) (by decide)
  refine cw_g (i := 43) (v := .ref (52 + 44)) htb.1 aj_d98 rfl rfl (by decide) f1075 ?_
  refine cw_n aj_d98 rfl rfl ?_
  obtain ⟨v1076, f1076, g1076⟩ := cw_tyF (i := 43) (t := 61) (c := 9) (k := 1) (y := (.inr (some ([56], false)))) hT (cw_s0 hB rfl) rfl rfl rfl
  obtain rfl := cw_gu (i := 30) hB g1076 (by decide) (by decide) (by decide)
  refine cw_g (i := 43) (v := .ref (52 + 30)) htb.1 aj_d98 rfl rfl (by decide) f1076 ?_
  refine cw_n aj_d98 rfl rfl ?_
  refine cw_k0 (i := 30) (t := 56) (con' := ap_c40) aj_d98 htb hT rfl rfl [_] rfl rfl (cw_s0 hB rfl) rfl (Nat.le_of_ble_eq_true rfl) ⟨by decide, by decide⟩ (cw_a1 (by omega) (ap_W_40 htb (cw_SP1c _ _ rfl rfl) cw_hK) hT hB rfl ⟨(cw_gR (cw_s0 hB rfl) (by decide) (by decide)), (cw_full _), trivial⟩) ?_
  rintro ru1077 h1077 hT1077 ho1077 hRu1077
  have f1078 : cw_F h1077 43 9 7 (.ref (52 + x)) := cw_trF ho1077 (by decide) fs7
  have f1079 : cw_F h1077 43 9 4 (.int dp) := cw_trF ho1077 (by decide) fd
  obtain ⟨x1080, rfl, bx1080⟩ := cw_rI hRu1077
  show cw_W _ _ _ _ _ _ _ _ _ _ 279 [(0, .ref (52 + 43)), (1, .int 221), (2, .int iv)] [.int x1080, .ref (52 + 44)]
  refine cw_p1 (kind := 1) (by decide) (i := 44) (t := 53) (c := 1) (k := 2) (v := .int x1080) (y := (.inl ((-2147483648), 2147483647))) htb aj_d98 rfl rfl hT1077 (cw_s0 hB rfl) rfl rfl rfl (cw_full _) (by decide) rfl rfl (fun hT1081 => ?_)
  obtain ⟨v1082, f1082, g1082⟩ := cw_tyF (i := 44) (t := 53) (c := 1) (k := 2) (y := (.inl ((-2147483648), 2147483647))) hT1077 (cw_s0 hB rfl) rfl rfl rfl
  obtain ⟨x1082, rfl, b1082⟩ := ak_gi g1082
  dsimp only [ak_win] at b1082
  have f1083 : cw_F (cw_sf h1077 44 2 (.int x1080)) 43 9 7 (.ref (52 + x)) := cw_sf_ne f1078 (Or.inr (by decide))
  have f1084 : cw_F (cw_sf h1077 44 2 (.int x1080)) 43 9 4 (.int dp) := cw_sf_ne f1079 (Or.inr (by decide))
  have f1085 : cw_F (cw_sf h1077 44 2 (.int x1080)) 44 1 2 (.int x1080) := cw_sf_same f1082
  refine cw_n aj_d98 rfl rfl ?_
  refine cw_Wr aj_d98 rfl rfl hT1081 ?_ ?_
  · exact ⟨rfl, cw_s00, cw_I_eq ((cw_o_sf f1082 (by decide)).trans (ho1077.trans rfl)) hI, cw_kp_eq ((cw_o_sf f1082 (by decide)).trans (ho1077.trans rfl)), (fun a z => cw_ok_mono (by omega) (cw_ok_eq ((cw_o_sf f1082 (by decide)).trans (ho1077.trans rfl)) z)), ⟨dp, hdp, f1084⟩, cw_Lv_kp (fun l r z => cw_sk_kp (cw_kp_eq (EF := fun _ _ _ => False) (EA := fun _ => False) ((cw_o_sf f1082 (by decide)).trans (ho1077.trans rfl))) id z) (fun a z => cw_ok_mono (by omega) (cw_ok_eq ((cw_o_sf f1082 (by decide)).trans (ho1077.trans rfl)) z)) lv⟩
  · trivial
theorem cw_q222 (htb : ak_tbOK ak_CW tb) (hT : ak_Ty ak_CW s h) (hI : cw_I cw_XB s h) (hd : 7 ≤ d) (hx : x = 2 ∨ x = 14) (qx : s[x]? = some 59) (hb : 30 ≤ b ∧ b ≤ 40000) (hi : 0 ≤ iv.toInt ∧ iv.toInt ≤ 2499) (fs7 : cw_F h 43 9 7 (.ref (52 + x))) (fd : cw_F h 43 9 4 (.int dp)) (hdp : dp.toInt = (D : Int)) (hD20 : D ≤ 20) (lv : cw_Lv D b (cw_o h))  : cw_K ak_CW (fun s' r h' => r = none ∧ cw_WQ (D) b s h s' h') tb d (cw_nW 98 none) [.ref (52 + 43), .int 222, .int iv] s h := by
  obtain ⟨d, rfl⟩ : ∃ e, d = e + 1 := ⟨d - 1, by omega⟩
  have hB := hI.1
  refine cw_m (con := cw_nW 98 none) aj_m98_at (Nat.le_of_ble_eq_true rfl) ?_
  show cw_W _ _ _ _ _ _ _ _ _ _ 0 [(0, .ref (52 + 43)), (1, .int 222), (2, .int iv)] []
  refine cw_n aj_d98 rfl rfl ?_
  refine cw_tsw (tgt := 285) (a := (222 : Int)) aj_d98 rfl rfl ⟨by decide, by decide⟩ rfl rfl ?_
  refine cw_n aj_d98 rfl rfl ?_
  obtain ⟨v1086, f1086, g1086⟩ := cw_tyF (i := 43) (t := 61) (c := 9) (k := 2) (y := (.inr (some ([53], false)))) hT (cw_s0 hB rfl) rfl rfl rfl
  obtain rfl := cw_gu (i := 44) hB g1086 (by decide) (by decide) (by decide)
  refine cw_g (i := 43) (v := .ref (52 + 44)) htb.1 aj_d98 rfl rfl (by decide) f1086 ?_
  refine cw_n aj_d98 rfl rfl ?_
  obtain ⟨v1087, f1087, g1087⟩ := cw_tyF (i := 43) (t := 61) (c := 9) (k := 1) (y := (.inr (some ([56], false)))) hT (cw_s0 hB rfl) rfl rfl rfl
  obtain rfl := cw_gu (i := 30) hB g1087 (by decide) (by decide) (by decide)
  refine cw_g (i := 43) (v := .ref (52 + 30)) htb.1 aj_d98 rfl rfl (by decide) f1087 ?_
  refine cw_n aj_d98 rfl rfl ?_
  refine cw_k0 (i := 30) (t := 56) (con' := ap_c40) aj_d98 htb hT rfl rfl [_] rfl rfl (cw_s0 hB rfl) rfl (Nat.le_of_ble_eq_true rfl) ⟨by decide, by decide⟩ (cw_a1 (by omega) (ap_W_40 htb (cw_SP1c _ _ rfl rfl) cw_hK) hT hB rfl ⟨(cw_gR (cw_s0 hB rfl) (by decide) (by decide)), (cw_full _), trivial⟩) ?_
  rintro ru1088 h1088 hT1088 ho1088 hRu1088
  have f1089 : cw_F h1088 43 9 7 (.ref (52 + x)) := cw_trF ho1088 (by decide) fs7
  have f1090 : cw_F h1088 43 9 4 (.int dp) := cw_trF ho1088 (by decide) fd
  obtain ⟨x1091, rfl, bx1091⟩ := cw_rI hRu1088
  show cw_W _ _ _ _ _ _ _ _ _ _ 297 [(0, .ref (52 + 43)), (1, .int 222), (2, .int iv)] [.int x1091, .ref (52 + 44)]
  refine cw_p1 (kind := 1) (by decide) (i := 44) (t := 53) (c := 1) (k := 3) (v := .int x1091) (y := (.inl ((-2147483648), 2147483647))) htb aj_d98 rfl rfl hT1088 (cw_s0 hB rfl) rfl rfl rfl (cw_full _) (by decide) rfl rfl (fun hT1092 => ?_)
  obtain ⟨v1093, f1093, g1093⟩ := cw_tyF (i := 44) (t := 53) (c := 1) (k := 3) (y := (.inl ((-2147483648), 2147483647))) hT1088 (cw_s0 hB rfl) rfl rfl rfl
  obtain ⟨x1093, rfl, b1093⟩ := ak_gi g1093
  dsimp only [ak_win] at b1093
  have f1094 : cw_F (cw_sf h1088 44 3 (.int x1091)) 43 9 7 (.ref (52 + x)) := cw_sf_ne f1089 (Or.inr (by decide))
  have f1095 : cw_F (cw_sf h1088 44 3 (.int x1091)) 43 9 4 (.int dp) := cw_sf_ne f1090 (Or.inr (by decide))
  have f1096 : cw_F (cw_sf h1088 44 3 (.int x1091)) 44 1 3 (.int x1091) := cw_sf_same f1093
  refine cw_n aj_d98 rfl rfl ?_
  refine cw_Wr aj_d98 rfl rfl hT1092 ?_ ?_
  · exact ⟨rfl, cw_s00, cw_I_eq ((cw_o_sf f1093 (by decide)).trans (ho1088.trans rfl)) hI, cw_kp_eq ((cw_o_sf f1093 (by decide)).trans (ho1088.trans rfl)), (fun a z => cw_ok_mono (by omega) (cw_ok_eq ((cw_o_sf f1093 (by decide)).trans (ho1088.trans rfl)) z)), ⟨dp, hdp, f1095⟩, cw_Lv_kp (fun l r z => cw_sk_kp (cw_kp_eq (EF := fun _ _ _ => False) (EA := fun _ => False) ((cw_o_sf f1093 (by decide)).trans (ho1088.trans rfl))) id z) (fun a z => cw_ok_mono (by omega) (cw_ok_eq ((cw_o_sf f1093 (by decide)).trans (ho1088.trans rfl)) z)) lv⟩
  · trivial
theorem cw_q217 (htb : ak_tbOK ak_CW tb) (hT : ak_Ty ak_CW s h) (hI : cw_I cw_XB s h) (hd : 7 ≤ d) (hx : x = 2 ∨ x = 14) (qx : s[x]? = some 59) (hb : 30 ≤ b ∧ b ≤ 40000) (hi : 0 ≤ iv.toInt ∧ iv.toInt ≤ 2499) (fs7 : cw_F h 43 9 7 (.ref (52 + x))) (fd : cw_F h 43 9 4 (.int dp)) (hdp : dp.toInt = (D : Int)) (hD20 : D ≤ 20) (lv : cw_Lv D b (cw_o h)) (hD : 1 ≤ D) : cw_K ak_CW (fun s' r h' => r = none ∧ cw_WQ (D) b s h s' h') tb d (cw_nW 98 none) [.ref (52 + 43), .int 217, .int iv] s h := by
  obtain ⟨d, rfl⟩ : ∃ e, d = e + 1 := ⟨d - 1, by omega⟩
  have hB := hI.1
  refine cw_m (con := cw_nW 98 none) aj_m98_at (Nat.le_of_ble_eq_true rfl) ?_
  show cw_W _ _ _ _ _ _ _ _ _ _ 0 [(0, .ref (52 + 43)), (1, .int 217), (2, .int iv)] []
  refine cw_n aj_d98 rfl rfl ?_
  obtain ⟨i, ski, oki⟩ := lv (D - 1) (by omega)
  have qi := cw_sk_q hT hB (by omega) ski
  refine cw_tsw (tgt := 247) (a := (217 : Int)) aj_d98 rfl rfl ⟨by decide, by decide⟩ rfl rfl ?_
  refine cw_n aj_d98 rfl rfl ?_
  obtain ⟨v1097, f1097, g1097⟩ := cw_tyF (i := 43) (t := 61) (c := 9) (k := 2) (y := (.inr (some ([53], false)))) hT (cw_s0 hB rfl) rfl rfl rfl
  obtain rfl := cw_gu (i := 44) hB g1097 (by decide) (by decide) (by decide)
  refine cw_g (i := 43) (v := .ref (52 + 44)) htb.1 aj_d98 rfl rfl (by decide) f1097 ?_
  refine cw_n aj_d98 rfl rfl ?_
  refine cw_n aj_d98 rfl rfl ?_
  refine cw_g (i := 43) (v := .int dp) htb.1 aj_d98 rfl rfl (by decide) fd ?_
  refine cw_n aj_d98 rfl rfl ?_
  refine cw_sub aj_d98 rfl (a := dp.toInt) (b := (1 : Int)) rfl rfl (by omega) (by omega) (fun x1098 ex1098 => ?_)
  refine cw_k0 (i := 43) (t := 61) (con' := cw_nW 100 (some (.inr (some ([58], false))))) aj_d98 htb hT rfl rfl [_] rfl rfl (cw_s0 hB rfl) rfl (Nat.le_of_ble_eq_true rfl) ⟨by decide, by decide⟩ (cw_rowsE htb hT hI (by omega) (x := x1098) ⟨by omega, by omega⟩ qi (by rw [show x1098.toInt.toNat = D - 1 from by omega]; exact ski)) ?_
  rintro rhT1099 hhT1099 hT1099 ⟨ehhT1099, erhT1099⟩ -
  subst erhT1099
  obtain rfl := ehhT1099.symm
  show cw_W _ _ _ _ _ _ _ _ _ _ 261 [(0, .ref (52 + 43)), (1, .int 217), (2, .int iv)] [.ref (52 + i), .ref (52 + 44)]
  refine cw_k0 (i := 44) (t := 53) (con' := cw_nW 126 none) aj_d98 htb hT1099 rfl rfl [_] rfl rfl (cw_s0 hB rfl) rfl (Nat.le_of_ble_eq_true rfl) ⟨by decide, by decide⟩ (cw_project (b := b) htb hT1099 hI (by omega) qi hb.1) ?_
  rintro rp hp hTp ⟨rfl, Ip, kp, sp⟩ hRp
  show cw_W _ _ _ _ _ _ _ _ _ _ 264 [(0, .ref (52 + 43)), (1, .int 217), (2, .int iv)] []
  refine cw_n aj_d98 rfl rfl ?_
  refine cw_Wr aj_d98 rfl rfl hTp ?_ ?_
  · exact ⟨rfl, cw_s00, Ip, cw_k6 kp, cw_sy_mono sp (by omega), ⟨dp, hdp, cw_kp_F kp (by decide) (by decide) fd⟩, cw_Lv_kp (fun l r z => cw_sk_kp kp id z) (cw_sy_mono sp (by omega)) lv⟩
  · trivial
theorem cw_q223 (htb : ak_tbOK ak_CW tb) (hT : ak_Ty ak_CW s h) (hI : cw_I cw_XB s h) (hd : 7 ≤ d) (hx : x = 2 ∨ x = 14) (qx : s[x]? = some 59) (hb : 30 ≤ b ∧ b ≤ 40000) (hi : 0 ≤ iv.toInt ∧ iv.toInt ≤ 2499) (fs7 : cw_F h 43 9 7 (.ref (52 + x))) (fd : cw_F h 43 9 4 (.int dp)) (hdp : dp.toInt = (D : Int)) (hD20 : D ≤ 20) (lv : cw_Lv D b (cw_o h)) (hD : 1 ≤ D) : cw_K ak_CW (fun s' r h' => r = none ∧ cw_WQ (D) b s h s' h') tb d (cw_nW 98 none) [.ref (52 + 43), .int 223, .int iv] s h := by
  obtain ⟨d, rfl⟩ : ∃ e, d = e + 1 := ⟨d - 1, by omega⟩
  have hB := hI.1
  refine cw_m (con := cw_nW 98 none) aj_m98_at (Nat.le_of_ble_eq_true rfl) ?_
  show cw_W _ _ _ _ _ _ _ _ _ _ 0 [(0, .ref (52 + 43)), (1, .int 223), (2, .int iv)] []
  refine cw_n aj_d98 rfl rfl ?_
  obtain ⟨i, ski, oki⟩ := lv (D - 1) (by omega)
  have qi := cw_sk_q hT hB (by omega) ski
  refine cw_tsw (tgt := 303) (a := (223 : Int)) aj_d98 rfl rfl ⟨by decide, by decide⟩ rfl rfl ?_
  refine cw_n aj_d98 rfl rfl ?_
  obtain ⟨v1100, f1100, g1100⟩ := cw_tyF (i := 43) (t := 61) (c := 9) (k := 2) (y := (.inr (some ([53], false)))) hT (cw_s0 hB rfl) rfl rfl rfl
  obtain rfl := cw_gu (i := 44) hB g1100 (by decide) (by decide) (by decide)
  refine cw_g (i := 43) (v := .ref (52 + 44)) htb.1 aj_d98 rfl rfl (by decide) f1100 ?_
  refine cw_n aj_d98 rfl rfl ?_
  refine cw_g (i := 43) (v := .ref (52 + x)) htb.1 aj_d98 rfl rfl (by decide) fs7 ?_
  refine cw_n aj_d98 rfl rfl ?_
  refine cw_n aj_d98 rfl rfl ?_
  refine cw_g (i := 43) (v := .int dp) htb.1 aj_d98 rfl rfl (by decide) fd ?_
  refine cw_n aj_d98 rfl rfl ?_
  refine cw_sub aj_d98 rfl (a := dp.toInt) (b := (1 : Int)) rfl rfl (by omega) (by omega) (fun x1101 ex1101 => ?_)
  refine cw_k0 (i := 43) (t := 61) (con' := cw_nW 100 (some (.inr (some ([58], false))))) aj_d98 htb hT rfl rfl [_] rfl rfl (cw_s0 hB rfl) rfl (Nat.le_of_ble_eq_true rfl) ⟨by decide, by decide⟩ (cw_rowsE htb hT hI (by omega) (x := x1101) ⟨by omega, by omega⟩ qi (by rw [show x1101.toInt.toNat = D - 1 from by omega]; exact ski)) ?_
  rintro rhT1102 hhT1102 hT1102 ⟨ehhT1102, erhT1102⟩ -
  subst erhT1102
  obtain rfl := ehhT1102.symm
  show cw_W _ _ _ _ _ _ _ _ _ _ 321 [(0, .ref (52 + 43)), (1, .int 223), (2, .int iv)] [.ref (52 + i), .ref (52 + x), .ref (52 + 44)]
  refine cw_n aj_d98 rfl rfl ?_
  obtain ⟨v1103, f1103, g1103⟩ := cw_tyF (i := 43) (t := 61) (c := 9) (k := 5) (y := (.inr (some ([58], false)))) hT1102 (cw_s0 hB rfl) rfl rfl rfl
  obtain ⟨i1103, rfl, q1103⟩ := cw_gr g1103 (by decide)
  refine cw_g (i := 43) (v := .ref (52 + i1103)) htb.1 aj_d98 rfl rfl (by decide) f1103 ?_
  refine cw_k0 (i := 44) (t := 53) (con' := cw_nW 127 (some (.inl (0, 1)))) aj_d98 htb hT1102 rfl rfl [_, _, _] rfl rfl (cw_s0 hB rfl) rfl (Nat.le_of_ble_eq_true rfl) ⟨by decide, by decide⟩ (cw_group (b := b) htb hT1102 hI (by omega) qx qi q1103 ⟨by omega, by omega⟩) ?_
  rintro rp hp hTp ⟨Ip, kp, sp, okp⟩ hRp
  obtain ⟨xr, rfl, bxr⟩ := cw_rI hRp
  have fd2 : cw_F hp 43 9 4 (.int dp) := cw_kp_F kp (by decide) (by decide) fd
  have fs2 : cw_F hp 43 9 5 (.ref (52 + i1103)) := cw_kp_F kp (by decide) (by decide) f1103
  have ski2 : cw_sk (cw_o hp) (D - 1) (52 + i) := cw_sk_kp kp id ski
  show cw_W _ _ _ _ _ _ _ _ _ _ 328 [(0, .ref (52 + 43)), (1, .int 223), (2, .int iv)] [.int xr]
  refine cw_z (tgt := 336) aj_d98 rfl rfl (fun q1104 => ?_) (fun q1104 => ?_)
  · have q1104 : xr.toInt ≠ (0 : Int) := aw_t_ne (a := xr.toInt) (b := (0 : Int)) rfl rfl q1104
    refine cw_n aj_d98 rfl rfl ?_
    refine cw_k0 (i := 43) (t := 61) (con' := cw_nW 120 none) aj_d98 htb hTp rfl rfl [] rfl rfl (cw_s0 hB rfl) rfl (Nat.le_of_ble_eq_true rfl) ⟨by decide, by decide⟩ (cw_useS (b := b) htb hTp Ip (by omega) (dp := dp) ⟨by omega, by omega⟩ qi q1103 fd2 fs2 (by rw [show (dp.toInt - 1).toNat = D - 1 from by omega]; exact ski2)) ?_
    rintro ru hu hTu ⟨rfl, Iu, ku, sk1, sk2, su, -⟩ hRu
    rw [show (dp.toInt - 1).toNat = D - 1 from by omega] at sk1 sk2
    show cw_W _ _ _ _ _ _ _ _ _ _ 340 [(0, .ref (52 + 43)), (1, .int 223), (2, .int iv)] []
    refine cw_n aj_d98 rfl rfl ?_
    refine cw_Wr aj_d98 rfl rfl hTu ?_ ?_
    · exact ⟨rfl, cw_s00, Iu, cw_kp_tr (cw_k64 kp) (cw_ks5 ku), cw_sy_mono (cw_sy_tr sp su) (by omega), ⟨dp, hdp, (cw_kp_F ku (by decide) (by decide) fd2)⟩, by
          obtain ⟨E, rfl⟩ : ∃ E, D = E + 1 := ⟨D - 1, by omega⟩
          exact cw_Lv_u (b := b) (fun l r hl z => sk2 l r hl (cw_sk_kp kp id z)) (cw_sy_mono (cw_sy_tr sp su) (by omega)) lv ⟨_, sk1, cw_ok_mono (by omega) (su _ okp)⟩⟩
    · trivial
  · have q1104 : xr.toInt = (0 : Int) := aw_t_ne (a := xr.toInt) (b := (0 : Int)) rfl rfl q1104
    refine cw_n aj_d98 rfl rfl ?_
    refine cw_n aj_d98 rfl rfl ?_
    refine cw_k0 (i := 43) (t := 61) (con' := cw_nW 107 none) aj_d98 htb hTp rfl rfl [_] rfl rfl (cw_s0 hB rfl) rfl (Nat.le_of_ble_eq_true rfl) ⟨by decide, by decide⟩ (cw_fullT htb hTp Ip (by omega) hi) ?_
    rintro rf hf hTf ⟨rfl, If, kf⟩ hRf
    have fd3 : cw_F hf 43 9 4 (.int dp) := cw_kp_F kf (by decide) (by decide) fd2
    have fs3 : cw_F hf 43 9 5 (.ref (52 + i1103)) := cw_kp_F kf (by decide) (by decide) fs2
    have ski3 : cw_sk (cw_o hf) (D - 1) (52 + i) := cw_sk_kp kf id ski2
    show cw_W _ _ _ _ _ _ _ _ _ _ 336 [(0, .ref (52 + 43)), (1, .int 223), (2, .int iv)] []
    refine cw_n aj_d98 rfl rfl ?_
    refine cw_k0 (i := 43) (t := 61) (con' := cw_nW 120 none) aj_d98 htb hTf rfl rfl [] rfl rfl (cw_s0 hB rfl) rfl (Nat.le_of_ble_eq_true rfl) ⟨by decide, by decide⟩ (cw_useS (b := b) htb hTf If (by omega) (dp := dp) ⟨by omega, by omega⟩ qi q1103 fd3 fs3 (by rw [show (dp.toInt - 1).toNat = D - 1 from by omega]; exact ski3)) ?_
    rintro ru hu hTu ⟨rfl, Iu, ku, sk1, sk2, su, -⟩ hRu
    rw [show (dp.toInt - 1).toNat = D - 1 from by omega] at sk1 sk2
    show cw_W _ _ _ _ _ _ _ _ _ _ 340 [(0, .ref (52 + 43)), (1, .int 223), (2, .int iv)] []
    refine cw_n aj_d98 rfl rfl ?_
    refine cw_Wr aj_d98 rfl rfl hTu ?_ ?_
    · exact ⟨rfl, cw_s00, Iu, cw_kp_tr (cw_kp_tr (cw_k64 kp) (cw_kf kf)) (cw_ks5 ku), cw_sy_mono (cw_sy_tr (cw_sy_tr sp (cw_sy_n kf (fun _ _ z => absurd z.1 (by decide)))) su) (by omega), ⟨dp, hdp, (cw_kp_F ku (by decide) (by decide) fd3)⟩, by
          obtain ⟨E, rfl⟩ : ∃ E, D = E + 1 := ⟨D - 1, by omega⟩
          exact cw_Lv_u (b := b) (fun l r hl z => sk2 l r hl (cw_sk_kp kf id (cw_sk_kp kp id z))) (cw_sy_mono (cw_sy_tr (cw_sy_tr sp (cw_sy_n kf (fun _ _ z => absurd z.1 (by decide)))) su) (by omega)) lv ⟨_, sk1, cw_ok_mono (by omega) (su _ (cw_sy_n kf (fun _ _ z => absurd z.1 (by decide)) _ okp))⟩⟩
    · trivial
theorem cw_q210 (htb : ak_tbOK ak_CW tb) (hT : ak_Ty ak_CW s h) (hI : cw_I cw_XB s h) (hd : 7 ≤ d) (hx : x = 2 ∨ x = 14) (qx : s[x]? = some 59) (hb : 30 ≤ b ∧ b ≤ 40000) (hi : 0 ≤ iv.toInt ∧ iv.toInt ≤ 2499) (fs7 : cw_F h 43 9 7 (.ref (52 + x))) (fd : cw_F h 43 9 4 (.int dp)) (hdp : dp.toInt = (D : Int)) (hD20 : D ≤ 20) (lv : cw_Lv D b (cw_o h)) (hD : D ≤ 19) (hZ : cw_Z False x nt b (cw_o h)) (a34 : cw_A h 34 0 2500 (.inl g)) (hg : 0 ≤ (g iv.toInt.toNat).toInt ∧ (g iv.toInt.toNat).toInt < nt.toInt) : cw_K ak_CW (fun s' r h' => r = none ∧ cw_WQ (D + 1) b s h s' h') tb d (cw_nW 98 none) [.ref (52 + 43), .int 210, .int iv] s h := by
  obtain ⟨d, rfl⟩ : ∃ e, d = e + 1 := ⟨d - 1, by omega⟩
  have hB := hI.1
  refine cw_m (con := cw_nW 98 none) aj_m98_at (Nat.le_of_ble_eq_true rfl) ?_
  show cw_W _ _ _ _ _ _ _ _ _ _ 0 [(0, .ref (52 + 43)), (1, .int 210), (2, .int iv)] []
  refine cw_n aj_d98 rfl rfl ?_
  refine cw_tsw (tgt := 72) (a := (210 : Int)) aj_d98 rfl rfl ⟨by decide, by decide⟩ rfl rfl ?_
  refine cw_n aj_d98 rfl rfl ?_
  refine cw_n aj_d98 rfl rfl ?_
  refine cw_g (i := 43) (v := .ref (52 + x)) htb.1 aj_d98 rfl rfl (by decide) fs7 ?_
  refine cw_n aj_d98 rfl rfl ?_
  obtain ⟨v1105, f1105, g1105⟩ := cw_tyF (i := 43) (t := 61) (c := 9) (k := 1) (y := (.inr (some ([56], false)))) hT (cw_s0 hB rfl) rfl rfl rfl
  obtain rfl := cw_gu (i := 30) hB g1105 (by decide) (by decide) (by decide)
  refine cw_g (i := 43) (v := .ref (52 + 30)) htb.1 aj_d98 rfl rfl (by decide) f1105 ?_
  refine cw_n aj_d98 rfl rfl ?_
  refine cw_k0 (i := 30) (t := 56) (con' := cw_nW 40 (some (.inl ((-2147483648), 2147483647)))) aj_d98 htb hT rfl rfl [_] rfl rfl (cw_s0 hB rfl) rfl (Nat.le_of_ble_eq_true rfl) ⟨by decide, by decide⟩ (cw_argX htb hT hI (by omega) hi a34) ?_
  rintro ra ha hTa ⟨ea, rfl⟩ -
  obtain rfl := ea.symm
  show cw_W _ _ _ _ _ _ _ _ _ _ 85 [(0, .ref (52 + 43)), (1, .int 210), (2, .int iv)] [.int (g iv.toInt.toNat), .ref (52 + x), .ref (52 + 43)]
  refine cw_k0 (i := x) (t := 59) (con' := cw_nW 63 (some (.inr (some ([58], true))))) aj_d98 htb hTa rfl rfl [_] rfl rfl qx rfl (Nat.le_of_ble_eq_true rfl) ⟨by decide, by decide⟩ (cw_rowsOf (x := (g iv.toInt.toNat)) htb hTa hB (by omega) hx hZ) ?_
  rintro rz hz hTz ⟨ez2, ez3⟩ -
  obtain rfl := ez2.symm
  rcases ez3 with ⟨ez3, -⟩ | ⟨-, j, rfl, qj, okj⟩
  · exact absurd hg (ez3.resolve_right id)
  show cw_W _ _ _ _ _ _ _ _ _ _ 88 [(0, .ref (52 + 43)), (1, .int 210), (2, .int iv)] [.ref (52 + j), .ref (52 + 43)]
  refine cw_k (i := 43) (con' := cw_nW 99 none) aj_d98 htb hTz rfl rfl [_] rfl rfl (cw_cls hTz (cw_s0 hB rfl) rfl) (Nat.le_of_ble_eq_true rfl) ⟨by decide, by decide⟩ (cw_load (b := b) htb hTz hI (by omega) qj ⟨by omega, by omega⟩ okj (dp := dp) ⟨by omega, by omega⟩ fd) ?_
  rintro u ru hu hTu ⟨rfl, Iu, ku, eu, su, sku, rl, skl, okl, y, ey, fy⟩ hRu -
  obtain ⟨s1, es1⟩ : ∃ z, z = s ++ u := ⟨_, rfl⟩
  rw [← es1] at hTu Iu ⊢
  rw [show dp.toInt.toNat = D from by omega] at skl
  show cw_W _ _ _ _ _ _ _ _ _ _ 91 [(0, .ref (52 + 43)), (1, .int 210), (2, .int iv)] []
  refine cw_n aj_d98 rfl rfl ?_
  refine cw_Wr aj_d98 rfl rfl hTu ?_ ?_
  · exact ⟨rfl, ⟨u, es1⟩, Iu, cw_kl ku, cw_sy_mono su (by omega), ⟨y, by omega, fy⟩, cw_Lv_s (cw_Lv_kp sku (cw_sy_mono su (by omega)) lv) ⟨rl, skl, cw_ok_mono (by omega) okl⟩⟩
  · trivial
theorem cw_q224 (htb : ak_tbOK ak_CW tb) (hT : ak_Ty ak_CW s h) (hI : cw_I cw_XB s h) (hd : 7 ≤ d) (hx : x = 2 ∨ x = 14) (qx : s[x]? = some 59) (hb : 30 ≤ b ∧ b ≤ 40000) (hi : 0 ≤ iv.toInt ∧ iv.toInt ≤ 2499) (fs7 : cw_F h 43 9 7 (.ref (52 + x))) (fd : cw_F h 43 9 4 (.int dp)) (hdp : dp.toInt = (D : Int)) (hD20 : D ≤ 20) (lv : cw_Lv D b (cw_o h)) {v : Int32} (hv : 224 ≤ v.toInt) : cw_K ak_CW (fun s' r h' => r = none ∧ cw_WQ (D) b s h s' h') tb d (cw_nW 98 none) [.ref (52 + 43), .int v, .int iv] s h := by
  obtain ⟨d, rfl⟩ : ∃ e, d = e + 1 := ⟨d - 1, by omega⟩
  have hB := hI.1
  refine cw_m (con := cw_nW 98 none) aj_m98_at (Nat.le_of_ble_eq_true rfl) ?_
  show cw_W _ _ _ _ _ _ _ _ _ _ 0 [(0, .ref (52 + 43)), (1, .int v), (2, .int iv)] []
  refine cw_n aj_d98 rfl rfl ?_
  refine cw_tsd (tgt := 343) (a := v.toInt) aj_d98 rfl rfl (by omega) rfl ?_
  refine cw_Wr aj_d98 rfl rfl hT ?_ ?_
  · exact ⟨rfl, cw_s00, cw_I_eq rfl hI, cw_kp_eq rfl, (fun a z => cw_ok_mono (by omega) (cw_ok_eq rfl z)), ⟨dp, hdp, fd⟩, cw_Lv_kp (fun l r z => cw_sk_kp (cw_kp_eq (EF := fun _ _ _ => False) (EA := fun _ => False) rfl) id z) (fun a z => cw_ok_mono (by omega) (cw_ok_eq rfl z)) lv⟩
  · trivial
end CW78
