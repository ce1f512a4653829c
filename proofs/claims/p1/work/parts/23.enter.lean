/-! THE LAW'S RUNS, FOR ANY SCRIPT -/
def aj_rho (xs : Nat → Int32) : Nat → Int32 := fun j => if j < 100 then xs j else xs (j - 100) &&& 31
theorem aj_rho_ok (xs : Nat → Int32) : (∀ j, j < 100 → aj_rho xs j = xs j) ∧ ∀ j, j < 100 → aj_rho xs (j + 100) = aj_rho xs j &&& 31 := ⟨fun j h => if_pos h, fun j h => by unfold aj_rho; rw [if_neg (by omega), if_pos h, Nat.add_sub_cancel]⟩
theorem aj_tbS_len : aj_tbS.length = 51 := by decide +kernel
theorem aj_tb_len (L : Nat) (xs : Nat → Int32) : (aj_tb L xs).length = 52 := by
  unfold aj_tb
  rw [List.length_append, aj_tbS_len]
  rfl
theorem aj_sT_tb (L : Nat) (xs : Nat → Int32) : aj_sT (aj_tbU L) (aj_tb L xs) := by
  refine ⟨by unfold aj_tb aj_tbU; rw [List.length_append, List.length_append]; rfl, fun r k x hr hk => ?_⟩
  unfold aj_tbU at hr
  unfold aj_tb
  by_cases h : r < aj_tbS.length
  · rw [List.getElem?_append_left h] at hr ⊢
    exact hr
  · rw [List.getElem?_append_right (by omega)] at hr
    cases hz : r - aj_tbS.length with
    | zero =>
      rw [hz] at hr
      cases hr
      exact absurd rfl hk
    | succ n =>
      rw [hz] at hr
      cases hr
theorem aj_sid (L : Nat) (xs : Nat → Int32) : 51 < (aj_tb L xs).length ∧ (aj_tb L xs)[51]? = some (0, L, .inl xs) := by
  refine ⟨by rw [aj_tb_len]; decide, ?_⟩
  unfold aj_tb
  rw [List.getElem?_append_right (by rw [aj_tbS_len]; decide), aj_tbS_len]
  rfl
/-- the law's frame at this place comes to its end with 1 -/
def aj_LTF (L : Nat) (xs : Nat → Int32) (pc : Nat) (lv : aj_V) (st : List Value) (h : aj_H) (kc ks : Nat) : Prop := ∃ hF, aj_TF aj_rc aj_cls (aj_tb L xs) aj_lawM false true (aj_runs aj_rc aj_cls (aj_tb L xs) aj_mt 20) pc lv st h kc ks 98 500000 (some (.int 1)) hF
theorem aj_ctL : aj_ctOK aj_cL aj_lawM.2.1 := by
  unfold aj_lawM
  dsimp only
  exact aj_dkL
theorem aj_calls {kn : List (Nat × Int32)} {xs : Nat → Int32} {L : Nat} (hL : L ≤ 6) (hkn : ∀ q ∈ kn, xs q.1 = q.2) (mi : Nat) (as : List Value) (h : aj_H) (tp : List Int) (r : Option Value) (h' : aj_H) (c1 s1 : Nat) (t1 : List Int) (os : List aj_OS) (hx : aj_callU kn L mi as h tp = some (r, h', c1, s1, t1, os)) (ho : ∀ o ∈ os, aj_osOK (aj_rho xs) o) : aj_runs aj_rc aj_cls (aj_tb L xs) aj_mt 20 mi (as.map (aj_sv (aj_rho xs))) (aj_sH (aj_rho xs) h) c1 s1 (r.map (aj_sv (aj_rho xs))) (aj_sH (aj_rho xs) h') :=
  aj_runsS_ok hkn (aj_sT_tb L xs) (aj_sid L xs) (by omega) (aj_rho_ok xs) aj_cuA_ok 20 mi as h tp r h' c1 s1 t1 os hx ho
theorem aj_frmS_TF {kn : List (Nat × Int32)} {sid L : Nat} {xs ρ : Nat → Int32} {tb tb' : aj_T} (hkn : ∀ q ∈ kn, xs q.1 = q.2) (hT : aj_sT tb' tb) (hsid : sid < tb.length ∧ tb[sid]? = some (0, L, .inl xs)) (hL : L ≤ 100) (hρ : (∀ j, j < 100 → ρ j = xs j) ∧ ∀ j, j < 100 → ρ (j + 100) = ρ j &&& 31) {rc : Nat} {cls : List aj_C} {m : aj_M} {ct : List (Nat × Instr × Nat)} (hct : aj_ctOK ct m.2.1) {isI deep : Bool} {call : Nat → List Value → aj_H → List Int → Option aj_Y} {callP : Nat → List Value → aj_H → Nat → Nat → Option Value → aj_H → Prop}
    (hcall : ∀ mi as h tp r h' c1 s1 t1 os, call mi as h tp = some (r, h', c1, s1, t1, os) → (∀ o ∈ os, aj_osOK ρ o) → callP mi (as.map (aj_sv ρ)) (aj_sH ρ h) c1 s1 (r.map (aj_sv ρ)) (aj_sH ρ h')) {n pc : Nat} {lv : aj_V} {st : List Value} {h : aj_H} {kc ks : Nat} {tp : List Int} {r : Option Value} {hF : aj_H} {c1 s1 : Nat} {t1 : List Int} {os : List aj_OS} (hx : aj_frmS kn sid L rc cls tb' m ct isI deep call n pc lv st h kc ks tp = some (r, hF, c1, s1, t1, os)) (ho : ∀ o ∈ os, aj_osOK ρ o) {ms : Nat} (hs : s1 ≤ ms) : aj_TF rc cls tb m isI deep callP pc (aj_sV ρ lv) (st.map (aj_sv ρ)) (aj_sH ρ h) kc ks c1 ms (r.map (aj_sv ρ)) (aj_sH ρ hF) :=
  ⟨n, (aj_frmS_ok hkn hT hsid hL hρ hct hcall _ _ _ _ _ _ _ _ _ _ _ _ _ _ hx ho).2.2 ms hs⟩
theorem aj_path {kn : List (Nat × Int32)} {tp : List Int} {os : List aj_OS} {xs : Nat → Int32} (h : aj_run2 kn tp = some os) (hkn : ∀ q ∈ kn, xs q.1 = q.2) (ho : ∀ o ∈ os, aj_osOK (aj_rho xs) o) : aj_LTF 6 xs 18 aj_lv0 [] (aj_sH (aj_rho xs) aj_h0) 98 aj_k0 := by
  unfold aj_run2 at h
  split at h
  · rename_i r hF c1 s1 t1 os' hx
    split at h
    · rename_i hq
      obtain ⟨rfl, rfl, hs⟩ := hq
      cases h
      exact ⟨_, aj_frmS_TF (kn := kn) (xs := xs) (ρ := aj_rho xs) hkn (aj_sT_tb 6 xs) (aj_sid 6 xs) (by decide) (aj_rho_ok xs) (m := aj_lawM) aj_ctL (callP := aj_runs aj_rc aj_cls (aj_tb 6 xs) aj_mt 20) (aj_calls (by decide) hkn) hx ho hs⟩
    · cases h
  · cases h
set_option maxRecDepth 1000000 in
theorem aj_k0_le : aj_k0 ≤ 500000 := by
  have h : decide (aj_k0 ≤ 500000) = true := by decide +kernel
  exact of_decide_eq_true h
theorem aj_enter {xs : Nat → Int32} (h : aj_LTF 6 xs 18 aj_lv0 [] (aj_sH (aj_rho xs) aj_h0) 98 aj_k0) : aj_LTF 6 xs 0 [(0, .ref 51)] [] [] 0 0 := by
  obtain ⟨hF, hn⟩ := h
  have hs := aj_s0_e
  unfold aj_s0 at hs
  obtain ⟨-, -, g⟩ := aj_frmT_ok (kn := []) (xs := xs) (ρ := aj_rho xs) (fun q h => absurd h List.not_mem_nil) (aj_sT_tb 6 xs) (aj_sid 6 xs) (by decide) (aj_rho_ok xs) (m := aj_lawM) aj_ctL (callP := aj_runs aj_rc aj_cls (aj_tb 6 xs) aj_mt 20) (aj_calls (by decide) (fun q h => absurd h List.not_mem_nil)) (mc := 98) (ms := 500000) (r := some (.int 1)) (hF := hF) _ _ _ _ _ _ _ _ _ _ _ _ hs (Nat.le_refl _) aj_k0_le hn
  exact ⟨hF, g⟩
/-- a script of less than six ints -/
def aj_ckS (L : Nat) : Bool := match aj_frmS [] 51 L aj_rc aj_cls (aj_tbU L) aj_lawM aj_cL false true (aj_callU [] L) 100000 0 [(0, .ref 51)] [] [] 0 0 [] with
  | some (r, _, c1, s1, _, []) => decide (r = some (.int 1)) && decide (c1 = 98) && decide (s1 ≤ 500000)
  | _ => false
set_option maxRecDepth 1000000 in
theorem aj_short0 : (List.range 6).all aj_ckS = true := by decide +kernel
theorem aj_short {L : Nat} (hL : L < 6) (xs : Nat → Int32) : aj_LTF L xs 0 [(0, .ref 51)] [] [] 0 0 := by
  have h := List.all_eq_true.mp aj_short0 L (List.mem_range.mpr hL)
  unfold aj_ckS at h
  split at h
  · rename_i r hF c1 s1 t1 hx
    simp only [Bool.and_eq_true, decide_eq_true_eq] at h
    obtain ⟨⟨rfl, rfl⟩, hs⟩ := h
    exact ⟨_, aj_frmS_TF (kn := []) (xs := xs) (ρ := aj_rho xs) (fun q h => absurd h List.not_mem_nil) (aj_sT_tb L xs) (aj_sid L xs) (by omega) (aj_rho_ok xs) (m := aj_lawM) aj_ctL (callP := aj_runs aj_rc aj_cls (aj_tb L xs) aj_mt 20) (aj_calls (by omega) (fun q h => absurd h List.not_mem_nil)) hx (fun o ho => absurd ho List.not_mem_nil) hs⟩
  · cases h
