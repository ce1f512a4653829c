/-! THE LAW'S TABLES ARE OF THE TYPES TOLD -/
def cw_tb (L : Nat) (xs : Nat → Int32) : aj_T := aj_tbS ++ [(0, L, .inl xs)]
def cw_xb (e : Nat × vp_A) (ty : ak_TI) : Bool := match ty with
  | .inl _ => false
  | .inr (kd, n1, n2, a) => decide (e.1 = kd) && (decide (n1 ≤ e.2.1) && (decide (e.2.1 ≤ n2) && (match e.2.2 with
    | .inl f => decide (kd ≠ 1) && (decide (kd < 5) && (match a with
      | .inl q => (List.range e.2.1).all (fun j => decide (q.1 ≤ (f j).toInt) && decide ((f j).toInt ≤ q.2))
      | _ => false))
    | .inr (.inl _) => decide (kd = 1) && (match a with
      | .inr none => true
      | _ => false)
    | _ => false)))
theorem cw_xb_ok {e : Nat × vp_A} {ty : ak_TI} (h0 : cw_xb e ty = true) : ∃ (n1 n2 : Nat) (a : ak_A), ty = .inr (e.1, n1, n2, a) ∧ n1 ≤ e.2.1 ∧ e.2.1 ≤ n2 ∧ ak_xOK [] e.1 e.2.1 e.2.2 a := by
  unfold cw_xb at h0
  split at h0
  · cases h0
  · rename_i kd n1 n2 a
    rw [Bool.and_eq_true, Bool.and_eq_true, Bool.and_eq_true] at h0
    obtain ⟨e1, e2, e3, h0⟩ := h0
    obtain rfl := of_decide_eq_true e1
    refine ⟨n1, n2, a, rfl, of_decide_eq_true e2, of_decide_eq_true e3, ?_⟩
    unfold ak_xOK
    split at h0
    · rename_i f ef
      rw [ef]
      rw [Bool.and_eq_true, Bool.and_eq_true] at h0
      obtain ⟨c1, c2, h0⟩ := h0
      refine ⟨of_decide_eq_true c1, of_decide_eq_true c2, fun j hj => ?_⟩
      split at h0
      · rename_i q
        have h3 := List.all_eq_true.mp h0 j (List.mem_range.mpr hj)
        rw [Bool.and_eq_true] at h3
        exact ⟨of_decide_eq_true h3.1, of_decide_eq_true h3.2⟩
      · cases h0
    · rename_i f ef
      rw [ef]
      rw [Bool.and_eq_true] at h0
      obtain ⟨c1, h0⟩ := h0
      split at h0
      · exact ⟨of_decide_eq_true c1, rfl⟩
      · cases h0
    · cases h0
theorem cw_tbS51 : aj_tbS.length = 51 := by decide +kernel
theorem cw_tb_all : (aj_tbS.zip ak_ti).all (fun q => cw_xb q.1 q.2) = true := by decide +kernel
theorem cw_ti51 : ak_C0.1[51]? = some (.inr (0, 0, 3072, .inl (-2147483648, 2147483647))) := rfl
theorem cw_tbOK {L : Nat} {xs : Nat → Int32} (hL : L ≤ 3072) : ak_tbOK ak_C0 (cw_tb L xs) := by
  unfold cw_tb
  refine ⟨by rw [List.length_append, cw_tbS51]; rfl, fun r e hr => ?_⟩
  by_cases h : r < aj_tbS.length
  · rw [List.getElem?_append_left h] at hr
    have ht : ak_ti[r]? = some (ak_ti[r]'(by rw [cw_til]; rw [cw_tbS51] at h; omega)) := List.getElem?_eq_getElem _
    have hz := List.getElem?_zip_eq_some (z := (e, ak_ti[r]'(by rw [cw_til]; rw [cw_tbS51] at h; omega))).mpr ⟨hr, ht⟩
    obtain ⟨n1, n2, a, z1, z2, z3, z4⟩ := cw_xb_ok (List.all_eq_true.mp cw_tb_all _ (List.mem_of_getElem? hz))
    exact ⟨n1, n2, a, by rw [← z1]; exact ht, z2, z3, z4⟩
  · rw [List.getElem?_append_right (by omega)] at hr
    have e0 : r = 51 := by
      have := (List.getElem?_eq_some_iff.mp hr).1
      rw [cw_tbS51] at this h
      simp at this
      omega
    subst e0
    rw [cw_tbS51] at hr
    cases hr
    exact ⟨0, 3072, _, cw_ti51, Nat.zero_le _, hL, (by decide : (0 : Nat) ≠ 1), (by decide : (0 : Nat) < 5), fun j _ => cw_full _⟩
theorem cw_tbG_all : (List.range 50).all (fun k => match aj_tbS[k + 1]? with | some (0, n, .inl f) => decide (n = (cw_sl (k + 1)).length) && (List.range n).all (fun j => decide ((f j).toInt = (((cw_sl (k + 1)).getD j 0 : Nat) : Int))) | _ => false) = true := by decide +kernel
theorem cw_tbGok {L : Nat} {xs : Nat → Int32} : cw_tbG (cw_tb L xs) := by
  intro t h1 h50
  have h0 := List.all_eq_true.mp cw_tbG_all (t - 1) (List.mem_range.mpr (by omega))
  rw [show t - 1 + 1 = t from by omega] at h0
  split at h0
  · rename_i n f e
    rw [Bool.and_eq_true] at h0
    obtain ⟨rfl, h2⟩ : n = (cw_sl t).length ∧ _ := ⟨of_decide_eq_true h0.1, h0.2⟩
    refine ⟨f, ?_, fun j hj => of_decide_eq_true (List.all_eq_true.mp h2 j (List.mem_range.mpr hj))⟩
    unfold cw_tb
    rw [List.getElem?_append_left (by rw [cw_tbS51]; omega)]
    exact e
  · cases h0
