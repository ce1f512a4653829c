/-! HOW LARGE THE CLASS'S HEAP CAN GROW -/
section CW91
variable {s : List Nat} {h : aj_H} {a n : Nat} {x : cw_X}
def cw_isL (t : Nat) : Bool := match ak_ti[t]? with
  | some (.inr (_, _, n2, _)) => Nat.ble n2 65536
  | _ => true
theorem cw_allL : (List.range 134).all cw_isL = true := by decide +kernel
theorem cw_len_le {t kd n1 n2 : Nat} {y : ak_A} (ht : ak_ti[t]? = some (.inr (kd, n1, n2, y))) : n2 ≤ 65536 := by
  have h1 := List.all_eq_true.mp cw_allL t (List.mem_range.mpr (cw_tlt ht))
  unfold cw_isL at h1
  rw [ht] at h1
  exact Nat.le_of_ble_eq_true h1
theorem cw_arr_le (hT : ak_Ty ak_C0 s h) (h0 : (cw_o h).2 a = some (0, n, x)) : n ≤ 65536 := by
  have h0 : cw_oa h a = some (0, n, x) := h0
  unfold cw_oa at h0
  split at h0
  · rename_i kd n' x' e
    cases h0
    have hl := (List.getElem?_eq_some_iff.mp e).1
    have hs : s[a]? = some (s[a]'(by rw [← hT.1]; exact hl)) := List.getElem?_eq_getElem _
    obtain ⟨-, e', he, hc⟩ := hT.2 a _ hs
    rw [e] at he
    cases he
    unfold ak_cOK at hc
    split at hc
    · obtain ⟨fs, hh, -⟩ := hc
      cases hh
    · rename_i kd n1 n2 y hq
      obtain ⟨n'', x'', hh, -, h2, -⟩ := hc
      cases hh
      exact Nat.le_trans h2 (cw_len_le hq)
    · exact hc.elim
  · cases h0
theorem cw_cnt_le (f : Nat → Option Nat) (n : Nat) : cw_cnt f n ≤ n := by
  unfold cw_cnt
  exact Nat.le_trans (List.length_filter_le _ _) (by rw [List.length_range]; exact Nat.le_refl _)
/-- between calls: at most 180 cells more, and their slots -/
theorem cw_size (hT : ak_Ty ak_C0 s h) (hI : cw_I cw_XB s h) : ∃ u : List Nat, s = ak_s0 ++ u ∧ u.length ≤ 180 ∧ ak_slo ak_C0 u ≤ 1366280 := by
  obtain ⟨u, f1, f2, f3, a, b, g, xa, xb, r1, r2, r3, r4, r5, r6, r7, r8, r9, r10⟩ := hI.2.2.2.2.2
  have hg : g ≤ 10 := by
    have h1 := cw_arr_le hT r8.1
    have h2 : 64 * 2 ^ g ≤ 64 * 2 ^ 10 := Nat.le_trans h1 (by decide)
    have h3 : 2 ^ g ≤ 2 ^ 10 := Nat.le_of_mul_le_mul_left h2 (by decide)
    exact (Nat.pow_le_pow_iff_right (by decide : 1 < 2)).mp h3
  have c1 := cw_cnt_le f1 10
  have c2 := cw_cnt_le f2 10
  have c3 := cw_cnt_le f3 20
  exact ⟨u, r1, by omega, by omega⟩
end CW91
