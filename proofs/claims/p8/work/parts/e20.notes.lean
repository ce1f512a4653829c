/-! THE CLASS'S WORKER: any note of a side or a TEST -/
section CE20
variable {X X' : fx_X} {p1 y2 : Int32} {u : Unit} {sr W n wd : Nat} {tw : List Nat} {val : md_V} {tb : List (List md_Row)} {sk : List md_Q} {tr pt : List (Nat → Bool)} {sd : md_Sd × md_Sd} {rel fo fd a arg : Int} {rt : Nat} {pk : Option (List Nat)} {near l : Nat} {ws : md_WS}
theorem md_wk_20k (ha : 200 ≤ a ∧ a ≤ 207) (h : md_wk W n val wd (tb, sk, tr, sd, rel, pt, rt, pk, fo, fd) (a, near, l) arg ≠ none) : ∃ ws', md_wk W n val wd (tb, sk, tr, sd, rel, pt, rt, pk, fo, fd) (a, near, l) arg = md_k ws' := by
  have h8 : a = 200 ∨ a = 201 ∨ a = 202 ∨ a = 203 ∨ a = 204 ∨ a = 205 ∨ a = 206 ∨ a = 207 := by omega
  rcases h8 with rfl | rfl | rfl | rfl | rfl | rfl | rfl | rfl
  · exact ⟨_, rfl⟩
  · exact ⟨_, rfl⟩
  · exact ⟨_, rfl⟩
  · exact ⟨_, rfl⟩
  · have e : md_wk W n val wd (tb, sk, tr, sd, rel, pt, rt, pk, fo, fd) (204, near, l) arg = (if 32 ≤ tr.length ∨ md_okb n 0 sd.1 = false ∨ md_okb n 0 sd.2 = false then (none : md_O md_WS) else md_k (tb, sk, (fun w => md_cmp rel (md_sv val w [] sd.1) (md_sv val w [] sd.2)) :: tr, sd, rel, pt, rt, pk, fo, fd)) := rfl
    rw [e] at h ⊢
    by_cases z : 32 ≤ tr.length ∨ md_okb n 0 sd.1 = false ∨ md_okb n 0 sd.2 = false
    · rw [if_pos z] at h; exact absurd rfl h
    · rw [if_neg z]; exact ⟨_, rfl⟩
  · cases tr with
    | nil => exact absurd rfl h
    | cons x tr => exact ⟨_, rfl⟩
  · rcases tr with _ | ⟨y, _ | ⟨x, tr⟩⟩
    · exact absurd rfl h
    · exact absurd rfl h
    · have e : md_wk W n val wd (tb, sk, y :: x :: tr, sd, rel, pt, rt, pk, fo, fd) (206, near, l) arg = (if 32 < (y :: x :: tr).length then (none : md_O md_WS) else md_k (tb, sk, (fun w => x w && y w) :: tr, sd, rel, pt, rt, pk, fo, fd)) := rfl
      rw [e] at h ⊢
      by_cases z : 32 < (y :: x :: tr).length
      · rw [if_pos z] at h; exact absurd rfl h
      · rw [if_neg z]; exact ⟨_, rfl⟩
  · rcases tr with _ | ⟨y, _ | ⟨x, tr⟩⟩
    · exact absurd rfl h
    · exact absurd rfl h
    · have e : md_wk W n val wd (tb, sk, y :: x :: tr, sd, rel, pt, rt, pk, fo, fd) (207, near, l) arg = (if 32 < (y :: x :: tr).length then (none : md_O md_WS) else md_k (tb, sk, (fun w => x w || y w) :: tr, sd, rel, pt, rt, pk, fo, fd)) := rfl
      rw [e] at h ⊢
      by_cases z : 32 < (y :: x :: tr).length
      · rw [if_pos z] at h; exact absurd rfl h
      · rw [if_neg z]; exact ⟨_, rfl⟩
theorem cx_n140 (hW : cx_WS X sr W n val tw ws) (ha : 200 ≤ a ∧ a ≤ 207) (h1 : p1.toInt = a) (h2 : y2.toInt = arg) (hne : md_wk W n val wd ws (a, near, l) arg ≠ none) (g : gx_140 p1 y2 X u X') : cx_nr X X' sr W n val tw (md_wk W n val wd ws (a, near, l) arg) := by
  obtain ⟨tb, sk, tr, sd, rel, pt, rt, pk, fo, fd⟩ := ws
  obtain ⟨ws', hk⟩ := md_wk_20k ha hne
  by_cases z : a = 202
  · subst z
    obtain ⟨b1, b2⟩ := cx_140y hW hk h1 h2 g
    exact Or.inr ⟨ws', hk, b1, b2⟩
  · obtain ⟨b1, b2⟩ := cx_140x hW (by omega) hk h1 h2 g
    exact Or.inr ⟨ws', hk, b1, b2⟩
/-- one step of the loop -/
theorem md_rt_k {tb' : List (List md_Row)} (h : rt < tb.length ∨ 10 ≤ rt) (h2 : tb.length ≤ tb'.length) : rt < tb'.length ∨ 10 ≤ rt := by omega
end CE20
