/-! NEXT, THE WHOLE (printed by wip/p2/walk/g53.py) -/
def aw_cz (v : Int64) (n : Int) : Prop := (lg_cmp v (Int64.ofInt n)).toInt = 0
noncomputable def aw_word (v : Int64) : Int := if (lg_cmp v (Int64.ofInt 33053979968501614)).toInt = 0 then 0 else if (lg_cmp v (Int64.ofInt 499850046565)).toInt = 0 then 1 else if (lg_cmp v (Int64.ofInt 7499639)).toInt = 0 then 2 else if (lg_cmp v (Int64.ofInt 26982)).toInt = 0 then 3 else if (lg_cmp v (Int64.ofInt 107118487239027)).toInt = 0 then 4 else if (lg_cmp v (Int64.ofInt 107127011501426)).toInt = 0 then 5 else if (lg_cmp v (Int64.ofInt 427071729268)).toInt = 0 then 6 else if (lg_cmp v (Int64.ofInt 465557353332)).toInt = 0 then 7 else if (lg_cmp v (Int64.ofInt 1836020596)).toInt = 0 then 8 else if (lg_cmp v (Int64.ofInt 7566701)).toInt = 0 then 9 else -1
def aw_sgk (c : Int) : Int := if c = 40 ∨ c = 41 ∨ c = 91 ∨ c = 93 ∨ c = 123 ∨ c = 125 ∨ c = 44 ∨ c = 59 ∨ c = 58 ∨ c = 46 ∨ c = 63 ∨ c = 35 ∨ c = 43 ∨ c = 45 ∨ c = 42 ∨ c = 61 ∨ c = 33 ∨ c = 60 ∨ c = 38 ∨ c = 124 then 3 else 5
/-- the token behind e0: kind, begin, end, mark -/
def aw_R (f : Nat → Int32) (n e0 : Nat) (kd : Int) (b e : Nat) (m : Int) : Prop := b = aw_skip f n n e0 ∧
  ((n ≤ b ∧ kd = 0 ∧ e = b ∧ m = aw_sn f n b) ∨
  (b < n ∧ (97 ≤ aw_sn f n b ∧ aw_sn f n b ≤ 122) ∧ e = aw_rl f n (n + 1) (b + 1) ∧ ((b + 8 < e ∧ kd = 5 ∧ m = -1) ∨ (e ≤ b + 8 ∧ m = aw_word (aj_packV f (e - b) b (Int64.ofNat 0)) ∧ ((0 ≤ m ∧ kd = 4) ∨ (m < 0 ∧ kd = 1))))) ∨
  (b < n ∧ ¬ (97 ≤ aw_sn f n b ∧ aw_sn f n b ≤ 122) ∧ (48 ≤ aw_sn f n b ∧ aw_sn f n b ≤ 57) ∧ e = aw_rd f n (n + 1) (b + 1) ∧ m = aw_sn f n b ∧ ((b + 4 < e ∧ kd = 5) ∨ (e ≤ b + 4 ∧ kd = 2))) ∨
  (b < n ∧ ¬ (97 ≤ aw_sn f n b ∧ aw_sn f n b ≤ 122) ∧ ¬ (48 ≤ aw_sn f n b ∧ aw_sn f n b ≤ 57) ∧ kd = aw_sgk (aw_sn f n b) ∧ ((aw_sn f n b = 46 ∧ aw_sn f n (b + 1) = 46 ∧ m = 256 ∧ e = b + 2) ∨ (aw_sn f n b = 33 ∧ aw_sn f n (b + 1) = 61 ∧ m = 257 ∧ e = b + 2) ∨ (aw_sn f n b = 60 ∧ aw_sn f n (b + 1) = 61 ∧ m = 258 ∧ e = b + 2) ∨ (¬ (aw_sn f n b = 46 ∧ aw_sn f n (b + 1) = 46) ∧ ¬ (aw_sn f n b = 33 ∧ aw_sn f n (b + 1) = 61) ∧ ¬ (aw_sn f n b = 60 ∧ aw_sn f n (b + 1) = 61) ∧ m = aw_sn f n b ∧ e = b + 1))))
section AWNEXT2
variable {tb : aj_T} {s : List Nat} {h : aj_H} {G : aj_S → Prop} {S : aj_S} {d : Nat} {Q : Option Value → aj_S → Prop} {n : Nat}
theorem aw_R_u {f : Nat → Int32} {e0 : Nat} {kd kd' m m' : Int} {b b' e e' : Nat} (h1 : aw_R f n e0 kd b e m) (h2 : aw_R f n e0 kd' b' e' m') : kd = kd' ∧ b = b' ∧ e = e' ∧ m = m' := by
  obtain ⟨rfl, h1⟩ := h1
  obtain ⟨rfl, h2⟩ := h2
  generalize aw_skip f n n e0 = b at h1 h2
  rcases h1 with h1 | ⟨a1, a2, rfl, h1⟩ | ⟨a1, a2, a3, rfl, rfl, h1⟩ | ⟨a1, a2, a3, rfl, h1⟩
  · rcases h2 with h2 | ⟨g1, g2, rfl, h2⟩ | ⟨g1, g2, g3, rfl, rfl, h2⟩ | ⟨g1, g2, g3, rfl, h2⟩ <;> omega
  · rcases h2 with h2 | ⟨g1, g2, rfl, h2⟩ | ⟨g1, g2, g3, rfl, rfl, h2⟩ | ⟨g1, g2, g3, rfl, h2⟩
    · omega
    · rcases h1 with h1 | ⟨h1, rfl, h3⟩
      · rcases h2 with h2 | ⟨h2, rfl, h4⟩
        · omega
        · omega
      · rcases h2 with h2 | ⟨h2, rfl, h4⟩
        · omega
        · omega
    · omega
    · omega
  · rcases h2 with h2 | ⟨g1, g2, rfl, h2⟩ | ⟨g1, g2, g3, rfl, rfl, h2⟩ | ⟨g1, g2, g3, rfl, h2⟩ <;> omega
  · rcases h2 with h2 | ⟨g1, g2, rfl, h2⟩ | ⟨g1, g2, g3, rfl, rfl, h2⟩ | ⟨g1, g2, g3, rfl, h2⟩ <;> omega
theorem aw_skip_le {f : Nat → Int32} : ∀ (g k : Nat), k ≤ n → k ≤ aw_skip f n g k ∧ aw_skip f n g k ≤ n := by
  intro g
  induction g with
  | zero => intro k hk; exact ⟨Nat.le_refl _, hk⟩
  | succ g ih =>
    intro k hk
    unfold aw_skip
    split
    · rename_i q
      have := ih (k + 1) (by omega)
      omega
    · omega
theorem aw_sn_nz {f : Nat → Int32} {k : Nat} (hk : aw_sn f n k ≠ 0) : k < n := by
  unfold aw_sn at hk
  split at hk
  · assumption
  · exact absurd rfl hk
theorem aw_rl_le {f : Nat → Int32} : ∀ (g k : Nat), k ≤ n → k ≤ aw_rl f n g k ∧ aw_rl f n g k ≤ n := by
  intro g
  induction g with
  | zero => intro k hk; exact ⟨Nat.le_refl _, hk⟩
  | succ g ih =>
    intro k hk
    unfold aw_rl
    split
    · rename_i q
      have := aw_sn_nz (f := f) (n := n) (k := k) (by omega)
      have := ih (k + 1) (by omega)
      omega
    · omega
theorem aw_rd_le {f : Nat → Int32} : ∀ (g k : Nat), k ≤ n → k ≤ aw_rd f n g k ∧ aw_rd f n g k ≤ n ∧ ∀ j, k ≤ j → j < aw_rd f n g k → 48 ≤ (f j).toInt ∧ (f j).toInt ≤ 57 := by
  intro g
  induction g with
  | zero => intro k hk; exact ⟨Nat.le_refl _, hk, fun j h1 h2 => absurd h2 (Nat.not_lt.mpr h1)⟩
  | succ g ih =>
    intro k hk
    unfold aw_rd
    split
    · rename_i q
      have h1 := aw_sn_nz (f := f) (n := n) (k := k) (by omega)
      obtain ⟨k1, k2, k3⟩ := ih (k + 1) (by omega)
      refine ⟨by omega, k2, fun j h2 h3 => ?_⟩
      by_cases hj : j = k
      · subst hj
        unfold aw_sn at q
        rw [if_pos h1] at q
        exact q
      · exact k3 j (by omega) h3
    · exact ⟨Nat.le_refl _, hk, fun j h1 h2 => absurd h2 (Nat.not_lt.mpr h1)⟩
theorem aw_sgk_35 (c : Int) : aw_sgk c = 3 ∨ aw_sgk c = 5 := by
  unfold aw_sgk
  split
  · exact Or.inl rfl
  · exact Or.inr rfl
theorem aw_R_b {f : Nat → Int32} {e0 : Nat} {kd m : Int} {b e : Nat} (h1 : aw_R f n e0 kd b e m) (h0 : e0 ≤ n) : e0 ≤ b ∧ b ≤ e ∧ e ≤ n ∧ 0 ≤ kd ∧ kd ≤ 5 ∧ (kd ≠ 0 → b < e) ∧ (kd = 2 → e ≤ b + 4 ∧ ∀ j, b ≤ j → j < e → 48 ≤ (f j).toInt ∧ (f j).toInt ≤ 57) := by
  obtain ⟨rfl, h1⟩ := h1
  have k1 := aw_skip_le (f := f) (n := n) n e0 h0
  generalize aw_skip f n n e0 = b at h1 k1
  have k2 := aw_sgk_35 (aw_sn f n b)
  rcases h1 with h1 | ⟨a1, a2, rfl, h1⟩ | ⟨a1, a2, a3, rfl, rfl, h1⟩ | ⟨a1, a2, a3, rfl, h1⟩
  · exact ⟨by omega, by omega, by omega, by omega, by omega, fun z => by omega, fun z => by omega⟩
  · have k3 := aw_rl_le (f := f) (n := n) (n + 1) (b + 1) (by omega)
    exact ⟨by omega, by omega, by omega, by omega, by omega, fun z => by omega, fun z => by omega⟩
  · obtain ⟨k3, k4, k5⟩ := aw_rd_le (f := f) (n := n) (n + 1) (b + 1) (by omega)
    refine ⟨by omega, by omega, by omega, by omega, by omega, fun z => by omega, fun z => ⟨by omega, fun j h2 h3 => ?_⟩⟩
    by_cases hj : j = b
    · subst hj
      unfold aw_sn at a3
      rw [if_pos a1] at a3
      exact a3
    · exact k5 j (by omega) h3
  · have k6 : aw_sn f n (b + 1) ≠ 0 → b + 1 < n := aw_sn_nz
    exact ⟨by omega, by omega, by omega, by omega, by omega, fun z => by omega, fun z => by omega⟩
theorem aw_word_r (v : Int64) : -1 ≤ aw_word v ∧ aw_word v ≤ 9 := by
  unfold aw_word
  repeat' split
  all_goals omega
theorem aw_wordK (hd : 1 ≤ d) {v : Int64} : aw_K tb h d 211 [.long v] S (fun r S' => ∃ b : Int32, r = some (.int b) ∧ S' = S ∧ b.toInt = aw_word v) := by
  obtain ⟨d, rfl⟩ : ∃ e, d = e + 1 := ⟨d - 1, by omega⟩
  refine aw_m aj_m211_at rfl (Nat.le_of_ble_eq_true rfl) ?_
  show aw_W _ _ _ _ 0 [(0, .long v)] [] _ _
  refine aw_n aj_d211 rfl rfl ?_
  refine aw_n aj_d211 rfl rfl ?_
  refine aw_any aj_d211 rfl rfl (fun x z0 => ?_)
  subst z0
  refine aw_z (tgt := 10) aj_d211 rfl rfl (fun z => ?_) (fun z => ?_)
  rotate_left
  · have q0 := aw_t_ne (b := 0) rfl rfl z
    refine aw_n aj_d211 rfl rfl ?_
    refine aw_e aj_d211 rfl rfl ⟨_, rfl, rfl, ?_⟩
    unfold aw_word
    rw [if_pos (show (lg_cmp v (Int64.ofInt 33053979968501614)).toInt = 0 from q0)]
    rfl
  have q0 : (lg_cmp v (Int64.ofInt 33053979968501614)).toInt ≠ 0 := aw_t_ne (b := 0) rfl rfl z
  refine aw_n aj_d211 rfl rfl ?_
  refine aw_n aj_d211 rfl rfl ?_
  refine aw_any aj_d211 rfl rfl (fun x z1 => ?_)
  subst z1
  refine aw_z (tgt := 20) aj_d211 rfl rfl (fun z => ?_) (fun z => ?_)
  rotate_left
  · have q1 := aw_t_ne (b := 0) rfl rfl z
    refine aw_n aj_d211 rfl rfl ?_
    refine aw_e aj_d211 rfl rfl ⟨_, rfl, rfl, ?_⟩
    unfold aw_word
    rw [if_neg q0, if_pos (show (lg_cmp v (Int64.ofInt 499850046565)).toInt = 0 from q1)]
    rfl
  have q1 : (lg_cmp v (Int64.ofInt 499850046565)).toInt ≠ 0 := aw_t_ne (b := 0) rfl rfl z
  refine aw_n aj_d211 rfl rfl ?_
  refine aw_n aj_d211 rfl rfl ?_
  refine aw_any aj_d211 rfl rfl (fun x z2 => ?_)
  subst z2
  refine aw_z (tgt := 30) aj_d211 rfl rfl (fun z => ?_) (fun z => ?_)
  rotate_left
  · have q2 := aw_t_ne (b := 0) rfl rfl z
    refine aw_n aj_d211 rfl rfl ?_
    refine aw_e aj_d211 rfl rfl ⟨_, rfl, rfl, ?_⟩
    unfold aw_word
    rw [if_neg q0, if_neg q1, if_pos (show (lg_cmp v (Int64.ofInt 7499639)).toInt = 0 from q2)]
    rfl
  have q2 : (lg_cmp v (Int64.ofInt 7499639)).toInt ≠ 0 := aw_t_ne (b := 0) rfl rfl z
  refine aw_n aj_d211 rfl rfl ?_
  refine aw_n aj_d211 rfl rfl ?_
  refine aw_any aj_d211 rfl rfl (fun x z3 => ?_)
  subst z3
  refine aw_z (tgt := 40) aj_d211 rfl rfl (fun z => ?_) (fun z => ?_)
  rotate_left
  · have q3 := aw_t_ne (b := 0) rfl rfl z
    refine aw_n aj_d211 rfl rfl ?_
    refine aw_e aj_d211 rfl rfl ⟨_, rfl, rfl, ?_⟩
    unfold aw_word
    rw [if_neg q0, if_neg q1, if_neg q2, if_pos (show (lg_cmp v (Int64.ofInt 26982)).toInt = 0 from q3)]
    rfl
  have q3 : (lg_cmp v (Int64.ofInt 26982)).toInt ≠ 0 := aw_t_ne (b := 0) rfl rfl z
  refine aw_n aj_d211 rfl rfl ?_
  refine aw_n aj_d211 rfl rfl ?_
  refine aw_any aj_d211 rfl rfl (fun x z4 => ?_)
  subst z4
  refine aw_z (tgt := 50) aj_d211 rfl rfl (fun z => ?_) (fun z => ?_)
  rotate_left
  · have q4 := aw_t_ne (b := 0) rfl rfl z
    refine aw_n aj_d211 rfl rfl ?_
    refine aw_e aj_d211 rfl rfl ⟨_, rfl, rfl, ?_⟩
    unfold aw_word
    rw [if_neg q0, if_neg q1, if_neg q2, if_neg q3, if_pos (show (lg_cmp v (Int64.ofInt 107118487239027)).toInt = 0 from q4)]
    rfl
  have q4 : (lg_cmp v (Int64.ofInt 107118487239027)).toInt ≠ 0 := aw_t_ne (b := 0) rfl rfl z
  refine aw_n aj_d211 rfl rfl ?_
  refine aw_n aj_d211 rfl rfl ?_
  refine aw_any aj_d211 rfl rfl (fun x z5 => ?_)
  subst z5
  refine aw_z (tgt := 60) aj_d211 rfl rfl (fun z => ?_) (fun z => ?_)
  rotate_left
  · have q5 := aw_t_ne (b := 0) rfl rfl z
    refine aw_n aj_d211 rfl rfl ?_
    refine aw_e aj_d211 rfl rfl ⟨_, rfl, rfl, ?_⟩
    unfold aw_word
    rw [if_neg q0, if_neg q1, if_neg q2, if_neg q3, if_neg q4, if_pos (show (lg_cmp v (Int64.ofInt 107127011501426)).toInt = 0 from q5)]
    rfl
  have q5 : (lg_cmp v (Int64.ofInt 107127011501426)).toInt ≠ 0 := aw_t_ne (b := 0) rfl rfl z
  refine aw_n aj_d211 rfl rfl ?_
  refine aw_n aj_d211 rfl rfl ?_
  refine aw_any aj_d211 rfl rfl (fun x z6 => ?_)
  subst z6
  refine aw_z (tgt := 71) aj_d211 rfl rfl (fun z => ?_) (fun z => ?_)
  rotate_left
  · have q6 := aw_t_ne (b := 0) rfl rfl z
    refine aw_n aj_d211 rfl rfl ?_
    refine aw_e aj_d211 rfl rfl ⟨_, rfl, rfl, ?_⟩
    unfold aw_word
    rw [if_neg q0, if_neg q1, if_neg q2, if_neg q3, if_neg q4, if_neg q5, if_pos (show (lg_cmp v (Int64.ofInt 427071729268)).toInt = 0 from q6)]
    rfl
  have q6 : (lg_cmp v (Int64.ofInt 427071729268)).toInt ≠ 0 := aw_t_ne (b := 0) rfl rfl z
  refine aw_n aj_d211 rfl rfl ?_
  refine aw_n aj_d211 rfl rfl ?_
  refine aw_any aj_d211 rfl rfl (fun x z7 => ?_)
  subst z7
  refine aw_z (tgt := 82) aj_d211 rfl rfl (fun z => ?_) (fun z => ?_)
  rotate_left
  · have q7 := aw_t_ne (b := 0) rfl rfl z
    refine aw_n aj_d211 rfl rfl ?_
    refine aw_e aj_d211 rfl rfl ⟨_, rfl, rfl, ?_⟩
    unfold aw_word
    rw [if_neg q0, if_neg q1, if_neg q2, if_neg q3, if_neg q4, if_neg q5, if_neg q6, if_pos (show (lg_cmp v (Int64.ofInt 465557353332)).toInt = 0 from q7)]
    rfl
  have q7 : (lg_cmp v (Int64.ofInt 465557353332)).toInt ≠ 0 := aw_t_ne (b := 0) rfl rfl z
  refine aw_n aj_d211 rfl rfl ?_
  refine aw_n aj_d211 rfl rfl ?_
  refine aw_any aj_d211 rfl rfl (fun x z8 => ?_)
  subst z8
  refine aw_z (tgt := 93) aj_d211 rfl rfl (fun z => ?_) (fun z => ?_)
  rotate_left
  · have q8 := aw_t_ne (b := 0) rfl rfl z
    refine aw_n aj_d211 rfl rfl ?_
    refine aw_e aj_d211 rfl rfl ⟨_, rfl, rfl, ?_⟩
    unfold aw_word
    rw [if_neg q0, if_neg q1, if_neg q2, if_neg q3, if_neg q4, if_neg q5, if_neg q6, if_neg q7, if_pos (show (lg_cmp v (Int64.ofInt 1836020596)).toInt = 0 from q8)]
    rfl
  have q8 : (lg_cmp v (Int64.ofInt 1836020596)).toInt ≠ 0 := aw_t_ne (b := 0) rfl rfl z
  refine aw_n aj_d211 rfl rfl ?_
  refine aw_n aj_d211 rfl rfl ?_
  refine aw_any aj_d211 rfl rfl (fun x z9 => ?_)
  subst z9
  refine aw_z (tgt := 106) aj_d211 rfl rfl (fun z => ?_) (fun z => ?_)
  rotate_left
  · have q9 := aw_t_ne (b := 0) rfl rfl z
    refine aw_n aj_d211 rfl rfl ?_
    refine aw_n aj_d211 rfl rfl ?_
    refine aw_e aj_d211 rfl rfl ⟨_, rfl, rfl, ?_⟩
    unfold aw_word
    rw [if_neg q0, if_neg q1, if_neg q2, if_neg q3, if_neg q4, if_neg q5, if_neg q6, if_neg q7, if_neg q8, if_pos (show (lg_cmp v (Int64.ofInt 7566701)).toInt = 0 from q9)]
    rfl
  have q9 : (lg_cmp v (Int64.ofInt 7566701)).toInt ≠ 0 := aw_t_ne (b := 0) rfl rfl z
  refine aw_n aj_d211 rfl rfl ?_
  refine aw_e aj_d211 rfl rfl ⟨_, rfl, rfl, ?_⟩
  unfold aw_word
  rw [if_neg q0, if_neg q1, if_neg q2, if_neg q3, if_neg q4, if_neg q5, if_neg q6, if_neg q7, if_neg q8, if_neg q9]
  rfl
end AWNEXT2
