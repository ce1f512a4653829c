/-! WHAT THE LIFTING PROGRAM USES -/
section FX7
variable {tb : aj_T} {mm : aj_M} {M N pc : Nat} {lv : aj_V} {st : List Value} {X Y : fx_X} {α : Type} {g : α → Option Value} {A B : Nat → α → fx_X → Prop} {ct : List (Nat × Instr × Nat)}
theorem fx_qxI {t : Int32} {A : Nat → Int32 → α → fx_X → Prop} (k : ∀ w, w = t → fx_W tb mm N pc lv (.int w :: st) X (fx_Q g (fun v X' => ∃ n : Nat, A n w v X'))) : fx_W tb mm N pc lv (.int t :: st) X (fx_Q g (fun v X' => ∃ n : Nat, ∃ w : Int32, w = t ∧ A n w v X')) := fx_qx rfl (k t rfl)
theorem fx_qxL {t : Int64} {A : Nat → Int64 → α → fx_X → Prop} (k : ∀ w, w = t → fx_W tb mm N pc lv (.long w :: st) X (fx_Q g (fun v X' => ∃ n : Nat, A n w v X'))) : fx_W tb mm N pc lv (.long t :: st) X (fx_Q g (fun v X' => ∃ n : Nat, ∃ w : Int64, w = t ∧ A n w v X')) := fx_qx rfl (k t rfl)
theorem fx_qX {A : Nat → fx_X → α → fx_X → Prop} (k : ∀ X1, X1 = Y → fx_W tb mm N pc lv st X1 (fx_Q g (fun v X' => ∃ n : Nat, A n X1 v X'))) : fx_W tb mm N pc lv st Y (fx_Q g (fun v X' => ∃ n : Nat, ∃ X1 : fx_X, X1 = Y ∧ A n X1 v X')) := fx_qx rfl (k Y rfl)
theorem fx_incq (hct : aj_ctOK ct mm.2.1) {j : Nat} {a : Int} (hd : aj_ct ct pc = some (.iinc j a, 3)) (hM : M ≤ N + 1) {x : Int32} (hv : aj_lv lv j = some (.int x)) (hj : j < mm.2.2.1) {A : Nat → Int32 → α → fx_X → Prop} (k : ∀ w, w = x + Int32.ofInt a → fx_W tb mm N (pc + 3) (aj_set1 lv j (.int w)) st X (fx_Q g (fun v X' => ∃ n : Nat, A n w v X'))) : fx_W tb mm M pc lv st X (fx_Q g (fun v X' => ∃ n : Nat, ∃ w : Int32, w = x + Int32.ofInt a ∧ A n w v X')) := fx_inc hct hd hM hv hj (fx_qx rfl (k _ rfl))
theorem fx_o1 (k : fx_W tb mm N pc lv st X (fx_Q g (fun v X' => ∃ n : Nat, A n v X'))) : fx_W tb mm N pc lv st X (fx_Q g (fun v X' => ∃ n : Nat, A n v X' ∨ B n v X')) :=
  fx_mono (fun r X' ⟨v, e, n, z⟩ => ⟨v, e, n, Or.inl z⟩) k
theorem fx_o2 (k : fx_W tb mm N pc lv st X (fx_Q g (fun v X' => ∃ n : Nat, B n v X'))) : fx_W tb mm N pc lv st X (fx_Q g (fun v X' => ∃ n : Nat, A n v X' ∨ B n v X')) :=
  fx_mono (fun r X' ⟨v, e, n, z⟩ => ⟨v, e, n, Or.inr z⟩) k
end FX7
theorem fx_lnk {z : Int} {A : Nat × Nat} {kd n : Nat} (h : z < (A.2 : Int)) (e : A = (kd, n)) : z < ((n : Nat) : Int) := by
  rw [e] at h
  exact h
theorem fx_lkd {l : List (Int × Int)} {d k : Int} (h : ∀ q, q ∈ l → q.1 ≠ k) : Op.lookupswitch.offset l d k = d := by
  induction l with
  | nil => rfl
  | cons q l ih =>
    obtain ⟨a, o⟩ := q
    show (if a = k then o else Op.lookupswitch.offset l d k) = d
    rw [if_neg (h (a, o) List.mem_cons_self)]
    exact ih fun q hq => h q (List.mem_cons_of_mem _ hq)
theorem fx_in_0_0 : (0, 0, 0, 78, 18, 4) ∈ fx_fin := by decide
theorem fx_in_0_1 : (0, 1, 0, 82, 14, 7) ∈ fx_fin := by decide
theorem fx_in_0_3 : (0, 3, 0, 92, 1, 120) ∈ fx_fin := by decide
theorem fx_in_0_4 : (0, 4, 0, 93, 0, 20) ∈ fx_fin := by decide
theorem fx_in_0_6 : (0, 6, 0, 94, 1, 6) ∈ fx_fin := by decide
theorem fx_in_1_0 : (1, 0, 0, 97, 0, 6) ∈ fx_fin := by decide
theorem fx_in_1_4 : (1, 4, 0, 98, 0, 30) ∈ fx_fin := by decide
theorem fx_in_1_5 : (1, 5, 0, 99, 0, 6) ∈ fx_fin := by decide
theorem fx_in_1_6 : (1, 6, 0, 100, 2, 6) ∈ fx_fin := by decide
theorem fx_in_2_7 : (2, 7, 0, 110, 0, 1024) ∈ fx_fin := by decide
theorem fx_in_2_9 : (2, 9, 0, 111, 0, 30) ∈ fx_fin := by decide
theorem fx_in_2_10 : (2, 10, 0, 112, 0, 30) ∈ fx_fin := by decide
theorem fx_in_3_0 : (3, 0, 0, 78, 18, 4) ∈ fx_fin := by decide
theorem fx_in_3_1 : (3, 1, 0, 82, 14, 7) ∈ fx_fin := by decide
theorem fx_in_3_2 : (3, 2, 0, 88, 0, 512) ∈ fx_fin := by decide
theorem fx_in_3_3 : (3, 3, 0, 89, 1, 10) ∈ fx_fin := by decide
theorem fx_in_3_4 : (3, 4, 0, 90, 0, 10) ∈ fx_fin := by decide
theorem fx_in_4_0 : (4, 0, 0, 83, 0, 2500) ∈ fx_fin := by decide
theorem fx_in_4_1 : (4, 1, 0, 84, 0, 2500) ∈ fx_fin := by decide
theorem fx_in_4_2 : (4, 2, 0, 85, 0, 2500) ∈ fx_fin := by decide
theorem fx_in_4_3 : (4, 3, 0, 86, 0, 2500) ∈ fx_fin := by decide
theorem fx_in_5_2 : (5, 2, 0, 114, 0, 1024) ∈ fx_fin := by decide
theorem fx_in_6_0 : (6, 0, 1, 1, 0, 180) ∈ fx_fin := by decide
theorem fx_in_6_1 : (6, 1, 1, 2, 2, 180) ∈ fx_fin := by decide
theorem fx_in_6_2 : (6, 2, 1, 3, 0, 1024) ∈ fx_fin := by decide
theorem fx_in_7_0 : (7, 0, 1, 1, 1, 8) ∈ fx_fin := by decide
theorem fx_in_7_1 : (7, 1, 1, 2, 0, 8) ∈ fx_fin := by decide
theorem fx_in_7_2 : (7, 2, 1, 3, 0, 512) ∈ fx_fin := by decide
theorem fx_in_7_3 : (7, 3, 1, 4, 0, 8192) ∈ fx_fin := by decide
theorem fx_in_7_4 : (7, 4, 1, 5, 0, 1024) ∈ fx_fin := by decide
theorem fx_in_7_5 : (7, 5, 1, 6, 0, 1024) ∈ fx_fin := by decide
theorem fx_in_7_6 : (7, 6, 1, 7, 2, 1024) ∈ fx_fin := by decide
theorem fx_in_7_7 : (7, 7, 1, 8, 5, 10) ∈ fx_fin := by decide
theorem fx_in_7_8 : (7, 8, 1, 9, 1, 10) ∈ fx_fin := by decide
theorem fx_in_7_9 : (7, 9, 1, 10, 1, 60) ∈ fx_fin := by decide
theorem fx_in_7_10 : (7, 10, 1, 11, 2, 10) ∈ fx_fin := by decide
theorem fx_in_8_0 : (8, 0, 0, 79, 0, 1002) ∈ fx_fin := by decide
theorem fx_in_8_1 : (8, 1, 0, 80, 0, 1002) ∈ fx_fin := by decide
theorem fx_in_8_2 : (8, 2, 0, 81, 1, 1002) ∈ fx_fin := by decide
theorem fx_in_9_0 : (9, 0, 0, 78, 18, 4) ∈ fx_fin := by decide
theorem fx_in_9_1 : (9, 1, 0, 82, 14, 7) ∈ fx_fin := by decide
theorem fx_in_9_2 : (9, 2, 0, 96, 11, 7) ∈ fx_fin := by decide
theorem fx_in_9_3 : (9, 3, 0, 101, 5, 20) ∈ fx_fin := by decide
theorem fx_in_9_6 : (9, 6, 0, 106, 0, 1024) ∈ fx_fin := by decide
theorem fx_in_10_0 : (10, 0, 0, 53, 3, 4000) ∈ fx_fin := by decide
theorem fx_in_10_5 : (10, 5, 0, 78, 18, 4) ∈ fx_fin := by decide
theorem fx_in_10_6 : (10, 6, 0, 82, 14, 7) ∈ fx_fin := by decide
theorem fx_in_10_7 : (10, 7, 0, 87, 13, 16) ∈ fx_fin := by decide
theorem fx_in_10_8 : (10, 8, 0, 91, 10, 9) ∈ fx_fin := by decide
theorem fx_in_10_9 : (10, 9, 0, 95, 19, 15) ∈ fx_fin := by decide
theorem fx_in_10_10 : (10, 10, 0, 107, 12, 11) ∈ fx_fin := by decide
theorem fx_in_10_11 : (10, 11, 0, 113, 15, 4) ∈ fx_fin := by decide
theorem fx_in_10_12 : (10, 12, 0, 115, 0, 30) ∈ fx_fin := by decide
theorem fx_in_10_13 : (10, 13, 0, 116, 0, 30) ∈ fx_fin := by decide
theorem fx_in_11_1 : (11, 1, 0, 118, 0, 2) ∈ fx_fin := by decide
theorem fx_in_11_2 : (11, 2, 0, 119, 1, 16) ∈ fx_fin := by decide
theorem fx_in_11_3 : (11, 3, 0, 120, 0, 16) ∈ fx_fin := by decide
theorem fx_in_11_4 : (11, 4, 0, 121, 0, 1024) ∈ fx_fin := by decide
theorem fx_in_11_5 : (11, 5, 0, 122, 0, 2) ∈ fx_fin := by decide
theorem fx_in_11_6 : (11, 6, 0, 123, 0, 16384) ∈ fx_fin := by decide
theorem fx_in_11_7 : (11, 7, 0, 124, 0, 2) ∈ fx_fin := by decide
theorem fx_in_11_8 : (11, 8, 0, 125, 1, 20) ∈ fx_fin := by decide
theorem fx_in_11_9 : (11, 9, 0, 126, 2, 20) ∈ fx_fin := by decide
theorem fx_in_11_10 : (11, 10, 0, 127, 0, 2) ∈ fx_fin := by decide
theorem fx_in_11_11 : (11, 11, 0, 128, 0, 2) ∈ fx_fin := by decide
theorem fx_in_11_12 : (11, 12, 0, 129, 0, 1280) ∈ fx_fin := by decide
theorem fx_in_11_14 : (11, 14, 0, 130, 0, 32) ∈ fx_fin := by decide
theorem fx_in_11_15 : (11, 15, 0, 131, 0, 50) ∈ fx_fin := by decide
theorem fx_in_11_16 : (11, 16, 0, 132, 0, 50) ∈ fx_fin := by decide
theorem fx_in_11_17 : (11, 17, 0, 133, 1, 400) ∈ fx_fin := by decide
theorem fx_in_11_18 : (11, 18, 0, 134, 4, 12000) ∈ fx_fin := by decide
theorem fx_in_11_19 : (11, 19, 0, 135, 0, 12000) ∈ fx_fin := by decide
theorem fx_in_11_20 : (11, 20, 0, 136, 0, 48000) ∈ fx_fin := by decide
theorem fx_in_11_21 : (11, 21, 0, 137, 0, 1024) ∈ fx_fin := by decide
theorem fx_in_11_22 : (11, 22, 0, 138, 4, 4000) ∈ fx_fin := by decide
theorem fx_in_11_42 : (11, 42, 0, 139, 0, 40) ∈ fx_fin := by decide
theorem fx_in_11_48 : (11, 48, 0, 140, 0, 64) ∈ fx_fin := by decide
theorem fx_in_11_49 : (11, 49, 0, 141, 0, 64) ∈ fx_fin := by decide
theorem fx_in_11_55 : (11, 55, 0, 142, 0, 16) ∈ fx_fin := by decide
theorem fx_in_11_57 : (11, 57, 0, 143, 0, 30) ∈ fx_fin := by decide
theorem fx_in_11_59 : (11, 59, 0, 144, 0, 8) ∈ fx_fin := by decide
theorem fx_in_11_60 : (11, 60, 0, 145, 0, 1024) ∈ fx_fin := by decide
theorem fx_in_11_62 : (11, 62, 0, 146, 0, 20) ∈ fx_fin := by decide
theorem fx_in_11_63 : (11, 63, 0, 147, 0, 30) ∈ fx_fin := by decide
theorem fx_in_11_66 : (11, 66, 0, 148, 0, 30720) ∈ fx_fin := by decide
theorem fx_in_11_71 : (11, 71, 0, 149, 0, 30) ∈ fx_fin := by decide
theorem fx_no_0_2 : ∀ e, e ∈ fx_fin → e.1 = 0 → e.2.1 ≠ 2 := by decide
theorem fx_no_0_5 : ∀ e, e ∈ fx_fin → e.1 = 0 → e.2.1 ≠ 5 := by decide
theorem fx_no_0_7 : ∀ e, e ∈ fx_fin → e.1 = 0 → e.2.1 ≠ 7 := by decide
theorem fx_no_0_8 : ∀ e, e ∈ fx_fin → e.1 = 0 → e.2.1 ≠ 8 := by decide
theorem fx_no_1_1 : ∀ e, e ∈ fx_fin → e.1 = 1 → e.2.1 ≠ 1 := by decide
theorem fx_no_1_2 : ∀ e, e ∈ fx_fin → e.1 = 1 → e.2.1 ≠ 2 := by decide
theorem fx_no_1_3 : ∀ e, e ∈ fx_fin → e.1 = 1 → e.2.1 ≠ 3 := by decide
theorem fx_no_2_0 : ∀ e, e ∈ fx_fin → e.1 = 2 → e.2.1 ≠ 0 := by decide
theorem fx_no_2_1 : ∀ e, e ∈ fx_fin → e.1 = 2 → e.2.1 ≠ 1 := by decide
theorem fx_no_2_2 : ∀ e, e ∈ fx_fin → e.1 = 2 → e.2.1 ≠ 2 := by decide
theorem fx_no_2_3 : ∀ e, e ∈ fx_fin → e.1 = 2 → e.2.1 ≠ 3 := by decide
theorem fx_no_2_4 : ∀ e, e ∈ fx_fin → e.1 = 2 → e.2.1 ≠ 4 := by decide
theorem fx_no_2_5 : ∀ e, e ∈ fx_fin → e.1 = 2 → e.2.1 ≠ 5 := by decide
theorem fx_no_2_6 : ∀ e, e ∈ fx_fin → e.1 = 2 → e.2.1 ≠ 6 := by decide
theorem fx_no_2_8 : ∀ e, e ∈ fx_fin → e.1 = 2 → e.2.1 ≠ 8 := by decide
theorem fx_no_3_5 : ∀ e, e ∈ fx_fin → e.1 = 3 → e.2.1 ≠ 5 := by decide
theorem fx_no_3_6 : ∀ e, e ∈ fx_fin → e.1 = 3 → e.2.1 ≠ 6 := by decide
theorem fx_no_3_7 : ∀ e, e ∈ fx_fin → e.1 = 3 → e.2.1 ≠ 7 := by decide
theorem fx_no_3_8 : ∀ e, e ∈ fx_fin → e.1 = 3 → e.2.1 ≠ 8 := by decide
theorem fx_no_3_9 : ∀ e, e ∈ fx_fin → e.1 = 3 → e.2.1 ≠ 9 := by decide
theorem fx_no_3_10 : ∀ e, e ∈ fx_fin → e.1 = 3 → e.2.1 ≠ 10 := by decide
theorem fx_no_3_11 : ∀ e, e ∈ fx_fin → e.1 = 3 → e.2.1 ≠ 11 := by decide
theorem fx_no_3_12 : ∀ e, e ∈ fx_fin → e.1 = 3 → e.2.1 ≠ 12 := by decide
theorem fx_no_3_13 : ∀ e, e ∈ fx_fin → e.1 = 3 → e.2.1 ≠ 13 := by decide
theorem fx_no_3_14 : ∀ e, e ∈ fx_fin → e.1 = 3 → e.2.1 ≠ 14 := by decide
theorem fx_no_3_15 : ∀ e, e ∈ fx_fin → e.1 = 3 → e.2.1 ≠ 15 := by decide
theorem fx_no_4_4 : ∀ e, e ∈ fx_fin → e.1 = 4 → e.2.1 ≠ 4 := by decide
theorem fx_no_4_5 : ∀ e, e ∈ fx_fin → e.1 = 4 → e.2.1 ≠ 5 := by decide
theorem fx_no_4_6 : ∀ e, e ∈ fx_fin → e.1 = 4 → e.2.1 ≠ 6 := by decide
theorem fx_no_5_0 : ∀ e, e ∈ fx_fin → e.1 = 5 → e.2.1 ≠ 0 := by decide
theorem fx_no_5_1 : ∀ e, e ∈ fx_fin → e.1 = 5 → e.2.1 ≠ 1 := by decide
theorem fx_no_5_3 : ∀ e, e ∈ fx_fin → e.1 = 5 → e.2.1 ≠ 3 := by decide
theorem fx_no_6_3 : ∀ e, e ∈ fx_fin → e.1 = 6 → e.2.1 ≠ 3 := by decide
theorem fx_no_6_4 : ∀ e, e ∈ fx_fin → e.1 = 6 → e.2.1 ≠ 4 := by decide
theorem fx_no_7_11 : ∀ e, e ∈ fx_fin → e.1 = 7 → e.2.1 ≠ 11 := by decide
theorem fx_no_7_12 : ∀ e, e ∈ fx_fin → e.1 = 7 → e.2.1 ≠ 12 := by decide
theorem fx_no_7_13 : ∀ e, e ∈ fx_fin → e.1 = 7 → e.2.1 ≠ 13 := by decide
theorem fx_no_7_14 : ∀ e, e ∈ fx_fin → e.1 = 7 → e.2.1 ≠ 14 := by decide
theorem fx_no_7_15 : ∀ e, e ∈ fx_fin → e.1 = 7 → e.2.1 ≠ 15 := by decide
theorem fx_no_7_16 : ∀ e, e ∈ fx_fin → e.1 = 7 → e.2.1 ≠ 16 := by decide
theorem fx_no_7_17 : ∀ e, e ∈ fx_fin → e.1 = 7 → e.2.1 ≠ 17 := by decide
theorem fx_no_8_3 : ∀ e, e ∈ fx_fin → e.1 = 8 → e.2.1 ≠ 3 := by decide
theorem fx_no_9_4 : ∀ e, e ∈ fx_fin → e.1 = 9 → e.2.1 ≠ 4 := by decide
theorem fx_no_9_5 : ∀ e, e ∈ fx_fin → e.1 = 9 → e.2.1 ≠ 5 := by decide
theorem fx_no_9_7 : ∀ e, e ∈ fx_fin → e.1 = 9 → e.2.1 ≠ 7 := by decide
theorem fx_no_9_8 : ∀ e, e ∈ fx_fin → e.1 = 9 → e.2.1 ≠ 8 := by decide
theorem fx_no_9_9 : ∀ e, e ∈ fx_fin → e.1 = 9 → e.2.1 ≠ 9 := by decide
theorem fx_no_9_10 : ∀ e, e ∈ fx_fin → e.1 = 9 → e.2.1 ≠ 10 := by decide
theorem fx_no_9_11 : ∀ e, e ∈ fx_fin → e.1 = 9 → e.2.1 ≠ 11 := by decide
theorem fx_no_9_12 : ∀ e, e ∈ fx_fin → e.1 = 9 → e.2.1 ≠ 12 := by decide
theorem fx_no_9_13 : ∀ e, e ∈ fx_fin → e.1 = 9 → e.2.1 ≠ 13 := by decide
theorem fx_no_9_14 : ∀ e, e ∈ fx_fin → e.1 = 9 → e.2.1 ≠ 14 := by decide
theorem fx_no_10_1 : ∀ e, e ∈ fx_fin → e.1 = 10 → e.2.1 ≠ 1 := by decide
theorem fx_no_10_2 : ∀ e, e ∈ fx_fin → e.1 = 10 → e.2.1 ≠ 2 := by decide
theorem fx_no_10_3 : ∀ e, e ∈ fx_fin → e.1 = 10 → e.2.1 ≠ 3 := by decide
theorem fx_no_10_4 : ∀ e, e ∈ fx_fin → e.1 = 10 → e.2.1 ≠ 4 := by decide
theorem fx_no_11_0 : ∀ e, e ∈ fx_fin → e.1 = 11 → e.2.1 ≠ 0 := by decide
theorem fx_no_11_13 : ∀ e, e ∈ fx_fin → e.1 = 11 → e.2.1 ≠ 13 := by decide
theorem fx_no_11_23 : ∀ e, e ∈ fx_fin → e.1 = 11 → e.2.1 ≠ 23 := by decide
theorem fx_no_11_24 : ∀ e, e ∈ fx_fin → e.1 = 11 → e.2.1 ≠ 24 := by decide
theorem fx_no_11_25 : ∀ e, e ∈ fx_fin → e.1 = 11 → e.2.1 ≠ 25 := by decide
theorem fx_no_11_26 : ∀ e, e ∈ fx_fin → e.1 = 11 → e.2.1 ≠ 26 := by decide
theorem fx_no_11_27 : ∀ e, e ∈ fx_fin → e.1 = 11 → e.2.1 ≠ 27 := by decide
theorem fx_no_11_28 : ∀ e, e ∈ fx_fin → e.1 = 11 → e.2.1 ≠ 28 := by decide
theorem fx_no_11_29 : ∀ e, e ∈ fx_fin → e.1 = 11 → e.2.1 ≠ 29 := by decide
theorem fx_no_11_30 : ∀ e, e ∈ fx_fin → e.1 = 11 → e.2.1 ≠ 30 := by decide
theorem fx_no_11_31 : ∀ e, e ∈ fx_fin → e.1 = 11 → e.2.1 ≠ 31 := by decide
theorem fx_no_11_32 : ∀ e, e ∈ fx_fin → e.1 = 11 → e.2.1 ≠ 32 := by decide
theorem fx_no_11_33 : ∀ e, e ∈ fx_fin → e.1 = 11 → e.2.1 ≠ 33 := by decide
theorem fx_no_11_34 : ∀ e, e ∈ fx_fin → e.1 = 11 → e.2.1 ≠ 34 := by decide
theorem fx_no_11_35 : ∀ e, e ∈ fx_fin → e.1 = 11 → e.2.1 ≠ 35 := by decide
theorem fx_no_11_36 : ∀ e, e ∈ fx_fin → e.1 = 11 → e.2.1 ≠ 36 := by decide
theorem fx_no_11_37 : ∀ e, e ∈ fx_fin → e.1 = 11 → e.2.1 ≠ 37 := by decide
theorem fx_no_11_38 : ∀ e, e ∈ fx_fin → e.1 = 11 → e.2.1 ≠ 38 := by decide
theorem fx_no_11_39 : ∀ e, e ∈ fx_fin → e.1 = 11 → e.2.1 ≠ 39 := by decide
theorem fx_no_11_40 : ∀ e, e ∈ fx_fin → e.1 = 11 → e.2.1 ≠ 40 := by decide
theorem fx_no_11_41 : ∀ e, e ∈ fx_fin → e.1 = 11 → e.2.1 ≠ 41 := by decide
theorem fx_no_11_43 : ∀ e, e ∈ fx_fin → e.1 = 11 → e.2.1 ≠ 43 := by decide
theorem fx_no_11_44 : ∀ e, e ∈ fx_fin → e.1 = 11 → e.2.1 ≠ 44 := by decide
theorem fx_no_11_45 : ∀ e, e ∈ fx_fin → e.1 = 11 → e.2.1 ≠ 45 := by decide
theorem fx_no_11_46 : ∀ e, e ∈ fx_fin → e.1 = 11 → e.2.1 ≠ 46 := by decide
theorem fx_no_11_47 : ∀ e, e ∈ fx_fin → e.1 = 11 → e.2.1 ≠ 47 := by decide
theorem fx_no_11_50 : ∀ e, e ∈ fx_fin → e.1 = 11 → e.2.1 ≠ 50 := by decide
theorem fx_no_11_51 : ∀ e, e ∈ fx_fin → e.1 = 11 → e.2.1 ≠ 51 := by decide
theorem fx_no_11_52 : ∀ e, e ∈ fx_fin → e.1 = 11 → e.2.1 ≠ 52 := by decide
theorem fx_no_11_53 : ∀ e, e ∈ fx_fin → e.1 = 11 → e.2.1 ≠ 53 := by decide
theorem fx_no_11_54 : ∀ e, e ∈ fx_fin → e.1 = 11 → e.2.1 ≠ 54 := by decide
theorem fx_no_11_56 : ∀ e, e ∈ fx_fin → e.1 = 11 → e.2.1 ≠ 56 := by decide
theorem fx_no_11_58 : ∀ e, e ∈ fx_fin → e.1 = 11 → e.2.1 ≠ 58 := by decide
theorem fx_no_11_61 : ∀ e, e ∈ fx_fin → e.1 = 11 → e.2.1 ≠ 61 := by decide
theorem fx_no_11_64 : ∀ e, e ∈ fx_fin → e.1 = 11 → e.2.1 ≠ 64 := by decide
theorem fx_no_11_65 : ∀ e, e ∈ fx_fin → e.1 = 11 → e.2.1 ≠ 65 := by decide
theorem fx_no_11_67 : ∀ e, e ∈ fx_fin → e.1 = 11 → e.2.1 ≠ 67 := by decide
theorem fx_no_11_68 : ∀ e, e ∈ fx_fin → e.1 = 11 → e.2.1 ≠ 68 := by decide
theorem fx_no_11_69 : ∀ e, e ∈ fx_fin → e.1 = 11 → e.2.1 ≠ 69 := by decide
theorem fx_no_11_70 : ∀ e, e ∈ fx_fin → e.1 = 11 → e.2.1 ≠ 70 := by decide
