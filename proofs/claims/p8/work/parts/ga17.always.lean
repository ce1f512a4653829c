/-! ALWAYS TOLD (printed by wip/p2/ref/r17.py) -/
section ARA17
variable {tb : aj_T} {s : List Nat} {h : aj_H} {S S' S1 S2 : aj_S} {d n : Nat} {g g' : aw_gh} {F A : List Nat} {G : aj_S → Prop} {nm : Int64 → Prop} {fl : Bool} {la ho hu ht q t p : Nat}
theorem aw_G_al {x : Int32} (hG : aw_G g S) (hx : (S.1 45).toInt ≤ x.toInt) : aw_G g (aw_wf S 45 x) := by
  obtain ⟨GA, GB, GC, GD, e1, e2, e3, e4, e5, e6⟩ := hG
  refine ⟨GA, GB, GC, GD, e1, e2, e3, e4, e5, fun z => ?_⟩
  obtain ⟨u1, u2, u3, u4⟩ := e6 z
  refine ⟨u1, u2, fun w => ?_, u4⟩
  obtain ⟨v1, v2⟩ := u3 w
  refine ⟨v1, ?_⟩
  show (S.2.2.1 10 (aw_h S)).toInt ≤ x.toInt
  omega
theorem aw_nIi {a : Nat} (ha : a < 2147483648) : (nI a).toInt = a := by
  have h : (Int32.ofInt (a : Int)).toInt = a := by
    rw [Int32.toInt_ofInt]
    exact Int.bmod_eq_of_le (by simp <;> omega) (by simp <;> omega)
  rw [← aw_nI h ha]
  exact h
theorem aw_bit_u {f : Nat → Int32} {i : Nat} {v : Int32} {a w : Nat} (ha : a ≤ 100000) (hw : w ≤ 1023) (hi : a + w / 32 ≠ i) : aj_bitV (upd f i v) (nI a) (nI w) = aj_bitV f (nI a) (nI w) := by
  have e := ar_word (aw_nIi (a := a) (by omega)) (aw_nIi (a := w) (by omega)) (by omega) (by omega)
  have e3 : (aj_wordV (nI a) (nI w)).toNatClampNeg ≠ i := by
    have : ((aj_wordV (nI a) (nI w)).toNatClampNeg : Int) = a + w / 32 := by
      show ((aj_wordV (nI a) (nI w)).toInt.toNat : Int) = _
      omega
    omega
  have e4 : upd f i v (aj_wordV (nI a) (nI w)).toNatClampNeg = f (aj_wordV (nI a) (nI w)).toNatClampNeg := by
    unfold upd
    rw [if_neg e3]
  unfold aj_bitV aj_bitX
  rw [e4]
theorem aw_hold_u {i t : Nat} {v : Int32} (hw : (S.2.2.1 5 t).toInt ≤ 1024) (hp : (S.2.2.1 10 t).toInt ≤ 20) (ht : t ≤ 1) (hi : ∀ p : Nat, (p : Int) < (S.2.2.1 10 t).toInt → i < (t * 20 + p) * 32 ∨ (t * 20 + p) * 32 + 31 < i) (h0 : aw_hold S t) : aw_hold (aw_wa S 12 i v) t := by
  obtain ⟨w, w1, w2⟩ := h0
  refine ⟨w, w1, fun p hp2 => ?_⟩
  have hp2 : (p : Int) < (S.2.2.1 10 t).toInt := hp2
  have y := w2 p hp2
  have z := hi p hp2
  show (aj_bitV (upd (S.2.2.1 12) i v) _ _).toInt = 1
  rw [aw_bit_u (by omega) (by omega) (by omega)]
  exact y
theorem aw_G_p12 {i : Nat} {v : Int32} (hG : aw_G (nm, false, la, ho, hu, ht) S) (h0 : aw_hh S ≤ 1) (h5 : ∀ t, t ≤ 1 → (S.2.2.1 5 t).toInt ≤ 1024) (h10 : ∀ t, t ≤ 1 → 0 ≤ (S.2.2.1 10 t).toInt ∧ (S.2.2.1 10 t).toInt ≤ 20) (h19 : (S.2.2.1 10 (aw_h S)).toInt ≤ 19) (hi : (i : Int) / 32 = aw_h S * 20 + (S.2.2.1 10 (aw_h S)).toInt) : aw_G (nm, false, la, ho, hu, ht) (aw_wa S 12 i v) := by
  obtain ⟨GA, GB, GC, GD, e1, e2, e3, e4, e5, e6⟩ := hG
  obtain ⟨u1, u2, u3, u4⟩ := e6 rfl
  have u1 : aw_h S = 1 - aw_hh S := u1
  have l1 : aw_h S ≤ 1 := by omega
  have a1 := h10 _ h0
  have a2 := h10 _ l1
  refine ⟨GA, GB, GC, GD, e1, aw_hold_u (h5 _ h0) a1.2 h0 (fun p hp => ?_) e2, e3, e4, fun z => absurd z Bool.false_ne_true, fun _ => ⟨u1, u2, fun z => ⟨aw_hold_u (h5 _ l1) a2.2 l1 (fun p hp => ?_) (u3 z).1, (u3 z).2⟩, u4⟩⟩
  · have hp : (p : Int) < (S.2.2.1 10 (aw_hh S)).toInt := hp
    show i < (aw_hh S * 20 + p) * 32 ∨ (aw_hh S * 20 + p) * 32 + 31 < i
    omega
  · have hp : (p : Int) < (S.2.2.1 10 (aw_h S)).toInt := hp
    show i < (aw_h S * 20 + p) * 32 ∨ (aw_h S * 20 + p) * 32 + 31 < i
    omega
theorem aw_B_fr (h0 : aw_B S) (f1 : 0 ∉ F) (f2 : 5 ∉ A) (f3 : 10 ∉ A) (f4 : 11 ∉ A) (f5 : 12 ∉ A) (f6 : 17 ∉ A) (f7 : 18 ∉ A) (fr : aw_fr F A S S') : aw_B S' := by
  unfold aw_B aw_kv aw_hold aw_held aw_hh at h0 ⊢
  rw [(fr.1 0 f1).1, (fr.2 5 f2).1, (fr.2 10 f3).1, (fr.2 11 f4).1, (fr.2 12 f5).1, (fr.2 17 f6).1, (fr.2 18 f7).1]
  exact h0
theorem aw_p10_hh {j : Nat} {x : Int32} (hh : aw_hold S (aw_hh S)) (hj : j ≠ aw_hh S) : aw_hold (aw_wa S 10 j x) (aw_hh S) ∧ (upd (S.2.2.1 10) j x) (aw_hh S) = S.2.2.1 10 (aw_hh S) := by
  have en : (upd (S.2.2.1 10) j x) (aw_hh S) = S.2.2.1 10 (aw_hh S) := by
    unfold upd
    rw [if_neg (fun z => hj z.symm)]
  obtain ⟨w, w1, w2⟩ := hh
  refine ⟨⟨w, w1, fun p hp => w2 p ?_⟩, en⟩
  rw [← en]
  exact hp
theorem aw_B_p10 {j : Nat} {x : Int32} (hG : aw_G (nm, false, la, ho, hu, ht) S) (h0 : aw_hh S ≤ 1) (hj : j = aw_h S) : aw_B (aw_wa S 10 j x) := by
  obtain ⟨GA, GB, GC, GD, e1, e2, e3, e4, e5, e6⟩ := hG
  have u1 : aw_h S = 1 - aw_hh S := (e6 rfl).1
  obtain ⟨y1, y2⟩ := aw_p10_hh (x := x) e2 (show j ≠ aw_hh S by omega)
  refine ⟨e1, y1, ?_, ?_⟩
  · show ((upd (S.2.2.1 10) j x) (aw_hh S)).toInt ≤ _
    rw [y2]
    exact e3
  · show _ ≤ ((upd (S.2.2.1 10) j x) (aw_hh S)).toInt
    rw [y2]
    exact e4
theorem aw_G_p10 {j : Nat} {x : Int32} (hG : aw_G (nm, false, la, ho, hu, ht) S) (h0 : aw_hh S ≤ 1) (h32 : (S.1 32).toInt = 1) (hj : j = aw_h S) (hx : x.toInt ≤ (S.1 45).toInt) (hold : aw_hold (aw_wa S 10 j x) (aw_h S)) : aw_G (nm, false, la, ho, hu, ht) (aw_wa S 10 j x) := by
  obtain ⟨b1, b2, b3, b4⟩ := aw_B_p10 (x := x) hG h0 hj
  obtain ⟨GA, GB, GC, GD, e1, e2, e3, e4, e5, e6⟩ := hG
  obtain ⟨u1, u2, u3, u4⟩ := e6 rfl
  refine ⟨GA, GB, GC, GD, b1, b2, b3, b4, fun z => absurd z Bool.false_ne_true, fun _ => ⟨u1, u2, fun z => ⟨hold, ?_⟩, fun z => ?_⟩⟩
  · show ((upd (S.2.2.1 10) j x) (aw_h S)).toInt ≤ (S.1 45).toInt
    unfold upd
    rw [if_pos hj.symm]
    exact hx
  · have z : (S.1 32).toInt = 0 := z
    omega
theorem ar_always_L147_88 (hU : aw_U tb s h) (hd : 9 ≤ d + 1) (N91 : Nat) (S66 : aj_S) (x68 : Int32) (x69 : Int32) (x70 : Int32) (x71 : Int32) (ihL91_64 : ∀ (S66 : aj_S) (lv67 : aj_V) (x68 : Int32) (x69 : Int32) (x70 : Int32) (x71 : Int32), (aj_lv lv67 0 = some (.ref 117)) → (aj_lv lv67 1 = some (.int x68)) → (aj_lv lv67 2 = some (.int x69)) → (aj_lv lv67 3 = some (.int x70)) → (aj_lv lv67 4 = some (.int x71)) → (aw_I s h (aw_G (nm, false, la, 0, 0, 0)) S66) → (aw_fr [24, 25, 26, 27, 28, 29, 30, 31, 33, 34, 35, 36, 38, 39, 40, 41, 43, 44, 45] [10, 12, 20, 22] S S66) → (0 ≤ x70.toInt ∧ x70.toInt ≤ 0) → (0 ≤ x71.toInt ∧ x71.toInt ≤ 1024) → ((S.1 30).toInt + 1 ≤ (S66.1 30).toInt) → ((S66.1 32).toInt = 1) → ((S66.2.2.1 10 (aw_h S66)).toInt + 1 ≤ (S66.1 45).toInt) → (x69.toInt = ((S66.1 37).toInt * 20 + (S66.2.2.1 10 (aw_h S66)).toInt) * 32) → (1024 - x71.toInt).toNat < N91 → aw_W tb h d aj_m246 91 lv67 [] S66 ((ar_QB s h [24, 25, 26, 27, 28, 29, 30, 31, 33, 34, 35, 36, 38, 39, 40, 41, 43, 44, 45] [10, 12, 20, 22] S aw_B (fun S' => aw_G (nm, false, la, 0, 0, 0) S' ∧ (S.1 30).toInt + 1 ≤ (S'.1 30).toInt)))) (hm91 : (1024 - x71.toInt).toNat < N91 + 1) : ∀ (N : Nat) (S90 : aj_S) (lv91 : aj_V) (x92 : Int32) (x93 : Int32) (x94 : Int32), (aj_lv lv91 0 = some (.ref 117)) → (aj_lv lv91 1 = some (.int x92)) → (aj_lv lv91 3 = some (.int x93)) → (aj_lv lv91 4 = some (.int x94)) → (aw_I s h (aw_B) S90) → (aw_fr [24, 25, 26, 27, 28, 29, 30, 31, 33, 34, 35, 36, 38, 39, 40, 41, 43, 44, 45] [10, 12, 20, 22] S S90) → (0 ≤ x93.toInt ∧ x93.toInt ≤ 1) → (0 ≤ x94.toInt ∧ x94.toInt ≤ 1024) → ((S.1 30).toInt + 1 ≤ (S90.1 30).toInt) → (ar_hd (aw_hold S90 (aw_h S90) → aw_G (nm, false, la, 0, 0, 0) S90)) → (ar_hd (x93.toInt = 1 → aw_hold S90 (aw_h S90))) → (1024 - x94.toInt).toNat < N → aw_W tb h d aj_m246 147 lv91 [] S90 ((ar_QB s h [24, 25, 26, 27, 28, 29, 30, 31, 33, 34, 35, 36, 38, 39, 40, 41, 43, 44, 45] [10, 12, 20, 22] S aw_B (fun S' => aw_G (nm, false, la, 0, 0, 0) S' ∧ (S.1 30).toInt + 1 ≤ (S'.1 30).toInt))) := by
  have hs : aw_sT s := aw_hy_sT hU.2.2
  intro N147
  induction N147 with
  | zero =>
    intro S90 lv91 x92 x93 x94 hlv91_0 hlv91_1 hlv91_3 hlv91_4 hI95 fr96 bx93 bx94 ck147 q147 h147 hm147
    omega
  | succ N147 ihL147_88 =>
    intro S90 lv91 x92 x93 x94 hlv91_0 hlv91_1 hlv91_3 hlv91_4 hI95 fr96 bx93 bx94 ck147 q147 h147 hm147
    have hI97 : aw_I s h (aw_sm S90) S90 := ⟨hI95.1, aw_sm_rf⟩
    have b98 : 0 ≤ (S90.1 0).toInt ∧ (S90.1 0).toInt ≤ 1 := aw_bd_f hs (hI97).1 (by decide) rfl
    have b99 : 0 ≤ (S90.1 30).toInt ∧ (S90.1 30).toInt ≤ 1001 := aw_bd_f hs (hI97).1 (by decide) rfl
    have b100 : 0 ≤ (S90.1 37).toInt ∧ (S90.1 37).toInt ≤ 1 := aw_bd_f hs (hI97).1 (by decide) rfl
    refine aw_l0 aj_d246 rfl rfl hlv91_4 ?_
    refine aw_l2 aj_d246 rfl rfl hlv91_0 ?_
    refine aw_g hU.1 aj_d246 rfl rfl (by decide) (v := .ref 122) rfl ?_
    refine aw_l2 aj_d246 rfl rfl hlv91_0 ?_
    refine aw_g hU.1 aj_d246 rfl rfl (by decide) (v := .int (S90.1 37)) rfl ?_
    refine aw_ld (k := 5) hU.1 aj_d246 (Or.inl ⟨rfl, rfl⟩) rfl (by decide) (by decide) rfl (a := (S90.1 37).toInt) rfl (by omega) (by omega) (fun x101 ex101 => ?_)
    have bx101 : 0 ≤ x101.toInt ∧ x101.toInt ≤ 1024 := by
      rw [ex101]
      exact aw_bd_a hs (hI97).1 (k := 5) (by decide) (by decide) rfl (by decide) rfl (by omega)
    have ftx101 : x101.toInt = (S90.2.2.1 5 ((S90.1 37).toInt).toNat).toInt := congrArg Int32.toInt (ex101.trans (congrFun rfl _))
    have yx101 : x101.toInt = (S90.2.2.1 5 (aw_h S90)).toInt := (congrArg Int32.toInt ex101).trans (by unfold aw_h; rw [show (S90.1 37).toInt = (S90.1 37).toInt from rfl])
    refine aw_c (tgt := 190) aj_d246 rfl rfl (fun q102 => ?_) (fun q102 => ?_)
    · have q102 : x94.toInt ≥ x101.toInt := aw_t_ge (a := x94.toInt) (b := x101.toInt) rfl rfl q102
      refine aw_l0 aj_d246 rfl rfl hlv91_3 ?_
      refine aw_z (tgt := 204) aj_d246 rfl rfl (fun q103 => ?_) (fun q103 => ?_)
      · have q103 : x93.toInt ≠ (0 : Int) := aw_t_ne (a := x93.toInt) (b := (0 : Int)) rfl rfl q103
        refine aw_n aj_d246 rfl rfl ?_
        refine aw_n aj_d246 rfl rfl ?_
        refine aw_e aj_d246 rfl rfl ?_
        exact ⟨(hI97).1, fr96, Or.inr ⟨_, rfl, rfl, ar_un q147 (ar_un h147 (by omega)), (show _ + 1 ≤ ((S90.1 30)).toInt by omega)⟩⟩
      · have q103 : x93.toInt = (0 : Int) := aw_t_ne (a := x93.toInt) (b := (0 : Int)) rfl rfl q103
        refine aw_l2 aj_d246 rfl rfl hlv91_0 ?_
        refine aw_n aj_d246 rfl rfl ?_
        refine aw_l0 aj_d246 rfl rfl hlv91_1 ?_
        refine aw_k hU.1 aj_d246 rfl rfl [_, _] rfl rfl rfl (Nat.le_of_ble_eq_true rfl) (ar_stop hU (hI97).1 (by omega) (a := (7 : Int)) rfl) ?_
        rintro _ S104 ⟨hT104, fc104, rfl, hz104⟩
        have hG104 : aw_B S104 := aw_B_fr hI95.2 (by decide) (by decide) (by decide) (by decide) (by decide) (by decide) (by decide) fc104
        have fr105 := aw_fr_tr fr96 (aw_fr_sub (F := [24, 25, 31]) (A := []) (by decide) (by decide) fc104)
        have hI106 : aw_I s h (aw_sm S104) S104 := ⟨hT104, aw_sm_rf⟩
        show aw_W _ _ _ _ 201 lv91 [.int (Int32.ofInt 0)] _ _
        refine aw_z (tgt := 208) aj_d246 rfl rfl (fun q107 => ?_) (fun q107 => ?_)
        · have q107 : (0 : Int) = (0 : Int) := aw_t_eq (a := (0 : Int)) (b := (0 : Int)) rfl rfl q107
          refine aw_n aj_d246 rfl rfl ?_
          refine aw_e aj_d246 rfl rfl ?_
          exact ⟨(hI106).1, fr105, Or.inl ⟨_, rfl, rfl, hG104⟩⟩
        · have q107 : (0 : Int) ≠ (0 : Int) := aw_t_eq (a := (0 : Int)) (b := (0 : Int)) rfl rfl q107
          exfalso
          omega
    · have q102 : x94.toInt < x101.toInt := aw_t_ge (a := x94.toInt) (b := x101.toInt) rfl rfl q102
      refine aw_l0 aj_d246 rfl rfl hlv91_3 ?_
      refine aw_z (tgt := 178) aj_d246 rfl rfl (fun q108 => ?_) (fun q108 => ?_)
      · have q108 : x93.toInt ≠ (0 : Int) := aw_t_ne (a := x93.toInt) (b := (0 : Int)) rfl rfl q108
        refine aw_n aj_d246 rfl rfl ?_
        refine aw_n aj_d246 rfl rfl ?_
        refine aw_t0 (j := 3) aj_d246 rfl (by decide) rfl ?_
        obtain ⟨lv109, elv109⟩ : ∃ l, l = aj_set1 lv91 3 (.int (Int32.ofInt 1)) := ⟨_, rfl⟩
        rw [← elv109]
        have hlv109_0 : aj_lv lv109 0 = some (.ref 117) := cw_e1 elv109 hlv91_0 (by decide) (Or.inl (by decide))
        have hlv109_1 : aj_lv lv109 1 = some (.int x92) := cw_e1 elv109 hlv91_1 (by decide) (Or.inl (by decide))
        have hlv109_4 : aj_lv lv109 4 = some (.int x94) := cw_e1 elv109 hlv91_4 (by decide) (Or.inl (by decide))
        have hlv109_3 : aj_lv lv109 3 = some (.int (Int32.ofInt 1)) := by rw [elv109]; exact ak_set1_eq _ _ _
        show aw_W _ _ _ _ 184 lv109 [] _ _
        refine aw_inc aj_d246 rfl hlv109_4 (a := x94.toInt) rfl (by omega) (by omega) (by decide) (by decide) (fun x110 ex110 => ?_)
        obtain ⟨lv111, elv111⟩ : ∃ l, l = aj_set1 lv109 4 (.int x110) := ⟨_, rfl⟩
        rw [← elv111]
        have hlv111_0 : aj_lv lv111 0 = some (.ref 117) := cw_e1 elv111 hlv109_0 (by decide) (Or.inl (by decide))
        have hlv111_1 : aj_lv lv111 1 = some (.int x92) := cw_e1 elv111 hlv109_1 (by decide) (Or.inl (by decide))
        have hlv111_3 : aj_lv lv111 3 = some (.int (Int32.ofInt 1)) := cw_e1 elv111 hlv109_3 (by decide) (Or.inr rfl)
        have hlv111_4 : aj_lv lv111 4 = some (.int x110) := by rw [elv111]; exact ak_set1_eq _ _ _
        show aw_W _ _ _ _ 187 lv111 [] _ _
        refine aw_n aj_d246 rfl rfl ?_
        exact ihL147_88 S90 lv111 (x92) ((Int32.ofInt 1)) (x110) hlv111_0 hlv111_1 hlv111_3 hlv111_4 ⟨(hI97).1, hI95.2⟩ fr96 (by first | omega | decide) (by omega) (show _ ≤ ((S90.1 30)).toInt by omega) q147 (ar_mk (fun _ => ar_un h147 (by omega))) (by omega)
      · have q108 : x93.toInt = (0 : Int) := aw_t_ne (a := x93.toInt) (b := (0 : Int)) rfl rfl q108
        refine aw_l2 aj_d246 rfl rfl hlv91_0 ?_
        refine aw_l2 aj_d246 rfl rfl hlv91_0 ?_
        refine aw_g hU.1 aj_d246 rfl rfl (by decide) (v := .int (S90.1 37)) rfl ?_
        refine aw_l0 aj_d246 rfl rfl hlv91_4 ?_
        refine aw_k hU.1 aj_d246 rfl rfl [_, _] rfl rfl rfl (Nat.le_of_ble_eq_true rfl) (ar_isHeld hU (hI97).1 (by omega) (t := (S90.1 37)) (x := x94) (by omega) (by omega)) ?_
        rintro _ zb112 ⟨fb112, b112, rfl, kb112⟩
        rw [fb112]
        rcases kb112 with ⟨hb112, pb112⟩ | ⟨hb112, pb112⟩
        · skip
          show aw_W _ _ _ _ 175 lv91 [.int b112] _ _
          refine aw_z (tgt := 182) aj_d246 rfl rfl (fun q113 => ?_) (fun q113 => ?_)
          · have q113 : (1 : Int) = (0 : Int) := aw_t_eq (a := (1 : Int)) (b := (0 : Int)) hb112 rfl q113
            exfalso
            omega
          · have q113 : (1 : Int) ≠ (0 : Int) := aw_t_eq (a := (1 : Int)) (b := (0 : Int)) hb112 rfl q113
            refine aw_n aj_d246 rfl rfl ?_
            refine aw_n aj_d246 rfl rfl ?_
            refine aw_t0 (j := 3) aj_d246 rfl (by decide) rfl ?_
            obtain ⟨lv114, elv114⟩ : ∃ l, l = aj_set1 lv91 3 (.int (Int32.ofInt 1)) := ⟨_, rfl⟩
            rw [← elv114]
            have hlv114_0 : aj_lv lv114 0 = some (.ref 117) := cw_e1 elv114 hlv91_0 (by decide) (Or.inl (by decide))
            have hlv114_1 : aj_lv lv114 1 = some (.int x92) := cw_e1 elv114 hlv91_1 (by decide) (Or.inl (by decide))
            have hlv114_4 : aj_lv lv114 4 = some (.int x94) := cw_e1 elv114 hlv91_4 (by decide) (Or.inl (by decide))
            have hlv114_3 : aj_lv lv114 3 = some (.int (Int32.ofInt 1)) := by rw [elv114]; exact ak_set1_eq _ _ _
            show aw_W _ _ _ _ 184 lv114 [] _ _
            refine aw_inc aj_d246 rfl hlv114_4 (a := x94.toInt) rfl (by omega) (by omega) (by decide) (by decide) (fun x115 ex115 => ?_)
            obtain ⟨lv116, elv116⟩ : ∃ l, l = aj_set1 lv114 4 (.int x115) := ⟨_, rfl⟩
            rw [← elv116]
            have hlv116_0 : aj_lv lv116 0 = some (.ref 117) := cw_e1 elv116 hlv114_0 (by decide) (Or.inl (by decide))
            have hlv116_1 : aj_lv lv116 1 = some (.int x92) := cw_e1 elv116 hlv114_1 (by decide) (Or.inl (by decide))
            have hlv116_3 : aj_lv lv116 3 = some (.int (Int32.ofInt 1)) := cw_e1 elv116 hlv114_3 (by decide) (Or.inr rfl)
            have hlv116_4 : aj_lv lv116 4 = some (.int x115) := by rw [elv116]; exact ak_set1_eq _ _ _
            show aw_W _ _ _ _ 187 lv116 [] _ _
            refine aw_n aj_d246 rfl rfl ?_
            exact ihL147_88 S90 lv116 (x92) ((Int32.ofInt 1)) (x115) hlv116_0 hlv116_1 hlv116_3 hlv116_4 ⟨(hI97).1, hI95.2⟩ fr96 (by first | omega | decide) (by omega) (show _ ≤ ((S90.1 30)).toInt by omega) q147 (ar_mk (fun _ => ⟨(x94.toInt).toNat, by omega, pb112⟩)) (by omega)
        · skip
          show aw_W _ _ _ _ 175 lv91 [.int b112] _ _
          refine aw_z (tgt := 182) aj_d246 rfl rfl (fun q117 => ?_) (fun q117 => ?_)
          · have q117 : (0 : Int) = (0 : Int) := aw_t_eq (a := (0 : Int)) (b := (0 : Int)) hb112 rfl q117
            refine aw_n aj_d246 rfl rfl ?_
            refine aw_t0 (j := 3) aj_d246 rfl (by decide) rfl ?_
            obtain ⟨lv118, elv118⟩ : ∃ l, l = aj_set1 lv91 3 (.int (Int32.ofInt 0)) := ⟨_, rfl⟩
            rw [← elv118]
            have hlv118_0 : aj_lv lv118 0 = some (.ref 117) := cw_e1 elv118 hlv91_0 (by decide) (Or.inl (by decide))
            have hlv118_1 : aj_lv lv118 1 = some (.int x92) := cw_e1 elv118 hlv91_1 (by decide) (Or.inl (by decide))
            have hlv118_4 : aj_lv lv118 4 = some (.int x94) := cw_e1 elv118 hlv91_4 (by decide) (Or.inl (by decide))
            have hlv118_3 : aj_lv lv118 3 = some (.int (Int32.ofInt 0)) := by rw [elv118]; exact ak_set1_eq _ _ _
            show aw_W _ _ _ _ 184 lv118 [] _ _
            refine aw_inc aj_d246 rfl hlv118_4 (a := x94.toInt) rfl (by omega) (by omega) (by decide) (by decide) (fun x119 ex119 => ?_)
            obtain ⟨lv120, elv120⟩ : ∃ l, l = aj_set1 lv118 4 (.int x119) := ⟨_, rfl⟩
            rw [← elv120]
            have hlv120_0 : aj_lv lv120 0 = some (.ref 117) := cw_e1 elv120 hlv118_0 (by decide) (Or.inl (by decide))
            have hlv120_1 : aj_lv lv120 1 = some (.int x92) := cw_e1 elv120 hlv118_1 (by decide) (Or.inl (by decide))
            have hlv120_3 : aj_lv lv120 3 = some (.int (Int32.ofInt 0)) := cw_e1 elv120 hlv118_3 (by decide) (Or.inr rfl)
            have hlv120_4 : aj_lv lv120 4 = some (.int x119) := by rw [elv120]; exact ak_set1_eq _ _ _
            show aw_W _ _ _ _ 187 lv120 [] _ _
            refine aw_n aj_d246 rfl rfl ?_
            exact ihL147_88 S90 lv120 (x92) ((Int32.ofInt 0)) (x119) hlv120_0 hlv120_1 hlv120_3 hlv120_4 ⟨(hI97).1, hI95.2⟩ fr96 (by first | omega | decide) (by omega) (show _ ≤ ((S90.1 30)).toInt by omega) q147 (ar_mk (fun z => absurd z (by first | decide | omega))) (by omega)
          · have q117 : (0 : Int) ≠ (0 : Int) := aw_t_eq (a := (0 : Int)) (b := (0 : Int)) hb112 rfl q117
            exfalso
            omega
theorem ar_always_L91_64 (hU : aw_U tb s h) (hd : 9 ≤ d + 1)  : ∀ (N : Nat) (S66 : aj_S) (lv67 : aj_V) (x68 : Int32) (x69 : Int32) (x70 : Int32) (x71 : Int32), (aj_lv lv67 0 = some (.ref 117)) → (aj_lv lv67 1 = some (.int x68)) → (aj_lv lv67 2 = some (.int x69)) → (aj_lv lv67 3 = some (.int x70)) → (aj_lv lv67 4 = some (.int x71)) → (aw_I s h (aw_G (nm, false, la, 0, 0, 0)) S66) → (aw_fr [24, 25, 26, 27, 28, 29, 30, 31, 33, 34, 35, 36, 38, 39, 40, 41, 43, 44, 45] [10, 12, 20, 22] S S66) → (0 ≤ x70.toInt ∧ x70.toInt ≤ 0) → (0 ≤ x71.toInt ∧ x71.toInt ≤ 1024) → ((S.1 30).toInt + 1 ≤ (S66.1 30).toInt) → ((S66.1 32).toInt = 1) → ((S66.2.2.1 10 (aw_h S66)).toInt + 1 ≤ (S66.1 45).toInt) → (x69.toInt = ((S66.1 37).toInt * 20 + (S66.2.2.1 10 (aw_h S66)).toInt) * 32) → (1024 - x71.toInt).toNat < N → aw_W tb h d aj_m246 91 lv67 [] S66 ((ar_QB s h [24, 25, 26, 27, 28, 29, 30, 31, 33, 34, 35, 36, 38, 39, 40, 41, 43, 44, 45] [10, 12, 20, 22] S aw_B (fun S' => aw_G (nm, false, la, 0, 0, 0) S' ∧ (S.1 30).toInt + 1 ≤ (S'.1 30).toInt))) := by
  have hs : aw_sT s := aw_hy_sT hU.2.2
  intro N91
  induction N91 with
  | zero =>
    intro S66 lv67 x68 x69 x70 x71 hlv67_0 hlv67_1 hlv67_2 hlv67_3 hlv67_4 hI72 fr73 bx70 bx71 ck91 wk91 pa91 e91 hm91
    omega
  | succ N91 ihL91_64 =>
    intro S66 lv67 x68 x69 x70 x71 hlv67_0 hlv67_1 hlv67_2 hlv67_3 hlv67_4 hI72 fr73 bx70 bx71 ck91 wk91 pa91 e91 hm91
    have hI74 : aw_I s h (aw_sm S66) S66 := ⟨hI72.1, aw_sm_rf⟩
    have b75 : 0 ≤ (S66.1 0).toInt ∧ (S66.1 0).toInt ≤ 1 := aw_bd_f hs (hI74).1 (by decide) rfl
    have b76 : 0 ≤ (S66.1 30).toInt ∧ (S66.1 30).toInt ≤ 1001 := aw_bd_f hs (hI74).1 (by decide) rfl
    have b77 : 0 ≤ (S66.1 32).toInt ∧ (S66.1 32).toInt ≤ 1 := aw_bd_f hs (hI74).1 (by decide) rfl
    have b78 : 0 ≤ (S66.1 37).toInt ∧ (S66.1 37).toInt ≤ 1 := aw_bd_f hs (hI74).1 (by decide) rfl
    have b79 : 0 ≤ (S66.1 45).toInt ∧ (S66.1 45).toInt ≤ 12 := aw_bd_f hs (hI74).1 (by decide) rfl
    have b5 : ∀ t, t ≤ 1 → (S66.2.2.1 5 t).toInt ≤ 1024 := fun t ht => (aw_bd_a hs hI74.1 (k := 5) (j := t) (by decide) (by decide) rfl (by decide) rfl (by omega)).2
    have b10 : ∀ t, t ≤ 1 → 0 ≤ (S66.2.2.1 10 t).toInt ∧ (S66.2.2.1 10 t).toInt ≤ 20 := fun t ht => aw_bd_a hs hI74.1 (k := 10) (j := t) (by decide) (by decide) rfl (by decide) rfl (by omega)
    have l0 : aw_hh S66 ≤ 1 := by unfold aw_hh; omega
    have l1 : aw_h S66 ≤ 1 := by unfold aw_h; omega
    have b10h := b10 _ l1
    refine aw_l0 aj_d246 rfl rfl hlv67_4 ?_
    refine aw_l2 aj_d246 rfl rfl hlv67_0 ?_
    refine aw_g hU.1 aj_d246 rfl rfl (by decide) (v := .ref 122) rfl ?_
    refine aw_l2 aj_d246 rfl rfl hlv67_0 ?_
    refine aw_g hU.1 aj_d246 rfl rfl (by decide) (v := .int (S66.1 37)) rfl ?_
    refine aw_ld (k := 5) hU.1 aj_d246 (Or.inl ⟨rfl, rfl⟩) rfl (by decide) (by decide) rfl (a := (S66.1 37).toInt) rfl (by omega) (by omega) (fun x80 ex80 => ?_)
    have bx80 : 0 ≤ x80.toInt ∧ x80.toInt ≤ 1024 := by
      rw [ex80]
      exact aw_bd_a hs (hI74).1 (k := 5) (by decide) (by decide) rfl (by decide) rfl (by omega)
    have ftx80 : x80.toInt = (S66.2.2.1 5 ((S66.1 37).toInt).toNat).toInt := congrArg Int32.toInt (ex80.trans (congrFun rfl _))
    have yx80 : x80.toInt = (S66.2.2.1 5 (aw_h S66)).toInt := (congrArg Int32.toInt ex80).trans (by unfold aw_h; rw [show (S66.1 37).toInt = (S66.1 37).toInt from rfl])
    refine aw_c (tgt := 131) aj_d246 rfl rfl (fun q81 => ?_) (fun q81 => ?_)
    · have q81 : x71.toInt ≥ x80.toInt := aw_t_ge (a := x71.toInt) (b := x80.toInt) rfl rfl q81
      refine aw_l2 aj_d246 rfl rfl hlv67_0 ?_
      refine aw_g hU.1 aj_d246 rfl rfl (by decide) (v := .ref 127) rfl ?_
      refine aw_l2 aj_d246 rfl rfl hlv67_0 ?_
      refine aw_g hU.1 aj_d246 rfl rfl (by decide) (v := .int (S66.1 37)) rfl ?_
      refine aw_n aj_d246 rfl rfl ?_
      refine aw_ld (k := 10) hU.1 aj_d246 (Or.inl ⟨rfl, rfl⟩) rfl (by decide) (by decide) rfl (a := (S66.1 37).toInt) rfl (by omega) (by omega) (fun x82 ex82 => ?_)
      have bx82 : 0 ≤ x82.toInt ∧ x82.toInt ≤ 20 := by
        rw [ex82]
        exact aw_bd_a hs (hI74).1 (k := 10) (by decide) (by decide) rfl (by decide) rfl (by omega)
      have ftx82 : x82.toInt = (S66.2.2.1 10 ((S66.1 37).toInt).toNat).toInt := congrArg Int32.toInt (ex82.trans (congrFun rfl _))
      have yx82 : x82.toInt = (S66.2.2.1 10 (aw_h S66)).toInt := (congrArg Int32.toInt ex82).trans (by unfold aw_h; rw [show (S66.1 37).toInt = (S66.1 37).toInt from rfl])
      refine aw_n aj_d246 rfl rfl ?_
      refine aw_add aj_d246 rfl (a := x82.toInt) (b := (1 : Int)) rfl rfl (by omega) (by omega) (fun x83 ex83 => ?_)
      refine aw_st (k := 10) hU.1 aj_d246 (Or.inl ⟨rfl, rfl⟩) rfl (by decide) (by decide) rfl (a := (S66.1 37).toInt) rfl (by omega) (by omega) ?_
      have hI84 : aw_I s h (aw_sm (aw_wa S66 10 ((S66.1 37).toInt).toNat (aj_nar 0 x83))) (aw_wa S66 10 ((S66.1 37).toInt).toNat (aj_nar 0 x83)) := ⟨aw_T_a hU.2.1 hs hU.1.1 (hI74).1 (by decide) (by decide) rfl (by decide) (by decide) rfl (aw_bp (a := x83.toInt) rfl (by omega) (by omega)), aw_sm_rf⟩
      have fr85 := aw_fr_a (k := 10) (j := ((S66.1 37).toInt).toNat) (v := aj_nar 0 x83) (by decide) fr73
      have hjhG86 : ((S66.1 37).toInt).toNat = aw_h S66 := rfl
      have hxhG86 : (aj_nar 0 x83).toInt ≤ (S66.1 45).toInt := (show (x83).toInt ≤ _ by omega)
      have qhG86 : ar_hd (aw_hold (aw_wa S66 10 ((S66.1 37).toInt).toNat (aj_nar 0 x83)) (aw_h (aw_wa S66 10 ((S66.1 37).toInt).toNat (aj_nar 0 x83))) → aw_G (nm, false, la, 0, 0, 0) (aw_wa S66 10 ((S66.1 37).toInt).toNat (aj_nar 0 x83))) := ar_mk (fun z => aw_G_p10 hI72.2 l0 wk91 hjhG86 hxhG86 z)
      have hG86 : aw_B (aw_wa S66 10 ((S66.1 37).toInt).toNat (aj_nar 0 x83)) := aw_B_p10 hI72.2 l0 hjhG86
      have hI87 : aw_I s h (aw_sm (aw_wa S66 10 ((S66.1 37).toInt).toNat (aj_nar 0 x83))) (aw_wa S66 10 ((S66.1 37).toInt).toNat (aj_nar 0 x83)) := ⟨(hI84).1, aw_sm_rf⟩
      refine aw_n aj_d246 rfl rfl ?_
      refine aw_t0 (j := 4) aj_d246 rfl (by decide) rfl ?_
      obtain ⟨lv88, elv88⟩ : ∃ l, l = aj_set1 lv67 4 (.int (Int32.ofInt 0)) := ⟨_, rfl⟩
      rw [← elv88]
      have hlv88_0 : aj_lv lv88 0 = some (.ref 117) := cw_e1 elv88 hlv67_0 (by decide) (Or.inl (by decide))
      have hlv88_1 : aj_lv lv88 1 = some (.int x68) := cw_e1 elv88 hlv67_1 (by decide) (Or.inl (by decide))
      have hlv88_3 : aj_lv lv88 3 = some (.int x70) := cw_e1 elv88 hlv67_3 (by decide) (Or.inr rfl)
      have hlv88_4 : aj_lv lv88 4 = some (.int (Int32.ofInt 0)) := by rw [elv88]; exact ak_set1_eq _ _ _
      show aw_W _ _ _ _ 147 lv88 [] _ _
      exact (ar_always_L147_88 hU hd N91 S66 x68 x69 x70 x71 ihL91_64 hm91) _ (aw_wa S66 10 ((S66.1 37).toInt).toNat (aj_nar 0 x83)) lv88 (x68) (x70) ((Int32.ofInt 0)) hlv88_0 hlv88_1 hlv88_3 hlv88_4 ⟨(hI87).1, hG86⟩ fr85 (by first | omega | decide) (by first | omega | decide) (show _ ≤ ((S66.1 30)).toInt by omega) qhG86 (ar_mk (fun z => absurd z (by omega))) (Nat.lt_succ_self _)
    · have q81 : x71.toInt < x80.toInt := aw_t_ge (a := x71.toInt) (b := x80.toInt) rfl rfl q81
      refine aw_l2 aj_d246 rfl rfl hlv67_0 ?_
      refine aw_g hU.1 aj_d246 rfl rfl (by decide) (v := .ref 129) rfl ?_
      refine aw_l0 aj_d246 rfl rfl hlv67_2 ?_
      refine aw_l0 aj_d246 rfl rfl hlv67_4 ?_
      refine aw_l2 aj_d246 rfl rfl hlv67_0 ?_
      refine aw_g hU.1 aj_d246 rfl rfl (by decide) (v := .ref 137) rfl ?_
      refine aw_n aj_d246 rfl rfl ?_
      refine aw_l0 aj_d246 rfl rfl hlv67_4 ?_
      refine aw_ks aj_d246 rfl rfl rfl [_, _, _] rfl rfl (Nat.le_of_ble_eq_true rfl) (ar_bit hU (by omega) (k := 20) (n := 1024) (by decide) (by decide) rfl (a := (0 : Int)) (b := x71.toInt) rfl rfl (by omega) (by omega) (by omega) (by decide)) ?_
      rintro _ zx121 ⟨fx121, x121, rfl, hx121, ex121⟩
      rw [fx121]
      show aw_W _ _ _ _ 122 lv67 [.int x121, .int x71, .int x69, .ref 129] _ _
      refine aw_ks aj_d246 rfl rfl rfl [_, _, _, _] rfl rfl (Nat.le_of_ble_eq_true rfl) (ar_put hU (hI74).1 (by omega) (k := 12) (n := 1280) (by decide) (by decide) rfl rfl (a := x69.toInt) (b := x71.toInt) rfl rfl (by omega) (by omega) (by omega) (by decide)) ?_
      rintro _ S122 ⟨hT122, fc122, rfl, pe122⟩
      have fr123 := aw_fr_tr fr73 (aw_fr_sub (F := []) (A := [12]) (by decide) (by decide) fc122)
      have hI124 : aw_I s h (aw_sm S122) S122 := ⟨hT122, aw_sm_rf⟩
      show aw_W _ _ _ _ 125 lv67 [] _ _
      have hG125 : aw_G (nm, false, la, 0, 0, 0) S122 := by
        rw [pe122]
        refine aw_G_p12 hI72.2 l0 b5 b10 (by omega) ?_
        show (((x69.toInt + x71.toInt / 32).toNat : Nat) : Int) / 32 = (((S66.1 37).toInt.toNat : Nat) : Int) * 20 + _
        omega
      have hI126 : aw_I s h (aw_sm S122) S122 := ⟨(hI124).1, aw_sm_rf⟩
      refine aw_inc aj_d246 rfl hlv67_4 (a := x71.toInt) rfl (by omega) (by omega) (by decide) (by decide) (fun x127 ex127 => ?_)
      obtain ⟨lv128, elv128⟩ : ∃ l, l = aj_set1 lv67 4 (.int x127) := ⟨_, rfl⟩
      rw [← elv128]
      have hlv128_0 : aj_lv lv128 0 = some (.ref 117) := cw_e1 elv128 hlv67_0 (by decide) (Or.inl (by decide))
      have hlv128_1 : aj_lv lv128 1 = some (.int x68) := cw_e1 elv128 hlv67_1 (by decide) (Or.inl (by decide))
      have hlv128_2 : aj_lv lv128 2 = some (.int x69) := cw_e1 elv128 hlv67_2 (by decide) (Or.inl (by decide))
      have hlv128_3 : aj_lv lv128 3 = some (.int x70) := cw_e1 elv128 hlv67_3 (by decide) (Or.inr rfl)
      have hlv128_4 : aj_lv lv128 4 = some (.int x127) := by rw [elv128]; exact ak_set1_eq _ _ _
      show aw_W _ _ _ _ 128 lv128 [] _ _
      refine aw_n aj_d246 rfl rfl ?_
      have c129 : (S122.1 30).toInt = (S66.1 30).toInt := (congrArg Int32.toInt (fc122.1 30 (by decide)).1).trans rfl
      have b130 : 0 ≤ (S122.1 30).toInt ∧ (S122.1 30).toInt ≤ 1001 := aw_bd_f hs (hI124).1 (by decide) rfl
      exact ihL91_64 S122 lv128 (x68) (x69) (x70) (x127) hlv128_0 hlv128_1 hlv128_2 hlv128_3 hlv128_4 ⟨(hI126).1, hG125⟩ fr123 (by first | omega | decide) (by omega) (show _ ≤ ((S122.1 30)).toInt by omega) (by rw [pe122]; exact wk91) (by rw [pe122]; exact pa91) (by rw [pe122]; exact e91) (by omega)
theorem ar_alwaysTold (hU : aw_U tb s h) (hT : ak_Ty ak_TN s (aj_mh h S)) (hG : aw_G (nm, false, la, 0, 0, 0) S) (hd : 9 ≤ d) (hk : (S.1 26).toInt = 4 ∧ (S.1 29).toInt = 4) : aw_K tb h d 246 [.ref 117] S (ar_QB s h [24, 25, 26, 27, 28, 29, 30, 31, 33, 34, 35, 36, 38, 39, 40, 41, 43, 44, 45] [10, 12, 20, 22] S aw_B (fun S' => aw_G (nm, false, la, 0, 0, 0) S' ∧ (S.1 30).toInt + 1 ≤ (S'.1 30).toInt)) := by
  obtain ⟨d, rfl⟩ : ∃ e, d = e + 1 := ⟨d - 1, by omega⟩
  have hs : aw_sT s := aw_hy_sT hU.2.2
  refine aw_m aj_m246_at rfl (Nat.le_of_ble_eq_true rfl) ?_
  show aw_W _ _ _ _ 0 [(0, .ref 117)] [] _ _
  obtain ⟨lv1, elv1⟩ : ∃ l : aj_V, l = [(0, .ref 117)] := ⟨_, rfl⟩
  rw [← elv1]
  have hlv1_0 : aj_lv lv1 0 = some (.ref 117) := by rw [elv1]; rfl
  have hI2 : aw_I s h (aw_sm S) S := ⟨hT, aw_sm_rf⟩
  have fr3 : aw_fr [24, 25, 26, 27, 28, 29, 30, 31, 33, 34, 35, 36, 38, 39, 40, 41, 43, 44, 45] [10, 12, 20, 22] S S := aw_fr_rf
  refine aw_l2 aj_d246 rfl rfl hlv1_0 ?_
  have b4 : 0 ≤ (S.1 27).toInt ∧ (S.1 27).toInt ≤ 4000 := aw_bd_f hs (hI2).1 (by decide) rfl
  refine aw_g hU.1 aj_d246 rfl rfl (by decide) (v := .int (S.1 27)) rfl ?_
  refine aw_t0 (j := 1) aj_d246 rfl (by decide) rfl ?_
  obtain ⟨lv5, elv5⟩ : ∃ l, l = aj_set1 lv1 1 (.int (S.1 27)) := ⟨_, rfl⟩
  rw [← elv5]
  have hlv5_0 : aj_lv lv5 0 = some (.ref 117) := cw_e1 elv5 hlv1_0 (by decide) (Or.inr rfl)
  have hlv5_1 : aj_lv lv5 1 = some (.int (S.1 27)) := by rw [elv5]; exact ak_set1_eq _ _ _
  show aw_W _ _ _ _ 5 lv5 [] _ _
  refine aw_l2 aj_d246 rfl rfl hlv5_0 ?_
  have b6 : 0 ≤ (S.1 45).toInt ∧ (S.1 45).toInt ≤ 12 := aw_bd_f hs (hI2).1 (by decide) rfl
  refine aw_g hU.1 aj_d246 rfl rfl (by decide) (v := .int (S.1 45)) rfl ?_
  refine aw_n aj_d246 rfl rfl ?_
  refine aw_c (tgt := 21) aj_d246 rfl rfl (fun q7 => ?_) (fun q7 => ?_)
  · have q7 : (S.1 45).toInt ≠ (12 : Int) := aw_t_ne (a := (S.1 45).toInt) (b := (12 : Int)) rfl rfl q7
    refine aw_l2 aj_d246 rfl rfl hlv5_0 ?_
    refine aw_n aj_d246 rfl rfl ?_
    refine aw_g hU.1 aj_d246 rfl rfl (by decide) (v := .int (S.1 45)) rfl ?_
    refine aw_n aj_d246 rfl rfl ?_
    refine aw_add aj_d246 rfl (a := (S.1 45).toInt) (b := (1 : Int)) rfl rfl (by omega) (by omega) (fun x8 ex8 => ?_)
    refine aw_p hU.1 aj_d246 rfl rfl (by decide) rfl ?_
    have hI9 : aw_I s h (aw_sm (aw_wf S 45 x8)) (aw_wf S 45 x8) := ⟨aw_T_f hU.2.1 hs hU.1.1 (hI2).1 (by decide) rfl (aw_bp (a := x8.toInt) rfl (by omega) (by omega)), aw_sm_rf⟩
    have fr10 := aw_fr_f (k := 45) (v := x8) (by decide) fr3
    have hG11 : aw_G (nm, false, la, 0, 0, 0) (aw_wf S 45 x8) := aw_G_al hG (show _ ≤ (x8).toInt by omega)
    have hI12 : aw_I s h (aw_sm (aw_wf S 45 x8)) (aw_wf S 45 x8) := ⟨(hI9).1, aw_sm_rf⟩
    refine aw_l2 aj_d246 rfl rfl hlv5_0 ?_
    have i4 : aw_is (aw_tT S) (aw_tJ S) 4 4 := ⟨hG.1.2.1.1.symm.trans hk.1, hG.1.2.1.2.2.2.symm.trans hk.2⟩
    have ni : ∀ b : Int, b ≠ 4 → ¬ aw_is (aw_tT S) (aw_tJ S) 4 b := fun b b1 z => b1 (z.2.symm.trans i4.2)
    have n3 : ¬ aw_is (aw_tT S) (aw_tJ S) 3 63 := fun z => absurd (i4.1.symm.trans z.1) (by decide)
    refine aw_k hU.1 aj_d246 rfl rfl [] rfl rfl rfl (Nat.le_of_ble_eq_true rfl) (ar_passG (ho' := 0) (hu' := 0) (ht' := 0) hU (hI12).1 hG11 (by omega) (show (S.1 26).toInt ≠ 0 by omega) ⟨Or.inl rfl, Or.inr ⟨n3, ni 2 (by decide)⟩⟩ (Or.inl ⟨rfl, ni 0 (by decide)⟩) (Or.inl ⟨rfl, fun z => z.elim (ni 1 (by decide)) (ni 5 (by decide))⟩)) ?_
    rintro _ S13 ⟨hT13, fc13, ⟨b13, rfl, hb13, hG13, fd13, hz13⟩ | ⟨b13, rfl, hb13, hG13, fd13, cj13⟩⟩
    have b14 : 0 ≤ (S.1 30).toInt ∧ (S.1 30).toInt ≤ 1001 := aw_bd_f hs (hI2).1 (by decide) rfl
    · skip
      have fr15 := aw_fr_tr fr10 (aw_fr_sub (F := [24, 25, 31]) (A := []) (by decide) (by decide) fd13)
      have hI16 : aw_I s h (aw_sm S13) S13 := ⟨hT13, aw_sm_rf⟩
      show aw_W _ _ _ _ 35 lv5 [.int b13] _ _
      refine aw_z (tgt := 54) aj_d246 rfl rfl (fun q17 => ?_) (fun q17 => ?_)
      · have q17 : (0 : Int) = (0 : Int) := aw_t_eq (a := (0 : Int)) (b := (0 : Int)) hb13 rfl q17
        refine aw_n aj_d246 rfl rfl ?_
        refine aw_e aj_d246 rfl rfl ?_
        exact ⟨(hI16).1, fr15, Or.inl ⟨_, rfl, rfl, aw_G_B hG13⟩⟩
      · have q17 : (0 : Int) ≠ (0 : Int) := aw_t_eq (a := (0 : Int)) (b := (0 : Int)) hb13 rfl q17
        exfalso
        omega
    · skip
      have cj13 : (S13.1 30).toInt = (S.1 30).toInt + 1 := cj13
      have fr18 := aw_fr_tr fr10 (aw_fr_sub (F := [26, 27, 28, 29, 30]) (A := []) (by decide) (by decide) fd13)
      have hI19 : aw_I s h (aw_sm S13) S13 := ⟨hT13, aw_sm_rf⟩
      show aw_W _ _ _ _ 35 lv5 [.int b13] _ _
      refine aw_z (tgt := 54) aj_d246 rfl rfl (fun q20 => ?_) (fun q20 => ?_)
      · have q20 : (1 : Int) = (0 : Int) := aw_t_eq (a := (1 : Int)) (b := (0 : Int)) hb13 rfl q20
        exfalso
        omega
      · have q20 : (1 : Int) ≠ (0 : Int) := aw_t_eq (a := (1 : Int)) (b := (0 : Int)) hb13 rfl q20
        refine aw_l2 aj_d246 rfl rfl hlv5_0 ?_
        have b22 : 0 ≤ (S13.1 30).toInt ∧ (S13.1 30).toInt ≤ 1001 := aw_bd_f hs (hI19).1 (by decide) rfl
        refine aw_k hU.1 aj_d246 rfl rfl [] rfl rfl rfl (Nat.le_of_ble_eq_true rfl) (ar_condition hU (hI19).1 hG13 (by omega)) ?_
        rintro _ S21 ⟨hT21, fc21, ⟨b21, rfl, hb21, hG21, ck21⟩ | ⟨b21, rfl, hb21, hG21, ck21, ex21⟩⟩
        · skip
          have ck21 : ((S13.1 30)).toInt ≤ (S21.1 30).toInt := ck21
          have fr23 := aw_fr_tr fr18 (aw_fr_sub (F := [24, 25, 26, 27, 28, 29, 30, 31, 33, 34, 35, 36, 38, 39, 40, 41, 43, 44]) (A := [20, 22]) (by decide) (by decide) fc21)
          have hI24 : aw_I s h (aw_sm S21) S21 := ⟨hT21, aw_sm_rf⟩
          show aw_W _ _ _ _ 42 lv5 [.int b21] _ _
          refine aw_z (tgt := 54) aj_d246 rfl rfl (fun q25 => ?_) (fun q25 => ?_)
          · have q25 : (0 : Int) = (0 : Int) := aw_t_eq (a := (0 : Int)) (b := (0 : Int)) hb21 rfl q25
            refine aw_n aj_d246 rfl rfl ?_
            refine aw_e aj_d246 rfl rfl ?_
            exact ⟨(hI24).1, fr23, Or.inl ⟨_, rfl, rfl, aw_G_B hG21⟩⟩
          · have q25 : (0 : Int) ≠ (0 : Int) := aw_t_eq (a := (0 : Int)) (b := (0 : Int)) hb21 rfl q25
            exfalso
            omega
        · skip
          have ck21 : ((S13.1 30)).toInt + 1 ≤ (S21.1 30).toInt := ck21
          have fr26 := aw_fr_tr fr18 (aw_fr_sub (F := [24, 25, 26, 27, 28, 29, 30, 31, 33, 34, 35, 36, 38, 39, 40, 41, 43, 44]) (A := [20, 22]) (by decide) (by decide) fc21)
          have hI27 : aw_I s h (aw_sm S21) S21 := ⟨hT21, aw_sm_rf⟩
          show aw_W _ _ _ _ 42 lv5 [.int b21] _ _
          refine aw_z (tgt := 54) aj_d246 rfl rfl (fun q28 => ?_) (fun q28 => ?_)
          · have q28 : (1 : Int) = (0 : Int) := aw_t_eq (a := (1 : Int)) (b := (0 : Int)) hb21 rfl q28
            exfalso
            omega
          · have q28 : (1 : Int) ≠ (0 : Int) := aw_t_eq (a := (1 : Int)) (b := (0 : Int)) hb21 rfl q28
            refine aw_l2 aj_d246 rfl rfl hlv5_0 ?_
            refine aw_n aj_d246 rfl rfl ?_
            have b29 : 0 ≤ (S21.1 30).toInt ∧ (S21.1 30).toInt ≤ 1001 := aw_bd_f hs (hI27).1 (by decide) rfl
            refine aw_k hU.1 aj_d246 rfl rfl [_] rfl rfl rfl (Nat.le_of_ble_eq_true rfl) (aw_toK hU aw_Gs_G (con := ac_c219_59) (by omega) (ar_219_59 hU.2.1 (aw_SPc hU.2.2 aw_Gs_G) aw_kpc (arc_214b hU) (arc_215 hU)) ⟨(hI27).1, hG21⟩ ⟨(aw_g117 hU.2.2), (cw_gw (a := (59 : Int)) rfl (by omega) (by omega)), trivial⟩ (fun e he => nomatch he)) ?_
            rintro r30 S30 ⟨hr30, hJ30, fc30, po30, -⟩
            have hT30 := hJ30.1
            replace fc30 := aw_fr_sub (F' := [24, 25, 26, 27, 28, 29, 30, 31]) (A' := []) (by decide) (by decide) fc30
            rcases ar_bool hU (hI27).1 hT30 hr30 po30 with ⟨b30, rfl, hb30, cf30⟩ | ⟨b30, rfl, hb30, ck30, gq30⟩
            · skip
              have cf30 : (S21.1 30).toInt + 0 ≤ (S30.1 30).toInt := cf30
              have fr31 := aw_fr_tr fr26 (aw_fr_sub (F := [24, 25, 26, 27, 28, 29, 30, 31]) (A := []) (by decide) (by decide) fc30)
              have hI32 : aw_I s h (aw_sm S30) S30 := ⟨hT30, aw_sm_rf⟩
              show aw_W _ _ _ _ 51 lv5 [.int b30] _ _
              refine aw_z (tgt := 56) aj_d246 rfl rfl (fun q33 => ?_) (fun q33 => ?_)
              · have q33 : (0 : Int) ≠ (0 : Int) := aw_t_ne (a := (0 : Int)) (b := (0 : Int)) hb30 rfl q33
                exfalso
                omega
              · have q33 : (0 : Int) = (0 : Int) := aw_t_ne (a := (0 : Int)) (b := (0 : Int)) hb30 rfl q33
                refine aw_n aj_d246 rfl rfl ?_
                refine aw_e aj_d246 rfl rfl ?_
                exact ⟨(hI32).1, fr31, Or.inl ⟨_, rfl, rfl, aw_G_B hJ30.2⟩⟩
            · skip
              have ck30 : (S21.1 30).toInt + 1 ≤ (S30.1 30).toInt := ck30
              have fr34 := aw_fr_tr fr26 (aw_fr_sub (F := [24, 25, 26, 27, 28, 29, 30, 31]) (A := []) (by decide) (by decide) fc30)
              have hI35 : aw_I s h (aw_sm S30) S30 := ⟨hT30, aw_sm_rf⟩
              show aw_W _ _ _ _ 51 lv5 [.int b30] _ _
              refine aw_z (tgt := 56) aj_d246 rfl rfl (fun q36 => ?_) (fun q36 => ?_)
              · have q36 : (1 : Int) ≠ (0 : Int) := aw_t_ne (a := (1 : Int)) (b := (0 : Int)) hb30 rfl q36
                refine aw_l2 aj_d246 rfl rfl hlv5_0 ?_
                have b37 : 0 ≤ (S.1 32).toInt ∧ (S.1 32).toInt ≤ 1 := aw_bd_f hs (hI2).1 (by decide) rfl
                have c38 : (S13.1 32).toInt = (S.1 32).toInt := (congrArg Int32.toInt (fd13.1 32 (by decide)).1).trans rfl
                have b39 : 0 ≤ (S13.1 32).toInt ∧ (S13.1 32).toInt ≤ 1 := aw_bd_f hs (hI19).1 (by decide) rfl
                have c40 : (S21.1 32).toInt = (S.1 32).toInt := (congrArg Int32.toInt (fc21.1 32 (by decide)).1).trans c38
                have b41 : 0 ≤ (S21.1 32).toInt ∧ (S21.1 32).toInt ≤ 1 := aw_bd_f hs (hI27).1 (by decide) rfl
                have c42 : (S30.1 32).toInt = (S.1 32).toInt := (congrArg Int32.toInt (fc30.1 32 (by decide)).1).trans c40
                have b43 : 0 ≤ (S30.1 32).toInt ∧ (S30.1 32).toInt ≤ 1 := aw_bd_f hs (hI35).1 (by decide) rfl
                refine aw_g hU.1 aj_d246 rfl rfl (by decide) (v := .int (S30.1 32)) rfl ?_
                refine aw_z (tgt := 65) aj_d246 rfl rfl (fun q44 => ?_) (fun q44 => ?_)
                · have q44 : (S.1 32).toInt ≠ (0 : Int) := aw_t_ne (a := (S.1 32).toInt) (b := (0 : Int)) c42 rfl q44
                  have b45 : 0 ≤ (S.1 37).toInt ∧ (S.1 37).toInt ≤ 1 := aw_bd_f hs (hI2).1 (by decide) rfl
                  have c46 : (S13.1 37).toInt = (S.1 37).toInt := (congrArg Int32.toInt (fd13.1 37 (by decide)).1).trans rfl
                  have b47 : 0 ≤ (S13.1 37).toInt ∧ (S13.1 37).toInt ≤ 1 := aw_bd_f hs (hI19).1 (by decide) rfl
                  have c48 : (S21.1 37).toInt = (S.1 37).toInt := (congrArg Int32.toInt (fc21.1 37 (by decide)).1).trans c46
                  have b49 : 0 ≤ (S21.1 37).toInt ∧ (S21.1 37).toInt ≤ 1 := aw_bd_f hs (hI27).1 (by decide) rfl
                  have c50 : (S30.1 37).toInt = (S.1 37).toInt := (congrArg Int32.toInt (fc30.1 37 (by decide)).1).trans c48
                  have b51 : 0 ≤ (S30.1 37).toInt ∧ (S30.1 37).toInt ≤ 1 := aw_bd_f hs (hI35).1 (by decide) rfl
                  have c52 : (S13.1 45).toInt = x8.toInt := (congrArg Int32.toInt (fd13.1 45 (by decide)).1).trans rfl
                  have b53 : 0 ≤ (S13.1 45).toInt ∧ (S13.1 45).toInt ≤ 12 := aw_bd_f hs (hI19).1 (by decide) rfl
                  have c54 : (S21.1 45).toInt = x8.toInt := (congrArg Int32.toInt (fc21.1 45 (by decide)).1).trans c52
                  have b55 : 0 ≤ (S21.1 45).toInt ∧ (S21.1 45).toInt ≤ 12 := aw_bd_f hs (hI27).1 (by decide) rfl
                  have c56 : (S30.1 45).toInt = x8.toInt := (congrArg Int32.toInt (fc30.1 45 (by decide)).1).trans c54
                  have b57 : 0 ≤ (S30.1 45).toInt ∧ (S30.1 45).toInt ≤ 12 := aw_bd_f hs (hI35).1 (by decide) rfl
                  have wk : (S.1 32).toInt = 1 := by omega
                  have pa0 : (S.2.2.1 10 (aw_h S)).toInt ≤ (S.1 45).toInt := ((hG.2.2.2.2.2.2.2.2.2 rfl).2.2.1 wk).2
                  have pa : (S30.2.2.1 10 (aw_h S30)).toInt + 1 ≤ (S30.1 45).toInt := by
                    have e : (S30.2.2.1 10 (aw_h S30)).toInt = (S.2.2.1 10 (aw_h S)).toInt := by
                      unfold aw_h
                      rw [show S30.2.2.1 10 = S.2.2.1 10 from ((fc30.2 10 (by decide)).1.trans ((fc21.2 10 (by decide)).1.trans ((fd13.2 10 (by decide)).1.trans rfl))), show (S30.1 37).toInt = (S.1 37).toInt from c50]
                    rw [e]
                    show _ ≤ ((S30.1 45)).toInt
                    omega
                  refine aw_l2 aj_d246 rfl rfl hlv5_0 ?_
                  refine aw_g hU.1 aj_d246 rfl rfl (by decide) (v := .int (S30.1 37)) rfl ?_
                  refine aw_n aj_d246 rfl rfl ?_
                  refine aw_mul aj_d246 rfl (a := (S.1 37).toInt) (b := (20 : Int)) c50 rfl (by omega) (by omega) (fun x58 ex58 => ?_)
                  refine aw_l2 aj_d246 rfl rfl hlv5_0 ?_
                  refine aw_g hU.1 aj_d246 rfl rfl (by decide) (v := .ref 127) rfl ?_
                  refine aw_l2 aj_d246 rfl rfl hlv5_0 ?_
                  refine aw_g hU.1 aj_d246 rfl rfl (by decide) (v := .int (S30.1 37)) rfl ?_
                  refine aw_ld (k := 10) hU.1 aj_d246 (Or.inl ⟨rfl, rfl⟩) rfl (by decide) (by decide) rfl (a := (S.1 37).toInt) c50 (by omega) (by omega) (fun x59 ex59 => ?_)
                  have bx59 : 0 ≤ x59.toInt ∧ x59.toInt ≤ 20 := by
                    rw [ex59]
                    exact aw_bd_a hs (hI35).1 (k := 10) (by decide) (by decide) rfl (by decide) rfl (by omega)
                  have ftx59 : x59.toInt = (S.2.2.1 10 ((S.1 37).toInt).toNat).toInt := congrArg Int32.toInt (ex59.trans (congrFun ((fc30.2 10 (by decide)).1.trans ((fc21.2 10 (by decide)).1.trans ((fd13.2 10 (by decide)).1.trans rfl))) _))
                  have yx59 : x59.toInt = (S30.2.2.1 10 (aw_h S30)).toInt := (congrArg Int32.toInt ex59).trans (by unfold aw_h; rw [show (S30.1 37).toInt = (S.1 37).toInt from c50])
                  refine aw_add aj_d246 rfl (a := x58.toInt) (b := x59.toInt) rfl rfl (by omega) (by omega) (fun x60 ex60 => ?_)
                  refine aw_n aj_d246 rfl rfl ?_
                  refine aw_mul aj_d246 rfl (a := x60.toInt) (b := (32 : Int)) rfl rfl (by omega) (by omega) (fun x61 ex61 => ?_)
                  refine aw_t0 (j := 2) aj_d246 rfl (by decide) rfl ?_
                  obtain ⟨lv62, elv62⟩ : ∃ l, l = aj_set1 lv5 2 (.int x61) := ⟨_, rfl⟩
                  rw [← elv62]
                  have hlv62_0 : aj_lv lv62 0 = some (.ref 117) := cw_e1 elv62 hlv5_0 (by decide) (Or.inl (by decide))
                  have hlv62_1 : aj_lv lv62 1 = some (.int (S.1 27)) := cw_e1 elv62 hlv5_1 (by decide) (Or.inr rfl)
                  have hlv62_2 : aj_lv lv62 2 = some (.int x61) := by rw [elv62]; exact ak_set1_eq _ _ _
                  show aw_W _ _ _ _ 86 lv62 [] _ _
                  refine aw_n aj_d246 rfl rfl ?_
                  refine aw_t0 (j := 3) aj_d246 rfl (by decide) rfl ?_
                  obtain ⟨lv63, elv63⟩ : ∃ l, l = aj_set1 lv62 3 (.int (Int32.ofInt 0)) := ⟨_, rfl⟩
                  rw [← elv63]
                  have hlv63_0 : aj_lv lv63 0 = some (.ref 117) := cw_e1 elv63 hlv62_0 (by decide) (Or.inl (by decide))
                  have hlv63_1 : aj_lv lv63 1 = some (.int (S.1 27)) := cw_e1 elv63 hlv62_1 (by decide) (Or.inl (by decide))
                  have hlv63_2 : aj_lv lv63 2 = some (.int x61) := cw_e1 elv63 hlv62_2 (by decide) (Or.inr rfl)
                  have hlv63_3 : aj_lv lv63 3 = some (.int (Int32.ofInt 0)) := by rw [elv63]; exact ak_set1_eq _ _ _
                  show aw_W _ _ _ _ 88 lv63 [] _ _
                  refine aw_n aj_d246 rfl rfl ?_
                  refine aw_t0 (j := 4) aj_d246 rfl (by decide) rfl ?_
                  obtain ⟨lv64, elv64⟩ : ∃ l, l = aj_set1 lv63 4 (.int (Int32.ofInt 0)) := ⟨_, rfl⟩
                  rw [← elv64]
                  have hlv64_0 : aj_lv lv64 0 = some (.ref 117) := cw_e1 elv64 hlv63_0 (by decide) (Or.inl (by decide))
                  have hlv64_1 : aj_lv lv64 1 = some (.int (S.1 27)) := cw_e1 elv64 hlv63_1 (by decide) (Or.inl (by decide))
                  have hlv64_2 : aj_lv lv64 2 = some (.int x61) := cw_e1 elv64 hlv63_2 (by decide) (Or.inl (by decide))
                  have hlv64_3 : aj_lv lv64 3 = some (.int (Int32.ofInt 0)) := cw_e1 elv64 hlv63_3 (by decide) (Or.inr rfl)
                  have hlv64_4 : aj_lv lv64 4 = some (.int (Int32.ofInt 0)) := by rw [elv64]; exact ak_set1_eq _ _ _
                  show aw_W _ _ _ _ 91 lv64 [] _ _
                  have b131 : 0 ≤ (S30.1 30).toInt ∧ (S30.1 30).toInt ≤ 1001 := aw_bd_f hs (hI35).1 (by decide) rfl
                  exact (ar_always_L91_64 hU hd ) _ S30 lv64 ((S.1 27)) (x61) ((Int32.ofInt 0)) ((Int32.ofInt 0)) hlv64_0 hlv64_1 hlv64_2 hlv64_3 hlv64_4 ⟨(hI35).1, hJ30.2⟩ fr34 (by first | omega | decide) (by first | omega | decide) (show _ ≤ ((S30.1 30)).toInt by omega) (show ((S30.1 32)).toInt = 1 by omega) pa (show _ = (((S30.1 37)).toInt * 20 + _) * 32 by omega) (Nat.lt_succ_self _)
                · have q44 : (S.1 32).toInt = (0 : Int) := aw_t_ne (a := (S.1 32).toInt) (b := (0 : Int)) c42 rfl q44
                  refine aw_n aj_d246 rfl rfl ?_
                  refine aw_e aj_d246 rfl rfl ?_
                  have b132 : 0 ≤ (S30.1 30).toInt ∧ (S30.1 30).toInt ≤ 1001 := aw_bd_f hs (hI35).1 (by decide) rfl
                  exact ⟨(hI35).1, fr34, Or.inr ⟨_, rfl, rfl, hJ30.2, (show _ + 1 ≤ ((S30.1 30)).toInt by omega)⟩⟩
              · have q36 : (1 : Int) = (0 : Int) := aw_t_ne (a := (1 : Int)) (b := (0 : Int)) hb30 rfl q36
                exfalso
                omega
  · have q7 : (S.1 45).toInt = (12 : Int) := aw_t_ne (a := (S.1 45).toInt) (b := (12 : Int)) rfl rfl q7
    refine aw_l2 aj_d246 rfl rfl hlv5_0 ?_
    refine aw_n aj_d246 rfl rfl ?_
    refine aw_l0 aj_d246 rfl rfl hlv5_1 ?_
    refine aw_k hU.1 aj_d246 rfl rfl [_, _] rfl rfl rfl (Nat.le_of_ble_eq_true rfl) (ar_stop hU (hI2).1 (by omega) (a := (2 : Int)) rfl) ?_
    rintro _ S133 ⟨hT133, fc133, rfl, hz133⟩
    have hG133 := aw_G_stop hG fc133 (by omega)
    have fr134 := aw_fr_tr fr3 (aw_fr_sub (F := [24, 25, 31]) (A := []) (by decide) (by decide) fc133)
    have hI135 : aw_I s h (aw_sm S133) S133 := ⟨hT133, aw_sm_rf⟩
    show aw_W _ _ _ _ 20 lv5 [.int (Int32.ofInt 0)] _ _
    refine aw_e aj_d246 rfl rfl ?_
    exact ⟨(hI135).1, fr134, Or.inl ⟨_, rfl, rfl, aw_G_B hG133⟩⟩
end ARA17
