/-! THE REFERENCE: numbers, names that are looked up, TERMS -/
def md_n3 (f : Nat → Int32) : Nat → Nat → Int32 → Int32
  | 0, _, v => v
  | l + 1, a, v => md_n3 f l (a + 1) (((((Int8.ofInt 10).toInt32) * v) + (f a)) - ((Int8.ofInt 48).toInt32))
/-- an INT is whole; none is -/
def rx_wh (P : md_P) (j j' : Nat) : Prop := ((rp_T P).1 j = 4 ∧ j' = j + 1 ∧ j < 1000) ∨ ((rp_T P).1 j = 45 ∧ (rp_T P).1 (j + 1) = 4 ∧ j' = j + 2 ∧ j + 1 < 1000)
def rx_w0 (P : md_P) (j : Nat) : Prop := ¬ ((rp_T P).1 j = 4 ∧ j < 1000) ∧ ¬ ((rp_T P).1 j = 45 ∧ (rp_T P).1 (j + 1) = 4 ∧ j + 1 < 1000)
/-- the UNKNOWNS told -/
def rx_U (P : md_P) (X : fx_X) (U : md_U) : Prop := (X.1 118 (rp_h P)).toInt = (U.length : Int) ∧ (X.1 122 (rp_h P)).toInt = (md_all U : Int) ∧ U.length ≤ 8 ∧ (1 ≤ md_all U ∧ md_all U ≤ 1024) ∧ ∀ u x, U[u]? = some x → X.2.1 119 (8 * rp_h P + u) = x.1 ∧ (X.1 120 (8 * rp_h P + u)).toInt = (x.2.length : Int) ∧ (1 ≤ x.2.length ∧ x.2.length ≤ 64) ∧ ∀ i v, x.2[i]? = some v → X.1 121 (64 * (8 * rp_h P + u) + i) = v
def rx_rl (m r : Int) : Prop := (m = 61 ∧ r = 61) ∨ (m = 257 ∧ r = 6) ∨ (m = 60 ∧ r = 60) ∨ (m = 258 ∧ r = 7)
def md_sft (w : md_WS) (x : md_Sd) : md_WS := (w.1, w.2.1, w.2.2.1, (w.2.2.2.1.2, x), w.2.2.2.2)
def md_rlw (w : md_WS) (r : Int) : md_WS := (w.1, w.2.1, w.2.2.1, w.2.2.2.1, r, w.2.2.2.2.2)
section DD2
variable {P : md_P} {X X' X1 : fx_X} {K : List md_Sy} {s a : Int} {l j j' near : Nat} {c : md_C} {nm : md_Nm} {cs : md_CS} {ws : md_WS} {v w p p1 p2 : Int32} {u : Unit} {F L : List (Nat × Nat)} {A : List Nat} {w8 : Int64} {Q : Prop} {U : md_U}
theorem md_n3_nu {f : Nat → Int32} : ∀ (l a : Nat) (v : Int64), (md_nu f l a v).toInt32 = md_n3 f l a v.toInt32
  | 0, _, _ => rfl
  | l + 1, a, v => by
    show (md_nu f l (a + 1) _).toInt32 = md_n3 f l (a + 1) _
    rw [md_n3_nu l (a + 1) _]
    congr 1
    rw [Int64.toInt32_add, Int64.toInt32_mul, Int32.toInt32_toInt64, Int32.sub_eq_add_neg, Int32.sub_eq_add_neg, Int32.add_assoc, Int32.mul_comm]
    rfl
theorem rx_lin {x y z : Int32} {a b m : Nat} (hx : x.toInt = (a : Int)) (hz : z.toInt = (m : Int)) (hy : y.toInt = (b : Int)) (h : a * m + b ≤ 2000000000) : (x * z + y).toInt = ((a * m + b : Nat) : Int) := by
  have e : (x * z).toInt = ((a * m : Nat) : Int) := by
    rw [fx_mul (by rw [hx, hz, ← Int.natCast_mul]; omega) (by rw [hx, hz, ← Int.natCast_mul]; omega), hx, hz, ← Int.natCast_mul]
  rw [fx_add (by omega) (by omega), e, hy]
  omega
theorem rx_221l : ∀ (n : Nat) (y1 y2 y3 : Int32), gxF_221 n 55 [y1, y2, y3] [] [] X v X' → ∃ y, gx_214 (fx_wI X 117 35 y) v X' ∧ ∀ k e : Nat, y3.toInt = (k : Int) → (X.1 117 28).toInt = (e : Int) → k ≤ e → e ≤ 4000 → y = y1 * md_n3 (X.1 138) (e - k) k y2 := by
  intro n
  induction n with
  | zero => intro y1 y2 y3 g; exact g.elim
  | succ n ih =>
    intro y1 y2 y3 g
    replace g := gxO_221_55 g
    unfold gxT_221_55 at g
    rcases fy_ifd g with ⟨c1, g⟩ | ⟨c1, g⟩
    · obtain ⟨-, x29, rfl, x31, rfl, g⟩ := g
      obtain ⟨y, h1, h2⟩ := ih _ _ _ g
      refine ⟨y, h1, fun k e hk he hke he4 => ?_⟩
      rw [h2 (k + 1) e (cx_in1 hk (by omega)) he (by omega) he4, fx_in hk, show e - k = (e - (k + 1)) + 1 by omega]
      rfl
    · obtain ⟨X24, rfl, w26, X25, r, rfl, rfl⟩ := g
      refine ⟨_, r, fun k e hk he hke he4 => ?_⟩
      have : e - k = 0 := by omega
      rw [this]
      rfl
theorem md_nu_at {f : Nat → Int32} {N b e : Nat} {w : Int64} (ho : md_one f N b 4 e w) : (w.toInt32 = md_n3 f (e - b) b (Int32.ofInt 0)) := by
  rcases ho with ⟨-, e', a2, a3⟩ | ⟨-, e', a2, a3⟩ | ⟨-, -, a3⟩
  · exfalso
    split at a3
    · omega
    · have : ∀ w : Int64, md_wd md_ws w 0 = 3 ∨ 10 ≤ md_wd md_ws w 0 := by
        intro w
        have gen : ∀ (l : List Int64) (i : Nat), md_wd l w i = 3 ∨ 10 ≤ md_wd l w i := by
          intro l
          induction l with
          | nil => intro i; exact Or.inl rfl
          | cons x l ih =>
            intro i
            unfold md_wd
            split
            · right; omega
            · exact ih _
        exact gen md_ws 0
      rcases this (md_pk f (e' - b) b (Int64.ofNat 0)) with y | y <;> omega
  · by_cases y : 4 < e' - b
    · rw [if_pos y] at a3; omega
    · rw [if_neg y] at a3
      rw [a3.2.2, a3.2.1, md_n3_nu]
      rfl
  · exfalso
    split at a3
    · omega
    · split at a3
      · omega
      · split at a3
        · omega
        · split at a3
          · rename_i y
            rw [← a3.1] at y
            exact absurd y (by decide)
          · omega
/-- the number of the token -/
theorem rx_num (hG : rx_G P X j c) (hT : (rp_T P).1 j = 4) {y : Int32} {y1 : Int32} (hy : ∀ k e : Nat, (X.1 117 27).toInt = (k : Int) → (X.1 117 28).toInt = (e : Int) → k ≤ e → e ≤ 4000 → y = y1 * md_n3 (X.1 138) (e - k) k (Int32.ofInt 0)) : y = y1 * ((rp_T P).2 j).toInt32 := by
  rcases rx_at_c hG.2.2.2.2.2.2.2.1 with ⟨z, -⟩ | ⟨b, e, hb, he, hbe, heN, ho, -, -⟩
  · omega
  · rw [hT, if_neg (by decide)] at ho
    rw [hy b e hb he (by omega) (by have := hG.2.2.1; omega), hG.1, md_nu_at ho]
theorem rx_sg_ne (h : s ∈ md_sg) : s ≠ 1 ∧ s ≠ 2 := by
  unfold md_sg at h
  simp only [List.mem_cons, List.not_mem_nil, or_false] at h
  omega
theorem rx_221 (h : rx_B P X ∨ (rx_G P X j c ∧ Q)) (g : gx_221 X v X') : (v = Int32.ofInt 0 ∧ (rx_B P X' ∨ ((X'.1 117 24).toInt ≠ 0 ∧ rx_w0 P j ∧ Q))) ∨ (v = Int32.ofInt 1 ∧ ∃ j', rx_B P X' ∨ (rx_G P X' j' c ∧ (rx_wh P j j' ∧ X'.1 117 35 = md_it (rp_T P) j) ∧ Q)) := by
  obtain ⟨n, X2, e2, w5, X4, r, g⟩ := g
  have f2 : fy [(117, 36)] [] [] X X2 := by rw [e2]; exact fy_f fy_rf (by decide)
  obtain ⟨rfl, hw⟩ := rx_220 r
  have h2 : rx_B P X4 ∨ (rx_G P X4 j c ∧ Q) := h.imp (fun z => rx_B_fr z f2 (by decide) (by decide)) (fun z => ⟨rx_G_fr z.1 f2 (by decide) (by decide), z.2⟩)
  have e45 : ((Int8.ofInt 45).toInt32).toInt = 45 := rfl
  rw [e45] at hw
  have stp : ∀ {Y : fx_X} {v : Int32} {X6 : fx_X}, (rx_B P Y ∨ (rx_G P Y j c ∧ Q) ∨ (rx_G P Y (j + 1) c ∧ Q)) → (rx_B P Y ∨ rx_w0 P j) → gx_215 (Int32.ofInt 1) (Y.1 117 27) Y v X6 → v = Int32.ofInt 0 ∧ (rx_B P X6 ∨ ((X6.1 117 24).toInt ≠ 0 ∧ rx_w0 P j ∧ Q)) := by
    intro Y v X6 h1 h3 r
    obtain ⟨X2, rfl, X3, rfl, X4, rfl, rfl, rfl⟩ := r
    refine ⟨rfl, ?_⟩
    have e24 : ((fx_wI (fx_wI (fx_wI Y 117 24 (Int32.ofInt 1)) 117 25 (Y.1 117 27)) 117 31 (Int32.ofInt 1)).1 117 24).toInt ≠ 0 := by rw [fx_rIk (by decide), fx_rIk (by decide), fx_rIe]; decide
    have hB : rx_B P Y → rx_B P (fx_wI (fx_wI (fx_wI Y 117 24 (Int32.ofInt 1)) 117 25 (Y.1 117 27)) 117 31 (Int32.ofInt 1)) := fun z => ⟨z.1, e24, by rw [fx_rIk (by decide), fx_rIk (by decide), fx_rIk (by decide)]; exact z.2.2⟩
    rcases h3 with h3 | h3
    · exact Or.inl (hB h3)
    · rcases h1 with h1 | h1 | h1
      · exact Or.inl (hB h1)
      · exact Or.inr ⟨e24, h3, h1.2⟩
      · exact Or.inr ⟨e24, h3, h1.2⟩
  rcases fy_ifd g with ⟨c1, g⟩ | ⟨c1, g⟩
  · -- no sign ahead
    have hn : ¬ rx_sg X4 45 := by
      rcases hw with hw | hw
      · omega
      · exact hw.2
    rcases fy_ifd g with ⟨c2, g⟩ | ⟨c2, g⟩
    · obtain ⟨x9, rfl, g⟩ := g
      obtain ⟨y, g, hy⟩ := rx_221l n _ _ _ g
      have f3 : fy [(117, 35)] [] [] X4 (fx_wI X4 117 35 y) := fy_f fy_rf (by decide)
      have h3 := rx_214t (Q := y = md_it (rp_T P) j ∧ (rp_T P).1 j = 4 ∧ Q) (h2.imp (fun z => rx_B_fr z f3 (by decide) (by decide)) (fun z => by
        have hT := (rx_k z.1).2.2.1.mp c2
        refine ⟨rx_G_fr z.1 f3 (by decide) (by decide), by omega, ?_, hT, z.2⟩
        rw [rx_num z.1 hT hy]
        unfold md_it
        have := z.1.2.2.2.2.2.2.2.2.1
        rw [if_pos (by omega), if_neg (by omega)]
        exact Int32.one_mul _)) g
      rcases h3 with ⟨hv, h3⟩ | ⟨hv, h3⟩
      · refine Or.inl ⟨hv, h3.imp id (fun z => ⟨z.1, ?_, z.2.2.2.2⟩)⟩
        exact ⟨fun y => by have := z.2.1; omega, fun y => by have := z.2.2.2.1; omega⟩
      · refine Or.inr ⟨hv, j + 1, h3.imp id (fun z => ⟨z.1, ⟨Or.inl ⟨z.2.2.2.1, rfl, z.2.1⟩, ?_⟩, z.2.2.2.2⟩)⟩
        rw [(gf_214 g).2.2 117 35 (by decide) (by decide), fx_rIe]
        exact z.2.2.1
    · obtain ⟨w12, X11, r, rfl, rfl⟩ := g
      refine Or.inl (stp (h2.imp id Or.inl) (h2.imp id (fun z => ⟨fun y => c2 ((rx_k z.1).2.2.1.mpr y.1), fun y => hn ((rx_sg_i z.1 (by decide)).mpr y.1)⟩)) r)
  · have hn : rx_sg X4 45 := by
      rcases hw with hw | hw
      · exact hw.2
      · omega
    obtain ⟨w15, X14, r, g⟩ := g
    have h3 := rx_214t (Q := rx_G P X4 j c ∧ (rp_T P).1 j = 45 ∧ Q) (h2.imp id (fun z => by
        have hT := (rx_sg_i z.1 (by decide)).mp hn
        exact ⟨z.1, by omega, z.1, hT, z.2⟩)) r
    rcases h3 with ⟨hv, h3⟩ | ⟨hv, h3⟩
    · rw [if_pos (by rw [hv]; rfl)] at g
      obtain ⟨rfl, rfl⟩ := g
      refine Or.inl ⟨rfl, h3.imp id (fun z => ⟨z.1, ?_, z.2.2.2.2⟩)⟩
      exact ⟨fun y => by have := z.2.1; omega, fun y => by have := z.2.1; omega⟩
    · rw [if_neg (by rw [hv]; decide)] at g
      rcases fy_ifd g with ⟨c2, g⟩ | ⟨c2, g⟩
      · obtain ⟨x19, rfl, g⟩ := g
        obtain ⟨y, g, hy⟩ := rx_221l n _ _ _ g
        have f3 : fy [(117, 35)] [] [] X14 (fx_wI X14 117 35 y) := fy_f fy_rf (by decide)
        have h4 := rx_214t (Q := y = md_it (rp_T P) j ∧ ((rp_T P).1 j = 45 ∧ (rp_T P).1 (j + 1) = 4) ∧ Q) (h3.imp (fun z => rx_B_fr z f3 (by decide) (by decide)) (fun z => by
          have hT := (rx_k z.1).2.2.1.mp c2
          refine ⟨rx_G_fr z.1 f3 (by decide) (by decide), by omega, ?_, ⟨z.2.2.2.1, hT⟩, z.2.2.2.2⟩
          rw [rx_num z.1 hT hy]
          unfold md_it
          rw [if_pos (by have := z.2.1; omega), if_pos z.2.2.2.1, Int64.toInt32_neg]
          have e : (Int32.ofInt (-1)) = -(Int32.ofInt 1) := by decide
          rw [e, Int32.neg_mul]
          congr 1
          exact Int32.one_mul _)) g
        rcases h4 with ⟨hv, h4⟩ | ⟨hv, h4⟩
        · refine Or.inl ⟨hv, h4.imp id (fun z => ⟨z.1, ?_, z.2.2.2.2⟩)⟩
          exact ⟨fun y => by have := z.2.2.2.1.1; omega, fun y => by have := z.2.1; omega⟩
        · refine Or.inr ⟨hv, j + 2, h4.imp id (fun z => ⟨z.1, ⟨Or.inr ⟨z.2.2.2.1.1, z.2.2.2.1.2, rfl, z.2.1⟩, ?_⟩, z.2.2.2.2⟩)⟩
          rw [(gf_214 g).2.2 117 35 (by decide) (by decide), fx_rIe]
          exact z.2.2.1
      · obtain ⟨w22, X21, r, rfl, rfl⟩ := g
        refine Or.inl (stp (h3.imp id (fun z => Or.inr ⟨z.1, z.2.2.2.2⟩)) (h3.imp id (fun z => ⟨fun y => by have := z.2.2.2.1; omega, fun y => c2 ((rx_k z.1).2.2.1.mpr y.2.1)⟩)) r)
/-- an INT where the grammar has one: what is behind it -/
theorem md_R_wh {ev : Int} (h : md_R P ((if (rp_T P).1 j = 45 then [45, ev, 4] else [4, ev] : List Int).map (fun a => (a, j)) ++ K) j near c nm (cs, ws)) (hev : 173 ≤ ev) (hw : rx_wh P j j') : (md_room ev ((rp_T P).2 j) c nm = none ∧ md_F P) ∨ ∃ c' nm', md_room ev ((rp_T P).2 j) c nm = some (c', nm') ∧ ((md_ck (rp_T P) cs (ev, j, j) = some none → md_F P) ∧ ∀ cs' arg ws', md_ck (rp_T P) cs (ev, j, j) = md_k (cs', arg) → (rp_b P = true → md_wk (rp_W P) (rp_n P) (rp_v P) (md_wd2 cs' (ev, j, j)) ws (ev, j, j) arg = md_k ws') → ∃ w2 n2, md_R P K j' n2 c' nm' (cs', w2) ∧ (rp_b P = true → w2 = ws') ∧ (rp_b P = false → w2 = ws)) := by
  rcases hw with ⟨h1, h2, h3⟩ | ⟨h1, h2, h3, h4⟩
  · rw [if_neg (by omega)] at h
    have h := md_R_t (K := (ev, j) :: K) h (by decide) h1 (Or.inl h3)
    rcases md_R_e h (by omega) with y | ⟨c', nm', y1, y2⟩
    · exact Or.inl y
    · refine Or.inr ⟨c', nm', y1, fun z => md_Re_f y2 z, fun cs' arg ws' z1 z2 => ?_⟩
      obtain ⟨w2, q1, q2, q3⟩ := md_Re_n y2 z1 z2
      exact ⟨w2, j, by rw [h2]; exact q1, q2, q3⟩
  · rw [if_pos h1] at h
    have h := md_R_t (K := (ev, j) :: (4, j) :: K) h (by decide) h1 (Or.inl (by omega))
    rcases md_R_e h (by omega) with y | ⟨c', nm', y1, y2⟩
    · exact Or.inl y
    · refine Or.inr ⟨c', nm', y1, fun z => md_Re_f y2 z, fun cs' arg ws' z1 z2 => ?_⟩
      obtain ⟨w2, q1, q2, q3⟩ := md_Re_n y2 z1 z2
      have q1 := md_R_t q1 (by decide) h2 (Or.inl h4)
      exact ⟨w2, j + 1, by rw [h3]; exact q1, q2, q3⟩
theorem md_R_w0 {ev : Int} (h : md_R P ((if (rp_T P).1 j = 45 then [45, ev, 4] else [4, ev] : List Int).map (fun a => (a, j)) ++ K) j near c nm (cs, ws)) (hev : 173 ≤ ev) (hw : rx_w0 P j) (hck : (md_ck (rp_T P) cs (ev, j, j) = some none) ∨ ∃ cs' arg ws', md_ck (rp_T P) cs (ev, j, j) = md_k (cs', arg) ∧ (rp_b P = true → md_wk (rp_W P) (rp_n P) (rp_v P) (md_wd2 cs' (ev, j, j)) ws (ev, j, j) arg = md_k ws')) : md_F P := by
  obtain ⟨h1, h2⟩ := hw
  by_cases h45 : (rp_T P).1 j = 45
  · rw [if_pos h45] at h
    by_cases hj : 1000 ≤ j
    · exact md_R_tx (K := (ev, j) :: (4, j) :: K) h (by decide) (Or.inr ⟨hj, by decide⟩)
    · have h := md_R_t (K := (ev, j) :: (4, j) :: K) h (by decide) h45 (Or.inl (by omega))
      rcases md_R_e h (by omega) with y | ⟨c', nm', y1, y2⟩
      · exact y.2
      · rcases hck with z | ⟨cs', arg, ws', z1, z2⟩
        · exact md_Re_f y2 z
        · obtain ⟨w2, q1, q2, q3⟩ := md_Re_n y2 z1 z2
          refine md_R_tx q1 (by decide) ?_
          by_cases h4 : (rp_T P).1 (j + 1) = 4
          · exact Or.inr ⟨by omega, by decide⟩
          · exact Or.inl h4
  · rw [if_neg h45] at h
    refine md_R_tx (K := (ev, j) :: K) h (by decide) ?_
    by_cases h4 : (rp_T P).1 j = 4
    · exact Or.inr ⟨by omega, by decide⟩
    · exact Or.inl h4
theorem rx_217l (hU : rx_U P X U) (hp : p1.toInt = (rp_h P : Int)) (hh : rp_h P ≤ 1) : ∀ (n k : Nat) (y4 : Int32), y4.toInt = (k : Int) → k ≤ U.length → gxF_217 p1 w8 n 3 [y4] [] [] X v X' → X' = X ∧ v.toInt = md_ix w8 ((U.map (·.1)).drop k) k := by
  intro n
  induction n with
  | zero => intro k y4 _ _ g; exact g.elim
  | succ n ih =>
    intro k y4 hk hkU g
    replace g := gxO_217_3 g
    unfold gxT_217_3 at g
    obtain ⟨hU1, -, hU3, -, hU4⟩ := hU
    rw [fx_in hp] at g
    replace g := g.2
    have hlen : (U.map (·.1)).length = U.length := List.length_map _
    rcases fy_ifd g with ⟨c1, g⟩ | ⟨c1, g⟩
    · have hk2 : k < U.length := by omega
      obtain ⟨x, hx⟩ : ∃ x, U[k]? = some x := ⟨_, List.getElem?_eq_getElem hk2⟩
      have hd : (U.map (·.1)).drop k = x.1 :: (U.map (·.1)).drop (k + 1) := by
        rw [List.drop_eq_getElem_cons (by omega), List.getElem_map]
        rw [List.getElem?_eq_getElem hk2] at hx
        rw [Option.some.inj hx]
      have ha : (p1 * ((Int8.ofInt 8).toInt32) + y4).toInt = ((rp_h P * 8 + k : Nat) : Int) := rx_lin hp rfl hk (by omega)
      rw [fx_in ha, show rp_h P * 8 + k = 8 * rp_h P + k by omega, (hU4 k x hx).1] at g
      replace g := g.2
      rw [hd]
      unfold md_ix
      rcases fy_ifd g with ⟨c2, g⟩ | ⟨c2, g⟩
      · rw [if_pos c2, g.1]
        exact ⟨g.2, hk⟩
      · rw [if_neg c2]
        obtain ⟨x9, rfl, g⟩ := g
        exact ih (k + 1) _ (cx_in1 hk (by omega)) (by omega) g
    · have : (U.map (·.1)).drop k = [] := List.drop_eq_nil_of_le (by omega)
      rw [this, g.1]
      exact ⟨g.2, rfl⟩
theorem rx_217 (hU : rx_U P X U) (hp : p1.toInt = (rp_h P : Int)) (hh : rp_h P ≤ 1) (g : gx_217 p1 w8 X v X') : X' = X ∧ v.toInt = md_ix w8 (U.map (·.1)) 0 := by
  obtain ⟨n, g⟩ := g
  have := rx_217l hU hp hh n 0 _ rfl (Nat.zero_le _) g
  exact this
theorem rx_U_fr (h : rx_U P X U) (hf : fy F L A X X') (hA : 118 ∉ A ∧ 119 ∉ A ∧ 120 ∉ A ∧ 121 ∉ A ∧ 122 ∉ A) (hF : (∀ q, q ∈ F → q.1 < 118) ∧ ∀ q, q ∈ L → q.1 < 118) : rx_U P X' U := by
  have e : ∀ r, r ∉ A → 118 ≤ r → X'.1 r = X.1 r := fun r h1 h2 => fy_ra hf h1 (fun q hq => by have := hF.1 q hq; omega)
  have e2 : ∀ r, r ∉ A → 118 ≤ r → X'.2.1 r = X.2.1 r := fun r h1 h2 => fy_rl hf h1 (fun q hq => by have := hF.2 q hq; omega)
  unfold rx_U
  rw [e 118 hA.1 (by decide), e 120 hA.2.2.1 (by decide), e 121 hA.2.2.2.1 (by decide), e 122 hA.2.2.2.2 (by decide), e2 119 hA.2.1 (by decide)]
  exact h
end DD2
