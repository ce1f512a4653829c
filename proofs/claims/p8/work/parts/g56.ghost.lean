/-! WHAT HOLDS WHILE THE REFERENCE TAKES A TAPE: the tokens, the names told so far, what the first pass found -/
abbrev aw_Ts : Type := Nat → Int × Nat × Nat × Int
noncomputable def aw_tokF (f : Nat → Int32) (n e0 : Nat) : Int × Nat × Nat × Int := @dite _ (∃ t : Int × Nat × Nat × Int, aw_R f n e0 t.1 t.2.1 t.2.2.1 t.2.2.2) (Classical.propDecidable _) (fun h => Classical.choose h) (fun _ => (0, e0, e0, 0))
noncomputable def aw_tk (f : Nat → Int32) (n : Nat) : aw_Ts
  | 0 => (0, 0, 0, 0)
  | j + 1 => aw_tokF f n (aw_tk f n j).2.2.1
theorem aw_tokF_c {f : Nat → Int32} {n e0 : Nat} (hx : ∃ t : Int × Nat × Nat × Int, aw_R f n e0 t.1 t.2.1 t.2.2.1 t.2.2.2) : aw_tokF f n e0 = Classical.choose hx := by
  unfold aw_tokF
  exact dif_pos hx
theorem aw_tokF_eq {f : Nat → Int32} {n e0 : Nat} {kd m : Int} {b e : Nat} (h : aw_R f n e0 kd b e m) : aw_tokF f n e0 = (kd, b, e, m) := by
  have hx : ∃ t : Int × Nat × Nat × Int, aw_R f n e0 t.1 t.2.1 t.2.2.1 t.2.2.2 := Exists.intro (kd, b, e, m) h
  have k := Classical.choose_spec hx
  rw [← aw_tokF_c hx] at k
  generalize aw_tokF f n e0 = t at k
  obtain ⟨k1, k2, k3, k4⟩ := aw_R_u k h
  exact Prod.ext k1 (Prod.ext k2 (Prod.ext k3 k4))
abbrev aw_is (T : aw_Ts) (q : Nat) (k m : Int) : Prop := (T q).1 = k ∧ (T q).2.2.2 = m
/-- the places of what tells UNKNOWNS, but for one -/
def aw_ul (T : aw_Ts) (hole : Nat) : Nat → List Nat
  | 0 => []
  | j + 1 => if aw_is T j 4 0 ∧ j ≠ hole ∧ 1 ≤ j then aw_ul T hole j ++ [j] else aw_ul T hole j
/-- of what tells TABLES -/
def aw_tl (T : aw_Ts) (hole : Nat) : Nat → List Nat
  | 0 => []
  | j + 1 => if (aw_is T j 4 1 ∨ aw_is T j 4 5) ∧ j ≠ hole ∧ 1 ≤ j then aw_tl T hole j ++ [j] else aw_tl T hole j
def aw_nm (f : Nat → Int32) (T : aw_Ts) (q : Nat) : Int64 := aj_packV f ((T q).2.2.1 - (T q).2.1) (T q).2.1 (Int64.ofNat 0)
def aw_wd (T : aw_Ts) (p : Nat) : Nat := if aw_is T p 3 45 then 2 else 1
def aw_dv (f : Nat → Int32) : Nat → Nat → Int → Int
  | 0, _, v => v
  | n + 1, a, v => aw_dv f n (a + 1) (10 * v + (f a).toInt - 48)
def aw_num (f : Nat → Int32) (T : aw_Ts) (p : Nat) : Int := if aw_is T p 3 45 then -(aw_dv f ((T (p + 1)).2.2.1 - (T (p + 1)).2.1) (T (p + 1)).2.1 0) else aw_dv f ((T p).2.2.1 - (T p).2.1) (T p).2.1 0
def aw_lc (T : aw_Ts) : Nat → Nat → Nat
  | 0, _ => 0
  | g + 1, q => if aw_is T q 3 44 then 1 + aw_lc T g (q + 1 + aw_wd T (q + 1)) else 0
/-- how many values an UNKNOWN has that is told at i -/
def aw_vm (f : Nat → Int32) (T : aw_Ts) (i : Nat) : Nat := if aw_is T (i + 3 + aw_wd T (i + 3)) 3 256 then (if 0 ≤ aw_num f T (i + 3 + aw_wd T (i + 3) + 1) - aw_num f T (i + 3) ∧ aw_num f T (i + 3 + aw_wd T (i + 3) + 1) - aw_num f T (i + 3) ≤ 63 then (aw_num f T (i + 3 + aw_wd T (i + 3) + 1) - aw_num f T (i + 3) + 1).toNat else 1) else 1 + aw_lc T 1001 (i + 3 + aw_wd T (i + 3))
def aw_wc (l : List Nat) : Nat := l.foldl (fun w v => if 1024 < w * v then 1024 else w * v) 1
/-- no more WORLDS than there may be, all along -/
def aw_nc : List Nat → Nat → Prop
  | [], _ => True
  | v :: l, w => w * v ≤ 1024 ∧ aw_nc l (w * v)
/-- ghosts: names ahead of the text; a COND alone; the last token; what is under way: a ? or a row, an UNKNOWN, a TABLE -/
abbrev aw_gh : Type := (Int64 → Prop) × Bool × Nat × Nat × Nat × Nat
def aw_tF (S : aj_S) : Nat → Int32 := S.2.2.1 21
def aw_tN (S : aj_S) : Nat := (S.1 23).toInt.toNat
noncomputable def aw_tT (S : aj_S) : aw_Ts := aw_tk (aw_tF S) (aw_tN S)
def aw_tJ (S : aj_S) : Nat := (S.1 30).toInt.toNat
def aw_res (g : aw_gh) (f : Nat → Int32) (T : aw_Ts) (q : Nat) : Prop := if g.2.1 = true then g.1 (aw_nm f T (q + 1)) else ∃ i, i ∈ aw_ul T 0 q ∧ aw_nm f T (i + 1) = aw_nm f T (q + 1)
def aw_resT (f : Nat → Int32) (T : aw_Ts) (q : Nat) : Prop := ∃ i, i ∈ aw_tl T 0 q ∧ aw_nm f T (i + 1) = aw_nm f T (q + 1)
def aw_GA (S : aj_S) : Prop := 1 ≤ aw_tJ S ∧ aw_tok S (aw_tT S (aw_tJ S)).1 (aw_tT S (aw_tJ S)).2.1 (aw_tT S (aw_tJ S)).2.2.1 (aw_tT S (aw_tJ S)).2.2.2 ∧ (aw_tT S (aw_tJ S)).2.2.1 ≤ aw_tN S
def aw_GB (g : aw_gh) (S : aj_S) : Prop := (S.1 32).toInt = 0 → (S.1 24).toInt ≠ 0 ∨ ((∀ q, 1 ≤ q → q < aw_tJ S → q ≠ g.2.2.2.1 → (aw_is (aw_tT S) q 3 63 → aw_res g (aw_tF S) (aw_tT S) q) ∧ (aw_is (aw_tT S) q 4 2 → aw_resT (aw_tF S) (aw_tT S) q)) ∧ (g.2.1 = false → aw_nc ((aw_ul (aw_tT S) g.2.2.2.2.1 (aw_tJ S)).map (aw_vm (aw_tF S) (aw_tT S))) 1))
def aw_GC (g : aw_gh) (S : aj_S) : Prop := (S.1 32).toInt = 1 → aw_tJ S ≤ g.2.2.1 ∧ (aw_tT S g.2.2.1).1 = 0 ∧ (∀ q, 1 ≤ q → q < g.2.2.1 → (aw_is (aw_tT S) q 3 63 → aw_res g (aw_tF S) (aw_tT S) q) ∧ (aw_is (aw_tT S) q 4 2 → aw_resT (aw_tF S) (aw_tT S) q)) ∧ (g.2.1 = false → aw_nc ((aw_ul (aw_tT S) 0 g.2.2.1).map (aw_vm (aw_tF S) (aw_tT S))) 1)
def aw_h (S : aj_S) : Nat := (S.1 37).toInt.toNat
def aw_hh (S : aj_S) : Nat := (S.1 0).toInt.toNat
def aw_GD (g : aw_gh) (S : aj_S) : Prop := (g.2.1 = true → ∀ v, g.1 v ↔ ∃ u : Nat, (u : Int) < (S.2.2.1 1 (aw_h S)).toInt ∧ S.2.2.2 2 (aw_h S * 8 + u) = v) ∧
  (g.2.1 = false → ((S.2.2.1 1 (aw_h S)).toInt = (aw_ul (aw_tT S) g.2.2.2.2.1 (aw_tJ S)).length ∧ (∀ (u i : Nat), (aw_ul (aw_tT S) g.2.2.2.2.1 (aw_tJ S))[u]? = some i → S.2.2.2 2 (aw_h S * 8 + u) = aw_nm (aw_tF S) (aw_tT S) (i + 1) ∧ (S.2.2.1 3 (aw_h S * 8 + u)).toInt = aw_vm (aw_tF S) (aw_tT S) i) ∧ (S.2.2.1 5 (aw_h S)).toInt = aw_wc ((aw_ul (aw_tT S) g.2.2.2.2.1 (aw_tJ S)).map (aw_vm (aw_tF S) (aw_tT S)))) ∧
    ((S.2.2.1 7 (aw_h S)).toInt = (aw_tl (aw_tT S) g.2.2.2.2.2 (aw_tJ S)).length ∧ ∀ (u i : Nat), (aw_tl (aw_tT S) g.2.2.2.2.2 (aw_tJ S))[u]? = some i → S.2.2.2 8 (aw_h S * 10 + u) = aw_nm (aw_tF S) (aw_tT S) (i + 1))) ∧
  (g.2.2.2.2.1 ≠ 0 → aw_is (aw_tT S) g.2.2.2.2.1 4 0 ∧ g.2.2.2.2.1 < aw_tJ S ∧ ∀ i, g.2.2.2.2.1 < i → i < aw_tJ S → ¬ aw_is (aw_tT S) i 4 0) ∧
  (g.2.2.2.2.2 ≠ 0 → (aw_is (aw_tT S) g.2.2.2.2.2 4 1 ∨ aw_is (aw_tT S) g.2.2.2.2.2 4 5) ∧ g.2.2.2.2.2 < aw_tJ S ∧ ∀ i, g.2.2.2.2.2 < i → i < aw_tJ S → ¬ aw_is (aw_tT S) i 4 1 ∧ ¬ aw_is (aw_tT S) i 4 5)
/-- in this world all PARTS hold -/
def aw_held (S : aj_S) (t w : Nat) : Prop := ∀ p : Nat, (p : Int) < (S.2.2.1 10 t).toInt → (aj_bitV (S.2.2.1 12) (nI ((t * 20 + p) * 32)) (nI w)).toInt = 1
def aw_hold (S : aj_S) (t : Nat) : Prop := ∃ w : Nat, (w : Int) < (S.2.2.1 5 t).toInt ∧ aw_held S t w
def aw_GE (g : aw_gh) (S : aj_S) : Prop := (∀ k, k < 12000 → (S.2.2.1 17 k).toInt = 1 → 0 ≤ (S.2.2.1 18 k).toInt ∧ (S.2.2.1 18 k).toInt ≤ 7) ∧ aw_hold S (aw_hh S) ∧ (S.2.2.1 10 (aw_hh S)).toInt ≤ 12 + (S.2.2.1 11 (aw_hh S)).toInt ∧ (S.2.2.1 11 (aw_hh S)).toInt ≤ (S.2.2.1 10 (aw_hh S)).toInt ∧
  (g.2.1 = true → aw_h S = aw_hh S) ∧ (g.2.1 = false → aw_h S = 1 - aw_hh S ∧ (S.2.2.1 11 (aw_h S)).toInt = 0 ∧ ((S.1 32).toInt = 1 → aw_hold S (aw_h S) ∧ (S.2.2.1 10 (aw_h S)).toInt ≤ (S.1 45).toInt) ∧ ((S.1 32).toInt = 0 → (S.2.2.1 10 (aw_h S)).toInt = 0))
def aw_G (g : aw_gh) (S : aj_S) : Prop := aw_GA S ∧ aw_GB g S ∧ aw_GC g S ∧ aw_GD g S ∧ aw_GE g S
def aw_mask (S : aj_S) : aj_S := (fun k => if (11, k) ∈ ak_spFM then S.1 k else 0, fun _ => 0, fun k => if 101 + k ∈ ak_spTM then S.2.2.1 k else fun _ => 0, fun k => if 101 + k ∈ ak_spTM then S.2.2.2 k else fun _ => 0)
section AWG
variable {tb : aj_T} {s : List Nat} {h : aj_H} {g : aw_gh} {S S' : aj_S}
theorem aw_mk_f {k : Nat} (hk : (11, k) ∈ ak_spFM) : (aw_mask S).1 k = S.1 k := if_pos hk
theorem aw_mk_a {k : Nat} (hk : 101 + k ∈ ak_spTM) : (aw_mask S).2.2.1 k = S.2.2.1 k := if_pos hk
theorem aw_mk_b {k : Nat} (hk : 101 + k ∈ ak_spTM) : (aw_mask S).2.2.2 k = S.2.2.2 k := if_pos hk
theorem aw_G_m : aw_G g (aw_mask S) ↔ aw_G g S := by
  have f0 : (aw_mask S).1 0 = S.1 0 := aw_mk_f (by decide)
  have f23 : (aw_mask S).1 23 = S.1 23 := aw_mk_f (by decide)
  have f24 : (aw_mask S).1 24 = S.1 24 := aw_mk_f (by decide)
  have f26 : (aw_mask S).1 26 = S.1 26 := aw_mk_f (by decide)
  have f27 : (aw_mask S).1 27 = S.1 27 := aw_mk_f (by decide)
  have f28 : (aw_mask S).1 28 = S.1 28 := aw_mk_f (by decide)
  have f29 : (aw_mask S).1 29 = S.1 29 := aw_mk_f (by decide)
  have f30 : (aw_mask S).1 30 = S.1 30 := aw_mk_f (by decide)
  have f32 : (aw_mask S).1 32 = S.1 32 := aw_mk_f (by decide)
  have f37 : (aw_mask S).1 37 = S.1 37 := aw_mk_f (by decide)
  have f45 : (aw_mask S).1 45 = S.1 45 := aw_mk_f (by decide)
  have a1 : (aw_mask S).2.2.1 1 = S.2.2.1 1 := aw_mk_a (by decide)
  have a2 : (aw_mask S).2.2.2 2 = S.2.2.2 2 := aw_mk_b (by decide)
  have a3 : (aw_mask S).2.2.1 3 = S.2.2.1 3 := aw_mk_a (by decide)
  have a5 : (aw_mask S).2.2.1 5 = S.2.2.1 5 := aw_mk_a (by decide)
  have a7 : (aw_mask S).2.2.1 7 = S.2.2.1 7 := aw_mk_a (by decide)
  have a8 : (aw_mask S).2.2.2 8 = S.2.2.2 8 := aw_mk_b (by decide)
  have a10 : (aw_mask S).2.2.1 10 = S.2.2.1 10 := aw_mk_a (by decide)
  have a11 : (aw_mask S).2.2.1 11 = S.2.2.1 11 := aw_mk_a (by decide)
  have a12 : (aw_mask S).2.2.1 12 = S.2.2.1 12 := aw_mk_a (by decide)
  have a17 : (aw_mask S).2.2.1 17 = S.2.2.1 17 := aw_mk_a (by decide)
  have a18 : (aw_mask S).2.2.1 18 = S.2.2.1 18 := aw_mk_a (by decide)
  have a21 : (aw_mask S).2.2.1 21 = S.2.2.1 21 := aw_mk_a (by decide)
  unfold aw_G aw_GA aw_GB aw_GC aw_GD aw_GE aw_hold aw_held aw_tok aw_tT aw_tJ aw_tN aw_tF aw_h aw_hh
  rw [f0, f23, f24, f26, f27, f28, f29, f30, f32, f37, f45, a1, a2, a3, a5, a7, a8, a10, a11, a12, a17, a18, a21]
theorem aw_G_eq (he : aw_mask S' = aw_mask S) (hG : aw_G g S) : aw_G g S' := aw_G_m.mp (he ▸ aw_G_m.mpr hG)
theorem aw_mk_eq (h1 : ∀ k, (11, k) ∈ ak_spFM → S'.1 k = S.1 k) (h2 : ∀ k, 101 + k ∈ ak_spTM → S'.2.2.1 k = S.2.2.1 k) (h3 : ∀ k, 101 + k ∈ ak_spTM → S'.2.2.2 k = S.2.2.2 k) : aw_mask S' = aw_mask S := by
  unfold aw_mask
  refine Prod.ext ?_ (Prod.ext rfl (Prod.ext ?_ ?_))
  · funext k
    dsimp only
    split
    · exact h1 k (by assumption)
    · rfl
  · funext k
    dsimp only
    split
    · exact h2 k (by assumption)
    · rfl
  · funext k
    dsimp only
    split
    · exact h3 k (by assumption)
    · rfl
theorem aw_Gc_G : aw_Gc (aw_G g) := by
  refine ⟨fun S k v hk hG => ?_, fun S k v hG => ?_, fun S k j v hk hG => ?_, fun S k j v hk hG => ?_⟩
  · refine aw_G_eq (S := S) (aw_mk_eq (fun i hi => ?_) (fun _ _ => rfl) (fun _ _ => rfl)) hG
    show (if i = k then v else S.1 i) = S.1 i
    rw [if_neg (fun z : i = k => hk (by rw [← z]; exact hi))]
  · exact aw_G_eq (S := S) (aw_mk_eq (fun _ _ => rfl) (fun _ _ => rfl) (fun _ _ => rfl)) hG
  · refine aw_G_eq (S := S) (aw_mk_eq (fun _ _ => rfl) (fun i hi => ?_) (fun _ _ => rfl)) hG
    show (if i = k then _ else S.2.2.1 i) = S.2.2.1 i
    rw [if_neg (fun z : i = k => hk (by rw [← z]; exact hi))]
  · refine aw_G_eq (S := S) (aw_mk_eq (fun _ _ => rfl) (fun _ _ => rfl) (fun i hi => ?_)) hG
    show (if i = k then _ else S.2.2.2 i) = S.2.2.2 i
    rw [if_neg (fun z : i = k => hk (by rw [← z]; exact hi))]
end AWG
