/-! THE RULES BY HAND (printed by wip/p2/cwalk/g67.py) -/
section CW66B
variable {T : ak_TT} {Φ : List Nat → Option Value → aj_H → Prop} {tb : aj_T} {d : Nat} {mm : aj_M} {con : ak_Con} {s : List Nat} {h : aj_H} {kc ks pc : Nat} {lv : aj_V} {st rest : List Value} {ct : List (Nat × Instr × Nat)}
theorem cw_jump {off : Int} {tgt : Nat} (ht : (pc : Int) + off = (tgt : Int)) : aj_jump pc off lv st h = some (.inl ((tgt, lv, st), h, 0, 0)) := by
  unfold aj_jump
  rw [ht, if_pos (Int.natCast_nonneg _), Int.toNat_natCast]
  rfl
theorem cw_tsw (hct : aj_ctOK ct mm.2.1) {dflt lo hi : Int} {offs : Array Int} {len : Nat} (hd : aj_ct ct pc = some (.tableswitch dflt lo hi offs, len)) {x : Int32} {a : Int} (hx : x.toInt = a) (h1 : lo ≤ a ∧ a ≤ hi) {off : Int} (ho : offs[(a - lo).toNat]? = some off) {tgt : Nat} (ht : (pc : Int) + off = (tgt : Int)) (kk : cw_W T Φ tb d mm con s h kc ks tgt lv rest) : cw_W T Φ tb d mm con s h kc ks pc lv (.int x :: rest) := by
  refine cw_n hct hd ?_ kk
  unfold aj_step
  dsimp only
  rw [hx, if_neg (by omega), ho]
  exact cw_jump ht
theorem cw_tsd (hct : aj_ctOK ct mm.2.1) {dflt lo hi : Int} {offs : Array Int} {len : Nat} (hd : aj_ct ct pc = some (.tableswitch dflt lo hi offs, len)) {x : Int32} {a : Int} (hx : x.toInt = a) (h1 : a < lo ∨ hi < a) {tgt : Nat} (ht : (pc : Int) + dflt = (tgt : Int)) (kk : cw_W T Φ tb d mm con s h kc ks tgt lv rest) : cw_W T Φ tb d mm con s h kc ks pc lv (.int x :: rest) := by
  refine cw_n hct hd ?_ kk
  unfold aj_step
  dsimp only
  rw [hx, if_pos h1]
  exact cw_jump ht
theorem cw_lsw (hct : aj_ctOK ct mm.2.1) {dflt : Int} {ps : Array (Int × Int)} {len : Nat} (hd : aj_ct ct pc = some (.lookupswitch dflt ps, len)) {x : Int32} {a : Int} (hx : x.toInt = a) (hs : (ps.toList.zip (ps.toList.drop 1)).all (fun (a, next) => a.1 < next.1) = true) {off : Int} (ho : Op.lookupswitch.offset ps.toList dflt a = off) {tgt : Nat} (ht : (pc : Int) + off = (tgt : Int)) (kk : cw_W T Φ tb d mm con s h kc ks tgt lv rest) : cw_W T Φ tb d mm con s h kc ks pc lv (.int x :: rest) := by
  refine cw_n hct hd ?_ kk
  unfold aj_step
  dsimp only
  rw [hx, if_pos hs, ho]
  exact cw_jump ht
def cw_rS (p : Nat) (r : Option Value) : Prop := r = some .null ∨ ∃ t, r = some (.ref t) ∧ t ∈ cw_rl p
theorem cw_rSt {l : List Nat} {b : Bool} {r : Option Value} (h0 : ak_gR s (some (.inr (some (l, b)))) r) (hl : ∀ t ∈ l, t < 52) : r = some .null ∨ ∃ t, r = some (.ref t) ∧ t ∈ l := by
  cases r with
  | none => exact h0.elim
  | some v =>
    rcases ak_gr h0 with ⟨rfl, -⟩ | ⟨r, t, rfl, ht, hty⟩
    · exact Or.inl rfl
    · rcases hty with ⟨q1, q2⟩ | ⟨q1, q2, -⟩
      · subst q2
        exact Or.inr ⟨t, rfl, ht⟩
      · have := hl t ht
        omega
theorem cw_gS {l : List Nat} {b : Bool} {t : Nat} (h1 : t ∈ l) (h2 : t < 52) : ak_gR s (some (.inr (some (l, b)))) (some (.ref t)) := ⟨t, h1, Or.inl ⟨h2, rfl⟩⟩
theorem cw_lds (htb : tb.length = 52) (hct : aj_ctOK ct mm.2.1) (hd : aj_ct ct pc = some (.iaload, 1)) {t n : Nat} {f : Nat → Int32} (ht : t < 52) (hA : tb[t]? = some (0, n, .inl f)) {z : Int32} {a : Int} (hz : z.toInt = a) (h0 : 0 ≤ a) (h1 : a < n) (kk : cw_W T Φ tb d mm con s h kc ks (pc + 1) lv (.int (f a.toNat) :: rest)) : cw_W T Φ tb d mm con s h kc ks pc lv (.int z :: .ref t :: rest) := by
  obtain ⟨e1, e2⟩ := cw_in (n := n) hz h0 h1
  obtain ⟨u, r, h', k1, k2⟩ := kk
  refine ⟨u, r, h', aj_ta hct ⟨Nat.le_add_right _ _, Nat.le_add_right _ _⟩ (Or.inl ⟨rfl, rfl⟩) hd (a := t) (n := n) (f := f) ?_ e1 (by rw [e2]; exact k1), k2⟩
  unfold aj_arr
  rw [htb, if_pos ht]
  exact hA
theorem cw_alens (htb : tb.length = 52) (hct : aj_ctOK ct mm.2.1) (hd : aj_ct ct pc = some (.arraylength, 1)) {t n : Nat} {f : Nat → Int32} (ht : t < 52) (hA : tb[t]? = some (0, n, .inl f)) (hn : n ≤ 2147483647) (kk : ∀ y : Int32, y.toInt = n → cw_W T Φ tb d mm con s h kc ks (pc + 1) lv (.int y :: rest)) : cw_W T Φ tb d mm con s h kc ks pc lv (.ref t :: rest) := by
  refine cw_n hct hd ?_ (kk (Int32.ofNat n) ?_)
  · unfold aj_step aj_alen
    dsimp only
    have : aj_arr tb h t = some (0, n, .inl f) := by
      unfold aj_arr
      rw [htb, if_pos ht]
      exact hA
    rw [if_pos rfl, this]
    rfl
  · rw [show Int32.ofNat n = Int32.ofInt (n : Int) from rfl, Int32.toInt_ofInt]
    exact ak_bm (by omega) (by omega)
theorem cw_gst (htb : tb.length = 52) (hct : aj_ctOK ct mm.2.1) {idx : Nat} (hd : aj_ct ct pc = some (.getstatic idx, 3)) {sid a : Nat} {b : Int} (hl : aj_link mm.2.2.2.2.2.1 idx = some (9, sid, a, b)) (hs : sid < 52) (kk : cw_W T Φ tb d mm con s h kc ks (pc + 3) lv (.ref sid :: st)) : cw_W T Φ tb d mm con s h kc ks pc lv st := by
  refine cw_n hct hd ?_ kk
  unfold aj_step aj_gets
  try dsimp only
  rw [if_pos rfl, hl]
  exact if_pos (by rw [htb]; exact hs)
theorem cw_irb {rc : Nat} {cls : List aj_C} {lk : List aj_L} {nL : Nat} {ret : Option FieldType} {isI : Bool} (hr : ret = some .boolean) {x : Int32} (hx : x.toInt = 0 ∨ x.toInt = 1) : aj_step rc cls tb lk nL ret isI .ireturn 1 pc lv [.int x] h = some (.inr (.inr (some (.int x)))) := by
  subst hr
  unfold aj_step
  rw [if_pos rfl]
  show (if (0 : Nat) = 0 ∧ aj_fit .boolean (.int x) = true then some (Sum.inr (Sum.inr (some (Value.int x)))) else none) = _
  rw [if_pos ⟨rfl, aw_fitb rfl hx⟩]
theorem cw_lit {x : Int32} {n : Int32} {a : Int} (h0 : x.toInt = a) (h1 : n.toInt = a) : x = n := Int32.toInt_inj.mp (h0.trans h1.symm)
/-- what the rules' arrays hold -/
def cw_tbG (tb : aj_T) : Prop := ∀ t, 1 ≤ t → t ≤ 50 → ∃ f : Nat → Int32, tb[t]? = some (0, (cw_sl t).length, .inl f) ∧ ∀ j, j < (cw_sl t).length → (f j).toInt = (((cw_sl t).getD j 0 : Nat) : Int)
end CW66B
section CW66C
variable {tb : aj_T} {s : List Nat} {h : aj_H} {d : Nat}
theorem cw_r131 (htb : ak_tbOK ak_C0 tb) (hT : ak_Ty ak_C0 s h) (hB : cw_B s) (hd : 2 ≤ d) (y : Int32) : cw_K ak_C0 (fun s' r h' => s' = s ∧ cw_o h' = cw_o h ∧ cw_rS 131 r) tb d ap_c49 [.int 131, .int y] s h := by
  obtain ⟨d, rfl⟩ : ∃ e, d = e + 1 := ⟨d - 1, by omega⟩
  refine cw_m (con := ap_c49) aj_m49_at (Nat.le_of_ble_eq_true rfl) ?_
  show cw_W _ _ _ _ _ _ _ _ _ _ 0 [(0, .int 131), (1, .int y)] []
  refine cw_n aj_d49 rfl rfl ?_
  refine cw_tsw (tgt := 44) (a := (131 : Int)) aj_d49 rfl rfl ⟨by decide, by decide⟩ rfl rfl ?_
  refine cw_n aj_d49 rfl rfl ?_
  refine cw_n aj_d49 rfl rfl ?_
  refine cw_c (tgt := 56) aj_d49 rfl rfl (fun q1 => ?_) (fun q1 => ?_)
  · have q1 : y.toInt ≠ (45 : Int) := aw_t_ne (a := y.toInt) (b := (45 : Int)) rfl rfl q1
    refine cw_n aj_d49 rfl rfl ?_
    refine cw_n aj_d49 rfl rfl ?_
    refine cw_c (tgt := 67) aj_d49 rfl rfl (fun q2 => ?_) (fun q2 => ?_)
    · have q2 : y.toInt ≠ (4 : Int) := aw_t_ne (a := y.toInt) (b := (4 : Int)) rfl rfl q2
      refine cw_n aj_d49 rfl rfl ?_
      refine cw_Wr aj_d49 rfl rfl hT ?_ ?_
      · exact ⟨rfl, rfl, Or.inl rfl⟩
      · exact rfl
    · have q2 : y.toInt = (4 : Int) := aw_t_ne (a := y.toInt) (b := (4 : Int)) rfl rfl q2
      refine cw_gst htb.1 aj_d49 rfl rfl (by decide) ?_
      refine cw_n aj_d49 rfl rfl ?_
      refine cw_Wr aj_d49 rfl rfl hT ?_ ?_
      · exact ⟨rfl, rfl, Or.inr ⟨8, rfl, by decide⟩⟩
      · exact cw_gS (by decide) (by decide)
  · have q1 : y.toInt = (45 : Int) := aw_t_ne (a := y.toInt) (b := (45 : Int)) rfl rfl q1
    refine cw_gst htb.1 aj_d49 rfl rfl (by decide) ?_
    refine cw_n aj_d49 rfl rfl ?_
    refine cw_Wr aj_d49 rfl rfl hT ?_ ?_
    · exact ⟨rfl, rfl, Or.inr ⟨7, rfl, by decide⟩⟩
    · exact cw_gS (by decide) (by decide)
theorem cw_r132 (htb : ak_tbOK ak_C0 tb) (hT : ak_Ty ak_C0 s h) (hB : cw_B s) (hd : 2 ≤ d) (y : Int32) : cw_K ak_C0 (fun s' r h' => s' = s ∧ cw_o h' = cw_o h ∧ cw_rS 132 r) tb d ap_c49 [.int 132, .int y] s h := by
  obtain ⟨d, rfl⟩ : ∃ e, d = e + 1 := ⟨d - 1, by omega⟩
  refine cw_m (con := ap_c49) aj_m49_at (Nat.le_of_ble_eq_true rfl) ?_
  show cw_W _ _ _ _ _ _ _ _ _ _ 0 [(0, .int 132), (1, .int y)] []
  refine cw_n aj_d49 rfl rfl ?_
  refine cw_tsw (tgt := 94) (a := (132 : Int)) aj_d49 rfl rfl ⟨by decide, by decide⟩ rfl rfl ?_
  refine cw_n aj_d49 rfl rfl ?_
  refine cw_n aj_d49 rfl rfl ?_
  refine cw_c (tgt := 105) aj_d49 rfl rfl (fun q3 => ?_) (fun q3 => ?_)
  · have q3 : y.toInt ≠ (5 : Int) := aw_t_ne (a := y.toInt) (b := (5 : Int)) rfl rfl q3
    refine cw_n aj_d49 rfl rfl ?_
    refine cw_n aj_d49 rfl rfl ?_
    refine cw_c (tgt := 117) aj_d49 rfl rfl (fun q4 => ?_) (fun q4 => ?_)
    · have q4 : y.toInt ≠ (44 : Int) := aw_t_ne (a := y.toInt) (b := (44 : Int)) rfl rfl q4
      refine cw_gst htb.1 aj_d49 rfl rfl (by decide) ?_
      refine cw_Wr aj_d49 rfl rfl hT ?_ ?_
      · exact ⟨rfl, rfl, Or.inr ⟨6, rfl, by decide⟩⟩
      · exact cw_gS (by decide) (by decide)
    · have q4 : y.toInt = (44 : Int) := aw_t_ne (a := y.toInt) (b := (44 : Int)) rfl rfl q4
      refine cw_gst htb.1 aj_d49 rfl rfl (by decide) ?_
      refine cw_n aj_d49 rfl rfl ?_
      refine cw_Wr aj_d49 rfl rfl hT ?_ ?_
      · exact ⟨rfl, rfl, Or.inr ⟨12, rfl, by decide⟩⟩
      · exact cw_gS (by decide) (by decide)
  · have q3 : y.toInt = (5 : Int) := aw_t_ne (a := y.toInt) (b := (5 : Int)) rfl rfl q3
    refine cw_gst htb.1 aj_d49 rfl rfl (by decide) ?_
    refine cw_n aj_d49 rfl rfl ?_
    refine cw_Wr aj_d49 rfl rfl hT ?_ ?_
    · exact ⟨rfl, rfl, Or.inr ⟨11, rfl, by decide⟩⟩
    · exact cw_gS (by decide) (by decide)
theorem cw_r133 (htb : ak_tbOK ak_C0 tb) (hT : ak_Ty ak_C0 s h) (hB : cw_B s) (hd : 2 ≤ d) (y : Int32) : cw_K ak_C0 (fun s' r h' => s' = s ∧ cw_o h' = cw_o h ∧ cw_rS 133 r) tb d ap_c49 [.int 133, .int y] s h := by
  obtain ⟨d, rfl⟩ : ∃ e, d = e + 1 := ⟨d - 1, by omega⟩
  refine cw_m (con := ap_c49) aj_m49_at (Nat.le_of_ble_eq_true rfl) ?_
  show cw_W _ _ _ _ _ _ _ _ _ _ 0 [(0, .int 133), (1, .int y)] []
  refine cw_n aj_d49 rfl rfl ?_
  refine cw_tsw (tgt := 121) (a := (133 : Int)) aj_d49 rfl rfl ⟨by decide, by decide⟩ rfl rfl ?_
  refine cw_n aj_d49 rfl rfl ?_
  refine cw_n aj_d49 rfl rfl ?_
  refine cw_c (tgt := 133) aj_d49 rfl rfl (fun q5 => ?_) (fun q5 => ?_)
  · have q5 : y.toInt ≠ (44 : Int) := aw_t_ne (a := y.toInt) (b := (44 : Int)) rfl rfl q5
    refine cw_gst htb.1 aj_d49 rfl rfl (by decide) ?_
    refine cw_Wr aj_d49 rfl rfl hT ?_ ?_
    · exact ⟨rfl, rfl, Or.inr ⟨6, rfl, by decide⟩⟩
    · exact cw_gS (by decide) (by decide)
  · have q5 : y.toInt = (44 : Int) := aw_t_ne (a := y.toInt) (b := (44 : Int)) rfl rfl q5
    refine cw_gst htb.1 aj_d49 rfl rfl (by decide) ?_
    refine cw_n aj_d49 rfl rfl ?_
    refine cw_Wr aj_d49 rfl rfl hT ?_ ?_
    · exact ⟨rfl, rfl, Or.inr ⟨12, rfl, by decide⟩⟩
    · exact cw_gS (by decide) (by decide)
theorem cw_r134 (htb : ak_tbOK ak_C0 tb) (hT : ak_Ty ak_C0 s h) (hB : cw_B s) (hd : 2 ≤ d) (y : Int32) : cw_K ak_C0 (fun s' r h' => s' = s ∧ cw_o h' = cw_o h ∧ cw_rS 134 r) tb d ap_c49 [.int 134, .int y] s h := by
  obtain ⟨d, rfl⟩ : ∃ e, d = e + 1 := ⟨d - 1, by omega⟩
  refine cw_m (con := ap_c49) aj_m49_at (Nat.le_of_ble_eq_true rfl) ?_
  show cw_W _ _ _ _ _ _ _ _ _ _ 0 [(0, .int 134), (1, .int y)] []
  refine cw_n aj_d49 rfl rfl ?_
  refine cw_tsw (tgt := 69) (a := (134 : Int)) aj_d49 rfl rfl ⟨by decide, by decide⟩ rfl rfl ?_
  refine cw_n aj_d49 rfl rfl ?_
  refine cw_n aj_d49 rfl rfl ?_
  refine cw_c (tgt := 81) aj_d49 rfl rfl (fun q6 => ?_) (fun q6 => ?_)
  · have q6 : y.toInt ≠ (45 : Int) := aw_t_ne (a := y.toInt) (b := (45 : Int)) rfl rfl q6
    refine cw_n aj_d49 rfl rfl ?_
    refine cw_n aj_d49 rfl rfl ?_
    refine cw_c (tgt := 92) aj_d49 rfl rfl (fun q7 => ?_) (fun q7 => ?_)
    · have q7 : y.toInt ≠ (4 : Int) := aw_t_ne (a := y.toInt) (b := (4 : Int)) rfl rfl q7
      refine cw_n aj_d49 rfl rfl ?_
      refine cw_Wr aj_d49 rfl rfl hT ?_ ?_
      · exact ⟨rfl, rfl, Or.inl rfl⟩
      · exact rfl
    · have q7 : y.toInt = (4 : Int) := aw_t_ne (a := y.toInt) (b := (4 : Int)) rfl rfl q7
      refine cw_gst htb.1 aj_d49 rfl rfl (by decide) ?_
      refine cw_n aj_d49 rfl rfl ?_
      refine cw_Wr aj_d49 rfl rfl hT ?_ ?_
      · exact ⟨rfl, rfl, Or.inr ⟨10, rfl, by decide⟩⟩
      · exact cw_gS (by decide) (by decide)
  · have q6 : y.toInt = (45 : Int) := aw_t_ne (a := y.toInt) (b := (45 : Int)) rfl rfl q6
    refine cw_gst htb.1 aj_d49 rfl rfl (by decide) ?_
    refine cw_n aj_d49 rfl rfl ?_
    refine cw_Wr aj_d49 rfl rfl hT ?_ ?_
    · exact ⟨rfl, rfl, Or.inr ⟨9, rfl, by decide⟩⟩
    · exact cw_gS (by decide) (by decide)
theorem cw_r135 (htb : ak_tbOK ak_C0 tb) (hT : ak_Ty ak_C0 s h) (hB : cw_B s) (hd : 2 ≤ d) (y : Int32) : cw_K ak_C0 (fun s' r h' => s' = s ∧ cw_o h' = cw_o h ∧ cw_rS 135 r) tb d ap_c49 [.int 135, .int y] s h := by
  obtain ⟨d, rfl⟩ : ∃ e, d = e + 1 := ⟨d - 1, by omega⟩
  refine cw_m (con := ap_c49) aj_m49_at (Nat.le_of_ble_eq_true rfl) ?_
  show cw_W _ _ _ _ _ _ _ _ _ _ 0 [(0, .int 135), (1, .int y)] []
  refine cw_n aj_d49 rfl rfl ?_
  refine cw_tsw (tgt := 137) (a := (135 : Int)) aj_d49 rfl rfl ⟨by decide, by decide⟩ rfl rfl ?_
  refine cw_n aj_d49 rfl rfl ?_
  refine cw_n aj_d49 rfl rfl ?_
  refine cw_c (tgt := 149) aj_d49 rfl rfl (fun q8 => ?_) (fun q8 => ?_)
  · have q8 : y.toInt ≠ (44 : Int) := aw_t_ne (a := y.toInt) (b := (44 : Int)) rfl rfl q8
    refine cw_gst htb.1 aj_d49 rfl rfl (by decide) ?_
    refine cw_Wr aj_d49 rfl rfl hT ?_ ?_
    · exact ⟨rfl, rfl, Or.inr ⟨6, rfl, by decide⟩⟩
    · exact cw_gS (by decide) (by decide)
  · have q8 : y.toInt = (44 : Int) := aw_t_ne (a := y.toInt) (b := (44 : Int)) rfl rfl q8
    refine cw_gst htb.1 aj_d49 rfl rfl (by decide) ?_
    refine cw_n aj_d49 rfl rfl ?_
    refine cw_Wr aj_d49 rfl rfl hT ?_ ?_
    · exact ⟨rfl, rfl, Or.inr ⟨13, rfl, by decide⟩⟩
    · exact cw_gS (by decide) (by decide)
theorem cw_r136 (htb : ak_tbOK ak_C0 tb) (hT : ak_Ty ak_C0 s h) (hB : cw_B s) (hd : 2 ≤ d) (y : Int32) : cw_K ak_C0 (fun s' r h' => s' = s ∧ cw_o h' = cw_o h ∧ cw_rS 136 r) tb d ap_c49 [.int 136, .int y] s h := by
  obtain ⟨d, rfl⟩ : ∃ e, d = e + 1 := ⟨d - 1, by omega⟩
  refine cw_m (con := ap_c49) aj_m49_at (Nat.le_of_ble_eq_true rfl) ?_
  show cw_W _ _ _ _ _ _ _ _ _ _ 0 [(0, .int 136), (1, .int y)] []
  refine cw_n aj_d49 rfl rfl ?_
  refine cw_tsw (tgt := 153) (a := (136 : Int)) aj_d49 rfl rfl ⟨by decide, by decide⟩ rfl rfl ?_
  refine cw_n aj_d49 rfl rfl ?_
  refine cw_n aj_d49 rfl rfl ?_
  refine cw_c (tgt := 165) aj_d49 rfl rfl (fun q9 => ?_) (fun q9 => ?_)
  · have q9 : y.toInt ≠ (44 : Int) := aw_t_ne (a := y.toInt) (b := (44 : Int)) rfl rfl q9
    refine cw_gst htb.1 aj_d49 rfl rfl (by decide) ?_
    refine cw_Wr aj_d49 rfl rfl hT ?_ ?_
    · exact ⟨rfl, rfl, Or.inr ⟨6, rfl, by decide⟩⟩
    · exact cw_gS (by decide) (by decide)
  · have q9 : y.toInt = (44 : Int) := aw_t_ne (a := y.toInt) (b := (44 : Int)) rfl rfl q9
    refine cw_gst htb.1 aj_d49 rfl rfl (by decide) ?_
    refine cw_n aj_d49 rfl rfl ?_
    refine cw_Wr aj_d49 rfl rfl hT ?_ ?_
    · exact ⟨rfl, rfl, Or.inr ⟨14, rfl, by decide⟩⟩
    · exact cw_gS (by decide) (by decide)
theorem cw_r137 (htb : ak_tbOK ak_C0 tb) (hT : ak_Ty ak_C0 s h) (hB : cw_B s) (hd : 2 ≤ d) (y : Int32) : cw_K ak_C0 (fun s' r h' => s' = s ∧ cw_o h' = cw_o h ∧ cw_rS 137 r) tb d ap_c49 [.int 137, .int y] s h := by
  obtain ⟨d, rfl⟩ : ∃ e, d = e + 1 := ⟨d - 1, by omega⟩
  refine cw_m (con := ap_c49) aj_m49_at (Nat.le_of_ble_eq_true rfl) ?_
  show cw_W _ _ _ _ _ _ _ _ _ _ 0 [(0, .int 137), (1, .int y)] []
  refine cw_n aj_d49 rfl rfl ?_
  refine cw_tsw (tgt := 169) (a := (137 : Int)) aj_d49 rfl rfl ⟨by decide, by decide⟩ rfl rfl ?_
  refine cw_n aj_d49 rfl rfl ?_
  refine cw_n aj_d49 rfl rfl ?_
  refine cw_c (tgt := 181) aj_d49 rfl rfl (fun q10 => ?_) (fun q10 => ?_)
  · have q10 : y.toInt ≠ (13 : Int) := aw_t_ne (a := y.toInt) (b := (13 : Int)) rfl rfl q10
    refine cw_gst htb.1 aj_d49 rfl rfl (by decide) ?_
    refine cw_Wr aj_d49 rfl rfl hT ?_ ?_
    · exact ⟨rfl, rfl, Or.inr ⟨6, rfl, by decide⟩⟩
    · exact cw_gS (by decide) (by decide)
  · have q10 : y.toInt = (13 : Int) := aw_t_ne (a := y.toInt) (b := (13 : Int)) rfl rfl q10
    refine cw_gst htb.1 aj_d49 rfl rfl (by decide) ?_
    refine cw_n aj_d49 rfl rfl ?_
    refine cw_Wr aj_d49 rfl rfl hT ?_ ?_
    · exact ⟨rfl, rfl, Or.inr ⟨15, rfl, by decide⟩⟩
    · exact cw_gS (by decide) (by decide)
theorem cw_r138 (htb : ak_tbOK ak_C0 tb) (hT : ak_Ty ak_C0 s h) (hB : cw_B s) (hd : 2 ≤ d) (y : Int32) : cw_K ak_C0 (fun s' r h' => s' = s ∧ cw_o h' = cw_o h ∧ cw_rS 138 r) tb d ap_c50 [.int 138, .int y] s h := by
  obtain ⟨d, rfl⟩ : ∃ e, d = e + 1 := ⟨d - 1, by omega⟩
  refine cw_m (con := ap_c50) aj_m50_at (Nat.le_of_ble_eq_true rfl) ?_
  show cw_W _ _ _ _ _ _ _ _ _ _ 0 [(0, .int 138), (1, .int y)] []
  refine cw_n aj_d50 rfl rfl ?_
  refine cw_tsw (tgt := 44) (a := (138 : Int)) aj_d50 rfl rfl ⟨by decide, by decide⟩ rfl rfl ?_
  refine cw_gst htb.1 aj_d50 rfl rfl (by decide) ?_
  refine cw_Wr aj_d50 rfl rfl hT ?_ ?_
  · exact ⟨rfl, rfl, Or.inr ⟨16, rfl, by decide⟩⟩
  · exact cw_gS (by decide) (by decide)
theorem cw_r139 (htb : ak_tbOK ak_C0 tb) (hT : ak_Ty ak_C0 s h) (hB : cw_B s) (hd : 2 ≤ d) (y : Int32) : cw_K ak_C0 (fun s' r h' => s' = s ∧ cw_o h' = cw_o h ∧ cw_rS 139 r) tb d ap_c50 [.int 139, .int y] s h := by
  obtain ⟨d, rfl⟩ : ∃ e, d = e + 1 := ⟨d - 1, by omega⟩
  refine cw_m (con := ap_c50) aj_m50_at (Nat.le_of_ble_eq_true rfl) ?_
  show cw_W _ _ _ _ _ _ _ _ _ _ 0 [(0, .int 139), (1, .int y)] []
  refine cw_n aj_d50 rfl rfl ?_
  refine cw_tsw (tgt := 48) (a := (139 : Int)) aj_d50 rfl rfl ⟨by decide, by decide⟩ rfl rfl ?_
  refine cw_n aj_d50 rfl rfl ?_
  refine cw_n aj_d50 rfl rfl ?_
  refine cw_c (tgt := 60) aj_d50 rfl rfl (fun q11 => ?_) (fun q11 => ?_)
  · have q11 : y.toInt ≠ (124 : Int) := aw_t_ne (a := y.toInt) (b := (124 : Int)) rfl rfl q11
    refine cw_gst htb.1 aj_d50 rfl rfl (by decide) ?_
    refine cw_Wr aj_d50 rfl rfl hT ?_ ?_
    · exact ⟨rfl, rfl, Or.inr ⟨6, rfl, by decide⟩⟩
    · exact cw_gS (by decide) (by decide)
  · have q11 : y.toInt = (124 : Int) := aw_t_ne (a := y.toInt) (b := (124 : Int)) rfl rfl q11
    refine cw_gst htb.1 aj_d50 rfl rfl (by decide) ?_
    refine cw_n aj_d50 rfl rfl ?_
    refine cw_Wr aj_d50 rfl rfl hT ?_ ?_
    · exact ⟨rfl, rfl, Or.inr ⟨17, rfl, by decide⟩⟩
    · exact cw_gS (by decide) (by decide)
theorem cw_r140 (htb : ak_tbOK ak_C0 tb) (hT : ak_Ty ak_C0 s h) (hB : cw_B s) (hd : 2 ≤ d) (y : Int32) : cw_K ak_C0 (fun s' r h' => s' = s ∧ cw_o h' = cw_o h ∧ cw_rS 140 r) tb d ap_c50 [.int 140, .int y] s h := by
  obtain ⟨d, rfl⟩ : ∃ e, d = e + 1 := ⟨d - 1, by omega⟩
  refine cw_m (con := ap_c50) aj_m50_at (Nat.le_of_ble_eq_true rfl) ?_
  show cw_W _ _ _ _ _ _ _ _ _ _ 0 [(0, .int 140), (1, .int y)] []
  refine cw_n aj_d50 rfl rfl ?_
  refine cw_tsw (tgt := 64) (a := (140 : Int)) aj_d50 rfl rfl ⟨by decide, by decide⟩ rfl rfl ?_
  refine cw_gst htb.1 aj_d50 rfl rfl (by decide) ?_
  refine cw_Wr aj_d50 rfl rfl hT ?_ ?_
  · exact ⟨rfl, rfl, Or.inr ⟨18, rfl, by decide⟩⟩
  · exact cw_gS (by decide) (by decide)
theorem cw_r141 (htb : ak_tbOK ak_C0 tb) (hT : ak_Ty ak_C0 s h) (hB : cw_B s) (hd : 2 ≤ d) (y : Int32) : cw_K ak_C0 (fun s' r h' => s' = s ∧ cw_o h' = cw_o h ∧ cw_rS 141 r) tb d ap_c50 [.int 141, .int y] s h := by
  obtain ⟨d, rfl⟩ : ∃ e, d = e + 1 := ⟨d - 1, by omega⟩
  refine cw_m (con := ap_c50) aj_m50_at (Nat.le_of_ble_eq_true rfl) ?_
  show cw_W _ _ _ _ _ _ _ _ _ _ 0 [(0, .int 141), (1, .int y)] []
  refine cw_n aj_d50 rfl rfl ?_
  refine cw_tsw (tgt := 68) (a := (141 : Int)) aj_d50 rfl rfl ⟨by decide, by decide⟩ rfl rfl ?_
  refine cw_n aj_d50 rfl rfl ?_
  refine cw_n aj_d50 rfl rfl ?_
  refine cw_c (tgt := 80) aj_d50 rfl rfl (fun q12 => ?_) (fun q12 => ?_)
  · have q12 : y.toInt ≠ (38 : Int) := aw_t_ne (a := y.toInt) (b := (38 : Int)) rfl rfl q12
    refine cw_gst htb.1 aj_d50 rfl rfl (by decide) ?_
    refine cw_Wr aj_d50 rfl rfl hT ?_ ?_
    · exact ⟨rfl, rfl, Or.inr ⟨6, rfl, by decide⟩⟩
    · exact cw_gS (by decide) (by decide)
  · have q12 : y.toInt = (38 : Int) := aw_t_ne (a := y.toInt) (b := (38 : Int)) rfl rfl q12
    refine cw_gst htb.1 aj_d50 rfl rfl (by decide) ?_
    refine cw_n aj_d50 rfl rfl ?_
    refine cw_Wr aj_d50 rfl rfl hT ?_ ?_
    · exact ⟨rfl, rfl, Or.inr ⟨19, rfl, by decide⟩⟩
    · exact cw_gS (by decide) (by decide)
theorem cw_r142 (htb : ak_tbOK ak_C0 tb) (hT : ak_Ty ak_C0 s h) (hB : cw_B s) (hd : 2 ≤ d) (y : Int32) : cw_K ak_C0 (fun s' r h' => s' = s ∧ cw_o h' = cw_o h ∧ cw_rS 142 r) tb d ap_c50 [.int 142, .int y] s h := by
  obtain ⟨d, rfl⟩ : ∃ e, d = e + 1 := ⟨d - 1, by omega⟩
  refine cw_m (con := ap_c50) aj_m50_at (Nat.le_of_ble_eq_true rfl) ?_
  show cw_W _ _ _ _ _ _ _ _ _ _ 0 [(0, .int 142), (1, .int y)] []
  refine cw_n aj_d50 rfl rfl ?_
  refine cw_tsw (tgt := 84) (a := (142 : Int)) aj_d50 rfl rfl ⟨by decide, by decide⟩ rfl rfl ?_
  refine cw_n aj_d50 rfl rfl ?_
  refine cw_n aj_d50 rfl rfl ?_
  refine cw_c (tgt := 96) aj_d50 rfl rfl (fun q13 => ?_) (fun q13 => ?_)
  · have q13 : y.toInt ≠ (33 : Int) := aw_t_ne (a := y.toInt) (b := (33 : Int)) rfl rfl q13
    refine cw_n aj_d50 rfl rfl ?_
    refine cw_n aj_d50 rfl rfl ?_
    refine cw_c (tgt := 108) aj_d50 rfl rfl (fun q14 => ?_) (fun q14 => ?_)
    · have q14 : y.toInt ≠ (40 : Int) := aw_t_ne (a := y.toInt) (b := (40 : Int)) rfl rfl q14
      refine cw_gst htb.1 aj_d50 rfl rfl (by decide) ?_
      refine cw_Wr aj_d50 rfl rfl hT ?_ ?_
      · exact ⟨rfl, rfl, Or.inr ⟨22, rfl, by decide⟩⟩
      · exact cw_gS (by decide) (by decide)
    · have q14 : y.toInt = (40 : Int) := aw_t_ne (a := y.toInt) (b := (40 : Int)) rfl rfl q14
      refine cw_gst htb.1 aj_d50 rfl rfl (by decide) ?_
      refine cw_n aj_d50 rfl rfl ?_
      refine cw_Wr aj_d50 rfl rfl hT ?_ ?_
      · exact ⟨rfl, rfl, Or.inr ⟨21, rfl, by decide⟩⟩
      · exact cw_gS (by decide) (by decide)
  · have q13 : y.toInt = (33 : Int) := aw_t_ne (a := y.toInt) (b := (33 : Int)) rfl rfl q13
    refine cw_gst htb.1 aj_d50 rfl rfl (by decide) ?_
    refine cw_n aj_d50 rfl rfl ?_
    refine cw_Wr aj_d50 rfl rfl hT ?_ ?_
    · exact ⟨rfl, rfl, Or.inr ⟨20, rfl, by decide⟩⟩
    · exact cw_gS (by decide) (by decide)
theorem cw_r143 (htb : ak_tbOK ak_C0 tb) (hT : ak_Ty ak_C0 s h) (hB : cw_B s) (hd : 2 ≤ d) (y : Int32) : cw_K ak_C0 (fun s' r h' => s' = s ∧ cw_o h' = cw_o h ∧ cw_rS 143 r) tb d ap_c50 [.int 143, .int y] s h := by
  obtain ⟨d, rfl⟩ : ∃ e, d = e + 1 := ⟨d - 1, by omega⟩
  refine cw_m (con := ap_c50) aj_m50_at (Nat.le_of_ble_eq_true rfl) ?_
  show cw_W _ _ _ _ _ _ _ _ _ _ 0 [(0, .int 143), (1, .int y)] []
  refine cw_n aj_d50 rfl rfl ?_
  refine cw_tsw (tgt := 112) (a := (143 : Int)) aj_d50 rfl rfl ⟨by decide, by decide⟩ rfl rfl ?_
  refine cw_n aj_d50 rfl rfl ?_
  refine cw_ks0 (con' := ap_c51) aj_d50 hT rfl rfl rfl [_] rfl rfl (Nat.le_of_ble_eq_true rfl) ⟨by decide, by decide⟩ (cw_a1 (by omega) (ap_0_51 htb (cw_SP1c _ _ rfl rfl) cw_hK) hT hB rfl ⟨cw_full _, trivial⟩) ?_
  rintro ru15 h15 hT15 ho15 hRu15
  rcases cw_rSt hRu15 (by decide) with rfl | ⟨tu15, rfl, ku15⟩
  · skip
    show cw_W _ _ _ _ _ _ _ _ _ _ 116 [(0, .int 143), (1, .int y)] [.null]
    refine cw_Wr aj_d50 rfl rfl hT15 ?_ ?_
    · exact ⟨rfl, (ho15.trans rfl), Or.inl rfl⟩
    · exact rfl
  · skip
    show cw_W _ _ _ _ _ _ _ _ _ _ 116 [(0, .int 143), (1, .int y)] [.ref tu15]
    refine cw_Wr aj_d50 rfl rfl hT15 ?_ ?_
    · exact ⟨rfl, (ho15.trans rfl), Or.inr ⟨tu15, rfl, ku15⟩⟩
    · exact cw_gS ((show ∀ t ∈ [23, 24, 25, 26], t ∈ [6, 16, 17, 18, 19, 20, 21, 22, 23, 24, 25, 26, 27, 28, 29] from by decide) _ ku15) ((show ∀ t ∈ [23, 24, 25, 26], t < 52 from by decide) _ ku15)
theorem cw_r144 (htb : ak_tbOK ak_C0 tb) (hT : ak_Ty ak_C0 s h) (hB : cw_B s) (hd : 2 ≤ d) (y : Int32) : cw_K ak_C0 (fun s' r h' => s' = s ∧ cw_o h' = cw_o h ∧ cw_rS 144 r) tb d ap_c50 [.int 144, .int y] s h := by
  obtain ⟨d, rfl⟩ : ∃ e, d = e + 1 := ⟨d - 1, by omega⟩
  refine cw_m (con := ap_c50) aj_m50_at (Nat.le_of_ble_eq_true rfl) ?_
  show cw_W _ _ _ _ _ _ _ _ _ _ 0 [(0, .int 144), (1, .int y)] []
  refine cw_n aj_d50 rfl rfl ?_
  refine cw_tsw (tgt := 117) (a := (144 : Int)) aj_d50 rfl rfl ⟨by decide, by decide⟩ rfl rfl ?_
  refine cw_n aj_d50 rfl rfl ?_
  refine cw_n aj_d50 rfl rfl ?_
  refine cw_c (tgt := 129) aj_d50 rfl rfl (fun q16 => ?_) (fun q16 => ?_)
  · have q16 : y.toInt ≠ (63 : Int) := aw_t_ne (a := y.toInt) (b := (63 : Int)) rfl rfl q16
    refine cw_n aj_d50 rfl rfl ?_
    refine cw_n aj_d50 rfl rfl ?_
    refine cw_c (tgt := 141) aj_d50 rfl rfl (fun q17 => ?_) (fun q17 => ?_)
    · have q17 : y.toInt ≠ (45 : Int) := aw_t_ne (a := y.toInt) (b := (45 : Int)) rfl rfl q17
      refine cw_n aj_d50 rfl rfl ?_
      refine cw_n aj_d50 rfl rfl ?_
      refine cw_c (tgt := 152) aj_d50 rfl rfl (fun q18 => ?_) (fun q18 => ?_)
      · have q18 : y.toInt ≠ (4 : Int) := aw_t_ne (a := y.toInt) (b := (4 : Int)) rfl rfl q18
        refine cw_n aj_d50 rfl rfl ?_
        refine cw_Wr aj_d50 rfl rfl hT ?_ ?_
        · exact ⟨rfl, rfl, Or.inl rfl⟩
        · exact rfl
      · have q18 : y.toInt = (4 : Int) := aw_t_ne (a := y.toInt) (b := (4 : Int)) rfl rfl q18
        refine cw_gst htb.1 aj_d50 rfl rfl (by decide) ?_
        refine cw_n aj_d50 rfl rfl ?_
        refine cw_Wr aj_d50 rfl rfl hT ?_ ?_
        · exact ⟨rfl, rfl, Or.inr ⟨29, rfl, by decide⟩⟩
        · exact cw_gS (by decide) (by decide)
    · have q17 : y.toInt = (45 : Int) := aw_t_ne (a := y.toInt) (b := (45 : Int)) rfl rfl q17
      refine cw_gst htb.1 aj_d50 rfl rfl (by decide) ?_
      refine cw_n aj_d50 rfl rfl ?_
      refine cw_Wr aj_d50 rfl rfl hT ?_ ?_
      · exact ⟨rfl, rfl, Or.inr ⟨28, rfl, by decide⟩⟩
      · exact cw_gS (by decide) (by decide)
  · have q16 : y.toInt = (63 : Int) := aw_t_ne (a := y.toInt) (b := (63 : Int)) rfl rfl q16
    refine cw_gst htb.1 aj_d50 rfl rfl (by decide) ?_
    refine cw_n aj_d50 rfl rfl ?_
    refine cw_Wr aj_d50 rfl rfl hT ?_ ?_
    · exact ⟨rfl, rfl, Or.inr ⟨27, rfl, by decide⟩⟩
    · exact cw_gS (by decide) (by decide)
theorem cw_r145 (htb : ak_tbOK ak_C0 tb) (hT : ak_Ty ak_C0 s h) (hB : cw_B s) (hd : 2 ≤ d) (y : Int32) : cw_K ak_C0 (fun s' r h' => s' = s ∧ cw_o h' = cw_o h ∧ cw_rS 145 r) tb d ap_c52 [.int 145, .int y] s h := by
  obtain ⟨d, rfl⟩ : ∃ e, d = e + 1 := ⟨d - 1, by omega⟩
  refine cw_m (con := ap_c52) aj_m52_at (Nat.le_of_ble_eq_true rfl) ?_
  show cw_W _ _ _ _ _ _ _ _ _ _ 0 [(0, .int 145), (1, .int y)] []
  refine cw_n aj_d52 rfl rfl ?_
  refine cw_tsw (tgt := 64) (a := (145 : Int)) aj_d52 rfl rfl ⟨by decide, by decide⟩ rfl rfl ?_
  refine cw_gst htb.1 aj_d52 rfl rfl (by decide) ?_
  refine cw_Wr aj_d52 rfl rfl hT ?_ ?_
  · exact ⟨rfl, rfl, Or.inr ⟨30, rfl, by decide⟩⟩
  · exact cw_gS (by decide) (by decide)
theorem cw_r146 (htb : ak_tbOK ak_C0 tb) (hT : ak_Ty ak_C0 s h) (hB : cw_B s) (hd : 2 ≤ d) (y : Int32) : cw_K ak_C0 (fun s' r h' => s' = s ∧ cw_o h' = cw_o h ∧ cw_rS 146 r) tb d ap_c52 [.int 146, .int y] s h := by
  obtain ⟨d, rfl⟩ : ∃ e, d = e + 1 := ⟨d - 1, by omega⟩
  refine cw_m (con := ap_c52) aj_m52_at (Nat.le_of_ble_eq_true rfl) ?_
  show cw_W _ _ _ _ _ _ _ _ _ _ 0 [(0, .int 146), (1, .int y)] []
  refine cw_n aj_d52 rfl rfl ?_
  refine cw_tsw (tgt := 68) (a := (146 : Int)) aj_d52 rfl rfl ⟨by decide, by decide⟩ rfl rfl ?_
  refine cw_n aj_d52 rfl rfl ?_
  refine cw_n aj_d52 rfl rfl ?_
  refine cw_c (tgt := 80) aj_d52 rfl rfl (fun q19 => ?_) (fun q19 => ?_)
  · have q19 : y.toInt ≠ (43 : Int) := aw_t_ne (a := y.toInt) (b := (43 : Int)) rfl rfl q19
    refine cw_n aj_d52 rfl rfl ?_
    refine cw_n aj_d52 rfl rfl ?_
    refine cw_c (tgt := 92) aj_d52 rfl rfl (fun q20 => ?_) (fun q20 => ?_)
    · have q20 : y.toInt ≠ (45 : Int) := aw_t_ne (a := y.toInt) (b := (45 : Int)) rfl rfl q20
      refine cw_gst htb.1 aj_d52 rfl rfl (by decide) ?_
      refine cw_Wr aj_d52 rfl rfl hT ?_ ?_
      · exact ⟨rfl, rfl, Or.inr ⟨6, rfl, by decide⟩⟩
      · exact cw_gS (by decide) (by decide)
    · have q20 : y.toInt = (45 : Int) := aw_t_ne (a := y.toInt) (b := (45 : Int)) rfl rfl q20
      refine cw_gst htb.1 aj_d52 rfl rfl (by decide) ?_
      refine cw_n aj_d52 rfl rfl ?_
      refine cw_Wr aj_d52 rfl rfl hT ?_ ?_
      · exact ⟨rfl, rfl, Or.inr ⟨32, rfl, by decide⟩⟩
      · exact cw_gS (by decide) (by decide)
  · have q19 : y.toInt = (43 : Int) := aw_t_ne (a := y.toInt) (b := (43 : Int)) rfl rfl q19
    refine cw_gst htb.1 aj_d52 rfl rfl (by decide) ?_
    refine cw_n aj_d52 rfl rfl ?_
    refine cw_Wr aj_d52 rfl rfl hT ?_ ?_
    · exact ⟨rfl, rfl, Or.inr ⟨31, rfl, by decide⟩⟩
    · exact cw_gS (by decide) (by decide)
theorem cw_r147 (htb : ak_tbOK ak_C0 tb) (hT : ak_Ty ak_C0 s h) (hB : cw_B s) (hd : 2 ≤ d) (y : Int32) : cw_K ak_C0 (fun s' r h' => s' = s ∧ cw_o h' = cw_o h ∧ cw_rS 147 r) tb d ap_c52 [.int 147, .int y] s h := by
  obtain ⟨d, rfl⟩ : ∃ e, d = e + 1 := ⟨d - 1, by omega⟩
  refine cw_m (con := ap_c52) aj_m52_at (Nat.le_of_ble_eq_true rfl) ?_
  show cw_W _ _ _ _ _ _ _ _ _ _ 0 [(0, .int 147), (1, .int y)] []
  refine cw_n aj_d52 rfl rfl ?_
  refine cw_tsw (tgt := 96) (a := (147 : Int)) aj_d52 rfl rfl ⟨by decide, by decide⟩ rfl rfl ?_
  refine cw_gst htb.1 aj_d52 rfl rfl (by decide) ?_
  refine cw_Wr aj_d52 rfl rfl hT ?_ ?_
  · exact ⟨rfl, rfl, Or.inr ⟨33, rfl, by decide⟩⟩
  · exact cw_gS (by decide) (by decide)
theorem cw_r148 (htb : ak_tbOK ak_C0 tb) (hT : ak_Ty ak_C0 s h) (hB : cw_B s) (hd : 2 ≤ d) (y : Int32) : cw_K ak_C0 (fun s' r h' => s' = s ∧ cw_o h' = cw_o h ∧ cw_rS 148 r) tb d ap_c52 [.int 148, .int y] s h := by
  obtain ⟨d, rfl⟩ : ∃ e, d = e + 1 := ⟨d - 1, by omega⟩
  refine cw_m (con := ap_c52) aj_m52_at (Nat.le_of_ble_eq_true rfl) ?_
  show cw_W _ _ _ _ _ _ _ _ _ _ 0 [(0, .int 148), (1, .int y)] []
  refine cw_n aj_d52 rfl rfl ?_
  refine cw_tsw (tgt := 100) (a := (148 : Int)) aj_d52 rfl rfl ⟨by decide, by decide⟩ rfl rfl ?_
  refine cw_n aj_d52 rfl rfl ?_
  refine cw_n aj_d52 rfl rfl ?_
  refine cw_c (tgt := 112) aj_d52 rfl rfl (fun q21 => ?_) (fun q21 => ?_)
  · have q21 : y.toInt ≠ (42 : Int) := aw_t_ne (a := y.toInt) (b := (42 : Int)) rfl rfl q21
    refine cw_gst htb.1 aj_d52 rfl rfl (by decide) ?_
    refine cw_Wr aj_d52 rfl rfl hT ?_ ?_
    · exact ⟨rfl, rfl, Or.inr ⟨6, rfl, by decide⟩⟩
    · exact cw_gS (by decide) (by decide)
  · have q21 : y.toInt = (42 : Int) := aw_t_ne (a := y.toInt) (b := (42 : Int)) rfl rfl q21
    refine cw_gst htb.1 aj_d52 rfl rfl (by decide) ?_
    refine cw_n aj_d52 rfl rfl ?_
    refine cw_Wr aj_d52 rfl rfl hT ?_ ?_
    · exact ⟨rfl, rfl, Or.inr ⟨34, rfl, by decide⟩⟩
    · exact cw_gS (by decide) (by decide)
theorem cw_r149 (htb : ak_tbOK ak_C0 tb) (hT : ak_Ty ak_C0 s h) (hB : cw_B s) (hd : 2 ≤ d) (y : Int32) : cw_K ak_C0 (fun s' r h' => s' = s ∧ cw_o h' = cw_o h ∧ cw_rS 149 r) tb d ap_c52 [.int 149, .int y] s h := by
  obtain ⟨d, rfl⟩ : ∃ e, d = e + 1 := ⟨d - 1, by omega⟩
  refine cw_m (con := ap_c52) aj_m52_at (Nat.le_of_ble_eq_true rfl) ?_
  show cw_W _ _ _ _ _ _ _ _ _ _ 0 [(0, .int 149), (1, .int y)] []
  refine cw_n aj_d52 rfl rfl ?_
  refine cw_tsw (tgt := 116) (a := (149 : Int)) aj_d52 rfl rfl ⟨by decide, by decide⟩ rfl rfl ?_
  refine cw_n aj_d52 rfl rfl ?_
  refine cw_n aj_d52 rfl rfl ?_
  refine cw_c (tgt := 128) aj_d52 rfl rfl (fun q22 => ?_) (fun q22 => ?_)
  · have q22 : y.toInt ≠ (40 : Int) := aw_t_ne (a := y.toInt) (b := (40 : Int)) rfl rfl q22
    refine cw_n aj_d52 rfl rfl ?_
    refine cw_n aj_d52 rfl rfl ?_
    refine cw_c (tgt := 139) aj_d52 rfl rfl (fun q23 => ?_) (fun q23 => ?_)
    · have q23 : y.toInt ≠ (3 : Int) := aw_t_ne (a := y.toInt) (b := (3 : Int)) rfl rfl q23
      refine cw_n aj_d52 rfl rfl ?_
      refine cw_Wr aj_d52 rfl rfl hT ?_ ?_
      · exact ⟨rfl, rfl, Or.inl rfl⟩
      · exact rfl
    · have q23 : y.toInt = (3 : Int) := aw_t_ne (a := y.toInt) (b := (3 : Int)) rfl rfl q23
      refine cw_gst htb.1 aj_d52 rfl rfl (by decide) ?_
      refine cw_n aj_d52 rfl rfl ?_
      refine cw_Wr aj_d52 rfl rfl hT ?_ ?_
      · exact ⟨rfl, rfl, Or.inr ⟨36, rfl, by decide⟩⟩
      · exact cw_gS (by decide) (by decide)
  · have q22 : y.toInt = (40 : Int) := aw_t_ne (a := y.toInt) (b := (40 : Int)) rfl rfl q22
    refine cw_gst htb.1 aj_d52 rfl rfl (by decide) ?_
    refine cw_n aj_d52 rfl rfl ?_
    refine cw_Wr aj_d52 rfl rfl hT ?_ ?_
    · exact ⟨rfl, rfl, Or.inr ⟨35, rfl, by decide⟩⟩
    · exact cw_gS (by decide) (by decide)
theorem cw_r150 (htb : ak_tbOK ak_C0 tb) (hT : ak_Ty ak_C0 s h) (hB : cw_B s) (hd : 2 ≤ d) (y : Int32) : cw_K ak_C0 (fun s' r h' => s' = s ∧ cw_o h' = cw_o h ∧ cw_rS 150 r) tb d ap_c52 [.int 150, .int y] s h := by
  obtain ⟨d, rfl⟩ : ∃ e, d = e + 1 := ⟨d - 1, by omega⟩
  refine cw_m (con := ap_c52) aj_m52_at (Nat.le_of_ble_eq_true rfl) ?_
  show cw_W _ _ _ _ _ _ _ _ _ _ 0 [(0, .int 150), (1, .int y)] []
  refine cw_n aj_d52 rfl rfl ?_
  refine cw_tsw (tgt := 141) (a := (150 : Int)) aj_d52 rfl rfl ⟨by decide, by decide⟩ rfl rfl ?_
  refine cw_n aj_d52 rfl rfl ?_
  refine cw_ks0 (con' := ap_c53) aj_d52 hT rfl rfl rfl [_] rfl rfl (Nat.le_of_ble_eq_true rfl) ⟨by decide, by decide⟩ (cw_a1 (by omega) (ap_0_53 htb (cw_SP1c _ _ rfl rfl) cw_hK) hT hB rfl ⟨cw_full _, trivial⟩) ?_
  rintro ru24 h24 hT24 ho24 hRu24
  rcases cw_rSt hRu24 (by decide) with rfl | ⟨tu24, rfl, ku24⟩
  · skip
    show cw_W _ _ _ _ _ _ _ _ _ _ 145 [(0, .int 150), (1, .int y)] [.null]
    refine cw_Wr aj_d52 rfl rfl hT24 ?_ ?_
    · exact ⟨rfl, (ho24.trans rfl), Or.inl rfl⟩
    · exact rfl
  · skip
    show cw_W _ _ _ _ _ _ _ _ _ _ 145 [(0, .int 150), (1, .int y)] [.ref tu24]
    refine cw_Wr aj_d52 rfl rfl hT24 ?_ ?_
    · exact ⟨rfl, (ho24.trans rfl), Or.inr ⟨tu24, rfl, ku24⟩⟩
    · exact cw_gS ((show ∀ t ∈ [6, 37, 38, 39, 40], t ∈ [6, 30, 31, 32, 33, 34, 35, 36, 37, 38, 39, 40, 41, 42, 43, 44, 45, 46, 47, 48, 49, 50] from by decide) _ ku24) ((show ∀ t ∈ [6, 37, 38, 39, 40], t < 52 from by decide) _ ku24)
theorem cw_r151 (htb : ak_tbOK ak_C0 tb) (hT : ak_Ty ak_C0 s h) (hB : cw_B s) (hd : 2 ≤ d) (y : Int32) : cw_K ak_C0 (fun s' r h' => s' = s ∧ cw_o h' = cw_o h ∧ cw_rS 151 r) tb d ap_c52 [.int 151, .int y] s h := by
  obtain ⟨d, rfl⟩ : ∃ e, d = e + 1 := ⟨d - 1, by omega⟩
  refine cw_m (con := ap_c52) aj_m52_at (Nat.le_of_ble_eq_true rfl) ?_
  show cw_W _ _ _ _ _ _ _ _ _ _ 0 [(0, .int 151), (1, .int y)] []
  refine cw_n aj_d52 rfl rfl ?_
  refine cw_tsw (tgt := 146) (a := (151 : Int)) aj_d52 rfl rfl ⟨by decide, by decide⟩ rfl rfl ?_
  refine cw_gst htb.1 aj_d52 rfl rfl (by decide) ?_
  refine cw_Wr aj_d52 rfl rfl hT ?_ ?_
  · exact ⟨rfl, rfl, Or.inr ⟨41, rfl, by decide⟩⟩
  · exact cw_gS (by decide) (by decide)
theorem cw_r152 (htb : ak_tbOK ak_C0 tb) (hT : ak_Ty ak_C0 s h) (hB : cw_B s) (hd : 2 ≤ d) (y : Int32) : cw_K ak_C0 (fun s' r h' => s' = s ∧ cw_o h' = cw_o h ∧ cw_rS 152 r) tb d ap_c52 [.int 152, .int y] s h := by
  obtain ⟨d, rfl⟩ : ∃ e, d = e + 1 := ⟨d - 1, by omega⟩
  refine cw_m (con := ap_c52) aj_m52_at (Nat.le_of_ble_eq_true rfl) ?_
  show cw_W _ _ _ _ _ _ _ _ _ _ 0 [(0, .int 152), (1, .int y)] []
  refine cw_n aj_d52 rfl rfl ?_
  refine cw_tsw (tgt := 150) (a := (152 : Int)) aj_d52 rfl rfl ⟨by decide, by decide⟩ rfl rfl ?_
  refine cw_n aj_d52 rfl rfl ?_
  refine cw_n aj_d52 rfl rfl ?_
  refine cw_c (tgt := 162) aj_d52 rfl rfl (fun q25 => ?_) (fun q25 => ?_)
  · have q25 : y.toInt ≠ (44 : Int) := aw_t_ne (a := y.toInt) (b := (44 : Int)) rfl rfl q25
    refine cw_gst htb.1 aj_d52 rfl rfl (by decide) ?_
    refine cw_Wr aj_d52 rfl rfl hT ?_ ?_
    · exact ⟨rfl, rfl, Or.inr ⟨6, rfl, by decide⟩⟩
    · exact cw_gS (by decide) (by decide)
  · have q25 : y.toInt = (44 : Int) := aw_t_ne (a := y.toInt) (b := (44 : Int)) rfl rfl q25
    refine cw_gst htb.1 aj_d52 rfl rfl (by decide) ?_
    refine cw_n aj_d52 rfl rfl ?_
    refine cw_Wr aj_d52 rfl rfl hT ?_ ?_
    · exact ⟨rfl, rfl, Or.inr ⟨42, rfl, by decide⟩⟩
    · exact cw_gS (by decide) (by decide)
theorem cw_r153 (htb : ak_tbOK ak_C0 tb) (hT : ak_Ty ak_C0 s h) (hB : cw_B s) (hd : 2 ≤ d) (y : Int32) : cw_K ak_C0 (fun s' r h' => s' = s ∧ cw_o h' = cw_o h ∧ cw_rS 153 r) tb d ap_c52 [.int 153, .int y] s h := by
  obtain ⟨d, rfl⟩ : ∃ e, d = e + 1 := ⟨d - 1, by omega⟩
  refine cw_m (con := ap_c52) aj_m52_at (Nat.le_of_ble_eq_true rfl) ?_
  show cw_W _ _ _ _ _ _ _ _ _ _ 0 [(0, .int 153), (1, .int y)] []
  refine cw_n aj_d52 rfl rfl ?_
  refine cw_tsw (tgt := 166) (a := (153 : Int)) aj_d52 rfl rfl ⟨by decide, by decide⟩ rfl rfl ?_
  refine cw_n aj_d52 rfl rfl ?_
  refine cw_n aj_d52 rfl rfl ?_
  refine cw_c (tgt := 177) aj_d52 rfl rfl (fun q26 => ?_) (fun q26 => ?_)
  · have q26 : y.toInt ≠ (3 : Int) := aw_t_ne (a := y.toInt) (b := (3 : Int)) rfl rfl q26
    refine cw_gst htb.1 aj_d52 rfl rfl (by decide) ?_
    refine cw_Wr aj_d52 rfl rfl hT ?_ ?_
    · exact ⟨rfl, rfl, Or.inr ⟨44, rfl, by decide⟩⟩
    · exact cw_gS (by decide) (by decide)
  · have q26 : y.toInt = (3 : Int) := aw_t_ne (a := y.toInt) (b := (3 : Int)) rfl rfl q26
    refine cw_gst htb.1 aj_d52 rfl rfl (by decide) ?_
    refine cw_n aj_d52 rfl rfl ?_
    refine cw_Wr aj_d52 rfl rfl hT ?_ ?_
    · exact ⟨rfl, rfl, Or.inr ⟨43, rfl, by decide⟩⟩
    · exact cw_gS (by decide) (by decide)
theorem cw_r154 (htb : ak_tbOK ak_C0 tb) (hT : ak_Ty ak_C0 s h) (hB : cw_B s) (hd : 2 ≤ d) (y : Int32) : cw_K ak_C0 (fun s' r h' => s' = s ∧ cw_o h' = cw_o h ∧ cw_rS 154 r) tb d ap_c52 [.int 154, .int y] s h := by
  obtain ⟨d, rfl⟩ : ∃ e, d = e + 1 := ⟨d - 1, by omega⟩
  refine cw_m (con := ap_c52) aj_m52_at (Nat.le_of_ble_eq_true rfl) ?_
  show cw_W _ _ _ _ _ _ _ _ _ _ 0 [(0, .int 154), (1, .int y)] []
  refine cw_n aj_d52 rfl rfl ?_
  refine cw_tsw (tgt := 181) (a := (154 : Int)) aj_d52 rfl rfl ⟨by decide, by decide⟩ rfl rfl ?_
  refine cw_n aj_d52 rfl rfl ?_
  refine cw_n aj_d52 rfl rfl ?_
  refine cw_c (tgt := 193) aj_d52 rfl rfl (fun q27 => ?_) (fun q27 => ?_)
  · have q27 : y.toInt ≠ (44 : Int) := aw_t_ne (a := y.toInt) (b := (44 : Int)) rfl rfl q27
    refine cw_gst htb.1 aj_d52 rfl rfl (by decide) ?_
    refine cw_Wr aj_d52 rfl rfl hT ?_ ?_
    · exact ⟨rfl, rfl, Or.inr ⟨6, rfl, by decide⟩⟩
    · exact cw_gS (by decide) (by decide)
  · have q27 : y.toInt = (44 : Int) := aw_t_ne (a := y.toInt) (b := (44 : Int)) rfl rfl q27
    refine cw_gst htb.1 aj_d52 rfl rfl (by decide) ?_
    refine cw_n aj_d52 rfl rfl ?_
    refine cw_Wr aj_d52 rfl rfl hT ?_ ?_
    · exact ⟨rfl, rfl, Or.inr ⟨45, rfl, by decide⟩⟩
    · exact cw_gS (by decide) (by decide)
theorem cw_r155 (htb : ak_tbOK ak_C0 tb) (hT : ak_Ty ak_C0 s h) (hB : cw_B s) (hd : 2 ≤ d) (y : Int32) : cw_K ak_C0 (fun s' r h' => s' = s ∧ cw_o h' = cw_o h ∧ cw_rS 155 r) tb d ap_c52 [.int 155, .int y] s h := by
  obtain ⟨d, rfl⟩ : ∃ e, d = e + 1 := ⟨d - 1, by omega⟩
  refine cw_m (con := ap_c52) aj_m52_at (Nat.le_of_ble_eq_true rfl) ?_
  show cw_W _ _ _ _ _ _ _ _ _ _ 0 [(0, .int 155), (1, .int y)] []
  refine cw_n aj_d52 rfl rfl ?_
  refine cw_tsw (tgt := 197) (a := (155 : Int)) aj_d52 rfl rfl ⟨by decide, by decide⟩ rfl rfl ?_
  refine cw_n aj_d52 rfl rfl ?_
  refine cw_n aj_d52 rfl rfl ?_
  refine cw_c (tgt := 208) aj_d52 rfl rfl (fun q28 => ?_) (fun q28 => ?_)
  · have q28 : y.toInt ≠ (3 : Int) := aw_t_ne (a := y.toInt) (b := (3 : Int)) rfl rfl q28
    refine cw_gst htb.1 aj_d52 rfl rfl (by decide) ?_
    refine cw_Wr aj_d52 rfl rfl hT ?_ ?_
    · exact ⟨rfl, rfl, Or.inr ⟨6, rfl, by decide⟩⟩
    · exact cw_gS (by decide) (by decide)
  · have q28 : y.toInt = (3 : Int) := aw_t_ne (a := y.toInt) (b := (3 : Int)) rfl rfl q28
    refine cw_gst htb.1 aj_d52 rfl rfl (by decide) ?_
    refine cw_n aj_d52 rfl rfl ?_
    refine cw_Wr aj_d52 rfl rfl hT ?_ ?_
    · exact ⟨rfl, rfl, Or.inr ⟨46, rfl, by decide⟩⟩
    · exact cw_gS (by decide) (by decide)
theorem cw_r156 (htb : ak_tbOK ak_C0 tb) (hT : ak_Ty ak_C0 s h) (hB : cw_B s) (hd : 2 ≤ d) (y : Int32) : cw_K ak_C0 (fun s' r h' => s' = s ∧ cw_o h' = cw_o h ∧ cw_rS 156 r) tb d ap_c52 [.int 156, .int y] s h := by
  obtain ⟨d, rfl⟩ : ∃ e, d = e + 1 := ⟨d - 1, by omega⟩
  refine cw_m (con := ap_c52) aj_m52_at (Nat.le_of_ble_eq_true rfl) ?_
  show cw_W _ _ _ _ _ _ _ _ _ _ 0 [(0, .int 156), (1, .int y)] []
  refine cw_n aj_d52 rfl rfl ?_
  refine cw_tsw (tgt := 212) (a := (156 : Int)) aj_d52 rfl rfl ⟨by decide, by decide⟩ rfl rfl ?_
  refine cw_n aj_d52 rfl rfl ?_
  refine cw_ks0 (con' := ap_c54) aj_d52 hT rfl rfl rfl [_] rfl rfl (Nat.le_of_ble_eq_true rfl) ⟨by decide, by decide⟩ (cw_a1 (by omega) (ap_0_54 htb (cw_SP1c _ _ rfl rfl) cw_hK) hT hB rfl ⟨cw_full _, trivial⟩) ?_
  rintro ru29 h29 hT29 ho29 hRu29
  rcases cw_rSt hRu29 (by decide) with rfl | ⟨tu29, rfl, ku29⟩
  · skip
    show cw_W _ _ _ _ _ _ _ _ _ _ 216 [(0, .int 156), (1, .int y)] [.null]
    refine cw_Wr aj_d52 rfl rfl hT29 ?_ ?_
    · exact ⟨rfl, (ho29.trans rfl), Or.inl rfl⟩
    · exact rfl
  · skip
    show cw_W _ _ _ _ _ _ _ _ _ _ 216 [(0, .int 156), (1, .int y)] [.ref tu29]
    refine cw_Wr aj_d52 rfl rfl hT29 ?_ ?_
    · exact ⟨rfl, (ho29.trans rfl), Or.inr ⟨tu29, rfl, ku29⟩⟩
    · exact cw_gS ((show ∀ t ∈ [47, 48, 49, 50], t ∈ [6, 30, 31, 32, 33, 34, 35, 36, 37, 38, 39, 40, 41, 42, 43, 44, 45, 46, 47, 48, 49, 50] from by decide) _ ku29) ((show ∀ t ∈ [47, 48, 49, 50], t < 52 from by decide) _ ku29)
theorem cw_r157 (htb : ak_tbOK ak_C0 tb) (hT : ak_Ty ak_C0 s h) (hB : cw_B s) (hd : 2 ≤ d) {x : Int32} (hx : 157 ≤ x.toInt) (p : Nat) (y : Int32) : cw_K ak_C0 (fun s' r h' => s' = s ∧ cw_o h' = cw_o h ∧ cw_rS p r) tb d ap_c52 [.int x, .int y] s h := by
  obtain ⟨d, rfl⟩ : ∃ e, d = e + 1 := ⟨d - 1, by omega⟩
  refine cw_m (con := ap_c52) aj_m52_at (Nat.le_of_ble_eq_true rfl) ?_
  show cw_W _ _ _ _ _ _ _ _ _ _ 0 [(0, .int x), (1, .int y)] []
  refine cw_n aj_d52 rfl rfl ?_
  refine cw_tsd (tgt := 217) (a := x.toInt) aj_d52 rfl rfl (by omega) rfl ?_
  refine cw_n aj_d52 rfl rfl ?_
  refine cw_Wr aj_d52 rfl rfl hT ?_ ?_
  · exact ⟨rfl, rfl, Or.inl rfl⟩
  · exact rfl
/-- of any rule -/
theorem cw_gS47 {t : Nat} (h1 : 1 ≤ t) (h2 : t ≤ 50) : ak_gR s ap_c47.2.2.1 (some (.ref t)) := by
  refine ⟨t, ?_, Or.inl ⟨by omega, rfl⟩⟩
  have : ∀ t, t < 51 → 1 ≤ t → t ∈ [1, 2, 3, 4, 5, 6, 7, 8, 9, 10, 11, 12, 13, 14, 15, 16, 17, 18, 19, 20, 21, 22, 23, 24, 25, 26, 27, 28, 29, 30, 31, 32, 33, 34, 35, 36, 37, 38, 39, 40, 41, 42, 43, 44, 45, 46, 47, 48, 49, 50] := by decide
  exact this t (by omega) h1
theorem cw_rl_le : ∀ {p t : Nat}, t ∈ cw_rl p → 1 ≤ t ∧ t ≤ 50 := by
  intro p t ht
  unfold cw_rl at ht
  split at ht
  · exact (show ∀ t ∈ [1, 2, 3, 4, 5, 6], 1 ≤ t ∧ t ≤ 50 from by decide) t ht
  · exact (show ∀ t ∈ [7, 8], 1 ≤ t ∧ t ≤ 50 from by decide) t ht
  · exact (show ∀ t ∈ [6, 11, 12], 1 ≤ t ∧ t ≤ 50 from by decide) t ht
  · exact (show ∀ t ∈ [6, 12], 1 ≤ t ∧ t ≤ 50 from by decide) t ht
  · exact (show ∀ t ∈ [9, 10], 1 ≤ t ∧ t ≤ 50 from by decide) t ht
  · exact (show ∀ t ∈ [6, 13], 1 ≤ t ∧ t ≤ 50 from by decide) t ht
  · exact (show ∀ t ∈ [6, 14], 1 ≤ t ∧ t ≤ 50 from by decide) t ht
  · exact (show ∀ t ∈ [6, 15], 1 ≤ t ∧ t ≤ 50 from by decide) t ht
  · exact (show ∀ t ∈ [16], 1 ≤ t ∧ t ≤ 50 from by decide) t ht
  · exact (show ∀ t ∈ [6, 17], 1 ≤ t ∧ t ≤ 50 from by decide) t ht
  · exact (show ∀ t ∈ [18], 1 ≤ t ∧ t ≤ 50 from by decide) t ht
  · exact (show ∀ t ∈ [6, 19], 1 ≤ t ∧ t ≤ 50 from by decide) t ht
  · exact (show ∀ t ∈ [20, 21, 22], 1 ≤ t ∧ t ≤ 50 from by decide) t ht
  · exact (show ∀ t ∈ [23, 24, 25, 26], 1 ≤ t ∧ t ≤ 50 from by decide) t ht
  · exact (show ∀ t ∈ [27, 28, 29], 1 ≤ t ∧ t ≤ 50 from by decide) t ht
  · exact (show ∀ t ∈ [30], 1 ≤ t ∧ t ≤ 50 from by decide) t ht
  · exact (show ∀ t ∈ [6, 31, 32], 1 ≤ t ∧ t ≤ 50 from by decide) t ht
  · exact (show ∀ t ∈ [33], 1 ≤ t ∧ t ≤ 50 from by decide) t ht
  · exact (show ∀ t ∈ [6, 34], 1 ≤ t ∧ t ≤ 50 from by decide) t ht
  · exact (show ∀ t ∈ [35, 36], 1 ≤ t ∧ t ≤ 50 from by decide) t ht
  · exact (show ∀ t ∈ [6, 37, 38, 39, 40], 1 ≤ t ∧ t ≤ 50 from by decide) t ht
  · exact (show ∀ t ∈ [41], 1 ≤ t ∧ t ≤ 50 from by decide) t ht
  · exact (show ∀ t ∈ [6, 42], 1 ≤ t ∧ t ≤ 50 from by decide) t ht
  · exact (show ∀ t ∈ [43, 44], 1 ≤ t ∧ t ≤ 50 from by decide) t ht
  · exact (show ∀ t ∈ [6, 45], 1 ≤ t ∧ t ≤ 50 from by decide) t ht
  · exact (show ∀ t ∈ [6, 46], 1 ≤ t ∧ t ≤ 50 from by decide) t ht
  · exact (show ∀ t ∈ [47, 48, 49, 50], 1 ≤ t ∧ t ≤ 50 from by decide) t ht
  · cases ht
theorem cw_q130 (htb : ak_tbOK ak_C0 tb) (hT : ak_Ty ak_C0 s h) (hB : cw_B s) (hd : 3 ≤ d) (y : Int32) : cw_K ak_C0 (fun s' r h' => s' = s ∧ cw_o h' = cw_o h ∧ cw_rS 130 r) tb d ap_c47 [.int 130, .int y] s h := by
  obtain ⟨d, rfl⟩ : ∃ e, d = e + 1 := ⟨d - 1, by omega⟩
  refine cw_m (con := ap_c47) aj_m47_at (Nat.le_of_ble_eq_true rfl) ?_
  show cw_W _ _ _ _ _ _ _ _ _ _ 0 [(0, .int 130), (1, .int y)] []
  refine cw_n aj_d47 rfl rfl ?_
  refine cw_n aj_d47 rfl rfl ?_
  refine cw_c (tgt := 27) aj_d47 rfl rfl (fun q30 => ?_) (fun q30 => ?_)
  · have q30 : (130 : Int) ≥ (138 : Int) := aw_t_ge (a := (130 : Int)) (b := (138 : Int)) rfl rfl q30
    exfalso
    omega
  · have q30 : (130 : Int) < (138 : Int) := aw_t_ge (a := (130 : Int)) (b := (138 : Int)) rfl rfl q30
    refine cw_n aj_d47 rfl rfl ?_
    refine cw_n aj_d47 rfl rfl ?_
    refine cw_c (tgt := 21) aj_d47 rfl rfl (fun q31 => ?_) (fun q31 => ?_)
    · have q31 : (130 : Int) ≠ (130 : Int) := aw_t_ne (a := (130 : Int)) (b := (130 : Int)) rfl rfl q31
      exfalso
      omega
    · have q31 : (130 : Int) = (130 : Int) := aw_t_ne (a := (130 : Int)) (b := (130 : Int)) rfl rfl q31
      refine cw_n aj_d47 rfl rfl ?_
      refine cw_ks0 (con' := ap_c48) aj_d47 hT rfl rfl rfl [_] rfl rfl (Nat.le_of_ble_eq_true rfl) ⟨by decide, by decide⟩ (cw_a1 (by omega) (ap_0_48 htb (cw_SP1c _ _ rfl rfl) cw_hK) hT hB rfl ⟨cw_full _, trivial⟩) ?_
      rintro ru32 h32 hT32 ho32 hRu32
      rcases cw_rSt hRu32 (by decide) with rfl | ⟨tu32, rfl, ku32⟩
      · skip
        show cw_W _ _ _ _ _ _ _ _ _ _ 18 [(0, .int 130), (1, .int y)] [.null]
        refine cw_n aj_d47 rfl rfl ?_
        refine cw_Wr aj_d47 rfl rfl hT32 ?_ ?_
        · exact ⟨rfl, (ho32.trans rfl), Or.inl rfl⟩
        · exact rfl
      · skip
        show cw_W _ _ _ _ _ _ _ _ _ _ 18 [(0, .int 130), (1, .int y)] [.ref tu32]
        refine cw_n aj_d47 rfl rfl ?_
        refine cw_Wr aj_d47 rfl rfl hT32 ?_ ?_
        · exact ⟨rfl, (ho32.trans rfl), Or.inr ⟨_, rfl, ku32⟩⟩
        · exact cw_gS47 (cw_rl_le (p := 130) ku32).1 (cw_rl_le (p := 130) ku32).2
theorem cw_q131 (htb : ak_tbOK ak_C0 tb) (hT : ak_Ty ak_C0 s h) (hB : cw_B s) (hd : 3 ≤ d) (y : Int32) : cw_K ak_C0 (fun s' r h' => s' = s ∧ cw_o h' = cw_o h ∧ cw_rS 131 r) tb d ap_c47 [.int 131, .int y] s h := by
  obtain ⟨d, rfl⟩ : ∃ e, d = e + 1 := ⟨d - 1, by omega⟩
  refine cw_m (con := ap_c47) aj_m47_at (Nat.le_of_ble_eq_true rfl) ?_
  show cw_W _ _ _ _ _ _ _ _ _ _ 0 [(0, .int 131), (1, .int y)] []
  refine cw_n aj_d47 rfl rfl ?_
  refine cw_n aj_d47 rfl rfl ?_
  refine cw_c (tgt := 27) aj_d47 rfl rfl (fun q33 => ?_) (fun q33 => ?_)
  · have q33 : (131 : Int) ≥ (138 : Int) := aw_t_ge (a := (131 : Int)) (b := (138 : Int)) rfl rfl q33
    exfalso
    omega
  · have q33 : (131 : Int) < (138 : Int) := aw_t_ge (a := (131 : Int)) (b := (138 : Int)) rfl rfl q33
    refine cw_n aj_d47 rfl rfl ?_
    refine cw_n aj_d47 rfl rfl ?_
    refine cw_c (tgt := 21) aj_d47 rfl rfl (fun q34 => ?_) (fun q34 => ?_)
    · have q34 : (131 : Int) ≠ (130 : Int) := aw_t_ne (a := (131 : Int)) (b := (130 : Int)) rfl rfl q34
      refine cw_n aj_d47 rfl rfl ?_
      refine cw_n aj_d47 rfl rfl ?_
      refine cw_ks0 (con' := ap_c49) aj_d47 hT rfl rfl rfl [_, _] rfl rfl (Nat.le_of_ble_eq_true rfl) ⟨by decide, by decide⟩ (cw_r131 htb hT hB (by omega) y) ?_
      rintro ru35 h35 hT35 ⟨ho35, r1u35⟩ hRu35
      rcases r1u35 with rfl | ⟨tu35, rfl, ku35⟩
      · skip
        show cw_W _ _ _ _ _ _ _ _ _ _ 26 [(0, .int 131), (1, .int y)] [.null]
        refine cw_Wr aj_d47 rfl rfl hT35 ?_ ?_
        · exact ⟨rfl, (ho35.trans rfl), Or.inl rfl⟩
        · exact rfl
      · skip
        show cw_W _ _ _ _ _ _ _ _ _ _ 26 [(0, .int 131), (1, .int y)] [.ref tu35]
        refine cw_Wr aj_d47 rfl rfl hT35 ?_ ?_
        · exact ⟨rfl, (ho35.trans rfl), Or.inr ⟨_, rfl, ku35⟩⟩
        · exact cw_gS47 (cw_rl_le (p := 131) ku35).1 (cw_rl_le (p := 131) ku35).2
    · have q34 : (131 : Int) = (130 : Int) := aw_t_ne (a := (131 : Int)) (b := (130 : Int)) rfl rfl q34
      exfalso
      omega
theorem cw_q132 (htb : ak_tbOK ak_C0 tb) (hT : ak_Ty ak_C0 s h) (hB : cw_B s) (hd : 3 ≤ d) (y : Int32) : cw_K ak_C0 (fun s' r h' => s' = s ∧ cw_o h' = cw_o h ∧ cw_rS 132 r) tb d ap_c47 [.int 132, .int y] s h := by
  obtain ⟨d, rfl⟩ : ∃ e, d = e + 1 := ⟨d - 1, by omega⟩
  refine cw_m (con := ap_c47) aj_m47_at (Nat.le_of_ble_eq_true rfl) ?_
  show cw_W _ _ _ _ _ _ _ _ _ _ 0 [(0, .int 132), (1, .int y)] []
  refine cw_n aj_d47 rfl rfl ?_
  refine cw_n aj_d47 rfl rfl ?_
  refine cw_c (tgt := 27) aj_d47 rfl rfl (fun q36 => ?_) (fun q36 => ?_)
  · have q36 : (132 : Int) ≥ (138 : Int) := aw_t_ge (a := (132 : Int)) (b := (138 : Int)) rfl rfl q36
    exfalso
    omega
  · have q36 : (132 : Int) < (138 : Int) := aw_t_ge (a := (132 : Int)) (b := (138 : Int)) rfl rfl q36
    refine cw_n aj_d47 rfl rfl ?_
    refine cw_n aj_d47 rfl rfl ?_
    refine cw_c (tgt := 21) aj_d47 rfl rfl (fun q37 => ?_) (fun q37 => ?_)
    · have q37 : (132 : Int) ≠ (130 : Int) := aw_t_ne (a := (132 : Int)) (b := (130 : Int)) rfl rfl q37
      refine cw_n aj_d47 rfl rfl ?_
      refine cw_n aj_d47 rfl rfl ?_
      refine cw_ks0 (con' := ap_c49) aj_d47 hT rfl rfl rfl [_, _] rfl rfl (Nat.le_of_ble_eq_true rfl) ⟨by decide, by decide⟩ (cw_r132 htb hT hB (by omega) y) ?_
      rintro ru38 h38 hT38 ⟨ho38, r1u38⟩ hRu38
      rcases r1u38 with rfl | ⟨tu38, rfl, ku38⟩
      · skip
        show cw_W _ _ _ _ _ _ _ _ _ _ 26 [(0, .int 132), (1, .int y)] [.null]
        refine cw_Wr aj_d47 rfl rfl hT38 ?_ ?_
        · exact ⟨rfl, (ho38.trans rfl), Or.inl rfl⟩
        · exact rfl
      · skip
        show cw_W _ _ _ _ _ _ _ _ _ _ 26 [(0, .int 132), (1, .int y)] [.ref tu38]
        refine cw_Wr aj_d47 rfl rfl hT38 ?_ ?_
        · exact ⟨rfl, (ho38.trans rfl), Or.inr ⟨_, rfl, ku38⟩⟩
        · exact cw_gS47 (cw_rl_le (p := 132) ku38).1 (cw_rl_le (p := 132) ku38).2
    · have q37 : (132 : Int) = (130 : Int) := aw_t_ne (a := (132 : Int)) (b := (130 : Int)) rfl rfl q37
      exfalso
      omega
theorem cw_q133 (htb : ak_tbOK ak_C0 tb) (hT : ak_Ty ak_C0 s h) (hB : cw_B s) (hd : 3 ≤ d) (y : Int32) : cw_K ak_C0 (fun s' r h' => s' = s ∧ cw_o h' = cw_o h ∧ cw_rS 133 r) tb d ap_c47 [.int 133, .int y] s h := by
  obtain ⟨d, rfl⟩ : ∃ e, d = e + 1 := ⟨d - 1, by omega⟩
  refine cw_m (con := ap_c47) aj_m47_at (Nat.le_of_ble_eq_true rfl) ?_
  show cw_W _ _ _ _ _ _ _ _ _ _ 0 [(0, .int 133), (1, .int y)] []
  refine cw_n aj_d47 rfl rfl ?_
  refine cw_n aj_d47 rfl rfl ?_
  refine cw_c (tgt := 27) aj_d47 rfl rfl (fun q39 => ?_) (fun q39 => ?_)
  · have q39 : (133 : Int) ≥ (138 : Int) := aw_t_ge (a := (133 : Int)) (b := (138 : Int)) rfl rfl q39
    exfalso
    omega
  · have q39 : (133 : Int) < (138 : Int) := aw_t_ge (a := (133 : Int)) (b := (138 : Int)) rfl rfl q39
    refine cw_n aj_d47 rfl rfl ?_
    refine cw_n aj_d47 rfl rfl ?_
    refine cw_c (tgt := 21) aj_d47 rfl rfl (fun q40 => ?_) (fun q40 => ?_)
    · have q40 : (133 : Int) ≠ (130 : Int) := aw_t_ne (a := (133 : Int)) (b := (130 : Int)) rfl rfl q40
      refine cw_n aj_d47 rfl rfl ?_
      refine cw_n aj_d47 rfl rfl ?_
      refine cw_ks0 (con' := ap_c49) aj_d47 hT rfl rfl rfl [_, _] rfl rfl (Nat.le_of_ble_eq_true rfl) ⟨by decide, by decide⟩ (cw_r133 htb hT hB (by omega) y) ?_
      rintro ru41 h41 hT41 ⟨ho41, r1u41⟩ hRu41
      rcases r1u41 with rfl | ⟨tu41, rfl, ku41⟩
      · skip
        show cw_W _ _ _ _ _ _ _ _ _ _ 26 [(0, .int 133), (1, .int y)] [.null]
        refine cw_Wr aj_d47 rfl rfl hT41 ?_ ?_
        · exact ⟨rfl, (ho41.trans rfl), Or.inl rfl⟩
        · exact rfl
      · skip
        show cw_W _ _ _ _ _ _ _ _ _ _ 26 [(0, .int 133), (1, .int y)] [.ref tu41]
        refine cw_Wr aj_d47 rfl rfl hT41 ?_ ?_
        · exact ⟨rfl, (ho41.trans rfl), Or.inr ⟨_, rfl, ku41⟩⟩
        · exact cw_gS47 (cw_rl_le (p := 133) ku41).1 (cw_rl_le (p := 133) ku41).2
    · have q40 : (133 : Int) = (130 : Int) := aw_t_ne (a := (133 : Int)) (b := (130 : Int)) rfl rfl q40
      exfalso
      omega
theorem cw_q134 (htb : ak_tbOK ak_C0 tb) (hT : ak_Ty ak_C0 s h) (hB : cw_B s) (hd : 3 ≤ d) (y : Int32) : cw_K ak_C0 (fun s' r h' => s' = s ∧ cw_o h' = cw_o h ∧ cw_rS 134 r) tb d ap_c47 [.int 134, .int y] s h := by
  obtain ⟨d, rfl⟩ : ∃ e, d = e + 1 := ⟨d - 1, by omega⟩
  refine cw_m (con := ap_c47) aj_m47_at (Nat.le_of_ble_eq_true rfl) ?_
  show cw_W _ _ _ _ _ _ _ _ _ _ 0 [(0, .int 134), (1, .int y)] []
  refine cw_n aj_d47 rfl rfl ?_
  refine cw_n aj_d47 rfl rfl ?_
  refine cw_c (tgt := 27) aj_d47 rfl rfl (fun q42 => ?_) (fun q42 => ?_)
  · have q42 : (134 : Int) ≥ (138 : Int) := aw_t_ge (a := (134 : Int)) (b := (138 : Int)) rfl rfl q42
    exfalso
    omega
  · have q42 : (134 : Int) < (138 : Int) := aw_t_ge (a := (134 : Int)) (b := (138 : Int)) rfl rfl q42
    refine cw_n aj_d47 rfl rfl ?_
    refine cw_n aj_d47 rfl rfl ?_
    refine cw_c (tgt := 21) aj_d47 rfl rfl (fun q43 => ?_) (fun q43 => ?_)
    · have q43 : (134 : Int) ≠ (130 : Int) := aw_t_ne (a := (134 : Int)) (b := (130 : Int)) rfl rfl q43
      refine cw_n aj_d47 rfl rfl ?_
      refine cw_n aj_d47 rfl rfl ?_
      refine cw_ks0 (con' := ap_c49) aj_d47 hT rfl rfl rfl [_, _] rfl rfl (Nat.le_of_ble_eq_true rfl) ⟨by decide, by decide⟩ (cw_r134 htb hT hB (by omega) y) ?_
      rintro ru44 h44 hT44 ⟨ho44, r1u44⟩ hRu44
      rcases r1u44 with rfl | ⟨tu44, rfl, ku44⟩
      · skip
        show cw_W _ _ _ _ _ _ _ _ _ _ 26 [(0, .int 134), (1, .int y)] [.null]
        refine cw_Wr aj_d47 rfl rfl hT44 ?_ ?_
        · exact ⟨rfl, (ho44.trans rfl), Or.inl rfl⟩
        · exact rfl
      · skip
        show cw_W _ _ _ _ _ _ _ _ _ _ 26 [(0, .int 134), (1, .int y)] [.ref tu44]
        refine cw_Wr aj_d47 rfl rfl hT44 ?_ ?_
        · exact ⟨rfl, (ho44.trans rfl), Or.inr ⟨_, rfl, ku44⟩⟩
        · exact cw_gS47 (cw_rl_le (p := 134) ku44).1 (cw_rl_le (p := 134) ku44).2
    · have q43 : (134 : Int) = (130 : Int) := aw_t_ne (a := (134 : Int)) (b := (130 : Int)) rfl rfl q43
      exfalso
      omega
theorem cw_q135 (htb : ak_tbOK ak_C0 tb) (hT : ak_Ty ak_C0 s h) (hB : cw_B s) (hd : 3 ≤ d) (y : Int32) : cw_K ak_C0 (fun s' r h' => s' = s ∧ cw_o h' = cw_o h ∧ cw_rS 135 r) tb d ap_c47 [.int 135, .int y] s h := by
  obtain ⟨d, rfl⟩ : ∃ e, d = e + 1 := ⟨d - 1, by omega⟩
  refine cw_m (con := ap_c47) aj_m47_at (Nat.le_of_ble_eq_true rfl) ?_
  show cw_W _ _ _ _ _ _ _ _ _ _ 0 [(0, .int 135), (1, .int y)] []
  refine cw_n aj_d47 rfl rfl ?_
  refine cw_n aj_d47 rfl rfl ?_
  refine cw_c (tgt := 27) aj_d47 rfl rfl (fun q45 => ?_) (fun q45 => ?_)
  · have q45 : (135 : Int) ≥ (138 : Int) := aw_t_ge (a := (135 : Int)) (b := (138 : Int)) rfl rfl q45
    exfalso
    omega
  · have q45 : (135 : Int) < (138 : Int) := aw_t_ge (a := (135 : Int)) (b := (138 : Int)) rfl rfl q45
    refine cw_n aj_d47 rfl rfl ?_
    refine cw_n aj_d47 rfl rfl ?_
    refine cw_c (tgt := 21) aj_d47 rfl rfl (fun q46 => ?_) (fun q46 => ?_)
    · have q46 : (135 : Int) ≠ (130 : Int) := aw_t_ne (a := (135 : Int)) (b := (130 : Int)) rfl rfl q46
      refine cw_n aj_d47 rfl rfl ?_
      refine cw_n aj_d47 rfl rfl ?_
      refine cw_ks0 (con' := ap_c49) aj_d47 hT rfl rfl rfl [_, _] rfl rfl (Nat.le_of_ble_eq_true rfl) ⟨by decide, by decide⟩ (cw_r135 htb hT hB (by omega) y) ?_
      rintro ru47 h47 hT47 ⟨ho47, r1u47⟩ hRu47
      rcases r1u47 with rfl | ⟨tu47, rfl, ku47⟩
      · skip
        show cw_W _ _ _ _ _ _ _ _ _ _ 26 [(0, .int 135), (1, .int y)] [.null]
        refine cw_Wr aj_d47 rfl rfl hT47 ?_ ?_
        · exact ⟨rfl, (ho47.trans rfl), Or.inl rfl⟩
        · exact rfl
      · skip
        show cw_W _ _ _ _ _ _ _ _ _ _ 26 [(0, .int 135), (1, .int y)] [.ref tu47]
        refine cw_Wr aj_d47 rfl rfl hT47 ?_ ?_
        · exact ⟨rfl, (ho47.trans rfl), Or.inr ⟨_, rfl, ku47⟩⟩
        · exact cw_gS47 (cw_rl_le (p := 135) ku47).1 (cw_rl_le (p := 135) ku47).2
    · have q46 : (135 : Int) = (130 : Int) := aw_t_ne (a := (135 : Int)) (b := (130 : Int)) rfl rfl q46
      exfalso
      omega
theorem cw_q136 (htb : ak_tbOK ak_C0 tb) (hT : ak_Ty ak_C0 s h) (hB : cw_B s) (hd : 3 ≤ d) (y : Int32) : cw_K ak_C0 (fun s' r h' => s' = s ∧ cw_o h' = cw_o h ∧ cw_rS 136 r) tb d ap_c47 [.int 136, .int y] s h := by
  obtain ⟨d, rfl⟩ : ∃ e, d = e + 1 := ⟨d - 1, by omega⟩
  refine cw_m (con := ap_c47) aj_m47_at (Nat.le_of_ble_eq_true rfl) ?_
  show cw_W _ _ _ _ _ _ _ _ _ _ 0 [(0, .int 136), (1, .int y)] []
  refine cw_n aj_d47 rfl rfl ?_
  refine cw_n aj_d47 rfl rfl ?_
  refine cw_c (tgt := 27) aj_d47 rfl rfl (fun q48 => ?_) (fun q48 => ?_)
  · have q48 : (136 : Int) ≥ (138 : Int) := aw_t_ge (a := (136 : Int)) (b := (138 : Int)) rfl rfl q48
    exfalso
    omega
  · have q48 : (136 : Int) < (138 : Int) := aw_t_ge (a := (136 : Int)) (b := (138 : Int)) rfl rfl q48
    refine cw_n aj_d47 rfl rfl ?_
    refine cw_n aj_d47 rfl rfl ?_
    refine cw_c (tgt := 21) aj_d47 rfl rfl (fun q49 => ?_) (fun q49 => ?_)
    · have q49 : (136 : Int) ≠ (130 : Int) := aw_t_ne (a := (136 : Int)) (b := (130 : Int)) rfl rfl q49
      refine cw_n aj_d47 rfl rfl ?_
      refine cw_n aj_d47 rfl rfl ?_
      refine cw_ks0 (con' := ap_c49) aj_d47 hT rfl rfl rfl [_, _] rfl rfl (Nat.le_of_ble_eq_true rfl) ⟨by decide, by decide⟩ (cw_r136 htb hT hB (by omega) y) ?_
      rintro ru50 h50 hT50 ⟨ho50, r1u50⟩ hRu50
      rcases r1u50 with rfl | ⟨tu50, rfl, ku50⟩
      · skip
        show cw_W _ _ _ _ _ _ _ _ _ _ 26 [(0, .int 136), (1, .int y)] [.null]
        refine cw_Wr aj_d47 rfl rfl hT50 ?_ ?_
        · exact ⟨rfl, (ho50.trans rfl), Or.inl rfl⟩
        · exact rfl
      · skip
        show cw_W _ _ _ _ _ _ _ _ _ _ 26 [(0, .int 136), (1, .int y)] [.ref tu50]
        refine cw_Wr aj_d47 rfl rfl hT50 ?_ ?_
        · exact ⟨rfl, (ho50.trans rfl), Or.inr ⟨_, rfl, ku50⟩⟩
        · exact cw_gS47 (cw_rl_le (p := 136) ku50).1 (cw_rl_le (p := 136) ku50).2
    · have q49 : (136 : Int) = (130 : Int) := aw_t_ne (a := (136 : Int)) (b := (130 : Int)) rfl rfl q49
      exfalso
      omega
theorem cw_q137 (htb : ak_tbOK ak_C0 tb) (hT : ak_Ty ak_C0 s h) (hB : cw_B s) (hd : 3 ≤ d) (y : Int32) : cw_K ak_C0 (fun s' r h' => s' = s ∧ cw_o h' = cw_o h ∧ cw_rS 137 r) tb d ap_c47 [.int 137, .int y] s h := by
  obtain ⟨d, rfl⟩ : ∃ e, d = e + 1 := ⟨d - 1, by omega⟩
  refine cw_m (con := ap_c47) aj_m47_at (Nat.le_of_ble_eq_true rfl) ?_
  show cw_W _ _ _ _ _ _ _ _ _ _ 0 [(0, .int 137), (1, .int y)] []
  refine cw_n aj_d47 rfl rfl ?_
  refine cw_n aj_d47 rfl rfl ?_
  refine cw_c (tgt := 27) aj_d47 rfl rfl (fun q51 => ?_) (fun q51 => ?_)
  · have q51 : (137 : Int) ≥ (138 : Int) := aw_t_ge (a := (137 : Int)) (b := (138 : Int)) rfl rfl q51
    exfalso
    omega
  · have q51 : (137 : Int) < (138 : Int) := aw_t_ge (a := (137 : Int)) (b := (138 : Int)) rfl rfl q51
    refine cw_n aj_d47 rfl rfl ?_
    refine cw_n aj_d47 rfl rfl ?_
    refine cw_c (tgt := 21) aj_d47 rfl rfl (fun q52 => ?_) (fun q52 => ?_)
    · have q52 : (137 : Int) ≠ (130 : Int) := aw_t_ne (a := (137 : Int)) (b := (130 : Int)) rfl rfl q52
      refine cw_n aj_d47 rfl rfl ?_
      refine cw_n aj_d47 rfl rfl ?_
      refine cw_ks0 (con' := ap_c49) aj_d47 hT rfl rfl rfl [_, _] rfl rfl (Nat.le_of_ble_eq_true rfl) ⟨by decide, by decide⟩ (cw_r137 htb hT hB (by omega) y) ?_
      rintro ru53 h53 hT53 ⟨ho53, r1u53⟩ hRu53
      rcases r1u53 with rfl | ⟨tu53, rfl, ku53⟩
      · skip
        show cw_W _ _ _ _ _ _ _ _ _ _ 26 [(0, .int 137), (1, .int y)] [.null]
        refine cw_Wr aj_d47 rfl rfl hT53 ?_ ?_
        · exact ⟨rfl, (ho53.trans rfl), Or.inl rfl⟩
        · exact rfl
      · skip
        show cw_W _ _ _ _ _ _ _ _ _ _ 26 [(0, .int 137), (1, .int y)] [.ref tu53]
        refine cw_Wr aj_d47 rfl rfl hT53 ?_ ?_
        · exact ⟨rfl, (ho53.trans rfl), Or.inr ⟨_, rfl, ku53⟩⟩
        · exact cw_gS47 (cw_rl_le (p := 137) ku53).1 (cw_rl_le (p := 137) ku53).2
    · have q52 : (137 : Int) = (130 : Int) := aw_t_ne (a := (137 : Int)) (b := (130 : Int)) rfl rfl q52
      exfalso
      omega
theorem cw_q138 (htb : ak_tbOK ak_C0 tb) (hT : ak_Ty ak_C0 s h) (hB : cw_B s) (hd : 3 ≤ d) (y : Int32) : cw_K ak_C0 (fun s' r h' => s' = s ∧ cw_o h' = cw_o h ∧ cw_rS 138 r) tb d ap_c47 [.int 138, .int y] s h := by
  obtain ⟨d, rfl⟩ : ∃ e, d = e + 1 := ⟨d - 1, by omega⟩
  refine cw_m (con := ap_c47) aj_m47_at (Nat.le_of_ble_eq_true rfl) ?_
  show cw_W _ _ _ _ _ _ _ _ _ _ 0 [(0, .int 138), (1, .int y)] []
  refine cw_n aj_d47 rfl rfl ?_
  refine cw_n aj_d47 rfl rfl ?_
  refine cw_c (tgt := 27) aj_d47 rfl rfl (fun q54 => ?_) (fun q54 => ?_)
  · have q54 : (138 : Int) ≥ (138 : Int) := aw_t_ge (a := (138 : Int)) (b := (138 : Int)) rfl rfl q54
    refine cw_n aj_d47 rfl rfl ?_
    refine cw_n aj_d47 rfl rfl ?_
    refine cw_c (tgt := 42) aj_d47 rfl rfl (fun q55 => ?_) (fun q55 => ?_)
    · have q55 : (138 : Int) ≥ (145 : Int) := aw_t_ge (a := (138 : Int)) (b := (145 : Int)) rfl rfl q55
      exfalso
      omega
    · have q55 : (138 : Int) < (145 : Int) := aw_t_ge (a := (138 : Int)) (b := (145 : Int)) rfl rfl q55
      refine cw_n aj_d47 rfl rfl ?_
      refine cw_n aj_d47 rfl rfl ?_
      refine cw_ks0 (con' := ap_c50) aj_d47 hT rfl rfl rfl [_, _] rfl rfl (Nat.le_of_ble_eq_true rfl) ⟨by decide, by decide⟩ (cw_r138 htb hT hB (by omega) y) ?_
      rintro ru56 h56 hT56 ⟨ho56, r1u56⟩ hRu56
      rcases r1u56 with rfl | ⟨tu56, rfl, ku56⟩
      · skip
        show cw_W _ _ _ _ _ _ _ _ _ _ 39 [(0, .int 138), (1, .int y)] [.null]
        refine cw_n aj_d47 rfl rfl ?_
        refine cw_Wr aj_d47 rfl rfl hT56 ?_ ?_
        · exact ⟨rfl, (ho56.trans rfl), Or.inl rfl⟩
        · exact rfl
      · skip
        show cw_W _ _ _ _ _ _ _ _ _ _ 39 [(0, .int 138), (1, .int y)] [.ref tu56]
        refine cw_n aj_d47 rfl rfl ?_
        refine cw_Wr aj_d47 rfl rfl hT56 ?_ ?_
        · exact ⟨rfl, (ho56.trans rfl), Or.inr ⟨_, rfl, ku56⟩⟩
        · exact cw_gS47 (cw_rl_le (p := 138) ku56).1 (cw_rl_le (p := 138) ku56).2
  · have q54 : (138 : Int) < (138 : Int) := aw_t_ge (a := (138 : Int)) (b := (138 : Int)) rfl rfl q54
    exfalso
    omega
theorem cw_q139 (htb : ak_tbOK ak_C0 tb) (hT : ak_Ty ak_C0 s h) (hB : cw_B s) (hd : 3 ≤ d) (y : Int32) : cw_K ak_C0 (fun s' r h' => s' = s ∧ cw_o h' = cw_o h ∧ cw_rS 139 r) tb d ap_c47 [.int 139, .int y] s h := by
  obtain ⟨d, rfl⟩ : ∃ e, d = e + 1 := ⟨d - 1, by omega⟩
  refine cw_m (con := ap_c47) aj_m47_at (Nat.le_of_ble_eq_true rfl) ?_
  show cw_W _ _ _ _ _ _ _ _ _ _ 0 [(0, .int 139), (1, .int y)] []
  refine cw_n aj_d47 rfl rfl ?_
  refine cw_n aj_d47 rfl rfl ?_
  refine cw_c (tgt := 27) aj_d47 rfl rfl (fun q57 => ?_) (fun q57 => ?_)
  · have q57 : (139 : Int) ≥ (138 : Int) := aw_t_ge (a := (139 : Int)) (b := (138 : Int)) rfl rfl q57
    refine cw_n aj_d47 rfl rfl ?_
    refine cw_n aj_d47 rfl rfl ?_
    refine cw_c (tgt := 42) aj_d47 rfl rfl (fun q58 => ?_) (fun q58 => ?_)
    · have q58 : (139 : Int) ≥ (145 : Int) := aw_t_ge (a := (139 : Int)) (b := (145 : Int)) rfl rfl q58
      exfalso
      omega
    · have q58 : (139 : Int) < (145 : Int) := aw_t_ge (a := (139 : Int)) (b := (145 : Int)) rfl rfl q58
      refine cw_n aj_d47 rfl rfl ?_
      refine cw_n aj_d47 rfl rfl ?_
      refine cw_ks0 (con' := ap_c50) aj_d47 hT rfl rfl rfl [_, _] rfl rfl (Nat.le_of_ble_eq_true rfl) ⟨by decide, by decide⟩ (cw_r139 htb hT hB (by omega) y) ?_
      rintro ru59 h59 hT59 ⟨ho59, r1u59⟩ hRu59
      rcases r1u59 with rfl | ⟨tu59, rfl, ku59⟩
      · skip
        show cw_W _ _ _ _ _ _ _ _ _ _ 39 [(0, .int 139), (1, .int y)] [.null]
        refine cw_n aj_d47 rfl rfl ?_
        refine cw_Wr aj_d47 rfl rfl hT59 ?_ ?_
        · exact ⟨rfl, (ho59.trans rfl), Or.inl rfl⟩
        · exact rfl
      · skip
        show cw_W _ _ _ _ _ _ _ _ _ _ 39 [(0, .int 139), (1, .int y)] [.ref tu59]
        refine cw_n aj_d47 rfl rfl ?_
        refine cw_Wr aj_d47 rfl rfl hT59 ?_ ?_
        · exact ⟨rfl, (ho59.trans rfl), Or.inr ⟨_, rfl, ku59⟩⟩
        · exact cw_gS47 (cw_rl_le (p := 139) ku59).1 (cw_rl_le (p := 139) ku59).2
  · have q57 : (139 : Int) < (138 : Int) := aw_t_ge (a := (139 : Int)) (b := (138 : Int)) rfl rfl q57
    exfalso
    omega
theorem cw_q140 (htb : ak_tbOK ak_C0 tb) (hT : ak_Ty ak_C0 s h) (hB : cw_B s) (hd : 3 ≤ d) (y : Int32) : cw_K ak_C0 (fun s' r h' => s' = s ∧ cw_o h' = cw_o h ∧ cw_rS 140 r) tb d ap_c47 [.int 140, .int y] s h := by
  obtain ⟨d, rfl⟩ : ∃ e, d = e + 1 := ⟨d - 1, by omega⟩
  refine cw_m (con := ap_c47) aj_m47_at (Nat.le_of_ble_eq_true rfl) ?_
  show cw_W _ _ _ _ _ _ _ _ _ _ 0 [(0, .int 140), (1, .int y)] []
  refine cw_n aj_d47 rfl rfl ?_
  refine cw_n aj_d47 rfl rfl ?_
  refine cw_c (tgt := 27) aj_d47 rfl rfl (fun q60 => ?_) (fun q60 => ?_)
  · have q60 : (140 : Int) ≥ (138 : Int) := aw_t_ge (a := (140 : Int)) (b := (138 : Int)) rfl rfl q60
    refine cw_n aj_d47 rfl rfl ?_
    refine cw_n aj_d47 rfl rfl ?_
    refine cw_c (tgt := 42) aj_d47 rfl rfl (fun q61 => ?_) (fun q61 => ?_)
    · have q61 : (140 : Int) ≥ (145 : Int) := aw_t_ge (a := (140 : Int)) (b := (145 : Int)) rfl rfl q61
      exfalso
      omega
    · have q61 : (140 : Int) < (145 : Int) := aw_t_ge (a := (140 : Int)) (b := (145 : Int)) rfl rfl q61
      refine cw_n aj_d47 rfl rfl ?_
      refine cw_n aj_d47 rfl rfl ?_
      refine cw_ks0 (con' := ap_c50) aj_d47 hT rfl rfl rfl [_, _] rfl rfl (Nat.le_of_ble_eq_true rfl) ⟨by decide, by decide⟩ (cw_r140 htb hT hB (by omega) y) ?_
      rintro ru62 h62 hT62 ⟨ho62, r1u62⟩ hRu62
      rcases r1u62 with rfl | ⟨tu62, rfl, ku62⟩
      · skip
        show cw_W _ _ _ _ _ _ _ _ _ _ 39 [(0, .int 140), (1, .int y)] [.null]
        refine cw_n aj_d47 rfl rfl ?_
        refine cw_Wr aj_d47 rfl rfl hT62 ?_ ?_
        · exact ⟨rfl, (ho62.trans rfl), Or.inl rfl⟩
        · exact rfl
      · skip
        show cw_W _ _ _ _ _ _ _ _ _ _ 39 [(0, .int 140), (1, .int y)] [.ref tu62]
        refine cw_n aj_d47 rfl rfl ?_
        refine cw_Wr aj_d47 rfl rfl hT62 ?_ ?_
        · exact ⟨rfl, (ho62.trans rfl), Or.inr ⟨_, rfl, ku62⟩⟩
        · exact cw_gS47 (cw_rl_le (p := 140) ku62).1 (cw_rl_le (p := 140) ku62).2
  · have q60 : (140 : Int) < (138 : Int) := aw_t_ge (a := (140 : Int)) (b := (138 : Int)) rfl rfl q60
    exfalso
    omega
theorem cw_q141 (htb : ak_tbOK ak_C0 tb) (hT : ak_Ty ak_C0 s h) (hB : cw_B s) (hd : 3 ≤ d) (y : Int32) : cw_K ak_C0 (fun s' r h' => s' = s ∧ cw_o h' = cw_o h ∧ cw_rS 141 r) tb d ap_c47 [.int 141, .int y] s h := by
  obtain ⟨d, rfl⟩ : ∃ e, d = e + 1 := ⟨d - 1, by omega⟩
  refine cw_m (con := ap_c47) aj_m47_at (Nat.le_of_ble_eq_true rfl) ?_
  show cw_W _ _ _ _ _ _ _ _ _ _ 0 [(0, .int 141), (1, .int y)] []
  refine cw_n aj_d47 rfl rfl ?_
  refine cw_n aj_d47 rfl rfl ?_
  refine cw_c (tgt := 27) aj_d47 rfl rfl (fun q63 => ?_) (fun q63 => ?_)
  · have q63 : (141 : Int) ≥ (138 : Int) := aw_t_ge (a := (141 : Int)) (b := (138 : Int)) rfl rfl q63
    refine cw_n aj_d47 rfl rfl ?_
    refine cw_n aj_d47 rfl rfl ?_
    refine cw_c (tgt := 42) aj_d47 rfl rfl (fun q64 => ?_) (fun q64 => ?_)
    · have q64 : (141 : Int) ≥ (145 : Int) := aw_t_ge (a := (141 : Int)) (b := (145 : Int)) rfl rfl q64
      exfalso
      omega
    · have q64 : (141 : Int) < (145 : Int) := aw_t_ge (a := (141 : Int)) (b := (145 : Int)) rfl rfl q64
      refine cw_n aj_d47 rfl rfl ?_
      refine cw_n aj_d47 rfl rfl ?_
      refine cw_ks0 (con' := ap_c50) aj_d47 hT rfl rfl rfl [_, _] rfl rfl (Nat.le_of_ble_eq_true rfl) ⟨by decide, by decide⟩ (cw_r141 htb hT hB (by omega) y) ?_
      rintro ru65 h65 hT65 ⟨ho65, r1u65⟩ hRu65
      rcases r1u65 with rfl | ⟨tu65, rfl, ku65⟩
      · skip
        show cw_W _ _ _ _ _ _ _ _ _ _ 39 [(0, .int 141), (1, .int y)] [.null]
        refine cw_n aj_d47 rfl rfl ?_
        refine cw_Wr aj_d47 rfl rfl hT65 ?_ ?_
        · exact ⟨rfl, (ho65.trans rfl), Or.inl rfl⟩
        · exact rfl
      · skip
        show cw_W _ _ _ _ _ _ _ _ _ _ 39 [(0, .int 141), (1, .int y)] [.ref tu65]
        refine cw_n aj_d47 rfl rfl ?_
        refine cw_Wr aj_d47 rfl rfl hT65 ?_ ?_
        · exact ⟨rfl, (ho65.trans rfl), Or.inr ⟨_, rfl, ku65⟩⟩
        · exact cw_gS47 (cw_rl_le (p := 141) ku65).1 (cw_rl_le (p := 141) ku65).2
  · have q63 : (141 : Int) < (138 : Int) := aw_t_ge (a := (141 : Int)) (b := (138 : Int)) rfl rfl q63
    exfalso
    omega
theorem cw_q142 (htb : ak_tbOK ak_C0 tb) (hT : ak_Ty ak_C0 s h) (hB : cw_B s) (hd : 3 ≤ d) (y : Int32) : cw_K ak_C0 (fun s' r h' => s' = s ∧ cw_o h' = cw_o h ∧ cw_rS 142 r) tb d ap_c47 [.int 142, .int y] s h := by
  obtain ⟨d, rfl⟩ : ∃ e, d = e + 1 := ⟨d - 1, by omega⟩
  refine cw_m (con := ap_c47) aj_m47_at (Nat.le_of_ble_eq_true rfl) ?_
  show cw_W _ _ _ _ _ _ _ _ _ _ 0 [(0, .int 142), (1, .int y)] []
  refine cw_n aj_d47 rfl rfl ?_
  refine cw_n aj_d47 rfl rfl ?_
  refine cw_c (tgt := 27) aj_d47 rfl rfl (fun q66 => ?_) (fun q66 => ?_)
  · have q66 : (142 : Int) ≥ (138 : Int) := aw_t_ge (a := (142 : Int)) (b := (138 : Int)) rfl rfl q66
    refine cw_n aj_d47 rfl rfl ?_
    refine cw_n aj_d47 rfl rfl ?_
    refine cw_c (tgt := 42) aj_d47 rfl rfl (fun q67 => ?_) (fun q67 => ?_)
    · have q67 : (142 : Int) ≥ (145 : Int) := aw_t_ge (a := (142 : Int)) (b := (145 : Int)) rfl rfl q67
      exfalso
      omega
    · have q67 : (142 : Int) < (145 : Int) := aw_t_ge (a := (142 : Int)) (b := (145 : Int)) rfl rfl q67
      refine cw_n aj_d47 rfl rfl ?_
      refine cw_n aj_d47 rfl rfl ?_
      refine cw_ks0 (con' := ap_c50) aj_d47 hT rfl rfl rfl [_, _] rfl rfl (Nat.le_of_ble_eq_true rfl) ⟨by decide, by decide⟩ (cw_r142 htb hT hB (by omega) y) ?_
      rintro ru68 h68 hT68 ⟨ho68, r1u68⟩ hRu68
      rcases r1u68 with rfl | ⟨tu68, rfl, ku68⟩
      · skip
        show cw_W _ _ _ _ _ _ _ _ _ _ 39 [(0, .int 142), (1, .int y)] [.null]
        refine cw_n aj_d47 rfl rfl ?_
        refine cw_Wr aj_d47 rfl rfl hT68 ?_ ?_
        · exact ⟨rfl, (ho68.trans rfl), Or.inl rfl⟩
        · exact rfl
      · skip
        show cw_W _ _ _ _ _ _ _ _ _ _ 39 [(0, .int 142), (1, .int y)] [.ref tu68]
        refine cw_n aj_d47 rfl rfl ?_
        refine cw_Wr aj_d47 rfl rfl hT68 ?_ ?_
        · exact ⟨rfl, (ho68.trans rfl), Or.inr ⟨_, rfl, ku68⟩⟩
        · exact cw_gS47 (cw_rl_le (p := 142) ku68).1 (cw_rl_le (p := 142) ku68).2
  · have q66 : (142 : Int) < (138 : Int) := aw_t_ge (a := (142 : Int)) (b := (138 : Int)) rfl rfl q66
    exfalso
    omega
theorem cw_q143 (htb : ak_tbOK ak_C0 tb) (hT : ak_Ty ak_C0 s h) (hB : cw_B s) (hd : 3 ≤ d) (y : Int32) : cw_K ak_C0 (fun s' r h' => s' = s ∧ cw_o h' = cw_o h ∧ cw_rS 143 r) tb d ap_c47 [.int 143, .int y] s h := by
  obtain ⟨d, rfl⟩ : ∃ e, d = e + 1 := ⟨d - 1, by omega⟩
  refine cw_m (con := ap_c47) aj_m47_at (Nat.le_of_ble_eq_true rfl) ?_
  show cw_W _ _ _ _ _ _ _ _ _ _ 0 [(0, .int 143), (1, .int y)] []
  refine cw_n aj_d47 rfl rfl ?_
  refine cw_n aj_d47 rfl rfl ?_
  refine cw_c (tgt := 27) aj_d47 rfl rfl (fun q69 => ?_) (fun q69 => ?_)
  · have q69 : (143 : Int) ≥ (138 : Int) := aw_t_ge (a := (143 : Int)) (b := (138 : Int)) rfl rfl q69
    refine cw_n aj_d47 rfl rfl ?_
    refine cw_n aj_d47 rfl rfl ?_
    refine cw_c (tgt := 42) aj_d47 rfl rfl (fun q70 => ?_) (fun q70 => ?_)
    · have q70 : (143 : Int) ≥ (145 : Int) := aw_t_ge (a := (143 : Int)) (b := (145 : Int)) rfl rfl q70
      exfalso
      omega
    · have q70 : (143 : Int) < (145 : Int) := aw_t_ge (a := (143 : Int)) (b := (145 : Int)) rfl rfl q70
      refine cw_n aj_d47 rfl rfl ?_
      refine cw_n aj_d47 rfl rfl ?_
      refine cw_ks0 (con' := ap_c50) aj_d47 hT rfl rfl rfl [_, _] rfl rfl (Nat.le_of_ble_eq_true rfl) ⟨by decide, by decide⟩ (cw_r143 htb hT hB (by omega) y) ?_
      rintro ru71 h71 hT71 ⟨ho71, r1u71⟩ hRu71
      rcases r1u71 with rfl | ⟨tu71, rfl, ku71⟩
      · skip
        show cw_W _ _ _ _ _ _ _ _ _ _ 39 [(0, .int 143), (1, .int y)] [.null]
        refine cw_n aj_d47 rfl rfl ?_
        refine cw_Wr aj_d47 rfl rfl hT71 ?_ ?_
        · exact ⟨rfl, (ho71.trans rfl), Or.inl rfl⟩
        · exact rfl
      · skip
        show cw_W _ _ _ _ _ _ _ _ _ _ 39 [(0, .int 143), (1, .int y)] [.ref tu71]
        refine cw_n aj_d47 rfl rfl ?_
        refine cw_Wr aj_d47 rfl rfl hT71 ?_ ?_
        · exact ⟨rfl, (ho71.trans rfl), Or.inr ⟨_, rfl, ku71⟩⟩
        · exact cw_gS47 (cw_rl_le (p := 143) ku71).1 (cw_rl_le (p := 143) ku71).2
  · have q69 : (143 : Int) < (138 : Int) := aw_t_ge (a := (143 : Int)) (b := (138 : Int)) rfl rfl q69
    exfalso
    omega
theorem cw_q144 (htb : ak_tbOK ak_C0 tb) (hT : ak_Ty ak_C0 s h) (hB : cw_B s) (hd : 3 ≤ d) (y : Int32) : cw_K ak_C0 (fun s' r h' => s' = s ∧ cw_o h' = cw_o h ∧ cw_rS 144 r) tb d ap_c47 [.int 144, .int y] s h := by
  obtain ⟨d, rfl⟩ : ∃ e, d = e + 1 := ⟨d - 1, by omega⟩
  refine cw_m (con := ap_c47) aj_m47_at (Nat.le_of_ble_eq_true rfl) ?_
  show cw_W _ _ _ _ _ _ _ _ _ _ 0 [(0, .int 144), (1, .int y)] []
  refine cw_n aj_d47 rfl rfl ?_
  refine cw_n aj_d47 rfl rfl ?_
  refine cw_c (tgt := 27) aj_d47 rfl rfl (fun q72 => ?_) (fun q72 => ?_)
  · have q72 : (144 : Int) ≥ (138 : Int) := aw_t_ge (a := (144 : Int)) (b := (138 : Int)) rfl rfl q72
    refine cw_n aj_d47 rfl rfl ?_
    refine cw_n aj_d47 rfl rfl ?_
    refine cw_c (tgt := 42) aj_d47 rfl rfl (fun q73 => ?_) (fun q73 => ?_)
    · have q73 : (144 : Int) ≥ (145 : Int) := aw_t_ge (a := (144 : Int)) (b := (145 : Int)) rfl rfl q73
      exfalso
      omega
    · have q73 : (144 : Int) < (145 : Int) := aw_t_ge (a := (144 : Int)) (b := (145 : Int)) rfl rfl q73
      refine cw_n aj_d47 rfl rfl ?_
      refine cw_n aj_d47 rfl rfl ?_
      refine cw_ks0 (con' := ap_c50) aj_d47 hT rfl rfl rfl [_, _] rfl rfl (Nat.le_of_ble_eq_true rfl) ⟨by decide, by decide⟩ (cw_r144 htb hT hB (by omega) y) ?_
      rintro ru74 h74 hT74 ⟨ho74, r1u74⟩ hRu74
      rcases r1u74 with rfl | ⟨tu74, rfl, ku74⟩
      · skip
        show cw_W _ _ _ _ _ _ _ _ _ _ 39 [(0, .int 144), (1, .int y)] [.null]
        refine cw_n aj_d47 rfl rfl ?_
        refine cw_Wr aj_d47 rfl rfl hT74 ?_ ?_
        · exact ⟨rfl, (ho74.trans rfl), Or.inl rfl⟩
        · exact rfl
      · skip
        show cw_W _ _ _ _ _ _ _ _ _ _ 39 [(0, .int 144), (1, .int y)] [.ref tu74]
        refine cw_n aj_d47 rfl rfl ?_
        refine cw_Wr aj_d47 rfl rfl hT74 ?_ ?_
        · exact ⟨rfl, (ho74.trans rfl), Or.inr ⟨_, rfl, ku74⟩⟩
        · exact cw_gS47 (cw_rl_le (p := 144) ku74).1 (cw_rl_le (p := 144) ku74).2
  · have q72 : (144 : Int) < (138 : Int) := aw_t_ge (a := (144 : Int)) (b := (138 : Int)) rfl rfl q72
    exfalso
    omega
theorem cw_q145 (htb : ak_tbOK ak_C0 tb) (hT : ak_Ty ak_C0 s h) (hB : cw_B s) (hd : 3 ≤ d) (y : Int32) : cw_K ak_C0 (fun s' r h' => s' = s ∧ cw_o h' = cw_o h ∧ cw_rS 145 r) tb d ap_c47 [.int 145, .int y] s h := by
  obtain ⟨d, rfl⟩ : ∃ e, d = e + 1 := ⟨d - 1, by omega⟩
  refine cw_m (con := ap_c47) aj_m47_at (Nat.le_of_ble_eq_true rfl) ?_
  show cw_W _ _ _ _ _ _ _ _ _ _ 0 [(0, .int 145), (1, .int y)] []
  refine cw_n aj_d47 rfl rfl ?_
  refine cw_n aj_d47 rfl rfl ?_
  refine cw_c (tgt := 27) aj_d47 rfl rfl (fun q75 => ?_) (fun q75 => ?_)
  · have q75 : (145 : Int) ≥ (138 : Int) := aw_t_ge (a := (145 : Int)) (b := (138 : Int)) rfl rfl q75
    refine cw_n aj_d47 rfl rfl ?_
    refine cw_n aj_d47 rfl rfl ?_
    refine cw_c (tgt := 42) aj_d47 rfl rfl (fun q76 => ?_) (fun q76 => ?_)
    · have q76 : (145 : Int) ≥ (145 : Int) := aw_t_ge (a := (145 : Int)) (b := (145 : Int)) rfl rfl q76
      refine cw_n aj_d47 rfl rfl ?_
      refine cw_n aj_d47 rfl rfl ?_
      refine cw_ks0 (con' := ap_c52) aj_d47 hT rfl rfl rfl [_, _] rfl rfl (Nat.le_of_ble_eq_true rfl) ⟨by decide, by decide⟩ (cw_r145 htb hT hB (by omega) y) ?_
      rintro ru77 h77 hT77 ⟨ho77, r1u77⟩ hRu77
      rcases r1u77 with rfl | ⟨tu77, rfl, ku77⟩
      · skip
        show cw_W _ _ _ _ _ _ _ _ _ _ 47 [(0, .int 145), (1, .int y)] [.null]
        refine cw_Wr aj_d47 rfl rfl hT77 ?_ ?_
        · exact ⟨rfl, (ho77.trans rfl), Or.inl rfl⟩
        · exact rfl
      · skip
        show cw_W _ _ _ _ _ _ _ _ _ _ 47 [(0, .int 145), (1, .int y)] [.ref tu77]
        refine cw_Wr aj_d47 rfl rfl hT77 ?_ ?_
        · exact ⟨rfl, (ho77.trans rfl), Or.inr ⟨_, rfl, ku77⟩⟩
        · exact cw_gS47 (cw_rl_le (p := 145) ku77).1 (cw_rl_le (p := 145) ku77).2
    · have q76 : (145 : Int) < (145 : Int) := aw_t_ge (a := (145 : Int)) (b := (145 : Int)) rfl rfl q76
      exfalso
      omega
  · have q75 : (145 : Int) < (138 : Int) := aw_t_ge (a := (145 : Int)) (b := (138 : Int)) rfl rfl q75
    exfalso
    omega
theorem cw_q146 (htb : ak_tbOK ak_C0 tb) (hT : ak_Ty ak_C0 s h) (hB : cw_B s) (hd : 3 ≤ d) (y : Int32) : cw_K ak_C0 (fun s' r h' => s' = s ∧ cw_o h' = cw_o h ∧ cw_rS 146 r) tb d ap_c47 [.int 146, .int y] s h := by
  obtain ⟨d, rfl⟩ : ∃ e, d = e + 1 := ⟨d - 1, by omega⟩
  refine cw_m (con := ap_c47) aj_m47_at (Nat.le_of_ble_eq_true rfl) ?_
  show cw_W _ _ _ _ _ _ _ _ _ _ 0 [(0, .int 146), (1, .int y)] []
  refine cw_n aj_d47 rfl rfl ?_
  refine cw_n aj_d47 rfl rfl ?_
  refine cw_c (tgt := 27) aj_d47 rfl rfl (fun q78 => ?_) (fun q78 => ?_)
  · have q78 : (146 : Int) ≥ (138 : Int) := aw_t_ge (a := (146 : Int)) (b := (138 : Int)) rfl rfl q78
    refine cw_n aj_d47 rfl rfl ?_
    refine cw_n aj_d47 rfl rfl ?_
    refine cw_c (tgt := 42) aj_d47 rfl rfl (fun q79 => ?_) (fun q79 => ?_)
    · have q79 : (146 : Int) ≥ (145 : Int) := aw_t_ge (a := (146 : Int)) (b := (145 : Int)) rfl rfl q79
      refine cw_n aj_d47 rfl rfl ?_
      refine cw_n aj_d47 rfl rfl ?_
      refine cw_ks0 (con' := ap_c52) aj_d47 hT rfl rfl rfl [_, _] rfl rfl (Nat.le_of_ble_eq_true rfl) ⟨by decide, by decide⟩ (cw_r146 htb hT hB (by omega) y) ?_
      rintro ru80 h80 hT80 ⟨ho80, r1u80⟩ hRu80
      rcases r1u80 with rfl | ⟨tu80, rfl, ku80⟩
      · skip
        show cw_W _ _ _ _ _ _ _ _ _ _ 47 [(0, .int 146), (1, .int y)] [.null]
        refine cw_Wr aj_d47 rfl rfl hT80 ?_ ?_
        · exact ⟨rfl, (ho80.trans rfl), Or.inl rfl⟩
        · exact rfl
      · skip
        show cw_W _ _ _ _ _ _ _ _ _ _ 47 [(0, .int 146), (1, .int y)] [.ref tu80]
        refine cw_Wr aj_d47 rfl rfl hT80 ?_ ?_
        · exact ⟨rfl, (ho80.trans rfl), Or.inr ⟨_, rfl, ku80⟩⟩
        · exact cw_gS47 (cw_rl_le (p := 146) ku80).1 (cw_rl_le (p := 146) ku80).2
    · have q79 : (146 : Int) < (145 : Int) := aw_t_ge (a := (146 : Int)) (b := (145 : Int)) rfl rfl q79
      exfalso
      omega
  · have q78 : (146 : Int) < (138 : Int) := aw_t_ge (a := (146 : Int)) (b := (138 : Int)) rfl rfl q78
    exfalso
    omega
theorem cw_q147 (htb : ak_tbOK ak_C0 tb) (hT : ak_Ty ak_C0 s h) (hB : cw_B s) (hd : 3 ≤ d) (y : Int32) : cw_K ak_C0 (fun s' r h' => s' = s ∧ cw_o h' = cw_o h ∧ cw_rS 147 r) tb d ap_c47 [.int 147, .int y] s h := by
  obtain ⟨d, rfl⟩ : ∃ e, d = e + 1 := ⟨d - 1, by omega⟩
  refine cw_m (con := ap_c47) aj_m47_at (Nat.le_of_ble_eq_true rfl) ?_
  show cw_W _ _ _ _ _ _ _ _ _ _ 0 [(0, .int 147), (1, .int y)] []
  refine cw_n aj_d47 rfl rfl ?_
  refine cw_n aj_d47 rfl rfl ?_
  refine cw_c (tgt := 27) aj_d47 rfl rfl (fun q81 => ?_) (fun q81 => ?_)
  · have q81 : (147 : Int) ≥ (138 : Int) := aw_t_ge (a := (147 : Int)) (b := (138 : Int)) rfl rfl q81
    refine cw_n aj_d47 rfl rfl ?_
    refine cw_n aj_d47 rfl rfl ?_
    refine cw_c (tgt := 42) aj_d47 rfl rfl (fun q82 => ?_) (fun q82 => ?_)
    · have q82 : (147 : Int) ≥ (145 : Int) := aw_t_ge (a := (147 : Int)) (b := (145 : Int)) rfl rfl q82
      refine cw_n aj_d47 rfl rfl ?_
      refine cw_n aj_d47 rfl rfl ?_
      refine cw_ks0 (con' := ap_c52) aj_d47 hT rfl rfl rfl [_, _] rfl rfl (Nat.le_of_ble_eq_true rfl) ⟨by decide, by decide⟩ (cw_r147 htb hT hB (by omega) y) ?_
      rintro ru83 h83 hT83 ⟨ho83, r1u83⟩ hRu83
      rcases r1u83 with rfl | ⟨tu83, rfl, ku83⟩
      · skip
        show cw_W _ _ _ _ _ _ _ _ _ _ 47 [(0, .int 147), (1, .int y)] [.null]
        refine cw_Wr aj_d47 rfl rfl hT83 ?_ ?_
        · exact ⟨rfl, (ho83.trans rfl), Or.inl rfl⟩
        · exact rfl
      · skip
        show cw_W _ _ _ _ _ _ _ _ _ _ 47 [(0, .int 147), (1, .int y)] [.ref tu83]
        refine cw_Wr aj_d47 rfl rfl hT83 ?_ ?_
        · exact ⟨rfl, (ho83.trans rfl), Or.inr ⟨_, rfl, ku83⟩⟩
        · exact cw_gS47 (cw_rl_le (p := 147) ku83).1 (cw_rl_le (p := 147) ku83).2
    · have q82 : (147 : Int) < (145 : Int) := aw_t_ge (a := (147 : Int)) (b := (145 : Int)) rfl rfl q82
      exfalso
      omega
  · have q81 : (147 : Int) < (138 : Int) := aw_t_ge (a := (147 : Int)) (b := (138 : Int)) rfl rfl q81
    exfalso
    omega
theorem cw_q148 (htb : ak_tbOK ak_C0 tb) (hT : ak_Ty ak_C0 s h) (hB : cw_B s) (hd : 3 ≤ d) (y : Int32) : cw_K ak_C0 (fun s' r h' => s' = s ∧ cw_o h' = cw_o h ∧ cw_rS 148 r) tb d ap_c47 [.int 148, .int y] s h := by
  obtain ⟨d, rfl⟩ : ∃ e, d = e + 1 := ⟨d - 1, by omega⟩
  refine cw_m (con := ap_c47) aj_m47_at (Nat.le_of_ble_eq_true rfl) ?_
  show cw_W _ _ _ _ _ _ _ _ _ _ 0 [(0, .int 148), (1, .int y)] []
  refine cw_n aj_d47 rfl rfl ?_
  refine cw_n aj_d47 rfl rfl ?_
  refine cw_c (tgt := 27) aj_d47 rfl rfl (fun q84 => ?_) (fun q84 => ?_)
  · have q84 : (148 : Int) ≥ (138 : Int) := aw_t_ge (a := (148 : Int)) (b := (138 : Int)) rfl rfl q84
    refine cw_n aj_d47 rfl rfl ?_
    refine cw_n aj_d47 rfl rfl ?_
    refine cw_c (tgt := 42) aj_d47 rfl rfl (fun q85 => ?_) (fun q85 => ?_)
    · have q85 : (148 : Int) ≥ (145 : Int) := aw_t_ge (a := (148 : Int)) (b := (145 : Int)) rfl rfl q85
      refine cw_n aj_d47 rfl rfl ?_
      refine cw_n aj_d47 rfl rfl ?_
      refine cw_ks0 (con' := ap_c52) aj_d47 hT rfl rfl rfl [_, _] rfl rfl (Nat.le_of_ble_eq_true rfl) ⟨by decide, by decide⟩ (cw_r148 htb hT hB (by omega) y) ?_
      rintro ru86 h86 hT86 ⟨ho86, r1u86⟩ hRu86
      rcases r1u86 with rfl | ⟨tu86, rfl, ku86⟩
      · skip
        show cw_W _ _ _ _ _ _ _ _ _ _ 47 [(0, .int 148), (1, .int y)] [.null]
        refine cw_Wr aj_d47 rfl rfl hT86 ?_ ?_
        · exact ⟨rfl, (ho86.trans rfl), Or.inl rfl⟩
        · exact rfl
      · skip
        show cw_W _ _ _ _ _ _ _ _ _ _ 47 [(0, .int 148), (1, .int y)] [.ref tu86]
        refine cw_Wr aj_d47 rfl rfl hT86 ?_ ?_
        · exact ⟨rfl, (ho86.trans rfl), Or.inr ⟨_, rfl, ku86⟩⟩
        · exact cw_gS47 (cw_rl_le (p := 148) ku86).1 (cw_rl_le (p := 148) ku86).2
    · have q85 : (148 : Int) < (145 : Int) := aw_t_ge (a := (148 : Int)) (b := (145 : Int)) rfl rfl q85
      exfalso
      omega
  · have q84 : (148 : Int) < (138 : Int) := aw_t_ge (a := (148 : Int)) (b := (138 : Int)) rfl rfl q84
    exfalso
    omega
theorem cw_q149 (htb : ak_tbOK ak_C0 tb) (hT : ak_Ty ak_C0 s h) (hB : cw_B s) (hd : 3 ≤ d) (y : Int32) : cw_K ak_C0 (fun s' r h' => s' = s ∧ cw_o h' = cw_o h ∧ cw_rS 149 r) tb d ap_c47 [.int 149, .int y] s h := by
  obtain ⟨d, rfl⟩ : ∃ e, d = e + 1 := ⟨d - 1, by omega⟩
  refine cw_m (con := ap_c47) aj_m47_at (Nat.le_of_ble_eq_true rfl) ?_
  show cw_W _ _ _ _ _ _ _ _ _ _ 0 [(0, .int 149), (1, .int y)] []
  refine cw_n aj_d47 rfl rfl ?_
  refine cw_n aj_d47 rfl rfl ?_
  refine cw_c (tgt := 27) aj_d47 rfl rfl (fun q87 => ?_) (fun q87 => ?_)
  · have q87 : (149 : Int) ≥ (138 : Int) := aw_t_ge (a := (149 : Int)) (b := (138 : Int)) rfl rfl q87
    refine cw_n aj_d47 rfl rfl ?_
    refine cw_n aj_d47 rfl rfl ?_
    refine cw_c (tgt := 42) aj_d47 rfl rfl (fun q88 => ?_) (fun q88 => ?_)
    · have q88 : (149 : Int) ≥ (145 : Int) := aw_t_ge (a := (149 : Int)) (b := (145 : Int)) rfl rfl q88
      refine cw_n aj_d47 rfl rfl ?_
      refine cw_n aj_d47 rfl rfl ?_
      refine cw_ks0 (con' := ap_c52) aj_d47 hT rfl rfl rfl [_, _] rfl rfl (Nat.le_of_ble_eq_true rfl) ⟨by decide, by decide⟩ (cw_r149 htb hT hB (by omega) y) ?_
      rintro ru89 h89 hT89 ⟨ho89, r1u89⟩ hRu89
      rcases r1u89 with rfl | ⟨tu89, rfl, ku89⟩
      · skip
        show cw_W _ _ _ _ _ _ _ _ _ _ 47 [(0, .int 149), (1, .int y)] [.null]
        refine cw_Wr aj_d47 rfl rfl hT89 ?_ ?_
        · exact ⟨rfl, (ho89.trans rfl), Or.inl rfl⟩
        · exact rfl
      · skip
        show cw_W _ _ _ _ _ _ _ _ _ _ 47 [(0, .int 149), (1, .int y)] [.ref tu89]
        refine cw_Wr aj_d47 rfl rfl hT89 ?_ ?_
        · exact ⟨rfl, (ho89.trans rfl), Or.inr ⟨_, rfl, ku89⟩⟩
        · exact cw_gS47 (cw_rl_le (p := 149) ku89).1 (cw_rl_le (p := 149) ku89).2
    · have q88 : (149 : Int) < (145 : Int) := aw_t_ge (a := (149 : Int)) (b := (145 : Int)) rfl rfl q88
      exfalso
      omega
  · have q87 : (149 : Int) < (138 : Int) := aw_t_ge (a := (149 : Int)) (b := (138 : Int)) rfl rfl q87
    exfalso
    omega
theorem cw_q150 (htb : ak_tbOK ak_C0 tb) (hT : ak_Ty ak_C0 s h) (hB : cw_B s) (hd : 3 ≤ d) (y : Int32) : cw_K ak_C0 (fun s' r h' => s' = s ∧ cw_o h' = cw_o h ∧ cw_rS 150 r) tb d ap_c47 [.int 150, .int y] s h := by
  obtain ⟨d, rfl⟩ : ∃ e, d = e + 1 := ⟨d - 1, by omega⟩
  refine cw_m (con := ap_c47) aj_m47_at (Nat.le_of_ble_eq_true rfl) ?_
  show cw_W _ _ _ _ _ _ _ _ _ _ 0 [(0, .int 150), (1, .int y)] []
  refine cw_n aj_d47 rfl rfl ?_
  refine cw_n aj_d47 rfl rfl ?_
  refine cw_c (tgt := 27) aj_d47 rfl rfl (fun q90 => ?_) (fun q90 => ?_)
  · have q90 : (150 : Int) ≥ (138 : Int) := aw_t_ge (a := (150 : Int)) (b := (138 : Int)) rfl rfl q90
    refine cw_n aj_d47 rfl rfl ?_
    refine cw_n aj_d47 rfl rfl ?_
    refine cw_c (tgt := 42) aj_d47 rfl rfl (fun q91 => ?_) (fun q91 => ?_)
    · have q91 : (150 : Int) ≥ (145 : Int) := aw_t_ge (a := (150 : Int)) (b := (145 : Int)) rfl rfl q91
      refine cw_n aj_d47 rfl rfl ?_
      refine cw_n aj_d47 rfl rfl ?_
      refine cw_ks0 (con' := ap_c52) aj_d47 hT rfl rfl rfl [_, _] rfl rfl (Nat.le_of_ble_eq_true rfl) ⟨by decide, by decide⟩ (cw_r150 htb hT hB (by omega) y) ?_
      rintro ru92 h92 hT92 ⟨ho92, r1u92⟩ hRu92
      rcases r1u92 with rfl | ⟨tu92, rfl, ku92⟩
      · skip
        show cw_W _ _ _ _ _ _ _ _ _ _ 47 [(0, .int 150), (1, .int y)] [.null]
        refine cw_Wr aj_d47 rfl rfl hT92 ?_ ?_
        · exact ⟨rfl, (ho92.trans rfl), Or.inl rfl⟩
        · exact rfl
      · skip
        show cw_W _ _ _ _ _ _ _ _ _ _ 47 [(0, .int 150), (1, .int y)] [.ref tu92]
        refine cw_Wr aj_d47 rfl rfl hT92 ?_ ?_
        · exact ⟨rfl, (ho92.trans rfl), Or.inr ⟨_, rfl, ku92⟩⟩
        · exact cw_gS47 (cw_rl_le (p := 150) ku92).1 (cw_rl_le (p := 150) ku92).2
    · have q91 : (150 : Int) < (145 : Int) := aw_t_ge (a := (150 : Int)) (b := (145 : Int)) rfl rfl q91
      exfalso
      omega
  · have q90 : (150 : Int) < (138 : Int) := aw_t_ge (a := (150 : Int)) (b := (138 : Int)) rfl rfl q90
    exfalso
    omega
theorem cw_q151 (htb : ak_tbOK ak_C0 tb) (hT : ak_Ty ak_C0 s h) (hB : cw_B s) (hd : 3 ≤ d) (y : Int32) : cw_K ak_C0 (fun s' r h' => s' = s ∧ cw_o h' = cw_o h ∧ cw_rS 151 r) tb d ap_c47 [.int 151, .int y] s h := by
  obtain ⟨d, rfl⟩ : ∃ e, d = e + 1 := ⟨d - 1, by omega⟩
  refine cw_m (con := ap_c47) aj_m47_at (Nat.le_of_ble_eq_true rfl) ?_
  show cw_W _ _ _ _ _ _ _ _ _ _ 0 [(0, .int 151), (1, .int y)] []
  refine cw_n aj_d47 rfl rfl ?_
  refine cw_n aj_d47 rfl rfl ?_
  refine cw_c (tgt := 27) aj_d47 rfl rfl (fun q93 => ?_) (fun q93 => ?_)
  · have q93 : (151 : Int) ≥ (138 : Int) := aw_t_ge (a := (151 : Int)) (b := (138 : Int)) rfl rfl q93
    refine cw_n aj_d47 rfl rfl ?_
    refine cw_n aj_d47 rfl rfl ?_
    refine cw_c (tgt := 42) aj_d47 rfl rfl (fun q94 => ?_) (fun q94 => ?_)
    · have q94 : (151 : Int) ≥ (145 : Int) := aw_t_ge (a := (151 : Int)) (b := (145 : Int)) rfl rfl q94
      refine cw_n aj_d47 rfl rfl ?_
      refine cw_n aj_d47 rfl rfl ?_
      refine cw_ks0 (con' := ap_c52) aj_d47 hT rfl rfl rfl [_, _] rfl rfl (Nat.le_of_ble_eq_true rfl) ⟨by decide, by decide⟩ (cw_r151 htb hT hB (by omega) y) ?_
      rintro ru95 h95 hT95 ⟨ho95, r1u95⟩ hRu95
      rcases r1u95 with rfl | ⟨tu95, rfl, ku95⟩
      · skip
        show cw_W _ _ _ _ _ _ _ _ _ _ 47 [(0, .int 151), (1, .int y)] [.null]
        refine cw_Wr aj_d47 rfl rfl hT95 ?_ ?_
        · exact ⟨rfl, (ho95.trans rfl), Or.inl rfl⟩
        · exact rfl
      · skip
        show cw_W _ _ _ _ _ _ _ _ _ _ 47 [(0, .int 151), (1, .int y)] [.ref tu95]
        refine cw_Wr aj_d47 rfl rfl hT95 ?_ ?_
        · exact ⟨rfl, (ho95.trans rfl), Or.inr ⟨_, rfl, ku95⟩⟩
        · exact cw_gS47 (cw_rl_le (p := 151) ku95).1 (cw_rl_le (p := 151) ku95).2
    · have q94 : (151 : Int) < (145 : Int) := aw_t_ge (a := (151 : Int)) (b := (145 : Int)) rfl rfl q94
      exfalso
      omega
  · have q93 : (151 : Int) < (138 : Int) := aw_t_ge (a := (151 : Int)) (b := (138 : Int)) rfl rfl q93
    exfalso
    omega
theorem cw_q152 (htb : ak_tbOK ak_C0 tb) (hT : ak_Ty ak_C0 s h) (hB : cw_B s) (hd : 3 ≤ d) (y : Int32) : cw_K ak_C0 (fun s' r h' => s' = s ∧ cw_o h' = cw_o h ∧ cw_rS 152 r) tb d ap_c47 [.int 152, .int y] s h := by
  obtain ⟨d, rfl⟩ : ∃ e, d = e + 1 := ⟨d - 1, by omega⟩
  refine cw_m (con := ap_c47) aj_m47_at (Nat.le_of_ble_eq_true rfl) ?_
  show cw_W _ _ _ _ _ _ _ _ _ _ 0 [(0, .int 152), (1, .int y)] []
  refine cw_n aj_d47 rfl rfl ?_
  refine cw_n aj_d47 rfl rfl ?_
  refine cw_c (tgt := 27) aj_d47 rfl rfl (fun q96 => ?_) (fun q96 => ?_)
  · have q96 : (152 : Int) ≥ (138 : Int) := aw_t_ge (a := (152 : Int)) (b := (138 : Int)) rfl rfl q96
    refine cw_n aj_d47 rfl rfl ?_
    refine cw_n aj_d47 rfl rfl ?_
    refine cw_c (tgt := 42) aj_d47 rfl rfl (fun q97 => ?_) (fun q97 => ?_)
    · have q97 : (152 : Int) ≥ (145 : Int) := aw_t_ge (a := (152 : Int)) (b := (145 : Int)) rfl rfl q97
      refine cw_n aj_d47 rfl rfl ?_
      refine cw_n aj_d47 rfl rfl ?_
      refine cw_ks0 (con' := ap_c52) aj_d47 hT rfl rfl rfl [_, _] rfl rfl (Nat.le_of_ble_eq_true rfl) ⟨by decide, by decide⟩ (cw_r152 htb hT hB (by omega) y) ?_
      rintro ru98 h98 hT98 ⟨ho98, r1u98⟩ hRu98
      rcases r1u98 with rfl | ⟨tu98, rfl, ku98⟩
      · skip
        show cw_W _ _ _ _ _ _ _ _ _ _ 47 [(0, .int 152), (1, .int y)] [.null]
        refine cw_Wr aj_d47 rfl rfl hT98 ?_ ?_
        · exact ⟨rfl, (ho98.trans rfl), Or.inl rfl⟩
        · exact rfl
      · skip
        show cw_W _ _ _ _ _ _ _ _ _ _ 47 [(0, .int 152), (1, .int y)] [.ref tu98]
        refine cw_Wr aj_d47 rfl rfl hT98 ?_ ?_
        · exact ⟨rfl, (ho98.trans rfl), Or.inr ⟨_, rfl, ku98⟩⟩
        · exact cw_gS47 (cw_rl_le (p := 152) ku98).1 (cw_rl_le (p := 152) ku98).2
    · have q97 : (152 : Int) < (145 : Int) := aw_t_ge (a := (152 : Int)) (b := (145 : Int)) rfl rfl q97
      exfalso
      omega
  · have q96 : (152 : Int) < (138 : Int) := aw_t_ge (a := (152 : Int)) (b := (138 : Int)) rfl rfl q96
    exfalso
    omega
theorem cw_q153 (htb : ak_tbOK ak_C0 tb) (hT : ak_Ty ak_C0 s h) (hB : cw_B s) (hd : 3 ≤ d) (y : Int32) : cw_K ak_C0 (fun s' r h' => s' = s ∧ cw_o h' = cw_o h ∧ cw_rS 153 r) tb d ap_c47 [.int 153, .int y] s h := by
  obtain ⟨d, rfl⟩ : ∃ e, d = e + 1 := ⟨d - 1, by omega⟩
  refine cw_m (con := ap_c47) aj_m47_at (Nat.le_of_ble_eq_true rfl) ?_
  show cw_W _ _ _ _ _ _ _ _ _ _ 0 [(0, .int 153), (1, .int y)] []
  refine cw_n aj_d47 rfl rfl ?_
  refine cw_n aj_d47 rfl rfl ?_
  refine cw_c (tgt := 27) aj_d47 rfl rfl (fun q99 => ?_) (fun q99 => ?_)
  · have q99 : (153 : Int) ≥ (138 : Int) := aw_t_ge (a := (153 : Int)) (b := (138 : Int)) rfl rfl q99
    refine cw_n aj_d47 rfl rfl ?_
    refine cw_n aj_d47 rfl rfl ?_
    refine cw_c (tgt := 42) aj_d47 rfl rfl (fun q100 => ?_) (fun q100 => ?_)
    · have q100 : (153 : Int) ≥ (145 : Int) := aw_t_ge (a := (153 : Int)) (b := (145 : Int)) rfl rfl q100
      refine cw_n aj_d47 rfl rfl ?_
      refine cw_n aj_d47 rfl rfl ?_
      refine cw_ks0 (con' := ap_c52) aj_d47 hT rfl rfl rfl [_, _] rfl rfl (Nat.le_of_ble_eq_true rfl) ⟨by decide, by decide⟩ (cw_r153 htb hT hB (by omega) y) ?_
      rintro ru101 h101 hT101 ⟨ho101, r1u101⟩ hRu101
      rcases r1u101 with rfl | ⟨tu101, rfl, ku101⟩
      · skip
        show cw_W _ _ _ _ _ _ _ _ _ _ 47 [(0, .int 153), (1, .int y)] [.null]
        refine cw_Wr aj_d47 rfl rfl hT101 ?_ ?_
        · exact ⟨rfl, (ho101.trans rfl), Or.inl rfl⟩
        · exact rfl
      · skip
        show cw_W _ _ _ _ _ _ _ _ _ _ 47 [(0, .int 153), (1, .int y)] [.ref tu101]
        refine cw_Wr aj_d47 rfl rfl hT101 ?_ ?_
        · exact ⟨rfl, (ho101.trans rfl), Or.inr ⟨_, rfl, ku101⟩⟩
        · exact cw_gS47 (cw_rl_le (p := 153) ku101).1 (cw_rl_le (p := 153) ku101).2
    · have q100 : (153 : Int) < (145 : Int) := aw_t_ge (a := (153 : Int)) (b := (145 : Int)) rfl rfl q100
      exfalso
      omega
  · have q99 : (153 : Int) < (138 : Int) := aw_t_ge (a := (153 : Int)) (b := (138 : Int)) rfl rfl q99
    exfalso
    omega
theorem cw_q154 (htb : ak_tbOK ak_C0 tb) (hT : ak_Ty ak_C0 s h) (hB : cw_B s) (hd : 3 ≤ d) (y : Int32) : cw_K ak_C0 (fun s' r h' => s' = s ∧ cw_o h' = cw_o h ∧ cw_rS 154 r) tb d ap_c47 [.int 154, .int y] s h := by
  obtain ⟨d, rfl⟩ : ∃ e, d = e + 1 := ⟨d - 1, by omega⟩
  refine cw_m (con := ap_c47) aj_m47_at (Nat.le_of_ble_eq_true rfl) ?_
  show cw_W _ _ _ _ _ _ _ _ _ _ 0 [(0, .int 154), (1, .int y)] []
  refine cw_n aj_d47 rfl rfl ?_
  refine cw_n aj_d47 rfl rfl ?_
  refine cw_c (tgt := 27) aj_d47 rfl rfl (fun q102 => ?_) (fun q102 => ?_)
  · have q102 : (154 : Int) ≥ (138 : Int) := aw_t_ge (a := (154 : Int)) (b := (138 : Int)) rfl rfl q102
    refine cw_n aj_d47 rfl rfl ?_
    refine cw_n aj_d47 rfl rfl ?_
    refine cw_c (tgt := 42) aj_d47 rfl rfl (fun q103 => ?_) (fun q103 => ?_)
    · have q103 : (154 : Int) ≥ (145 : Int) := aw_t_ge (a := (154 : Int)) (b := (145 : Int)) rfl rfl q103
      refine cw_n aj_d47 rfl rfl ?_
      refine cw_n aj_d47 rfl rfl ?_
      refine cw_ks0 (con' := ap_c52) aj_d47 hT rfl rfl rfl [_, _] rfl rfl (Nat.le_of_ble_eq_true rfl) ⟨by decide, by decide⟩ (cw_r154 htb hT hB (by omega) y) ?_
      rintro ru104 h104 hT104 ⟨ho104, r1u104⟩ hRu104
      rcases r1u104 with rfl | ⟨tu104, rfl, ku104⟩
      · skip
        show cw_W _ _ _ _ _ _ _ _ _ _ 47 [(0, .int 154), (1, .int y)] [.null]
        refine cw_Wr aj_d47 rfl rfl hT104 ?_ ?_
        · exact ⟨rfl, (ho104.trans rfl), Or.inl rfl⟩
        · exact rfl
      · skip
        show cw_W _ _ _ _ _ _ _ _ _ _ 47 [(0, .int 154), (1, .int y)] [.ref tu104]
        refine cw_Wr aj_d47 rfl rfl hT104 ?_ ?_
        · exact ⟨rfl, (ho104.trans rfl), Or.inr ⟨_, rfl, ku104⟩⟩
        · exact cw_gS47 (cw_rl_le (p := 154) ku104).1 (cw_rl_le (p := 154) ku104).2
    · have q103 : (154 : Int) < (145 : Int) := aw_t_ge (a := (154 : Int)) (b := (145 : Int)) rfl rfl q103
      exfalso
      omega
  · have q102 : (154 : Int) < (138 : Int) := aw_t_ge (a := (154 : Int)) (b := (138 : Int)) rfl rfl q102
    exfalso
    omega
theorem cw_q155 (htb : ak_tbOK ak_C0 tb) (hT : ak_Ty ak_C0 s h) (hB : cw_B s) (hd : 3 ≤ d) (y : Int32) : cw_K ak_C0 (fun s' r h' => s' = s ∧ cw_o h' = cw_o h ∧ cw_rS 155 r) tb d ap_c47 [.int 155, .int y] s h := by
  obtain ⟨d, rfl⟩ : ∃ e, d = e + 1 := ⟨d - 1, by omega⟩
  refine cw_m (con := ap_c47) aj_m47_at (Nat.le_of_ble_eq_true rfl) ?_
  show cw_W _ _ _ _ _ _ _ _ _ _ 0 [(0, .int 155), (1, .int y)] []
  refine cw_n aj_d47 rfl rfl ?_
  refine cw_n aj_d47 rfl rfl ?_
  refine cw_c (tgt := 27) aj_d47 rfl rfl (fun q105 => ?_) (fun q105 => ?_)
  · have q105 : (155 : Int) ≥ (138 : Int) := aw_t_ge (a := (155 : Int)) (b := (138 : Int)) rfl rfl q105
    refine cw_n aj_d47 rfl rfl ?_
    refine cw_n aj_d47 rfl rfl ?_
    refine cw_c (tgt := 42) aj_d47 rfl rfl (fun q106 => ?_) (fun q106 => ?_)
    · have q106 : (155 : Int) ≥ (145 : Int) := aw_t_ge (a := (155 : Int)) (b := (145 : Int)) rfl rfl q106
      refine cw_n aj_d47 rfl rfl ?_
      refine cw_n aj_d47 rfl rfl ?_
      refine cw_ks0 (con' := ap_c52) aj_d47 hT rfl rfl rfl [_, _] rfl rfl (Nat.le_of_ble_eq_true rfl) ⟨by decide, by decide⟩ (cw_r155 htb hT hB (by omega) y) ?_
      rintro ru107 h107 hT107 ⟨ho107, r1u107⟩ hRu107
      rcases r1u107 with rfl | ⟨tu107, rfl, ku107⟩
      · skip
        show cw_W _ _ _ _ _ _ _ _ _ _ 47 [(0, .int 155), (1, .int y)] [.null]
        refine cw_Wr aj_d47 rfl rfl hT107 ?_ ?_
        · exact ⟨rfl, (ho107.trans rfl), Or.inl rfl⟩
        · exact rfl
      · skip
        show cw_W _ _ _ _ _ _ _ _ _ _ 47 [(0, .int 155), (1, .int y)] [.ref tu107]
        refine cw_Wr aj_d47 rfl rfl hT107 ?_ ?_
        · exact ⟨rfl, (ho107.trans rfl), Or.inr ⟨_, rfl, ku107⟩⟩
        · exact cw_gS47 (cw_rl_le (p := 155) ku107).1 (cw_rl_le (p := 155) ku107).2
    · have q106 : (155 : Int) < (145 : Int) := aw_t_ge (a := (155 : Int)) (b := (145 : Int)) rfl rfl q106
      exfalso
      omega
  · have q105 : (155 : Int) < (138 : Int) := aw_t_ge (a := (155 : Int)) (b := (138 : Int)) rfl rfl q105
    exfalso
    omega
theorem cw_q156 (htb : ak_tbOK ak_C0 tb) (hT : ak_Ty ak_C0 s h) (hB : cw_B s) (hd : 3 ≤ d) (y : Int32) : cw_K ak_C0 (fun s' r h' => s' = s ∧ cw_o h' = cw_o h ∧ cw_rS 156 r) tb d ap_c47 [.int 156, .int y] s h := by
  obtain ⟨d, rfl⟩ : ∃ e, d = e + 1 := ⟨d - 1, by omega⟩
  refine cw_m (con := ap_c47) aj_m47_at (Nat.le_of_ble_eq_true rfl) ?_
  show cw_W _ _ _ _ _ _ _ _ _ _ 0 [(0, .int 156), (1, .int y)] []
  refine cw_n aj_d47 rfl rfl ?_
  refine cw_n aj_d47 rfl rfl ?_
  refine cw_c (tgt := 27) aj_d47 rfl rfl (fun q108 => ?_) (fun q108 => ?_)
  · have q108 : (156 : Int) ≥ (138 : Int) := aw_t_ge (a := (156 : Int)) (b := (138 : Int)) rfl rfl q108
    refine cw_n aj_d47 rfl rfl ?_
    refine cw_n aj_d47 rfl rfl ?_
    refine cw_c (tgt := 42) aj_d47 rfl rfl (fun q109 => ?_) (fun q109 => ?_)
    · have q109 : (156 : Int) ≥ (145 : Int) := aw_t_ge (a := (156 : Int)) (b := (145 : Int)) rfl rfl q109
      refine cw_n aj_d47 rfl rfl ?_
      refine cw_n aj_d47 rfl rfl ?_
      refine cw_ks0 (con' := ap_c52) aj_d47 hT rfl rfl rfl [_, _] rfl rfl (Nat.le_of_ble_eq_true rfl) ⟨by decide, by decide⟩ (cw_r156 htb hT hB (by omega) y) ?_
      rintro ru110 h110 hT110 ⟨ho110, r1u110⟩ hRu110
      rcases r1u110 with rfl | ⟨tu110, rfl, ku110⟩
      · skip
        show cw_W _ _ _ _ _ _ _ _ _ _ 47 [(0, .int 156), (1, .int y)] [.null]
        refine cw_Wr aj_d47 rfl rfl hT110 ?_ ?_
        · exact ⟨rfl, (ho110.trans rfl), Or.inl rfl⟩
        · exact rfl
      · skip
        show cw_W _ _ _ _ _ _ _ _ _ _ 47 [(0, .int 156), (1, .int y)] [.ref tu110]
        refine cw_Wr aj_d47 rfl rfl hT110 ?_ ?_
        · exact ⟨rfl, (ho110.trans rfl), Or.inr ⟨_, rfl, ku110⟩⟩
        · exact cw_gS47 (cw_rl_le (p := 156) ku110).1 (cw_rl_le (p := 156) ku110).2
    · have q109 : (156 : Int) < (145 : Int) := aw_t_ge (a := (156 : Int)) (b := (145 : Int)) rfl rfl q109
      exfalso
      omega
  · have q108 : (156 : Int) < (138 : Int) := aw_t_ge (a := (156 : Int)) (b := (138 : Int)) rfl rfl q108
    exfalso
    omega
theorem cw_q157 (htb : ak_tbOK ak_C0 tb) (hT : ak_Ty ak_C0 s h) (hB : cw_B s) (hd : 3 ≤ d) {x : Int32} (hx : 157 ≤ x.toInt) (p : Nat) (y : Int32) : cw_K ak_C0 (fun s' r h' => s' = s ∧ cw_o h' = cw_o h ∧ cw_rS p r) tb d ap_c47 [.int x, .int y] s h := by
  obtain ⟨d, rfl⟩ : ∃ e, d = e + 1 := ⟨d - 1, by omega⟩
  refine cw_m (con := ap_c47) aj_m47_at (Nat.le_of_ble_eq_true rfl) ?_
  show cw_W _ _ _ _ _ _ _ _ _ _ 0 [(0, .int x), (1, .int y)] []
  refine cw_n aj_d47 rfl rfl ?_
  refine cw_n aj_d47 rfl rfl ?_
  refine cw_c (tgt := 27) aj_d47 rfl rfl (fun q111 => ?_) (fun q111 => ?_)
  · have q111 : x.toInt ≥ (138 : Int) := aw_t_ge (a := x.toInt) (b := (138 : Int)) rfl rfl q111
    refine cw_n aj_d47 rfl rfl ?_
    refine cw_n aj_d47 rfl rfl ?_
    refine cw_c (tgt := 42) aj_d47 rfl rfl (fun q112 => ?_) (fun q112 => ?_)
    · have q112 : x.toInt ≥ (145 : Int) := aw_t_ge (a := x.toInt) (b := (145 : Int)) rfl rfl q112
      refine cw_n aj_d47 rfl rfl ?_
      refine cw_n aj_d47 rfl rfl ?_
      refine cw_ks0 (con' := ap_c52) aj_d47 hT rfl rfl rfl [_, _] rfl rfl (Nat.le_of_ble_eq_true rfl) ⟨by decide, by decide⟩ (cw_r157 htb hT hB (by omega) hx p y) ?_
      rintro ru113 h113 hT113 ⟨ho113, r1u113⟩ hRu113
      rcases r1u113 with rfl | ⟨tu113, rfl, ku113⟩
      · skip
        show cw_W _ _ _ _ _ _ _ _ _ _ 47 [(0, .int x), (1, .int y)] [.null]
        refine cw_Wr aj_d47 rfl rfl hT113 ?_ ?_
        · exact ⟨rfl, (ho113.trans rfl), Or.inl rfl⟩
        · exact rfl
      · skip
        show cw_W _ _ _ _ _ _ _ _ _ _ 47 [(0, .int x), (1, .int y)] [.ref tu113]
        refine cw_Wr aj_d47 rfl rfl hT113 ?_ ?_
        · exact ⟨rfl, (ho113.trans rfl), Or.inr ⟨_, rfl, ku113⟩⟩
        · exact cw_gS47 (cw_rl_le (p := p) ku113).1 (cw_rl_le (p := p) ku113).2
    · have q112 : x.toInt < (145 : Int) := aw_t_ge (a := x.toInt) (b := (145 : Int)) rfl rfl q112
      exfalso
      omega
  · have q111 : x.toInt < (138 : Int) := aw_t_ge (a := x.toInt) (b := (138 : Int)) rfl rfl q111
    exfalso
    omega
/-- a part's rule, or none -/
theorem cw_rule (htb : ak_tbOK ak_C0 tb) (hT : ak_Ty ak_C0 s h) (hB : cw_B s) (hd : 3 ≤ d) {x : Int32} {p : Nat} (hx : x.toInt = p) (h0 : 130 ≤ p) (y : Int32) : cw_K ak_C0 (fun s' r h' => s' = s ∧ cw_o h' = cw_o h ∧ cw_rS p r) tb d ap_c47 [.int x, .int y] s h := by
  by_cases h1 : 157 ≤ p
  · exact cw_q157 htb hT hB hd (by omega) p y
  · have : p = 130 ∨ p = 131 ∨ p = 132 ∨ p = 133 ∨ p = 134 ∨ p = 135 ∨ p = 136 ∨ p = 137 ∨ p = 138 ∨ p = 139 ∨ p = 140 ∨ p = 141 ∨ p = 142 ∨ p = 143 ∨ p = 144 ∨ p = 145 ∨ p = 146 ∨ p = 147 ∨ p = 148 ∨ p = 149 ∨ p = 150 ∨ p = 151 ∨ p = 152 ∨ p = 153 ∨ p = 154 ∨ p = 155 ∨ p = 156 := by omega
    rcases this with rfl | rfl | rfl | rfl | rfl | rfl | rfl | rfl | rfl | rfl | rfl | rfl | rfl | rfl | rfl | rfl | rfl | rfl | rfl | rfl | rfl | rfl | rfl | rfl | rfl | rfl | rfl
    · obtain rfl := cw_lit (n := 130) hx rfl
      exact cw_q130 htb hT hB hd y
    · obtain rfl := cw_lit (n := 131) hx rfl
      exact cw_q131 htb hT hB hd y
    · obtain rfl := cw_lit (n := 132) hx rfl
      exact cw_q132 htb hT hB hd y
    · obtain rfl := cw_lit (n := 133) hx rfl
      exact cw_q133 htb hT hB hd y
    · obtain rfl := cw_lit (n := 134) hx rfl
      exact cw_q134 htb hT hB hd y
    · obtain rfl := cw_lit (n := 135) hx rfl
      exact cw_q135 htb hT hB hd y
    · obtain rfl := cw_lit (n := 136) hx rfl
      exact cw_q136 htb hT hB hd y
    · obtain rfl := cw_lit (n := 137) hx rfl
      exact cw_q137 htb hT hB hd y
    · obtain rfl := cw_lit (n := 138) hx rfl
      exact cw_q138 htb hT hB hd y
    · obtain rfl := cw_lit (n := 139) hx rfl
      exact cw_q139 htb hT hB hd y
    · obtain rfl := cw_lit (n := 140) hx rfl
      exact cw_q140 htb hT hB hd y
    · obtain rfl := cw_lit (n := 141) hx rfl
      exact cw_q141 htb hT hB hd y
    · obtain rfl := cw_lit (n := 142) hx rfl
      exact cw_q142 htb hT hB hd y
    · obtain rfl := cw_lit (n := 143) hx rfl
      exact cw_q143 htb hT hB hd y
    · obtain rfl := cw_lit (n := 144) hx rfl
      exact cw_q144 htb hT hB hd y
    · obtain rfl := cw_lit (n := 145) hx rfl
      exact cw_q145 htb hT hB hd y
    · obtain rfl := cw_lit (n := 146) hx rfl
      exact cw_q146 htb hT hB hd y
    · obtain rfl := cw_lit (n := 147) hx rfl
      exact cw_q147 htb hT hB hd y
    · obtain rfl := cw_lit (n := 148) hx rfl
      exact cw_q148 htb hT hB hd y
    · obtain rfl := cw_lit (n := 149) hx rfl
      exact cw_q149 htb hT hB hd y
    · obtain rfl := cw_lit (n := 150) hx rfl
      exact cw_q150 htb hT hB hd y
    · obtain rfl := cw_lit (n := 151) hx rfl
      exact cw_q151 htb hT hB hd y
    · obtain rfl := cw_lit (n := 152) hx rfl
      exact cw_q152 htb hT hB hd y
    · obtain rfl := cw_lit (n := 153) hx rfl
      exact cw_q153 htb hT hB hd y
    · obtain rfl := cw_lit (n := 154) hx rfl
      exact cw_q154 htb hT hB hd y
    · obtain rfl := cw_lit (n := 155) hx rfl
      exact cw_q155 htb hT hB hd y
    · obtain rfl := cw_lit (n := 156) hx rfl
      exact cw_q156 htb hT hB hd y
end CW66C
