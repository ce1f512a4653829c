/-! THE REFERENCE: the other half stays; UNKNOWNS only grow -/
/-- of the half that is not h all is as it was -/
def rx_O (h : Nat) (X0 X : fx_X) : Prop := (X.1 118 (1 - h) = X0.1 118 (1 - h) ∧ X.1 122 (1 - h) = X0.1 122 (1 - h) ∧ X.1 124 (1 - h) = X0.1 124 (1 - h) ∧ X.1 127 (1 - h) = X0.1 127 (1 - h) ∧ X.1 128 (1 - h) = X0.1 128 (1 - h)) ∧ (∀ u, u < 8 → X.2.1 119 (8 * (1 - h) + u) = X0.2.1 119 (8 * (1 - h) + u) ∧ X.1 120 (8 * (1 - h) + u) = X0.1 120 (8 * (1 - h) + u) ∧ (∀ i, i < 64 → X.1 121 (64 * (8 * (1 - h) + u) + i) = X0.1 121 (64 * (8 * (1 - h) + u) + i)) ∧ ∀ w, w < 1024 → X.1 123 ((8 * (1 - h) + u) * 1024 + w) = X0.1 123 ((8 * (1 - h) + u) * 1024 + w)) ∧ (∀ t, t < 10 → X.2.1 125 (10 * (1 - h) + t) = X0.2.1 125 (10 * (1 - h) + t) ∧ X.1 126 (10 * (1 - h) + t) = X0.1 126 (10 * (1 - h) + t) ∧ X.1 131 (10 * (1 - h) + t) = X0.1 131 (10 * (1 - h) + t) ∧ X.1 132 (10 * (1 - h) + t) = X0.1 132 (10 * (1 - h) + t) ∧ (∀ c, c < 8 → X.2.1 133 (8 * (10 * (1 - h) + t) + c) = X0.2.1 133 (8 * (10 * (1 - h) + t) + c)) ∧ ∀ r, r < 30 → (∀ c, c < 8 → X.1 134 (8 * (30 * (10 * (1 - h) + t) + r) + c) = X0.1 134 (8 * (30 * (10 * (1 - h) + t) + r) + c) ∧ X.1 135 (8 * (30 * (10 * (1 - h) + t) + r) + c) = X0.1 135 (8 * (30 * (10 * (1 - h) + t) + r) + c)) ∧ ∀ b, b < 1024 → fx_bt (X.1 136) (32 * (30 * (10 * (1 - h) + t) + r)) b = fx_bt (X0.1 136) (32 * (30 * (10 * (1 - h) + t) + r)) b) ∧ ∀ p, p < 20 → ∀ b, b < 1024 → fx_bt (X.1 129) (32 * (20 * (1 - h) + p)) b = fx_bt (X0.1 129) (32 * (20 * (1 - h) + p)) b
section DD16
variable {P : md_P} {X X' X0 X1 X2 : fx_X} {u1 : Unit} {h M T pn w i k t r n : Nat} {U : md_U} {y1 y2 : Int32} {last : Nat} {R : Nat → Nat} {F L : List (Nat × Nat)} {A : List Nat} {T0 : md_T} {s s' : md_CS} {e : md_Ev} {arg : Int} {es : List md_Ev}
theorem rx_O_rf : rx_O h X X := ⟨⟨rfl, rfl, rfl, rfl, rfl⟩, fun _ _ => ⟨rfl, rfl, fun _ _ => rfl, fun _ _ => rfl⟩, fun _ _ => ⟨rfl, rfl, rfl, rfl, fun _ _ => rfl, fun _ _ => ⟨fun _ _ => ⟨rfl, rfl⟩, fun _ _ => rfl⟩⟩, fun _ _ _ _ => rfl⟩
theorem rx_O_tr (h1 : rx_O h X X1) (h2 : rx_O h X1 X2) : rx_O h X X2 := by
  obtain ⟨⟨a1, a2, a3, a4, a5⟩, a6, a7, a8⟩ := h1
  obtain ⟨⟨b1, b2, b3, b4, b5⟩, b6, b7, b8⟩ := h2
  refine ⟨⟨b1.trans a1, b2.trans a2, b3.trans a3, b4.trans a4, b5.trans a5⟩, fun u hu => ?_, fun t ht => ?_, fun p hp b hb => (b8 p hp b hb).trans (a8 p hp b hb)⟩
  · obtain ⟨c1, c2, c3, c4⟩ := a6 u hu
    obtain ⟨d1, d2, d3, d4⟩ := b6 u hu
    exact ⟨d1.trans c1, d2.trans c2, fun i hi => (d3 i hi).trans (c3 i hi), fun w hw => (d4 w hw).trans (c4 w hw)⟩
  · obtain ⟨c1, c2, c3, c4, c5, c6⟩ := a7 t ht
    obtain ⟨d1, d2, d3, d4, d5, d6⟩ := b7 t ht
    exact ⟨d1.trans c1, d2.trans c2, d3.trans c3, d4.trans c4, fun c hc => (d5 c hc).trans (c5 c hc), fun r hr => ⟨fun c hc => ⟨((d6 r hr).1 c hc).1.trans ((c6 r hr).1 c hc).1, ((d6 r hr).1 c hc).2.trans ((c6 r hr).1 c hc).2⟩, fun b hb => ((d6 r hr).2 b hb).trans ((c6 r hr).2 b hb)⟩⟩
theorem rx_O_fr (hf : fy F L A X X') (hA : ∀ a, a ∈ A → a < 118 ∨ 137 ≤ a) (hF : (∀ q, q ∈ F → q.1 < 118) ∧ ∀ q, q ∈ L → q.1 < 118) : rx_O h X X' := by
  have e : ∀ r, 118 ≤ r → r < 137 → X'.1 r = X.1 r := fun r h1 h2 => fy_ra hf (fun z => by have := hA r z; omega) (fun q hq => by have := hF.1 q hq; omega)
  have e2 : ∀ r, 118 ≤ r → r < 137 → X'.2.1 r = X.2.1 r := fun r h1 h2 => fy_rl hf (fun z => by have := hA r z; omega) (fun q hq => by have := hF.2 q hq; omega)
  unfold rx_O
  rw [e 118 (by decide) (by decide), e 120 (by decide) (by decide), e 121 (by decide) (by decide), e 122 (by decide) (by decide), e 123 (by decide) (by decide), e 124 (by decide) (by decide), e 126 (by decide) (by decide), e 127 (by decide) (by decide), e 128 (by decide) (by decide), e 129 (by decide) (by decide), e 131 (by decide) (by decide), e 132 (by decide) (by decide), e 134 (by decide) (by decide), e 135 (by decide) (by decide), e 136 (by decide) (by decide), e2 119 (by decide) (by decide), e2 125 (by decide) (by decide), e2 133 (by decide) (by decide)]
  exact rx_O_rf
/-- a write into the half h -/
theorem rx_O_w {a k : Nat} {z : Int32} (hh : h ≤ 1) (hk : (a = 118 ∨ a = 122 ∨ a = 124 ∨ a = 127 ∨ a = 128) ∧ k = h ∨ a = 120 ∧ 8 * h ≤ k ∧ k < 8 * h + 8 ∨ a = 121 ∧ 512 * h ≤ k ∧ k < 512 * h + 512 ∨ (a = 126 ∨ a = 131 ∨ a = 132) ∧ (10 * h ≤ k ∧ k < 10 * h + 10 ∨ 20 ≤ k) ∨ (a = 134 ∨ a = 135) ∧ (2400 * h ≤ k ∧ k < 2400 * h + 2400 ∨ 4800 ≤ k)) : rx_O h X (fx_wI X a k z) := by
  refine ⟨⟨?_, ?_, ?_, ?_, ?_⟩, fun u hu => ⟨rfl, ?_, fun i hi => ?_, fun w hw => ?_⟩, fun t ht => ⟨rfl, ?_, ?_, ?_, fun c hc => rfl, fun r hr => ⟨fun c hc => ⟨?_, ?_⟩, fun b hb => ?_⟩⟩, fun p hp b hb => ?_⟩
  all_goals first
    | (rw [fx_rI, if_neg (by omega)])
    | (unfold fx_bt; rw [fx_rI, if_neg (by omega)])
theorem rx_O_wL {a k : Nat} {z : Int64} (hh : h ≤ 1) (hk : a = 119 ∧ 8 * h ≤ k ∧ k < 8 * h + 8 ∨ a = 125 ∧ 10 * h ≤ k ∧ k < 10 * h + 10 ∨ a = 133 ∧ (80 * h ≤ k ∧ k < 80 * h + 80 ∨ 160 ≤ k)) : rx_O h X (fx_wL X a k z) := by
  have e : ∀ r j, ¬ (r = a ∧ j = k) → (fx_wL X a k z).2.1 r j = X.2.1 r j := fun r j hn => if_neg hn
  exact ⟨⟨rfl, rfl, rfl, rfl, rfl⟩, fun u hu => ⟨e _ _ (by omega), rfl, fun _ _ => rfl, fun _ _ => rfl⟩, fun t ht => ⟨e _ _ (by omega), rfl, rfl, rfl, fun c hc => e _ _ (by omega), fun r hr => ⟨fun c hc => ⟨rfl, rfl⟩, fun b hb => rfl⟩⟩, fun p hp b hb => rfl⟩
/-! UNKNOWNS only grow -/
def md_gU (U : md_U) (o : md_O (md_CS × Int)) : Prop := ∀ p, o = some (some p) → ∃ B, p.1.1 = U ++ B
theorem md_gU_n : md_gU U none := fun _ z => by cases z
theorem md_gU_f : md_gU U (some none) := fun _ z => by cases z
theorem md_gU_0 {q : Option (Int64 × List Int32) × md_TB × (Int × Int) × List (List Int64) × List Int64 × Int64} {a : Int} : md_gU U (md_k ((U, q), a)) := fun _ z => by
  cases z
  exact ⟨[], (List.append_nil _).symm⟩
theorem md_gU_1 {B : md_U} {q : Option (Int64 × List Int32) × md_TB × (Int × Int) × List (List Int64) × List Int64 × Int64} {a : Int} : md_gU U (md_k ((U ++ B, q), a)) := fun _ z => by
  cases z
  exact ⟨B, rfl⟩
theorem md_gU_if {c : Prop} [Decidable c] {a b : md_O (md_CS × Int)} (ha : md_gU U a) (hb : md_gU U b) : md_gU U (if c then a else b) := by
  by_cases z : c
  · rw [if_pos z]; exact ha
  · rw [if_neg z]; exact hb
theorem md_gU_ck : md_gU s.1 (md_ck T0 s e) := by
  obtain ⟨U, cu, TB, rw, sk, pk, fr⟩ := s
  obtain ⟨a, near, lead⟩ := e
  show md_gU U (md_ckg none T0 (U, cu, TB, rw, sk, pk, fr) (a, near, lead))
  unfold md_ckg
  dsimp only
  repeat' apply md_gU_if
  all_goals first
    | exact md_gU_f
    | exact md_gU_n
    | exact md_gU_0
    | exact md_gU_1
    | (split <;> (repeat' apply md_gU_if) <;> first | exact md_gU_f | exact md_gU_n | exact md_gU_0 | exact md_gU_1)
    | (unfold md_pm; split <;> (repeat' apply md_gU_if) <;> first | exact md_gU_f | exact md_gU_n | exact md_gU_0 | exact md_gU_1)
theorem md_fa_U : ∀ (es : List md_Ev) (s : md_CS) (p : md_CS × List Int), md_fa T0 s es = some (some p) → ∃ B, p.1.1 = s.1 ++ B
  | [], s, p, h => by
    cases h
    exact ⟨[], (List.append_nil _).symm⟩
  | e :: es, s, p, h => by
    replace h : md_bd (md_ck T0 s e) (fun q => md_bd (md_fa T0 q.1 es) (fun q2 => md_k (q2.1, if md_quiet e.1 = true then q2.2 else q.2 :: q2.2))) = some (some p) := h
    have hg := md_gU_ck (T0 := T0) (s := s) (e := e)
    cases hc : md_ck T0 s e with
    | none => rw [hc] at h; cases h
    | some o =>
      cases o with
      | none => rw [hc] at h; cases h
      | some q =>
        rw [hc] at h
        replace h : md_bd (md_fa T0 q.1 es) (fun q2 => md_k (q2.1, if md_quiet e.1 = true then q2.2 else q.2 :: q2.2)) = some (some p) := h
        cases hx : md_fa T0 q.1 es with
        | none => rw [hx] at h; cases h
        | some o =>
          cases o with
          | none => rw [hx] at h; cases h
          | some p' =>
            rw [hx] at h
            cases h
            obtain ⟨B, hB⟩ := md_fa_U es q.1 p' hx
            obtain ⟨B', hB'⟩ := hg q hc
            exact ⟨B' ++ B, by rw [hB, hB', List.append_assoc]⟩
theorem md_R_U {K : List md_Sy} {j near : Nat} {c : md_C} {nm : md_Nm} {q : md_S} (h : md_R P K j near c nm q) (hb : rp_b P = true) : ∃ B, rp_Uf P = q.1.1 ++ B := by
  obtain ⟨m, r, -, h2⟩ := h
  cases r with
  | none => rw [h2.1] at hb; cases hb
  | some es =>
    obtain ⟨p, hp, hU⟩ := h2.1 hb
    obtain ⟨B, hB⟩ := md_fa_U es q.1 p hp
    exact ⟨B, by rw [← hU, hB]⟩
/-- all of it -/
theorem rx_224 (hh : h ≤ 1) (hin : (X.1 117 37).toInt = (h : Int)) (hM : (X.1 122 h).toInt = (M : Int)) (hM4 : M ≤ 1024) (hM1 : 1 ≤ M) (hU1 : (X.1 118 h).toInt = (U.length : Int)) (hU8 : U.length ≤ 8) (hU0 : U ≠ []) (hUv : ∀ u x, U[u]? = some x → (X.1 120 (8 * h + u)).toInt = (x.2.length : Int) ∧ (1 ≤ x.2.length ∧ x.2.length ≤ 64) ∧ ∀ i v, x.2[i]? = some v → X.1 121 (64 * (8 * h + u) + i) = v) (hl : ∀ x, U.getLast? = some x → x.2.length = last) (hT : (X.1 124 h).toInt = (T : Int)) (hT10 : T ≤ 10) (hR : ∀ t, t < T → (X.1 131 (10 * h + t)).toInt = (R t : Int) ∧ R t ≤ 30) (hP : (X.1 127 h).toInt = (pn : Int)) (hP20 : pn ≤ 20) (g : gx_224 X u1 X') : X'.2 = X.2 ∧ (∀ q k, q ≠ 123 → q ≠ 129 → q ≠ 136 → X'.1 q k = X.1 q k) ∧ ((∀ k, (∀ u w', u < U.length → w' < M → k ≠ (8 * h + u) * 1024 + w') → X'.1 123 k = X.1 123 k) ∧ ∀ u w', u < U.length → w' < M → X'.1 123 ((8 * h + u) * 1024 + w') = md_val U w' u) ∧ ((∀ k b, rx_D h T R k → b < M → fx_bt (X'.1 136) (32 * k) b = fx_bt (X.1 136) (32 * k) (b / last)) ∧ ∀ k b, b < 1024 → ¬ rx_D h T R k → fx_bt (X'.1 136) (32 * k) b = fx_bt (X.1 136) (32 * k) b) ∧ ∀ k b, b < 1024 → fx_bt (X'.1 129) (32 * k) b = if (20 * h ≤ k ∧ k < 20 * h + pn) ∧ b < M then fx_bt (X.1 129) (32 * k) (b / last) else fx_bt (X.1 129) (32 * k) b := by
  obtain ⟨n, x2, e2, g⟩ := g
  rw [← e2] at hin
  rw [fx_in hin] at g
  obtain ⟨-, -, x8, e8, g⟩ := g
  have hlen : 1 ≤ U.length := by
    cases U with
    | nil => exact absurd rfl hU0
    | cons x U => show 1 ≤ U.length + 1; omega
  obtain ⟨x, hx⟩ : ∃ x, U[U.length - 1]? = some x := ⟨_, List.getElem?_eq_getElem (by omega)⟩
  obtain ⟨q1, q2, q3⟩ := hUv _ x hx
  have hxl : x.2.length = last := hl x (by rw [List.getLast?_eq_getElem?]; exact hx)
  have e1' : (Int32.ofInt 1).toInt = 1 := rfl
  have hi : (x2 * ((Int8.ofInt 8).toInt32) + X.1 118 h).toInt = ((h * 8 + U.length : Nat) : Int) := rx_lin hin rfl hU1 (by omega)
  have hi2 : (x2 * ((Int8.ofInt 8).toInt32) + X.1 118 h - Int32.ofInt 1).toInt = ((8 * h + (U.length - 1) : Nat) : Int) := by
    rw [fx_sub (by omega) (by omega), hi, e1']; omega
  rw [fx_in hi2] at e8
  have h8 : x8.toInt = (last : Int) := by rw [e8, q1, hxl]
  have hin' : (X.1 117 37).toInt = (h : Int) := by rw [← e2]; exact hin
  obtain ⟨n2, X2, g2, a1, a2, a3, a4⟩ := (rx_224v (X0 := X) (u1 := u1) (X' := X') (y2 := x8) hin hh hM hM4 hU1 hU8 hUv n).1 0 _ X rfl (Nat.zero_le _) rfl (fun _ _ _ => rfl) (fun _ _ => rfl) (fun u w' _ hw' => absurd hw' (Nat.not_lt_zero _)) g
  obtain ⟨n3, X3, g3, b1, b2, b3, b4⟩ := (rx_224b (X0 := X2) (u1 := u1) (X' := X') (M := M) (R := R) hin hh (by rw [a2 _ _ (by decide)]; exact hin') (by rw [a2 _ _ (by decide)]; exact hM) hM4 hM1 h8 (by omega) (by rw [a2 _ _ (by decide)]; exact hT) hT10 (fun t ht => by rw [a2 _ _ (by decide)]; exact hR t ht) n2).1 0 _ X2 rfl (Nat.zero_le _) rfl (fun _ _ _ => rfl) (fun k b hk hk2 => by
    obtain ⟨t, r, c1, c2, c3⟩ := hk
    omega) (fun k b _ _ => rfl) g2
  obtain ⟨c1, c2, c3⟩ := rx_224p (X0 := X3) (u1 := u1) (X' := X') (M := M) hin hh (by rw [b2 _ _ (by decide), a2 _ _ (by decide)]; exact hin') (by rw [b2 _ _ (by decide), a2 _ _ (by decide)]; exact hM) hM4 hM1 h8 (by omega) (by rw [b2 _ _ (by decide), a2 _ _ (by decide)]; exact hP) hP20 n3 0 _ X3 rfl (Nat.zero_le _) rfl (fun _ _ _ => rfl) (fun k b _ => by rw [if_neg (by omega)]) g3
  have d136 : X'.1 136 = X3.1 136 := funext fun k => c2 136 k (by decide)
  have d136' : X2.1 136 = X.1 136 := funext fun k => a2 136 k (by decide)
  have d129 : X3.1 129 = X.1 129 := funext fun k => (b2 129 k (by decide)).trans (a2 129 k (by decide))
  refine ⟨c1.trans (b1.trans a1), fun q k z1 z2 z3 => (c2 q k z2).trans ((b2 q k z3).trans (a2 q k z1)), ⟨fun k hk => ?_, fun u w' hu hw' => ?_⟩, ⟨fun k b hk hb => ?_, fun k b hb hk => ?_⟩, fun k b hb => ?_⟩
  · rw [c2 _ _ (by decide), b2 _ _ (by decide)]; exact a3 k hk
  · rw [c2 _ _ (by decide), b2 _ _ (by decide)]; exact a4 u w' hu hw'
  · rw [d136, ← d136']; exact b3 k b hk hb
  · rw [d136, ← d136']; exact b4 k b hb hk
  · rw [← d129]; exact c3 k b hb
end DD16
