/-! THE REFERENCE: learn, undo, ask -/
/-- the shelf: its UNKNOWNS, what is so, how much of that was learned -/
def rx_MH (h : Nat) (U : md_U) (pt : List (Nat → Bool)) (nl : Nat) (X : fx_X) : Prop := ((X.1 117 0).toInt = (h : Int) ∧ h ≤ 1) ∧ rx_U (true, (fun _ => 0, fun _ => 0), U, none, fun _ => Int32.ofInt 0, 0, h) X U ∧ rx_V (true, (fun _ => 0, fun _ => 0), U, none, fun _ => Int32.ofInt 0, 0, h) X U ∧ rx_pt (true, (fun _ => 0, fun _ => 0), U, none, fun _ => Int32.ofInt 0, 0, h) X 1 pt ∧ ((X.1 128 h).toInt = (nl : Int) ∧ nl ≤ 8 ∧ nl ≤ pt.length ∧ pt.length ≤ 12 + nl)
section DD73
variable {P : md_P} {X X' X0 X1 X2 : fx_X} {n d k j near l h N m nl : Nat} {v w y1 y2 : Int32} {c c' : md_C} {nm : md_Nm} {cs cs' : md_CS} {ws ws' : md_WS} {L : List (Int × Nat × Int64)} {T : md_T} {U : md_U} {r : Option (List md_Ev)} {f : Nat → Int32} {pt : List (Nat → Bool)} {x : Nat → Bool} {F Lf : List (Nat × Nat)} {A : List Nat}
theorem rx_MH_fy (hM : rx_MH h U pt nl X) (hf : fy F Lf A X X') (hA : ∀ a, a ∈ A → a < 117 ∨ 130 ≤ a) (hF : (∀ q, q ∈ F → q.1 = 117 ∧ q.2 ≠ 0) ∧ ∀ q, q ∈ Lf → q.1 = 117) : rx_MH h U pt nl X' := by
  obtain ⟨⟨a1, a2⟩, a3, a4, a5, a6⟩ := hM
  have e : ∀ r, 118 ≤ r → r < 130 → X'.1 r = X.1 r := fun r h1 h2 => fy_ra hf (fun z => by have := hA r z; omega) (fun q hq z => by have := (hF.1 q hq).1; omega)
  have e2 : ∀ r, 118 ≤ r → r < 130 → X'.2.1 r = X.2.1 r := fun r h1 h2 => fy_rl hf (fun z => by have := hA r z; omega) (fun q hq z => by have := hF.2 q hq; omega)
  refine ⟨⟨?_, a2⟩, ?_, ?_, ?_, ?_⟩
  · rw [hf.2.2 117 0 (fun z => by have := hA 117 z; omega) (fun z => (hF.1 _ z).2 rfl)]
    exact a1
  · unfold rx_U at a3 ⊢
    rw [e 118 (by decide) (by decide), e 120 (by decide) (by decide), e 121 (by decide) (by decide), e 122 (by decide) (by decide), e2 119 (by decide) (by decide)]
    exact a3
  · unfold rx_V at a4 ⊢
    rw [e 123 (by decide) (by decide)]
    exact a4
  · unfold rx_pt at a5 ⊢
    rw [e 127 (by decide) (by decide), e 129 (by decide) (by decide)]
    exact a5
  · rw [e 128 (by decide) (by decide)]
    exact a6
/-- undone, or nothing there to undo -/
theorem rx_283 (hM : rx_MH h U pt nl X) (g : gx_283 X v X') : (nl = 0 ∧ v = Int32.ofInt 0 ∧ X' = X) ∨ (0 < nl ∧ v = Int32.ofInt 1 ∧ rx_MH h U pt.dropLast (nl - 1) X') := by
  obtain ⟨⟨a1, a2⟩, a3, a4, a5, a6, a7, a8, a9⟩ := hM
  unfold gx_283 at g
  rw [fx_in a1] at g
  replace g := g.2
  rcases fy_ifd g with ⟨e, g1⟩ | ⟨e, g1⟩
  · exact Or.inl ⟨by omega, g1⟩
  · right
    obtain ⟨-, -, X8, e8, -, -, X12, e12, X13, e13, e1, e2⟩ := g1
    have z0 : X8.1 117 0 = X.1 117 0 := by rw [e8, fx_rIn (by decide)]
    rw [z0, fx_in a1] at e12
    have k : ∀ r, r ≠ 127 → r ≠ 128 → X'.1 r = X.1 r := fun r h1 h2 => by rw [e2, e13]; show X12.1 r = _; rw [e12, fx_rIn h1, e8, fx_rIn h2]
    have kl : ∀ r, r ≠ 117 → X'.2.1 r = X.2.1 r := fun r h1 => by
      rw [e2, e13, fx_rLn h1, e12]
      show X8.2.1 r = _
      rw [e8]; rfl
    have k127 : X'.1 127 h = X.1 127 h - Int32.ofInt 1 := by
      rw [e2, e13]
      show X12.1 127 h = _
      rw [e12, fx_rIe, e8, fx_rIn (by decide)]
    have k128 : X'.1 128 h = X.1 128 h - Int32.ofInt 1 := by
      rw [e2, e13]
      show X12.1 128 h = _
      rw [e12, fx_rIn (by decide), e8, fx_rIe]
    have e1' : (Int32.ofInt 1).toInt = 1 := rfl
    obtain ⟨p1, p2, p3⟩ := a5
    have p1 : (X.1 127 h).toInt = (pt.length : Int) := p1
    refine ⟨by omega, e1, ⟨by rw [k 117 (by decide) (by decide)]; exact a1, a2⟩, ?_, ?_, ⟨?_, by rw [List.length_dropLast]; omega, fun p f hp w hw => ?_⟩, ?_, by omega, by rw [List.length_dropLast]; omega, by rw [List.length_dropLast]; omega⟩
    · unfold rx_U at a3 ⊢
      rw [k 118 (by decide) (by decide), k 120 (by decide) (by decide), k 121 (by decide) (by decide), k 122 (by decide) (by decide), kl 119 (by decide)]
      exact a3
    · unfold rx_V at a4 ⊢
      rw [k 123 (by decide) (by decide)]
      exact a4
    · show (X'.1 127 h).toInt = _
      rw [k127, fx_sub (by omega) (by omega), e1', p1, List.length_dropLast]
      omega
    · rw [k 129 (by decide) (by decide)]
      rw [List.getElem?_dropLast] at hp
      split at hp
      · exact p3 p f hp w hw
      · cases hp
    · rw [k128, fx_sub (by omega) (by omega), e1', a6]
      omega
/-- the WORLDS counted -/
theorem rx_281l (hM : rx_MH h U pt nl X) (hx : ∀ w, w < md_all U → fx_bt (X.1 137) 0 w = x w) : ∀ (d k n : Nat) (y1 y2 : Int32), k + d = md_all U → y2.toInt = (k : Int) → y1.toInt = ((((List.range k).filter (fun w => (pt ++ [x]).all (fun p => p w))).length : Nat) : Int) → gxF_281 n 13 [y1, y2] [] [] X v X' → ∃ (y1 : Int32) (n : Nat), y1.toInt = (((md_hl (md_all U) (pt ++ [x])).length : Nat) : Int) ∧ (if (y1).toInt = 0 then (v = ((Int8.ofInt (-2)).toInt32) ∧ X' = X) else ((0 ≤ ((X.1 117 0)).toInt ∧ ((X.1 117 0)).toInt < ((2 : Nat) : Int)) ∧ (if ((X.1 128 h)).toInt = 8 then (v = ((Int8.ofInt (-3)).toInt32) ∧ X' = X) else ((0 ≤ ((X.1 117 0)).toInt ∧ ((X.1 117 0)).toInt < ((2 : Nat) : Int)) ∧ ∃ x16 : Int32, x16 = ((((X.1 117 0) * ((Int8.ofInt 20).toInt32)) + (X.1 127 h)) * ((Int8.ofInt 32).toInt32)) ∧ gxF_281 n 111 [y1, x16, (Int32.ofInt 0)] [] [] X v X')))) := by
  obtain ⟨⟨a1, a2⟩, a3, a4, ⟨p1, p2, p3⟩, a6⟩ := hM
  have p1 : (X.1 127 h).toInt = (pt.length : Int) := p1
  have hM122 : (X.1 122 h).toInt = (md_all U : Int) := a3.2.1
  have hM4 := a3.2.2.2.1.2
  intro d
  induction d with
  | zero =>
    intro k n y1 y2 hkd h2 h1 g
    cases n with
    | zero => exact g.elim
    | succ n =>
      replace g := gxO_281_13 g
      unfold gxT_281_13 at g
      rw [fx_in a1] at g
      replace g := g.2
      rw [if_neg (by omega)] at g
      have e : k = md_all U := by omega
      subst e
      exact ⟨y1, n, h1, g⟩
  | succ d ih =>
    intro k n y1 y2 hkd h2 h1 g
    cases n with
    | zero => exact g.elim
    | succ n =>
      replace g := gxO_281_13 g
      unfold gxT_281_13 at g
      rw [fx_in a1] at g
      replace g := g.2
      have hk : k < md_all U := by omega
      have hkl : ((List.range k).filter (fun w => (pt ++ [x]).all (fun p => p w))).length ≤ k := by
        have := List.length_filter_le (fun w => (pt ++ [x]).all (fun p => p w)) (List.range k)
        rw [List.length_range] at this
        exact this
      have hsn : ((List.range (k + 1)).filter (fun w => (pt ++ [x]).all (fun p => p w))).length = ((List.range k).filter (fun w => (pt ++ [x]).all (fun p => p w))).length + (if ((pt ++ [x]).all (fun p => p k)) = true then 1 else 0) := by
        rw [List.range_succ, List.filter_append, List.length_append]
        congr 1
        by_cases z : (pt ++ [x]).all (fun p => p k) = true
        · rw [if_pos z, List.filter_cons, if_pos z]; rfl
        · rw [if_neg z, List.filter_cons, if_neg z]; rfl
      have nx : (y2 + Int32.ofInt 1).toInt = ((k + 1 : Nat) : Int) := cx_in1 h2 (by omega)
      rw [if_pos (by omega)] at g
      obtain ⟨w20, X19, r1, g1⟩ := g
      obtain ⟨e19, hv⟩ := rx_247 a1 a2 p1 p2 h2 (by omega) r1
      subst e19
      have bit : ∀ p f, pt[p]? = some f → fx_bt (X19.1 129) (32 * (20 * h + p)) k = f k := fun p f hp => by
        have := p3 p f hp k hk
        rw [Nat.div_one] at this
        exact this
      rcases hv with ⟨hv, hall⟩ | ⟨hv, p0, hp0, hb0⟩
      · rw [if_neg hv] at g1
        have hpt : pt.all (fun p => p k) = true := List.all_eq_true.mpr (fun f hf => by
          obtain ⟨p, hp⟩ := List.getElem?_of_mem hf
          rw [← bit p f hp]
          exact hall p (List.getElem?_eq_some_iff.mp hp).1)
        obtain ⟨w27, X26, r2, g2⟩ := g1
        obtain ⟨e26, v27⟩ := rx_227 (a := 0) (b := k) rfl h2 (by omega) (by omega) r2
        subst e26
        rw [hx k hk] at v27
        have hal : (pt ++ [x]).all (fun p => p k) = x k := by
          rw [List.all_append, hpt, Bool.true_and]
          show (x k && true) = x k
          rw [Bool.and_true]
        cases hxk : x k with
        | false =>
          rw [hxk, if_neg (by decide)] at v27
          subst v27
          rw [if_pos (by decide)] at g2
          obtain ⟨x30, e30, g3⟩ := g2
          refine ih (k + 1) n y1 x30 (by omega) (by rw [e30]; exact nx) ?_ g3
          rw [hsn, hal, hxk, if_neg (by decide)]
          exact h1
        | true =>
          rw [hxk, if_pos rfl] at v27
          subst v27
          rw [if_neg (by decide)] at g2
          obtain ⟨x32, e32, x34, e34, g3⟩ := g2
          refine ih (k + 1) n x32 x34 (by omega) (by rw [e34]; exact nx) ?_ g3
          rw [hsn, hal, hxk, if_pos rfl, e32]
          exact cx_in1 h1 (by omega)
      · rw [if_pos hv] at g1
        obtain ⟨x23, e23, g2⟩ := g1
        refine ih (k + 1) n y1 x23 (by omega) (by rw [e23]; exact nx) ?_ g2
        have hal : (pt ++ [x]).all (fun p => p k) = false := by
          rw [List.all_append]
          have : pt.all (fun p => p k) = false := by
            cases z : pt.all (fun p => p k) with
            | false => rfl
            | true =>
              have q := List.all_eq_true.mp z pt[p0] (List.getElem_mem hp0)
              rw [← bit p0 _ (List.getElem?_eq_getElem hp0), hb0] at q
              cases q
          rw [this, Bool.false_and]
        rw [hsn, hal, if_neg (by decide)]
        exact h1
/-- what is learned is put -/
theorem rx_281p (hM : rx_MH h U pt nl X0) (hx : ∀ w, w < md_all U → fx_bt (X0.1 137) 0 w = x w) (hnl : nl < 8) (h2 : y2.toInt = ((32 * (20 * h + pt.length) : Nat) : Int)) : ∀ (n k : Nat) (y3 : Int32) (X : fx_X), y3.toInt = (k : Int) → k ≤ 32 → X.2 = X0.2 → (∀ q i, (q = 129 → i / 32 ≠ 20 * h + pt.length) → X.1 q i = X0.1 q i) → (∀ i, i < k → X.1 129 (32 * (20 * h + pt.length) + i) = X0.1 137 i) → gxF_281 n 111 [y1, y2, y3] [] [] X v X' → v = y1 ∧ rx_MH h U (pt ++ [x]) (nl + 1) X' := by
  obtain ⟨⟨a1, a2⟩, a3, a4, ⟨p1, p2, p3⟩, a6, a7, a8, a9⟩ := hM
  have p1 : (X0.1 127 h).toInt = (pt.length : Int) := p1
  have hM4 := a3.2.2.2.1.2
  intro n
  induction n with
  | zero => intro k y3 X _ _ _ _ _ g; exact g.elim
  | succ n ih =>
    intro k y3 X h3 hk e2 e1 hB g
    replace g := gxO_281_111 g
    unfold gxT_281_111 at g
    by_cases c1 : k < 32
    · have i1 : (y2 + y3).toInt = ((32 * (20 * h + pt.length) + k : Nat) : Int) := by rw [fx_add (by omega) (by omega)]; omega
      rw [if_pos (by omega), fx_in h3, fx_in i1] at g
      obtain ⟨-, -, X50, e50, x51, e51, g1⟩ := g
      refine ih (k + 1) x51 X50 (by rw [e51]; exact cx_in1 h3 (by omega)) (by omega) (by rw [e50]; exact e2) (fun q i hq => ?_) (fun i hi => ?_) g1
      · rw [e50, fx_rI, if_neg (by rintro ⟨z1, z2⟩; have := hq z1; omega)]
        exact e1 q i hq
      · by_cases z : i = k
        · subst z
          rw [e50, fx_rIe]
          exact e1 137 i (by omega)
        · rw [e50, fx_rIk (by omega)]
          exact hB i (by omega)
    · rw [if_neg (by omega)] at g
      have z0 : X.1 117 0 = X0.1 117 0 := e1 117 0 (by omega)
      rw [z0, fx_in a1] at g
      obtain ⟨-, -, X40, e40, -, -, X44, e44, X45, e45, g1, g2⟩ := g
      have z40 : X40.1 117 0 = X0.1 117 0 := by rw [e40, fx_rIn (by decide), z0]
      rw [z40, fx_in a1] at e44
      have k' : ∀ r, r ≠ 127 → r ≠ 128 → X'.1 r = X.1 r := fun r h1 h2 => by rw [g2, e45]; show X44.1 r = _; rw [e44, fx_rIn h2, e40, fx_rIn h1]
      have kX : ∀ r, r ≠ 127 → r ≠ 128 → r ≠ 129 → X'.1 r = X0.1 r := fun r h1 h2 h3 => by rw [k' r h1 h2]; exact funext fun i => e1 r i (fun z => absurd z h3)
      have kl : ∀ r, r ≠ 117 → X'.2.1 r = X0.2.1 r := fun r h1 => by
        rw [g2, e45, fx_rLn h1, e44]
        show X40.2.1 r = _
        rw [e40]
        show X.2.1 r = _
        rw [e2]
      have k127 : (X'.1 127 h).toInt = ((pt.length + 1 : Nat) : Int) := by
        rw [g2, e45]
        show (X44.1 127 h).toInt = _
        rw [e44, fx_rIn (by decide), e40, fx_rIe, e1 127 h (by omega)]
        exact cx_in1 p1 (by omega)
      have k128 : (X'.1 128 h).toInt = ((nl + 1 : Nat) : Int) := by
        rw [g2, e45]
        show (X44.1 128 h).toInt = _
        rw [e44, fx_rIe, e40, fx_rIn (by decide), e1 128 h (by omega)]
        exact cx_in1 a6 (by omega)
      refine ⟨g1, ⟨by rw [kX 117 (by decide) (by decide) (by decide)]; exact a1, a2⟩, ?_, ?_, ⟨?_, by rw [List.length_append]; show pt.length + 1 ≤ 20; omega, fun p f hp w hw => ?_⟩, k128, by omega, by rw [List.length_append]; show nl + 1 ≤ pt.length + 1; omega, by rw [List.length_append]; show pt.length + 1 ≤ 12 + (nl + 1); omega⟩
      · unfold rx_U at a3 ⊢
        rw [kX 118 (by decide) (by decide) (by decide), kX 120 (by decide) (by decide) (by decide), kX 121 (by decide) (by decide) (by decide), kX 122 (by decide) (by decide) (by decide), kl 119 (by decide)]
        exact a3
      · unfold rx_V at a4 ⊢
        rw [kX 123 (by decide) (by decide) (by decide)]
        exact a4
      · show (X'.1 127 h).toInt = _
        rw [k127, List.length_append]; rfl
      · rw [k' 129 (by decide) (by decide)]
        have hw' : w < md_all U := hw
        show fx_bt (X.1 129) (32 * (20 * h + p)) (w / 1) = f w
        rw [Nat.div_one]
        by_cases z : p < pt.length
        · rw [List.getElem?_append_left z] at hp
          have := p3 p f hp w hw
          rw [Nat.div_one] at this
          have this : fx_bt (X0.1 129) (32 * (20 * h + p)) w = f w := this
          rw [← this]
          unfold fx_bt
          rw [e1 129 _ (fun _ => by omega)]
        · have hpl := (List.getElem?_eq_some_iff.mp hp).1
          rw [List.length_append] at hpl
          have hpl : p < pt.length + 1 := hpl
          have e : p = pt.length := by omega
          subst e
          rw [List.getElem?_append_right (Nat.le_refl _), Nat.sub_self] at hp
          have e : x = f := Option.some.inj hp
          subst e
          rw [← hx w hw']
          unfold fx_bt
          rw [hB (w / 32) (by omega), Nat.zero_add]
end DD73
