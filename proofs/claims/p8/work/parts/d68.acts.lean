/-! THE REFERENCE: a question, whole -/
section DD68
variable {P : md_P} {X X' X0 X1 X2 : fx_X} {K K0 : List md_Sy} {n d k j near l l2 : Nat} {v w y1 : Int32} {s a b14 : Int} {c c' : md_C} {nm : md_Nm} {cs cs' : md_CS} {ws ws' : md_WS} {nn : Int64} {S : List Int} {B G : Prop} {is : List Int32} {ls : List Int64} {rs : List Nat} {Q : fx_X → Prop}
theorem md_GK_l {T : List md_Sy} {l' : Nat} (h : md_GK K0 S ((148, l) :: T)) : md_GK K0 S ((148, l') :: T) := by
  cases S with
  | nil =>
    obtain ⟨l1, l2, e⟩ := h
    cases e
    exact ⟨l', l2, rfl⟩
  | cons a S =>
    rcases h with ⟨z, l1, l2, l3, l4, l5, K', e, h⟩ | ⟨z, l1, K', e, h⟩ | ⟨z, l1, l2, l3, T', e, h⟩
    · cases e
      exact Or.inl ⟨z, l', l2, l3, l4, l5, K', rfl, h⟩
    · cases e
    · cases e
      exact Or.inr (Or.inr ⟨z, l', l2, l3, T', rfl, h⟩)
/-- no sign that waits binds tighter than + -/
theorem md_GK_p (h : md_GK K0 S K) (hS : S = [] ∨ S.head? = some 40) : ∃ l1 l2 T, K = (148, l1) :: (146, l2) :: T ∧ ∀ l1' l2', md_GK K0 S ((148, l1') :: (146, l2') :: T) := by
  cases S with
  | nil =>
    obtain ⟨l1, l2, e⟩ := h
    exact ⟨l1, l2, K0, e, fun l1' l2' => ⟨l1', l2', rfl⟩⟩
  | cons a S =>
    have ha : a = 40 := by
      rcases hS with z | z
      · cases z
      · exact Option.some.inj z
    rcases h with ⟨z, l1, l2, l3, l4, l5, K', e, h⟩ | ⟨z, -⟩ | ⟨z, -⟩
    · exact ⟨l1, l2, _, e, fun l1' l2' => Or.inl ⟨z, l1', l2', l3, l4, l5, K', rfl, h⟩⟩
    · omega
    · omega
theorem md_GK_s (h : md_GK K0 S K) (hw : md_wfs S) (hS : S.head? ≠ some 42) : ∃ l1 T, K = (148, l1) :: T := by
  cases S with
  | nil =>
    obtain ⟨l1, l2, e⟩ := h
    exact ⟨l1, _, e⟩
  | cons a S =>
    rcases h with ⟨z, l1, l2, l3, l4, l5, K', e, h⟩ | ⟨z, -⟩ | ⟨z, l1, l2, l3, T, e, h⟩
    · exact ⟨l1, _, e⟩
    · exact absurd (by rw [z]; rfl) hS
    · exact ⟨l1, _, e⟩
/-- a sign waits from here on -/
theorem rx_249p (hq : rx_qc P nn X0 nm S 1 X j c cs ws) (ha : a = 42 ∨ a = 43 ∨ a = 45) (hsg : rx_sg X a) (hT : (rp_T P).1 j = a) (hwf : md_wfs (a :: S)) (hR : md_R P ((a, l) :: (172, l2) :: K) j near c nm (cs, ws)) (g : (0 ≤ (X.1 117 50).toInt ∧ (X.1 117 50).toInt < ((64 : Nat) : Int)) ∧ ∃ X103 : fx_X, X103 = (fx_wI X 140 ((X.1 117 50)).toInt.toNat (X.1 117 29)) ∧ (0 ≤ ((X103.1 117 50)).toInt ∧ ((X103.1 117 50)).toInt < ((64 : Nat) : Int)) ∧ ∃ X106 : fx_X, X106 = (fx_wI X103 141 ((X103.1 117 50)).toInt.toNat (X103.1 117 27)) ∧ ∃ X107 : fx_X, X107 = (fx_wI X106 117 50 ((X106.1 117 50) + (Int32.ofInt 1))) ∧ ∃ (w109 : Int32) (X108 : fx_X), gx_264 X107 w109 X108 ∧ (if (w109).toInt = 0 then (v = (Int32.ofInt 0) ∧ X' = X108) else Q X108)) : rx_X P v X' ∨ ∃ (X8 : fx_X) (c' : md_C), rx_qc P nn X0 nm (a :: S) 0 X8 (j + 1) c' cs ws ∧ md_R P K (j + 1) j c' nm (cs, ws) ∧ Q X8 := by
  obtain ⟨hD, hlen, ⟨b1, b2, b3⟩, h50, hac, -⟩ := hq
  have hG := hD.1
  have hob := md_len_ob S
  have ho := md_os_18 hwf.1 b3
  obtain ⟨-, X103, e103, -, X106, e106, X107, e107, w109, X108, r1, g1⟩ := g
  rw [fx_in h50] at e103
  have i50 : X103.1 117 50 = X.1 117 50 := by rw [e103, fx_rIn (by decide)]
  rw [i50, fx_in h50] at e106
  have i50b : X106.1 117 50 = X.1 117 50 := by rw [e106, fx_rIn (by decide), i50]
  have f107 : fy [(117, 50)] [] [140, 141] X X107 := by rw [e107, e106, e103]; exact fy_f (fy_a (fy_a fy_rf (by decide)) (by decide)) (by decide)
  have hG107 := rx_G_fr hG f107 (by decide) (by decide)
  have hD107 := rx_QD_fy hD hG107 f107 (by decide) (by decide)
  rcases rx_go (rx_264 hG107 hR ⟨hT, by omega, by omega⟩ r1) g1 with e | ⟨⟨hG8, hR8⟩, g2⟩
  · exact Or.inl e
  have f8 := gf_264 r1
  have ea : a ≠ 40 := by omega
  have eb : md_bks (a :: S) = md_bks S := by show md_bks S + (if a = 40 then 1 else 0) = _; rw [if_neg ea, Nat.add_zero]
  have eo : md_os (a :: S) + 0 = md_os S + 1 := by show md_os S + (if a = 40 then 0 else 1) + 0 = _; rw [if_neg ea]
  have hD8 : rx_QD P nn X0 X108 (md_os S + 1) (j + 1) (md_u c 12 (c 12 + Int32.ofInt 1)) cs ws nm := rx_QD_fr hD107 hG8 (rx_lo_fy f8 (by decide) (by decide)) ⟨rfl, rfl, rfl⟩ (by rw [f8.2.2 117 51 (by decide) (by decide)]; exact hD107.2.2.2.1) ⟨rfl, rfl⟩ (fun hb => ⟨rfl, rfl, (hD107.2.2.2.2.2.2 hb).1, rfl⟩)
  have k140 : X108.1 140 = X103.1 140 := by rw [fy_ra f8 (by decide) (by decide), e107, fx_rIn (by decide), e106, fx_rIn (by decide)]
  refine Or.inr ⟨X108, _, ⟨by rw [eo]; exact hD8, by rw [eo]; exact hlen, ⟨by rw [eb]; exact b1, ?_, by rw [eb]; exact b3⟩, ?_, rx_ac_push hac (fun i hi => ?_) ?_, hwf⟩, hR8, g2⟩
  · rw [eb, f8.2.2 117 46 (by decide) (by decide), f107.2.2 117 46 (by decide) (by decide)]
    exact b2
  · rw [f8.2.2 117 50 (by decide) (by decide), e107, fx_rIe, i50b]
    exact cx_in1 h50 (by omega)
  · rw [k140, e103, fx_rIk (by omega)]
  · rw [k140, e103, fx_rIe]
    exact hsg.2
/-- a sign -/
theorem rx_249g (ih241 : ∀ (S : List Int) (y1 : Int32) (X : fx_X), rx_qh P nn X0 nm K0 S X → (rx_sg X 42 ∨ rx_sg X 43 ∨ rx_sg X 45) → y1.toInt ≠ 0 → gxF_249 n 241 [y1] [] [] X v X' → rx_qR P nn X0 nm K0 v X') (ih18 : ∀ (S : List Int) (y1 : Int32) (X : fx_X), rx_qw P nn X0 nm K0 S X → y1.toInt ≠ 0 → gxF_249 n 18 [y1] [] [] X v X' → rx_qR P nn X0 nm K0 v X') (h : rx_qh P nn X0 nm K0 S X) (hs : rx_sg X 42 ∨ rx_sg X 43 ∨ rx_sg X 45) (hy : y1.toInt ≠ 0) (g : gxF_249 (n + 1) 241 [y1] [] [] X v X') : rx_qR P nn X0 nm K0 v X' := by
  replace g := gxO_249_241 g
  unfold gxT_249_241 at g
  have h0 := h
  obtain ⟨j, near, c, cs, ws, K, hqc, hK, hR⟩ := h
  have hqc0 := hqc
  obtain ⟨hD, hlen, ⟨b1, b2, b3⟩, h50, hac, hwf⟩ := hqc
  have hG := hD.1
  have ho := md_os_18 hwf b3
  have hob := md_len_ob S
  have dn : ∀ {a : Int} {w2 : Int32} {Y : fx_X}, S.head? = some a → a ≠ 40 → (a = 42 ∨ ¬ rx_sg X 42) → gx_274 X w2 Y → (if w2.toInt = 0 then (v = Int32.ofInt 0 ∧ X' = Y) else gxF_249 n 241 [y1] [] [] Y v X') → rx_qR P nn X0 nm K0 v X' := by
    intro a w2 Y hd ha h42 r g2
    cases S with
    | nil => cases hd
    | cons b S =>
      have e : b = a := Option.some.inj hd
      subst e
      rcases rx_go2 (rx_249d h0 ha h42 r) g2 with e | ⟨hh, g6⟩
      · exact Or.inl e
      rcases hh with hB | hq
      · exact rx_qB hB g6
      · exact ih241 S y1 Y hq (hs.imp (rx_sg_274 r).mpr (Or.imp (rx_sg_274 r).mpr (rx_sg_274 r).mpr)) hy g6
  obtain ⟨w74, X73, r1, g1⟩ := g
  obtain ⟨e73, hw1⟩ := rx_273 (a := 42) hac h50 (by omega) rfl r1
  subst e73
  rcases hw1 with ⟨hw1, hd1⟩ | ⟨hw1, hd1⟩
  · rw [if_neg (by rw [hw1]; decide)] at g1
    obtain ⟨w77, X76, r2, g2⟩ := g1
    exact dn hd1 (by decide) (Or.inl rfl) r2 g2
  rw [if_pos (by rw [hw1]; rfl)] at g1
  obtain ⟨w80, X79, r2, g2⟩ := g1
  obtain ⟨e79, hw2⟩ := rx_220 r2
  subst e79
  have e42 : ((Int8.ofInt 42).toInt32).toInt = 42 := rfl
  rw [e42] at hw2
  rcases fy_ifd g2 with ⟨c1, g3⟩ | ⟨c1, g3⟩
  · have n42 : ¬ rx_sg X79 42 := by
      rcases hw2 with y | y
      · omega
      · exact y.2
    obtain ⟨w93, X92, r3, g4⟩ := g3
    obtain ⟨e92, hw3⟩ := rx_273 (a := 43) hac h50 (by omega) rfl r3
    subst e92
    rcases hw3 with ⟨hw3, hd3⟩ | ⟨hw3, hd3⟩
    · rw [if_neg (by rw [hw3]; decide)] at g4
      obtain ⟨w96, X95, r4, g5⟩ := g4
      exact dn hd3 (by decide) (Or.inr n42) r4 g5
    rw [if_pos (by rw [hw3]; rfl)] at g4
    obtain ⟨w99, X98, r4, g5⟩ := g4
    obtain ⟨e98, hw4⟩ := rx_273 (a := 45) hac h50 (by omega) rfl r4
    subst e98
    rcases hw4 with ⟨hw4, hd4⟩ | ⟨hw4, hd4⟩
    · rw [if_neg (by rw [hw4]; decide)] at g5
      obtain ⟨w112, X111, r5, g6⟩ := g5
      exact dn hd4 (by decide) (Or.inr n42) r5 g6
    rw [if_pos (by rw [hw4]; rfl)] at g5
    -- + or - waits
    have hS : S = [] ∨ S.head? = some 40 := by
      cases S with
      | nil => exact Or.inl rfl
      | cons b S =>
        right
        rcases hwf.2 with z | ⟨z, -⟩ | ⟨z | z, -⟩
        · rw [z]; rfl
        · exact absurd (by rw [z]; rfl) hd1
        · exact absurd (by rw [z]; rfl) hd3
        · exact absurd (by rw [z]; rfl) hd4
    have T42 : (rp_T P).1 j ≠ 42 := fun y => n42 ((rx_sg_i (a := 42) hG (by decide)).mpr y)
    obtain ⟨l1, l2, T, eK, hT⟩ := md_GK_p hK hS
    have hR1 : md_R P ((146, l2) :: T) j near c nm (cs, ws) := by
      rcases hR with y | ⟨-, l, K3, y, y2⟩
      · rw [eK] at y
        exact md_R_r (r := []) y (by decide) (by decide) (by decide) (md_r148 T42)
      · rw [eK] at y
        cases y
        exact y2
    obtain ⟨a, ha, hsa⟩ : ∃ a : Int, (a = 43 ∨ a = 45) ∧ rx_sg X98 a := by
      rcases hs with z | z | z
      · exact absurd z n42
      · exact ⟨43, Or.inl rfl, z⟩
      · exact ⟨45, Or.inr rfl, z⟩
    have hTa : (rp_T P).1 j = a := (rx_sg_i (a := a) hG (by rcases ha with z | z <;> rw [z] <;> decide)).mp hsa
    have hR2 : md_R P ((a, j) :: (172, j) :: (147, j) :: ((if a = 43 then 211 else 212), j) :: (146, j) :: T) j near c nm (cs, ws) := by
      rcases ha with z | z
      · subst z
        exact md_R_r (r := [43, 172, 147, 211, 146]) hR1 (by decide) (by decide) (by decide) (by rw [hTa]; rfl)
      · subst z
        exact md_R_r (r := [45, 172, 147, 212, 146]) hR1 (by decide) (by decide) (by decide) (by rw [hTa]; rfl)
    rcases rx_249p (Q := fun Y => gxF_249 n 18 [y1] [] [] Y v X') hqc0 (Or.inr ha) hsa hTa ⟨hwf, Or.inr (Or.inr ⟨ha, hS⟩)⟩ hR2 g5 with e | ⟨X8, c', q1, q2, q3⟩
    · exact Or.inl (Or.inl e)
    have hR3 : md_R P ((149, j + 1) :: (148, j + 1) :: ((if a = 43 then 211 else 212), j) :: (146, j) :: T) (j + 1) j c' nm (cs, ws) := md_R_r (r := [149, 148]) q2 (by decide) (by decide) (by decide) rfl
    exact ih18 (a :: S) y1 X8 ⟨j + 1, j, c', cs, ws, j + 1, _, q1, Or.inr (Or.inr ⟨ha, j + 1, j, j, (146, j) :: T, rfl, hT j j⟩), hR3⟩ hy q3
  · have h42 : rx_sg X79 42 := by
      rcases hw2 with y | y
      · exact y.2
      · omega
    have hTa : (rp_T P).1 j = 42 := (rx_sg_i (a := 42) hG (by decide)).mp h42
    obtain ⟨l1, T, eK⟩ := md_GK_s hK hwf hd1
    subst eK
    have hR1 : md_R P ((148, l1) :: T) j near c nm (cs, ws) := by
      rcases hR with y | ⟨y, -⟩
      · exact y
      · exact absurd h42 y
    have hR2 : md_R P ((42, j) :: (172, j) :: (149, j) :: (213, j) :: (148, j) :: T) j near c nm (cs, ws) := md_R_r (r := [42, 172, 149, 213, 148]) hR1 (by decide) (by decide) (by decide) (by rw [hTa]; rfl)
    rcases rx_249p (Q := fun Y => gxF_249 n 18 [y1] [] [] Y v X') hqc0 (Or.inl rfl) h42 hTa ⟨hwf, Or.inr (Or.inl ⟨rfl, hd1⟩)⟩ hR2 g3 with e | ⟨X8, c', q1, q2, q3⟩
    · exact Or.inl (Or.inl e)
    exact ih18 (42 :: S) y1 X8 ⟨j + 1, j, c', cs, ws, j, _, q1, Or.inr (Or.inl ⟨rfl, j, _, rfl, md_GK_l hK⟩), q2⟩ hy q3
/-- all of it -/
theorem rx_249n : ∀ n : Nat, (∀ (S : List Int) (X : fx_X), rx_qw P nn X0 nm K0 S X → gxF_249 n 22 [] [] [] X v X' → rx_qR P nn X0 nm K0 v X') ∧ (∀ (S : List Int) (X : fx_X), rx_qh P nn X0 nm K0 S X → gxF_249 n 128 [] [] [] X v X' → rx_qR P nn X0 nm K0 v X') ∧ (∀ (S : List Int) (X : fx_X), rx_qh P nn X0 nm K0 S X → rx_sg X 41 → 0 < md_bks S → gxF_249 n 144 [] [] [] X v X' → rx_qR P nn X0 nm K0 v X') ∧ (∀ (S : List Int) (y1 : Int32) (X : fx_X), rx_qh P nn X0 nm K0 S X → (rx_sg X 42 ∨ rx_sg X 43 ∨ rx_sg X 45) → y1.toInt ≠ 0 → gxF_249 n 241 [y1] [] [] X v X' → rx_qR P nn X0 nm K0 v X') ∧ (∀ (S : List Int) (X : fx_X), rx_qh P nn X0 nm K0 S X → md_bks S = 0 → (¬ rx_sg X 42 ∧ ¬ rx_sg X 43 ∧ ¬ rx_sg X 45) → gxF_249 n 348 [] [] [] X v X' → rx_qR P nn X0 nm K0 v X') ∧ (∀ (S : List Int) (y1 : Int32) (X : fx_X), rx_qw P nn X0 nm K0 S X → y1.toInt ≠ 0 → gxF_249 n 18 [y1] [] [] X v X' → rx_qR P nn X0 nm K0 v X') ∧ (∀ (S : List Int) (y1 : Int32) (X : fx_X), rx_qh P nn X0 nm K0 S X → y1.toInt = 0 → (¬ rx_sg X 42 ∧ ¬ rx_sg X 43 ∧ ¬ rx_sg X 45) → (0 < md_bks S → ¬ rx_sg X 41) → gxF_249 n 18 [y1] [] [] X v X' → rx_qR P nn X0 nm K0 v X')
  | 0 => ⟨fun _ _ _ g => g.elim, fun _ _ _ g => g.elim, fun _ _ _ _ _ g => g.elim, fun _ _ _ _ _ _ g => g.elim, fun _ _ _ _ _ g => g.elim, fun _ _ _ _ _ g => g.elim, fun _ _ _ _ _ _ _ g => g.elim⟩
  | n + 1 => by
    obtain ⟨i22, i128, i144, i241, i348, i18w, i18h⟩ := rx_249n n
    refine ⟨fun S X h g => rx_249a i22 i128 h g, fun S X h g => rx_249b i144 i241 i18h h g, fun S X h h1 h2 g => rx_249c i144 i128 h h1 h2 g, fun S y1 X h h1 h2 g => rx_249g i241 i18w h h1 h2 g, fun S X h h1 h2 g => rx_249e i348 h h1 h2 g, fun S y1 X h h1 g => ?_, fun S y1 X h h1 h2 h3 g => ?_⟩
    · replace g := gxO_249_18 g
      unfold gxT_249_18 at g
      rw [if_neg h1] at g
      exact i22 S X h g
    · replace g := gxO_249_18 g
      unfold gxT_249_18 at g
      rw [if_pos h1] at g
      have h46 : (X.1 117 46).toInt = (md_bks S : Int) := by
        obtain ⟨j, near, c, cs, ws, K, ⟨-, -, ⟨-, b2, -⟩, -⟩, -⟩ := h
        exact b2
      rcases fy_ifd g with ⟨c1, g1⟩ | ⟨c1, g1⟩
      · obtain ⟨w9, X8, r1, e1, e2⟩ := g1
        rw [e1, e2]
        exact Or.inl (Or.inl (rx_215 (rx_qF h (by omega) (h3 (by omega)) h2.1 h2.2.1 h2.2.2) (by decide) r1))
      · exact i348 S X h (by omega) h2 g1
theorem rx_249 (hG : rx_G P X j c) (htn : rx_tn P nn 1 cs ws nm.dropLast X0 X) (h8 : (c 8).toInt = (cs.1.length : Int)) (hst : cs.2.2.2.2.1 = []) (hb : rp_b P = true → md_tr ws = [] ∧ ((md_ptw ws).length : Int) = (c 11).toInt ∧ ws.2.1 = []) (h14 : (c 14).toInt = 0) (hR : md_R P ((145, l) :: K0) j near c nm (cs, ws)) (g : gx_249 X v X') : rx_qR P nn X0 nm K0 v X' := by
  obtain ⟨n, X2, e2, X3, e3, X4, e4, g⟩ := g
  have f4 : fy [(117, 46), (117, 50), (117, 51)] [] [] X X4 := by rw [e4, e3, e2]; exact fy_f (fy_f (fy_f fy_rf (by decide)) (by decide)) (by decide)
  have hG4 := rx_G_fr hG f4 (by decide) (by decide)
  have hD : rx_QD P nn X0 X4 0 j c cs ws nm := by
    refine ⟨hG4, rx_tn_lo htn (rx_lo_fy (s := 40) f4 (by decide) (by decide)) (by decide) hG.2.2.2.1.2, h8, ?_, by rw [hst]; exact Nat.zero_le _, by rw [hst]; exact True.intro, fun z => ?_⟩
    · rw [e4, fx_rIk (by decide), e3, fx_rIe]; rfl
    · obtain ⟨z1, z2, z3⟩ := hb z
      refine ⟨z1, z2, ?_⟩
      rw [z3, hst]
      exact True.intro
  have hR1 : md_R P ((147, j) :: (146, j) :: K0) j near c nm (cs, ws) := md_R_r (r := [147, 146]) hR (by decide) (by decide) (by decide) rfl
  have hR2 : md_R P ((149, j) :: (148, j) :: (146, j) :: K0) j near c nm (cs, ws) := md_R_r (r := [149, 148]) hR1 (by decide) (by decide) (by decide) rfl
  refine (rx_249n n).2.2.2.2.2.1 [] _ X4 ⟨j, near, c, cs, ws, j, _, ⟨hD, by rw [hst]; rfl, ⟨h14, ?_, Nat.zero_le _⟩, ?_, True.intro, True.intro⟩, ⟨j, j, rfl⟩, hR2⟩ (by decide) g
  · rw [e4, fx_rIe]; rfl
  · rw [e4, fx_rIk (by decide), e3, fx_rIk (by decide), e2, fx_rIe]; rfl
end DD68
