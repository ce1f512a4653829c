/-! THE REFERENCE: a question, its signs that wait and what is to come -/
/-- what the text still parses to, its events aside -/
def md_A (P : md_P) (K : List md_Sy) (j near : Nat) (c : md_C) (nm : md_Nm) : Prop := ∃ m r', md_am (rp_T P) m K j near c nm = some r' ∧ (r' = none → md_F P)
/-- what is to come behind an operand -/
def md_GK (K0 : List md_Sy) : List Int → List md_Sy → Prop
  | [], K => ∃ l1 l2, K = (148, l1) :: (146, l2) :: K0
  | a :: S, K => (a = 40 ∧ ∃ l1 l2 l3 l4 l5 K', K = (148, l1) :: (146, l2) :: (41, l3) :: (171, l4) :: (150, l5) :: K' ∧ md_GK K0 S K') ∨ (a = 42 ∧ ∃ l1 K', K = (213, l1) :: K' ∧ md_GK K0 S K') ∨ ((a = 43 ∨ a = 45) ∧ ∃ l1 l2 l3 T, K = (148, l1) :: ((if a = 43 then 211 else 212), l2) :: T ∧ md_GK K0 S ((148, l3) :: T))
/-- signs that can wait so -/
def md_wfs : List Int → Prop
  | [] => True
  | a :: S => md_wfs S ∧ (a = 40 ∨ (a = 42 ∧ S.head? ≠ some 42) ∨ ((a = 43 ∨ a = 45) ∧ (S = [] ∨ S.head? = some 40)))
def md_bks : List Int → Nat
  | [] => 0
  | a :: S => md_bks S + (if a = 40 then 1 else 0)
def md_os : List Int → Nat
  | [] => 0
  | a :: S => md_os S + (if a = 40 then 0 else 1)
def rx_qc (P : md_P) (nn : Int64) (X0 : fx_X) (nm : md_Nm) (S : List Int) (o : Nat) (X : fx_X) (j : Nat) (c : md_C) (cs : md_CS) (ws : md_WS) : Prop := rx_QD P nn X0 X (md_os S + o) j c cs ws nm ∧ cs.2.2.2.2.1.length = md_os S + o ∧ ((c 14).toInt = (md_bks S : Int) ∧ (X.1 117 46).toInt = (md_bks S : Int) ∧ md_bks S ≤ 8) ∧ (X.1 117 50).toInt = (S.length : Int) ∧ rx_ac X S ∧ md_wfs S
/-- an operand is there -/
def rx_qh (P : md_P) (nn : Int64) (X0 : fx_X) (nm : md_Nm) (K0 : List md_Sy) (S : List Int) (X : fx_X) : Prop := ∃ j near c cs ws K, rx_qc P nn X0 nm S 1 X j c cs ws ∧ md_GK K0 S K ∧ (md_R P K j near c nm (cs, ws) ∨ (¬ rx_sg X 42 ∧ ∃ l K', K = (148, l) :: K' ∧ md_R P K' j near c nm (cs, ws)))
/-- an operand is wanted -/
def rx_qw (P : md_P) (nn : Int64) (X0 : fx_X) (nm : md_Nm) (K0 : List md_Sy) (S : List Int) (X : fx_X) : Prop := ∃ j near c cs ws l K, rx_qc P nn X0 nm S 0 X j c cs ws ∧ md_GK K0 S K ∧ md_R P ((149, l) :: K) j near c nm (cs, ws)
def rx_qR (P : md_P) (nn : Int64) (X0 : fx_X) (nm : md_Nm) (K0 : List md_Sy) (v : Int32) (X' : fx_X) : Prop := (rx_X P v X' ∨ rx_Yq P X0 nm v X') ∨ (v = Int32.ofInt 1 ∧ (rx_B P X' ∨ ∃ j near c cs ws l8, cs.2.2.2.2.1 = [l8] ∧ rx_QD P nn X0 X' 1 j c cs ws nm ∧ md_R P K0 j near c nm (cs, ws) ∧ (c 14).toInt = 0))
section DD65
variable {P : md_P} {X X' X0 X1 X2 : fx_X} {K K0 : List md_Sy} {n d k j near l : Nat} {v w : Int32} {s a b14 : Int} {c c' : md_C} {nm : md_Nm} {cs cs' : md_CS} {ws ws' : md_WS} {nn : Int64} {S : List Int} {q : md_S} {r : List Int}
theorem md_A_R (h : md_R P K j near c nm q) : md_A P K j near c nm := by
  obtain ⟨m, r, h1, h2⟩ := h
  refine ⟨m, r, h1, fun e => ?_⟩
  subst e
  exact h2
theorem md_A_r (h : md_A P ((s, l) :: K) j near c nm) (hs : 130 ≤ s) (hs2 : s < 170) (h137 : s ≠ 137) (hr : md_rule s ((rp_T P).1 j) = some r) : md_A P (r.map (fun a => (a, j)) ++ K) j near c nm := by
  obtain ⟨m, r', h1, h2⟩ := h
  cases m with
  | zero => cases h1
  | succ m =>
    rw [md_am_s, if_neg (by omega), if_pos hs, hr] at h1
    dsimp only at h1
    rw [if_neg h137] at h1
    exact ⟨m, r', h1, h2⟩
theorem md_A_tx (h : md_A P ((s, l) :: K) j near c nm) (hs : s < 130) (hT : (rp_T P).1 j ≠ s) : md_F P := by
  obtain ⟨m, r, h1, h2⟩ := h
  cases m with
  | zero => cases h1
  | succ m =>
    rw [md_am_s, if_neg (by omega), if_neg (by omega), if_neg hT] at h1
    cases h1
    exact h2 rfl
theorem md_A_e0 (h : md_A P ((s, l) :: K) j near c nm) (hs : 192 ≤ s) : md_A P K j near c nm := by
  obtain ⟨m, r, h1, h2⟩ := h
  cases m with
  | zero => cases h1
  | succ m =>
    rw [md_am_s, if_pos (by omega), md_room_id (by omega)] at h1
    dsimp only at h1
    obtain ⟨r1, e1, e2⟩ := md_cs_i h1
    refine ⟨m, r1, e1, fun z => h2 ?_⟩
    rw [e2, z]; rfl
theorem md_r148 (h : (rp_T P).1 j ≠ 42) : md_rule 148 ((rp_T P).1 j) = some [] := by
  show (md_52 148 _).map _ = _
  unfold md_52
  rw [if_neg (by decide), if_neg (by decide), if_neg (by decide), if_pos rfl, if_neg h]
  rfl
theorem md_r146 (h : (rp_T P).1 j ≠ 43) (h2 : (rp_T P).1 j ≠ 45) : md_rule 146 ((rp_T P).1 j) = some [] := by
  show (md_52 146 _).map _ = _
  unfold md_52
  rw [if_neg (by decide), if_pos rfl, if_neg h, if_neg h2]
  rfl
theorem md_os_le : ∀ S : List Int, md_wfs S → md_os S ≤ 2 * md_bks S + (if S.head? = some 42 then 2 else if S = [] ∨ S.head? = some 40 then 0 else 1)
  | [], _ => Nat.zero_le _
  | a :: S, h => by
    obtain ⟨h1, h2⟩ := h
    have ih := md_os_le S h1
    show md_os S + (if a = 40 then 0 else 1) ≤ 2 * (md_bks S + (if a = 40 then 1 else 0)) + (if some a = some (42 : Int) then 2 else if a :: S = [] ∨ some a = some (40 : Int) then 0 else 1)
    rcases h2 with h | ⟨h, h3⟩ | ⟨h, h3⟩
    · subst h
      rw [if_pos rfl, if_pos rfl, if_neg (by decide), if_pos (Or.inr rfl)]
      have : (if S.head? = some 42 then 2 else if S = [] ∨ S.head? = some 40 then 0 else 1) ≤ 2 := by
        split
        · omega
        · split <;> omega
      omega
    · subst h
      rw [if_neg (by decide), if_neg (by decide), if_pos rfl]
      rw [if_neg h3] at ih
      have : (if S = [] ∨ S.head? = some 40 then 0 else 1) ≤ 1 := by split <;> omega
      omega
    · have h40 : ¬ a = 40 := by omega
      have h42 : ¬ some a = some (42 : Int) := fun z => by have := Option.some.inj z; omega
      have h40' : ¬ (a :: S = [] ∨ some a = some (40 : Int)) := by
        rintro (z | z)
        · cases z
        · exact h40 (Option.some.inj z)
      rw [if_neg h40, if_neg h40, if_neg h42, if_neg h40']
      have hS : ¬ S.head? = some 42 := by
        rcases h3 with z | z
        · rw [z]; exact fun y => by cases y
        · rw [z]; exact fun y => by have := Option.some.inj y; omega
      rw [if_neg hS, if_pos h3] at ih
      omega
theorem md_os_18 (h : md_wfs S) (hb : md_bks S ≤ 8) : md_os S ≤ 18 := by
  have := md_os_le S h
  have h2 : (if S.head? = some 42 then 2 else if S = [] ∨ S.head? = some 40 then 0 else 1) ≤ 2 := by
    split
    · omega
    · split <;> omega
  omega
theorem md_len_ob : ∀ S : List Int, S.length = md_os S + md_bks S
  | [] => rfl
  | a :: S => by
    have := md_len_ob S
    show S.length + 1 = md_os S + (if a = 40 then 0 else 1) + (md_bks S + (if a = 40 then 1 else 0))
    split <;> omega
theorem rx_sg_274 (g : gx_274 X v X') : rx_sg X' a ↔ rx_sg X a := by
  unfold rx_sg
  rw [(gf_274 g).2.2 117 26 (by decide) (by decide), (gf_274 g).2.2 117 29 (by decide) (by decide)]
/-- the last sign done -/
theorem rx_249d (h : rx_qh P nn X0 nm K0 (a :: S) X) (ha : a ≠ 40) (hs : a = 42 ∨ ¬ rx_sg X 42) (g : gx_274 X v X') : (rx_X P v X' ∨ rx_Yq P X0 nm v X') ∨ (v = Int32.ofInt 1 ∧ (rx_B P X' ∨ rx_qh P nn X0 nm K0 S X')) := by
  obtain ⟨j, near, c, cs, ws, K, ⟨hD, hlen, ⟨b1, b2, b3⟩, h50, hac, hwf⟩, hK, hR⟩ := h
  have eo : md_os (a :: S) = md_os S + 1 := by show md_os S + (if a = 40 then 0 else 1) = _; rw [if_neg ha]
  have eb : md_bks (a :: S) = md_bks S := by show md_bks S + (if a = 40 then 1 else 0) = _; rw [if_neg ha, Nat.add_zero]
  rw [eo] at hD hlen
  rw [eb] at b1 b2 b3
  have hwS := hwf.1
  have ho := md_os_18 hwS b3
  have hl64 := md_len_ob S
  have h50 : (X.1 117 50).toInt = ((S.length + 1 : Nat) : Int) := h50
  obtain ⟨ly, lx, sk, hsk, hskl⟩ : ∃ ly lx sk, cs.2.2.2.2.1 = ly :: lx :: sk ∧ sk.length = md_os S := by
    cases e : cs.2.2.2.2.1 with
    | nil => rw [e] at hlen; exact absurd hlen (by show ¬ 0 = md_os S + 1 + 1; omega)
    | cons ly s1 =>
      rw [e] at hlen
      cases s1 with
      | nil => exact absurd hlen (by show ¬ 1 = md_os S + 1 + 1; omega)
      | cons lx sk =>
        have hlen : sk.length + 1 + 1 = md_os S + 1 + 1 := hlen
        exact ⟨ly, lx, sk, rfl, by omega⟩
  have hD' : rx_QD P nn X0 X (sk.length + 2) j c cs ws nm := by rw [hskl]; exact hD
  have fin : ∀ {K2 : List md_Sy}, (md_GK K0 S K2 ∨ (¬ rx_sg X 42 ∧ ∃ l3, md_GK K0 S ((148, l3) :: K2))) → ((rx_X P v X' ∨ rx_Yq P X0 nm v X') ∨ (v = Int32.ofInt 1 ∧ (rx_B P X' ∨ rx_dn P nn X0 nm (md_bks S : Int) sk S.length K2 X X'))) → (rx_X P v X' ∨ rx_Yq P X0 nm v X') ∨ (v = Int32.ofInt 1 ∧ (rx_B P X' ∨ rx_qh P nn X0 nm K0 S X')) := by
    intro K2 hK2 hh
    refine hh.imp id (fun z => ⟨z.1, z.2.imp id (fun z2 => ?_)⟩)
    obtain ⟨j2, near2, c2, cs2, w2, l8, e1, e2, e3, e4, e5, e6, e7, e8⟩ := z2
    have hcc : rx_qc P nn X0 nm S 1 X' j2 c2 cs2 w2 := ⟨by rw [← hskl]; exact e2, by rw [e1, ← hskl]; rfl, ⟨e4, by rw [e8]; exact b2, b3⟩, e5, rx_ac_eq hac.2 e6, hwS⟩
    rcases hK2 with y | ⟨y1, l3, y2⟩
    · exact ⟨j2, near2, c2, cs2, w2, K2, hcc, y, Or.inl e3⟩
    · exact ⟨j2, near2, c2, cs2, w2, (148, l3) :: K2, hcc, y2, Or.inr ⟨fun z => y1 ((rx_sg_274 g).mp z), l3, K2, rfl, e3⟩⟩
  have hG := hD.1
  rcases hK with ⟨z, -⟩ | ⟨z, l1, K', hK, hGK⟩ | ⟨z, l1, l2, l3, T, hK, hGK⟩
  · exact absurd z ha
  · subst z
    subst hK
    have hR2 : md_R P ((213, l1) :: K') j near c nm (cs, ws) := by
      rcases hR with y | ⟨-, l, K3, y, -⟩
      · exact y
      · cases y
    exact fin (Or.inl hGK) (rx_274s hD' hsk hR2 b1 h50 (by omega) hac.1 g)
  · have hs2 : ¬ rx_sg X 42 := by
      rcases hs with y | y
      · omega
      · exact y
    have hT42 : (rp_T P).1 j ≠ 42 := fun y => hs2 ((rx_sg_i (a := 42) hG (by decide)).mpr y)
    subst hK
    have hR2 : md_R P (((if a = 43 then 211 else 212), l2) :: T) j near c nm (cs, ws) := by
      rcases hR with y | ⟨-, l, K3, y, y2⟩
      · exact md_R_r (r := []) y (by decide) (by decide) (by decide) (md_r148 hT42)
      · cases y
        exact y2
    refine fin (Or.inr ⟨hs2, l3, hGK⟩) (rx_274p hD' hsk hR2 b1 h50 (by omega) ?_ g)
    rcases z with z | z
    · exact Or.inl ⟨hac.1.trans z, if_pos z⟩
    · exact Or.inr ⟨hac.1.trans z, if_neg (by omega)⟩
/-- no bracket ends where one waits -/
theorem md_GK_F (h41 : (rp_T P).1 j ≠ 41) (h42 : (rp_T P).1 j ≠ 42) (h43 : (rp_T P).1 j ≠ 43) (h45 : (rp_T P).1 j ≠ 45) : ∀ (S : List Int) (K : List md_Sy), md_GK K0 S K → 0 < md_bks S → (md_A P K j near c nm ∨ ∃ l K', K = (148, l) :: K' ∧ md_A P K' j near c nm) → md_F P
  | [], K, _, hb, _ => absurd hb (Nat.lt_irrefl _)
  | a :: S, K, hK, hb, hA => by
    rcases hK with ⟨z, l1, l2, l3, l4, l5, K', hK, hGK⟩ | ⟨z, l1, K', hK, hGK⟩ | ⟨z, l1, l2, l3, T, hK, hGK⟩
    · subst hK
      have h1 : md_A P ((146, l2) :: (41, l3) :: (171, l4) :: (150, l5) :: K') j near c nm := by
        rcases hA with y | ⟨l, K3, y, y2⟩
        · exact md_A_r (r := []) y (by decide) (by decide) (by decide) (md_r148 h42)
        · cases y
          exact y2
      have h2 : md_A P ((41, l3) :: (171, l4) :: (150, l5) :: K') j near c nm := md_A_r (r := []) h1 (by decide) (by decide) (by decide) (md_r146 h43 h45)
      exact md_A_tx h2 (by decide) h41
    · subst hK
      have hb2 : 0 < md_bks S := by
        have e : md_bks (a :: S) = md_bks S + (if a = 40 then 1 else 0) := rfl
        rw [e, if_neg (by omega)] at hb
        exact hb
      rcases hA with y | ⟨l, K3, y, -⟩
      · exact md_GK_F h41 h42 h43 h45 S K' hGK hb2 (Or.inl (md_A_e0 y (by decide)))
      · cases y
    · subst hK
      have hb2 : 0 < md_bks S := by
        have e : md_bks (a :: S) = md_bks S + (if a = 40 then 1 else 0) := rfl
        rw [e, if_neg (by omega)] at hb
        exact hb
      have h1 : md_A P (((if a = 43 then 211 else 212), l2) :: T) j near c nm := by
        rcases hA with y | ⟨l, K3, y, y2⟩
        · exact md_A_r (r := []) y (by decide) (by decide) (by decide) (md_r148 h42)
        · cases y
          exact y2
      exact md_GK_F h41 h42 h43 h45 S _ hGK hb2 (Or.inr ⟨l3, T, rfl, md_A_e0 h1 (by split <;> decide)⟩)
theorem rx_qF (h : rx_qh P nn X0 nm K0 S X) (hb : 0 < md_bks S) (h41 : ¬ rx_sg X 41) (h42 : ¬ rx_sg X 42) (h43 : ¬ rx_sg X 43) (h45 : ¬ rx_sg X 45) : md_F P := by
  obtain ⟨j, near, c, cs, ws, K, ⟨hD, -⟩, hK, hR⟩ := h
  have hG := hD.1
  have k : ∀ a, a ∈ md_sg → ¬ rx_sg X a → (rp_T P).1 j ≠ a := fun a ha hn z => hn ((rx_sg_i (a := a) hG ha).mpr z)
  refine md_GK_F (near := near) (c := c) (nm := nm) (k 41 (by decide) h41) (k 42 (by decide) h42) (k 43 (by decide) h43) (k 45 (by decide) h45) S K hK hb ?_
  rcases hR with y | ⟨-, l, K', y, y2⟩
  · exact Or.inl (md_A_R y)
  · exact Or.inr ⟨l, K', y, md_A_R y2⟩
end DD65
