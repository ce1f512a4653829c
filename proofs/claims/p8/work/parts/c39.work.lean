/-! THE CLASS'S WORKER: its state -/
def cx_t1 (X : fx_X) (sr W t wd : Nat) (o : Option (List md_Row)) : Prop := ∃ r, X.2.2.1 (sr + 8) t = some r ∧ (X.1 r 3).toInt = (wd : Int) ∧ (match o with
  | some A => cx_Rr X r W A
  | none => (X.1 r 4).toInt = 0)
def cx_tb (X : fx_X) (sr W : Nat) (tw : List Nat) (tb : List (List md_Row)) : Prop := (X.1 sr 12).toInt = (tw.length : Int) ∧ tw.length ≤ 10 ∧ tb.length ≤ tw.length ∧ ∀ t wd, tw[t]? = some wd → cx_t1 X sr W t wd tb[t]?
def cx_ls (X : fx_X) (W : Nat) : List md_Q → Prop
  | [] => True
  | q :: sk => (∃ r, X.2.2.1 101 sk.length = some r ∧ (X.1 r 3).toInt = (q.1 : Int) ∧ cx_Rr X r W q.2) ∧ cx_ls X W sk
def cx_tr (X : fx_X) (W : Nat) (tr : List (Nat → Bool)) : Prop := ∀ i f, tr[i]? = some f → ∀ w, w < W → fx_ib (X.1 106 w) i = f w
def cx_pt (X : fx_X) (sr W : Nat) (pt : List (Nat → Bool)) : Prop := (X.1 sr 15).toInt = (pt.length : Int) ∧ pt.length ≤ 20 ∧ ∀ w p, w < W → p < 32 → fx_ib (X.1 (sr + 5) w) p = (match pt[p]? with
  | some f => !f w
  | none => false)
def md_hl (W : Nat) (pt : List (Nat → Bool)) : List Nat := (List.range W).filter (fun w => pt.all (fun p => p w))
def cx_hd (X : fx_X) (sr : Nat) (L : List Nat) : Prop := (X.1 sr 14).toInt = (L.length : Int) ∧ ∀ (k w : Nat), L[k]? = some w → (X.1 (sr + 6) k).toInt = (w : Int)
def cx_ro (X : fx_X) (tb : List (List md_Row)) (rt : Nat) : Prop := (rt < tb.length → (X.1 95 13).toInt = (rt : Int)) ∧ ∀ A r, tb[rt]? = some A → A.getLast? = some r → (X.1 95 14).toInt = (r.1.length : Int)
def cx_gp (X : fx_X) (pk : Option (List Nat)) (fo fd : Int) : Prop := (∀ ps, pk = some ps → (X.1 96 1).toInt = (ps.length : Int) ∧ ps.length ≤ 6 ∧ ∀ (i c : Nat), ps[i]? = some c → (X.1 97 i).toInt = (c : Int)) ∧ (X.1 96 2).toInt = fo ∧ (X.1 96 3).toInt = fd
def cx_WS (X : fx_X) (sr W n : Nat) (val : md_V) (tw : List Nat) : md_WS → Prop
  | (tb, sk, tr, sd, rel, pt, rt, pk, fo, fd) => md_gw n (tb, sk, tr, sd, rel, pt, rt, pk, fo, fd) ∧ (sr = 54 ∨ sr = 66) ∧ cx_O X ∧ cx_ce X sr W n val ∧ cx_Sd X sr W sd rel ∧ cx_tb X sr W tw tb ∧ ((X.1 95 4).toInt = (sk.length : Int) ∧ cx_ls X W sk) ∧ (∃ rs, X.2.2.1 95 5 = some rs) ∧ cx_tr X W tr ∧ cx_pt X sr W pt ∧ cx_hd X sr (md_hl W pt) ∧ cx_ro X tb rt ∧ cx_gp X pk fo fd
section CX39
variable {X X' X0 X1 : fx_X} {v p p0 p1 p2 p3 p4 : Int32} {u : Unit} {sr r r' rs W n i j c w m wd k : Nat} {tw : List Nat} {val : md_V} {A B : List md_Row} {tb : List (List md_Row)} {sk : List md_Q} {tr pt : List (Nat → Bool)} {sd : md_Sd × md_Sd} {rel fo fd : Int} {rt : Nat} {pk : Option (List Nat)} {f : Nat → Bool}
theorem cx_147 (hB : ∀ w, w < W → fx_ib (X.1 106 w) 0 = f w) (hW : W ≤ 1024) (hw : w < W) (hp : p.toInt = (w : Int)) (g : gx_147 p X v X') : X = X' ∧ v = (if f w = true then Int32.ofInt 1 else Int32.ofInt 0) := by
  unfold gx_147 at g
  rw [if_neg (by omega), if_pos (by omega), fx_in hp] at g
  replace g := g.2
  have hh := hB w hw
  have e : (X.1 106 w &&& Int32.ofInt 1).toInt = 0 ↔ fx_ib (X.1 106 w) 0 = false := by
    have := fx_ib_has (x := X.1 106 w) (y := Int32.ofInt 0) (k := 0) rfl (by decide)
    have e2 : X.1 106 w >>> (Int32.ofInt 0 &&& 31) = X.1 106 w := by
      apply fx_ib_ext
      intro i hi
      rw [fx_ib_shr (fx_sv (y := Int32.ofInt 0) (k := 0) rfl (by decide)) (by decide) (by omega), Nat.add_zero]
    rw [e2] at this
    exact this
  rw [hh] at e
  cases hf : f w with
  | false =>
    rw [if_pos (e.mpr hf)] at g
    exact ⟨g.2.symm, g.1⟩
  | true =>
    rw [if_neg (fun z => by rw [e, hf] at z; cases z)] at g
    exact ⟨g.2.symm, g.1⟩
/-- the sides move on -/
theorem cx_141 (hSd : cx_Sd X sr W sd rel) (hs : sr = 54 ∨ sr = 66) (g : gx_141 p1 p2 X u X') : cx_Sd X' sr W (sd.2, (p1.toInt, p2)) rel ∧ X'.2 = X.2 ∧ (∀ q k, q ≠ 95 → X'.1 q k = X.1 q k) ∧ ∀ k, k < 8 ∨ 11 < k → X'.1 95 k = X.1 95 k := by
  obtain ⟨X2, rfl, X3, rfl, X4, rfl, X5, rfl, rfl⟩ := g
  obtain ⟨h1, h2, h3, h4, h5, h6, h7⟩ := hSd
  refine ⟨⟨h1, ?_, ?_, ?_, ?_, ?_, ?_⟩, rfl, fun q k hq => ?_, fun k hk => ?_⟩
  · rw [fx_rIk (by decide), fx_rIk (by decide), fx_rIk (by decide), fx_rIe]; exact h4
  · rw [fx_rIk (by decide), fx_rIk (by decide), fx_rIe, fx_rIk (by decide)]; exact h5
  · rw [fx_rIk (by decide), fx_rIe]
  · rw [fx_rIe]
  · rw [fx_rIk (by decide), fx_rIk (by decide), fx_rIk (by decide), fx_rIk (by decide)]; exact h6
  · rw [fx_rIn (by omega), fx_rIn (by omega), fx_rIn (by omega), fx_rIn (by omega)]; exact h7
  · rw [fx_rIn hq, fx_rIn hq, fx_rIn hq, fx_rIn hq]
  · rw [fx_rIk (by omega), fx_rIk (by omega), fx_rIk (by omega), fx_rIk (by omega)]
/-- the truths of a WORLD: what a note makes of them -/
def md_jd (a : Int) (b : Bool) (g : Nat → Bool) (i : Nat) : Bool := if a = 205 then (if i = 0 then !g 0 else g i) else if a = 206 then (if i = 0 then g 1 && g 0 else g (i + 1)) else if a = 207 then (if i = 0 then g 1 || g 0 else g (i + 1)) else (if i = 0 then b else g (i - 1))
theorem cx_142 {b : Bool} (hb : p1.toInt = 204 → ∀ (b7 : Nat) (w9 : Int32) (X8 : fx_X), X.2.2.1 95 5 = some b7 → gx_122 b7 (Int32.ofInt 0) p3 X w9 X8 → X = X8 ∧ w9 = (if b = true then Int32.ofInt 1 else Int32.ofInt 0)) (ha : p1.toInt = 204 ∨ p1.toInt = 205 ∨ p1.toInt = 206 ∨ p1.toInt = 207) (g : gx_142 p1 p2 p3 X v X') : X = X' ∧ ∀ i, i < 31 ∨ (i < 32 ∧ (p1.toInt = 204 ∨ p1.toInt = 205)) → fx_ib v i = md_jd p1.toInt b (fx_ib p2) i := by
  have s1 : ((Int32.ofInt 1) &&& 31).toBitVec.smod 32 = BitVec.ofNat 32 1 := by decide
  unfold gx_142 at g
  unfold md_jd
  rcases fy_ifd g with ⟨c, g⟩ | ⟨c, g⟩
  · obtain ⟨rfl, rfl⟩ := g
    refine ⟨rfl, fun i hi => ?_⟩
    rw [if_pos c, fx_ib_xor, fx_ib_1]
    by_cases z : i = 0
    · subst z; rw [if_pos rfl]; simp
    · rw [if_neg z]; simp [z]
  · simp only [if_neg c]
    rcases fy_ifd g with ⟨c1, g⟩ | ⟨c1, g⟩
    · obtain ⟨rfl, rfl⟩ := g
      refine ⟨rfl, fun i hi => ?_⟩
      have hi' : i < 31 := by omega
      have m2 : fx_ib ((Int8.ofInt (-2)).toInt32) i = decide (i ≠ 0) := by
        have key : ∀ k : Fin 32, fx_ib ((Int8.ofInt (-2)).toInt32) k.val = decide (k.val ≠ 0) := by decide
        exact key ⟨i, by omega⟩
      rw [if_pos c1, fx_ib_and, fx_ib_shr s1 (by decide) (by omega), fx_ib_or, m2]
      by_cases z : i = 0
      · subst z; rw [if_pos rfl]; simp
      · rw [if_neg z]; simp [z]
    · simp only [if_neg c1]
      rcases fy_ifd g with ⟨c2, g⟩ | ⟨c2, g⟩
      · obtain ⟨rfl, rfl⟩ := g
        refine ⟨rfl, fun i hi => ?_⟩
        rw [if_pos c2, fx_ib_or, fx_ib_shr s1 (by decide) (by omega), fx_ib_and, fx_ib_1]
        by_cases z : i = 0
        · subst z; rw [if_pos rfl]; simp
        · rw [if_neg z]; simp [z]
      · simp only [if_neg c2]
        obtain ⟨b7, eb, w9, X8, r1, g⟩ := g
        obtain ⟨rfl, rfl⟩ := hb (by omega) b7 w9 X8 eb r1
        have fin : ∀ y : Int32, (∀ i, fx_ib y i = (decide (i = 0) && b)) → v = (p2 <<< ((Int32.ofInt 1) &&& 31)) ||| y → ∀ i, i < 32 → fx_ib v i = if i = 0 then b else fx_ib p2 (i - 1) := fun y hy hv i hi => by
          rw [hv, fx_ib_or, hy, fx_ib_shl s1 (by decide) hi]
          by_cases z : i = 0
          · subst z; rw [if_pos rfl]; simp
          · have : 1 ≤ i := by omega
            rw [if_neg z]; simp [z, this]
        cases b with
        | false =>
          rw [if_pos (by decide)] at g
          exact ⟨g.2.symm, fun i hi => fin (Int32.ofInt 0) (fun i => by rw [fx_ib_0, Bool.and_false]) g.1 i (by omega)⟩
        | true =>
          rw [if_neg (by decide)] at g
          exact ⟨g.2.symm, fun i hi => fin (Int32.ofInt 1) (fun i => by rw [fx_ib_1, Bool.and_true]) g.1 i (by omega)⟩
end CX39
