/-! THE JDK'S OWN, AT ONE STEP -/
section AJNAT
variable {rn : String} {D : va_G} {cl : List vw_C} {cA : Nat → ClassId} {tb : aj_T} {base : Nat} {stA : Nat → Nat} {sf : List (String × String × String)} {nw Ts : List Cond} {own : String} {cc : ByteArray} {nL S : Nat} {mt : List aj_M}
variable {p : Program} {l : Launch} {e : Env} {R : Room} {s : State} {m : MethodId} {args : Array Value} {below : List Frame} {meth : Method} {c : Code} {Q : State → Prop} {cells slots pc pc' dc ds : Nat} {lv lv' : aj_V} {st st' : List Value} {h h' : aj_H}
theorem aj_sum_cc (ad : Nat → Nat) (st : List Value) : ((st.map (aj_c ad)).map fun v => v.category).sum = aj_sum st := by
  unfold aj_sum
  rw [List.map_map]
  congr 1
  apply List.map_congr_left
  intro v _
  exact aj_c_cat ad v
theorem aj_s_nat (hC : aj_Cx rn D cl cA tb base stA sf nw Ts own cc nL p s m args c) {rc : Nat} {cls : List aj_C} {lk : List aj_L} (hlk : aj_lksOK Ts nw cls mt sf own lk) {ret : Option FieldType} {isI : Bool} {idx len : Nat} (hR1 : 1 ≤ R.frames ∧ 40 ≤ R.locals) (hcR : cells ≤ R.cells) (hsR : slots ≤ R.slots) (hdg : decode cc pc = .ok (.invokestatic idx, len))
    (h0 : aj_step rc cls tb lk nL ret isI (.invokestatic idx) len pc lv st h = some (.inl ((pc', lv', st'), h', dc, ds)))
    (k : aj_Nx D cl cA tb.length base stA nL p l e R s m args below meth c Q (cells + dc) (slots + ds) pc' lv' st' h') : aj_Nx D cl cA tb.length base stA nL p l e R s m args below meth c Q cells slots pc lv st h := by
  obtain ⟨hx, hb, hml, hown, hts, hK, hZ, hN, hbs⟩ := hC
  intro ls H locs hl hR
  unfold aj_step at h0
  dsimp only at h0
  split at h0
  · rename_i hlen
    subst hlen
    split at h0
    · unfold aj_nat at h0
      split at h0
      · rename_i kind a1 a2 a3 hlink
        have hok := (hlk _ _ _ _ _ hlink).2.2.2.2.2.2.2.2.2.2.2
        have hmm : ∀ {f : Int32 → Int32 → Int32}, aj_nmm f pc lv st h = some (.inl ((pc', lv', st'), h', dc, ds)) → ∃ (x y : Int32) (rest : List Value), st = .int y :: .int x :: rest ∧ aj_sum rest ≤ 8 ∧ aj_Nx D cl cA tb.length base stA nL p l e R s m args below meth c Q cells slots (pc + 3) lv (.int (f x y) :: rest) h := by
          intro f hf
          unfold aj_nmm at hf
          split at hf
          · rename_i y x rest
            split at hf
            · rename_i hs
              exact ⟨x, y, rest, rfl, hs, aj_go_k hf k⟩
            · cases hf
          · cases hf
        split at h0
        · rename_i hk
          obtain ⟨w1, w2, w3, w4⟩ := hok.1 hk
          obtain ⟨x, y, rest, rfl, hs, g⟩ := hmm h0
          exact va_mmin hx hb (by rw [hml]; exact hl.1.symm) hown (hts _ w1) (hts _ w2) (hts _ w3) (hts _ w4) hR1.1 (by rw [aj_sum_cc]; have := hR1.2; omega) hcR hsR hdg (g ls H locs hl hR)
        · split at h0
          · rename_i hk
            obtain ⟨w1, w2, w3, w4⟩ := hok.2.1 hk
            obtain ⟨x, y, rest, rfl, hs, g⟩ := hmm h0
            exact va_mmax hx hb (by rw [hml]; exact hl.1.symm) hown (hts _ w1) (hts _ w2) (hts _ w3) (hts _ w4) hR1.1 (by rw [aj_sum_cc]; have := hR1.2; omega) hcR hsR hdg (g ls H locs hl hR)
          · split at h0
            · rename_i hk
              obtain ⟨w1, w2, w3, w4⟩ := hok.2.2 hk
              unfold aj_ncpy at h0
              split at h0
              · rename_i n dp a sp b rest
                split at h0
                · cases h0
                · rename_i hab
                  split at h0
                  · rename_i k0 n0 f k1 n1 g h1 h2
                    split at h0
                    · rename_i hq
                      obtain ⟨⟨rfl, rfl⟩, ⟨q1, q2, q3⟩, q4, q5, q6⟩ := hq
                      have go := aj_go_k h0 k
                      show W p l e R s m args below meth c H locs cells slots Q (F0 m pc ls (.int n :: .int dp :: aj_c (aj_ad tb.length base stA) (.ref a) :: .int sp :: aj_c (aj_ad tb.length base stA) (.ref b) :: rest.map (aj_c (aj_ad tb.length base stA))))
                      rw [aj_c_dyn (fun z => hab (Or.inl z)), aj_c_dyn (fun z => hab (Or.inr z))]
                      exact va_copyi hx hb (by rw [hml]; exact hl.1.symm) hown (hts _ w1) (hts _ w2) (hts _ w3) (hts _ w4) hK.1 hR.2.1 (aj_D h) hR.2.2 _ _ 0 0 (aj_ws_get h1) (aj_ws_get h2) rfl rfl rfl q1 q2 q3 q4 q5 (fun _ _ => rfl) hR1.1 (by rw [aj_sum_cc]; have := hR1.2; show aj_sum rest + ((5 + 2) + 11) ≤ R.locals; omega) hdg (fun H1 locs1 g1 _ g3 => go ls H1 locs1 hl (aj_Rw_set hR g1 g3))
                    · cases h0
                  · cases h0
              · cases h0
            · cases h0
      · cases h0
    · exact absurd h0 (aj_call_nl _ _ _ _ _ _ _ _ _ _)
  · cases h0
end AJNAT
