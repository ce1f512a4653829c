theorem aj_way1A {xs : Nat → Int32} (h0 : (xs 0 &&& 31).toInt = 1) (h1 : (xs 1 < 0)) : aj_LTF 6 xs 18 aj_lv0 [] (aj_sH (aj_rho xs) aj_h0) 98 aj_k0 := by
  refine aj_path (kn := aj_q1A.1) aj_p1A (fun q hq => ?_) (fun o ho => ?_)
  · exact absurd hq List.not_mem_nil
  · rcases List.mem_cons.mp ho with rfl | ho
    · exact h0
    rcases List.mem_cons.mp ho with rfl | ho
    · exact decide_eq_true h1
    rcases List.mem_cons.mp ho with rfl | ho
    · exact decide_eq_true h1
    exact absurd ho List.not_mem_nil
theorem aj_way1B {xs : Nat → Int32} (h0 : (xs 0 &&& 31).toInt = 1) (h1 : ¬ (xs 1 < 0)) (h2 : ¬ (xs 1 ≤ 0)) : aj_LTF 6 xs 18 aj_lv0 [] (aj_sH (aj_rho xs) aj_h0) 98 aj_k0 := by
  refine aj_path (kn := aj_q1B.1) aj_p1B (fun q hq => ?_) (fun o ho => ?_)
  · exact absurd hq List.not_mem_nil
  · rcases List.mem_cons.mp ho with rfl | ho
    · exact h0
    rcases List.mem_cons.mp ho with rfl | ho
    · exact decide_eq_false h1
    rcases List.mem_cons.mp ho with rfl | ho
    · exact decide_eq_false h2
    rcases List.mem_cons.mp ho with rfl | ho
    · exact decide_eq_false h1
    rcases List.mem_cons.mp ho with rfl | ho
    · exact decide_eq_false h2
    exact absurd ho List.not_mem_nil
theorem aj_way1C {xs : Nat → Int32} (h0 : xs 1 = 0) (h1 : (xs 0 &&& 31).toInt = 1) : aj_LTF 6 xs 18 aj_lv0 [] (aj_sH (aj_rho xs) aj_h0) 98 aj_k0 := by
  refine aj_path (kn := aj_q1C.1) aj_p1C (fun q hq => ?_) (fun o ho => ?_)
  · rcases List.mem_cons.mp hq with rfl | hq
    · exact h0
    · exact absurd hq List.not_mem_nil
  · rcases List.mem_cons.mp ho with rfl | ho
    · exact h1
    exact absurd ho List.not_mem_nil
theorem aj_way2 {xs : Nat → Int32} (h0 : (xs 0 &&& 31).toInt = 2) : aj_LTF 6 xs 18 aj_lv0 [] (aj_sH (aj_rho xs) aj_h0) 98 aj_k0 := by
  refine aj_path (kn := aj_q2.1) aj_p2 (fun q hq => ?_) (fun o ho => ?_)
  · exact absurd hq List.not_mem_nil
  · rcases List.mem_cons.mp ho with rfl | ho
    · exact h0
    exact absurd ho List.not_mem_nil
theorem aj_way3 {xs : Nat → Int32} (h0 : (xs 0 &&& 31).toInt = 3) : aj_LTF 6 xs 18 aj_lv0 [] (aj_sH (aj_rho xs) aj_h0) 98 aj_k0 := by
  refine aj_path (kn := aj_q3.1) aj_p3 (fun q hq => ?_) (fun o ho => ?_)
  · exact absurd hq List.not_mem_nil
  · rcases List.mem_cons.mp ho with rfl | ho
    · exact h0
    exact absurd ho List.not_mem_nil
theorem aj_way4 {xs : Nat → Int32} (h0 : (xs 0 &&& 31).toInt = 4) : aj_LTF 6 xs 18 aj_lv0 [] (aj_sH (aj_rho xs) aj_h0) 98 aj_k0 := by
  refine aj_path (kn := aj_q4.1) aj_p4 (fun q hq => ?_) (fun o ho => ?_)
  · exact absurd hq List.not_mem_nil
  · rcases List.mem_cons.mp ho with rfl | ho
    · exact h0
    exact absurd ho List.not_mem_nil
theorem aj_way5 {xs : Nat → Int32} (h0 : (xs 0 &&& 31).toInt = 5) : aj_LTF 6 xs 18 aj_lv0 [] (aj_sH (aj_rho xs) aj_h0) 98 aj_k0 := by
  refine aj_path (kn := aj_q5.1) aj_p5 (fun q hq => ?_) (fun o ho => ?_)
  · exact absurd hq List.not_mem_nil
  · rcases List.mem_cons.mp ho with rfl | ho
    · exact h0
    exact absurd ho List.not_mem_nil
theorem aj_way6 {xs : Nat → Int32} (h0 : (xs 0 &&& 31).toInt = 6) : aj_LTF 6 xs 18 aj_lv0 [] (aj_sH (aj_rho xs) aj_h0) 98 aj_k0 := by
  refine aj_path (kn := aj_q6.1) aj_p6 (fun q hq => ?_) (fun o ho => ?_)
  · exact absurd hq List.not_mem_nil
  · rcases List.mem_cons.mp ho with rfl | ho
    · exact h0
    exact absurd ho List.not_mem_nil
theorem aj_way7 {xs : Nat → Int32} (h0 : (xs 0 &&& 31).toInt = 7) : aj_LTF 6 xs 18 aj_lv0 [] (aj_sH (aj_rho xs) aj_h0) 98 aj_k0 := by
  refine aj_path (kn := aj_q7.1) aj_p7 (fun q hq => ?_) (fun o ho => ?_)
  · exact absurd hq List.not_mem_nil
  · rcases List.mem_cons.mp ho with rfl | ho
    · exact h0
    exact absurd ho List.not_mem_nil
theorem aj_way8n {xs : Nat → Int32} (h0 : (xs 0 &&& 31).toInt = 8) (h1 : (xs 1 < 0)) : aj_LTF 6 xs 18 aj_lv0 [] (aj_sH (aj_rho xs) aj_h0) 98 aj_k0 := by
  refine aj_path (kn := aj_q8n.1) aj_p8n (fun q hq => ?_) (fun o ho => ?_)
  · exact absurd hq List.not_mem_nil
  · rcases List.mem_cons.mp ho with rfl | ho
    · exact h0
    rcases List.mem_cons.mp ho with rfl | ho
    · exact decide_eq_true h1
    rcases List.mem_cons.mp ho with rfl | ho
    · exact decide_eq_true h1
    exact absurd ho List.not_mem_nil
theorem aj_way8bn {xs : Nat → Int32} (h0 : (xs 0 &&& 31).toInt = 8) (h1 : ¬ (xs 1 < 0)) (h2 : ((1 : Int32) ≤ xs 1)) (h3 : (xs 2 < 0)) : aj_LTF 6 xs 18 aj_lv0 [] (aj_sH (aj_rho xs) aj_h0) 98 aj_k0 := by
  refine aj_path (kn := aj_q8bn.1) aj_p8bn (fun q hq => ?_) (fun o ho => ?_)
  · exact absurd hq List.not_mem_nil
  · rcases List.mem_cons.mp ho with rfl | ho
    · exact h0
    rcases List.mem_cons.mp ho with rfl | ho
    · exact decide_eq_false h1
    rcases List.mem_cons.mp ho with rfl | ho
    · exact decide_eq_true h2
    rcases List.mem_cons.mp ho with rfl | ho
    · exact decide_eq_false h1
    rcases List.mem_cons.mp ho with rfl | ho
    · exact decide_eq_true h3
    exact absurd ho List.not_mem_nil
theorem aj_way8bp {xs : Nat → Int32} (h0 : (xs 0 &&& 31).toInt = 8) (h1 : ¬ (xs 1 < 0)) (h2 : ((1 : Int32) ≤ xs 1)) (h3 : ¬ (xs 2 < 0)) : aj_LTF 6 xs 18 aj_lv0 [] (aj_sH (aj_rho xs) aj_h0) 98 aj_k0 := by
  refine aj_path (kn := aj_q8bp.1) aj_p8bp (fun q hq => ?_) (fun o ho => ?_)
  · exact absurd hq List.not_mem_nil
  · rcases List.mem_cons.mp ho with rfl | ho
    · exact h0
    rcases List.mem_cons.mp ho with rfl | ho
    · exact decide_eq_false h1
    rcases List.mem_cons.mp ho with rfl | ho
    · exact decide_eq_true h2
    rcases List.mem_cons.mp ho with rfl | ho
    · exact decide_eq_false h1
    rcases List.mem_cons.mp ho with rfl | ho
    · exact decide_eq_false h3
    rcases List.mem_cons.mp ho with rfl | ho
    · exact decide_eq_false h3
    exact absurd ho List.not_mem_nil
theorem aj_way8zn {xs : Nat → Int32} (h0 : xs 1 = 0) (h1 : (xs 0 &&& 31).toInt = 8) (h2 : (xs 2 < 0)) : aj_LTF 6 xs 18 aj_lv0 [] (aj_sH (aj_rho xs) aj_h0) 98 aj_k0 := by
  refine aj_path (kn := aj_q8zn.1) aj_p8zn (fun q hq => ?_) (fun o ho => ?_)
  · rcases List.mem_cons.mp hq with rfl | hq
    · exact h0
    · exact absurd hq List.not_mem_nil
  · rcases List.mem_cons.mp ho with rfl | ho
    · exact h1
    rcases List.mem_cons.mp ho with rfl | ho
    · exact decide_eq_true h2
    rcases List.mem_cons.mp ho with rfl | ho
    · exact decide_eq_true h2
    exact absurd ho List.not_mem_nil
theorem aj_way8zp {xs : Nat → Int32} (h0 : xs 1 = 0) (h1 : (xs 0 &&& 31).toInt = 8) (h2 : ¬ (xs 2 < 0)) : aj_LTF 6 xs 18 aj_lv0 [] (aj_sH (aj_rho xs) aj_h0) 98 aj_k0 := by
  refine aj_path (kn := aj_q8zp.1) aj_p8zp (fun q hq => ?_) (fun o ho => ?_)
  · rcases List.mem_cons.mp hq with rfl | hq
    · exact h0
    · exact absurd hq List.not_mem_nil
  · rcases List.mem_cons.mp ho with rfl | ho
    · exact h1
    rcases List.mem_cons.mp ho with rfl | ho
    · exact decide_eq_false h2
    rcases List.mem_cons.mp ho with rfl | ho
    · exact decide_eq_false h2
    rcases List.mem_cons.mp ho with rfl | ho
    · exact decide_eq_false h2
    rcases List.mem_cons.mp ho with rfl | ho
    · exact decide_eq_false h2
    exact absurd ho List.not_mem_nil
theorem aj_way9n {xs : Nat → Int32} (h0 : (xs 0 &&& 31).toInt = 9) (h1 : (xs 1 < 0)) : aj_LTF 6 xs 18 aj_lv0 [] (aj_sH (aj_rho xs) aj_h0) 98 aj_k0 := by
  refine aj_path (kn := aj_q9n.1) aj_p9n (fun q hq => ?_) (fun o ho => ?_)
  · exact absurd hq List.not_mem_nil
  · rcases List.mem_cons.mp ho with rfl | ho
    · exact h0
    rcases List.mem_cons.mp ho with rfl | ho
    · exact decide_eq_true h1
    rcases List.mem_cons.mp ho with rfl | ho
    · exact decide_eq_true h1
    exact absurd ho List.not_mem_nil
theorem aj_way9p {xs : Nat → Int32} (h0 : (xs 0 &&& 31).toInt = 9) (h1 : ¬ (xs 1 < 0)) (h2 : ((0 : Int32) ≤ xs 1)) : aj_LTF 6 xs 18 aj_lv0 [] (aj_sH (aj_rho xs) aj_h0) 98 aj_k0 := by
  refine aj_path (kn := aj_q9p.1) aj_p9p (fun q hq => ?_) (fun o ho => ?_)
  · exact absurd hq List.not_mem_nil
  · rcases List.mem_cons.mp ho with rfl | ho
    · exact h0
    rcases List.mem_cons.mp ho with rfl | ho
    · exact decide_eq_false h1
    rcases List.mem_cons.mp ho with rfl | ho
    · exact decide_eq_true h2
    rcases List.mem_cons.mp ho with rfl | ho
    · exact decide_eq_false h1
    rcases List.mem_cons.mp ho with rfl | ho
    · exact decide_eq_true h2
    exact absurd ho List.not_mem_nil
theorem aj_way10n {xs : Nat → Int32} (h0 : (xs 0 &&& 31).toInt = 10) (h1 : (xs 1 < 0)) : aj_LTF 6 xs 18 aj_lv0 [] (aj_sH (aj_rho xs) aj_h0) 98 aj_k0 := by
  refine aj_path (kn := aj_q10n.1) aj_p10n (fun q hq => ?_) (fun o ho => ?_)
  · exact absurd hq List.not_mem_nil
  · rcases List.mem_cons.mp ho with rfl | ho
    · exact h0
    rcases List.mem_cons.mp ho with rfl | ho
    · exact decide_eq_true h1
    rcases List.mem_cons.mp ho with rfl | ho
    · exact decide_eq_true h1
    exact absurd ho List.not_mem_nil
theorem aj_way10p {xs : Nat → Int32} (h0 : (xs 0 &&& 31).toInt = 10) (h1 : ¬ (xs 1 < 0)) (h2 : ((0 : Int32) ≤ xs 1)) : aj_LTF 6 xs 18 aj_lv0 [] (aj_sH (aj_rho xs) aj_h0) 98 aj_k0 := by
  refine aj_path (kn := aj_q10p.1) aj_p10p (fun q hq => ?_) (fun o ho => ?_)
  · exact absurd hq List.not_mem_nil
  · rcases List.mem_cons.mp ho with rfl | ho
    · exact h0
    rcases List.mem_cons.mp ho with rfl | ho
    · exact decide_eq_false h1
    rcases List.mem_cons.mp ho with rfl | ho
    · exact decide_eq_true h2
    rcases List.mem_cons.mp ho with rfl | ho
    · exact decide_eq_false h1
    rcases List.mem_cons.mp ho with rfl | ho
    · exact decide_eq_true h2
    exact absurd ho List.not_mem_nil
theorem aj_way11n {xs : Nat → Int32} (h0 : (xs 0 &&& 31).toInt = 11) (h1 : (xs 1 < 0)) : aj_LTF 6 xs 18 aj_lv0 [] (aj_sH (aj_rho xs) aj_h0) 98 aj_k0 := by
  refine aj_path (kn := aj_q11n.1) aj_p11n (fun q hq => ?_) (fun o ho => ?_)
  · exact absurd hq List.not_mem_nil
  · rcases List.mem_cons.mp ho with rfl | ho
    · exact h0
    rcases List.mem_cons.mp ho with rfl | ho
    · exact decide_eq_true h1
    rcases List.mem_cons.mp ho with rfl | ho
    · exact decide_eq_true h1
    exact absurd ho List.not_mem_nil
theorem aj_way11p {xs : Nat → Int32} (h0 : (xs 0 &&& 31).toInt = 11) (h1 : ¬ (xs 1 < 0)) (h2 : ((0 : Int32) ≤ xs 1)) : aj_LTF 6 xs 18 aj_lv0 [] (aj_sH (aj_rho xs) aj_h0) 98 aj_k0 := by
  refine aj_path (kn := aj_q11p.1) aj_p11p (fun q hq => ?_) (fun o ho => ?_)
  · exact absurd hq List.not_mem_nil
  · rcases List.mem_cons.mp ho with rfl | ho
    · exact h0
    rcases List.mem_cons.mp ho with rfl | ho
    · exact decide_eq_false h1
    rcases List.mem_cons.mp ho with rfl | ho
    · exact decide_eq_true h2
    rcases List.mem_cons.mp ho with rfl | ho
    · exact decide_eq_false h1
    rcases List.mem_cons.mp ho with rfl | ho
    · exact decide_eq_true h2
    exact absurd ho List.not_mem_nil
theorem aj_way15n {xs : Nat → Int32} (h0 : (xs 0 &&& 31).toInt = 15) (h1 : (xs 1 < 0)) : aj_LTF 6 xs 18 aj_lv0 [] (aj_sH (aj_rho xs) aj_h0) 98 aj_k0 := by
  refine aj_path (kn := aj_q15n.1) aj_p15n (fun q hq => ?_) (fun o ho => ?_)
  · exact absurd hq List.not_mem_nil
  · rcases List.mem_cons.mp ho with rfl | ho
    · exact h0
    rcases List.mem_cons.mp ho with rfl | ho
    · exact decide_eq_true h1
    rcases List.mem_cons.mp ho with rfl | ho
    · exact decide_eq_true h1
    exact absurd ho List.not_mem_nil
theorem aj_way15p {xs : Nat → Int32} (h0 : (xs 0 &&& 31).toInt = 15) (h1 : ¬ (xs 1 < 0)) (h2 : ((0 : Int32) ≤ xs 1)) : aj_LTF 6 xs 18 aj_lv0 [] (aj_sH (aj_rho xs) aj_h0) 98 aj_k0 := by
  refine aj_path (kn := aj_q15p.1) aj_p15p (fun q hq => ?_) (fun o ho => ?_)
  · exact absurd hq List.not_mem_nil
  · rcases List.mem_cons.mp ho with rfl | ho
    · exact h0
    rcases List.mem_cons.mp ho with rfl | ho
    · exact decide_eq_false h1
    rcases List.mem_cons.mp ho with rfl | ho
    · exact decide_eq_true h2
    rcases List.mem_cons.mp ho with rfl | ho
    · exact decide_eq_false h1
    rcases List.mem_cons.mp ho with rfl | ho
    · exact decide_eq_true h2
    exact absurd ho List.not_mem_nil
theorem aj_way16n {xs : Nat → Int32} (h0 : (xs 0 &&& 31).toInt = 16) (h1 : (xs 1 < 0)) : aj_LTF 6 xs 18 aj_lv0 [] (aj_sH (aj_rho xs) aj_h0) 98 aj_k0 := by
  refine aj_path (kn := aj_q16n.1) aj_p16n (fun q hq => ?_) (fun o ho => ?_)
  · exact absurd hq List.not_mem_nil
  · rcases List.mem_cons.mp ho with rfl | ho
    · exact h0
    rcases List.mem_cons.mp ho with rfl | ho
    · exact decide_eq_true h1
    rcases List.mem_cons.mp ho with rfl | ho
    · exact decide_eq_true h1
    exact absurd ho List.not_mem_nil
theorem aj_way16p {xs : Nat → Int32} (h0 : (xs 0 &&& 31).toInt = 16) (h1 : ¬ (xs 1 < 0)) (h2 : ((0 : Int32) ≤ xs 1)) : aj_LTF 6 xs 18 aj_lv0 [] (aj_sH (aj_rho xs) aj_h0) 98 aj_k0 := by
  refine aj_path (kn := aj_q16p.1) aj_p16p (fun q hq => ?_) (fun o ho => ?_)
  · exact absurd hq List.not_mem_nil
  · rcases List.mem_cons.mp ho with rfl | ho
    · exact h0
    rcases List.mem_cons.mp ho with rfl | ho
    · exact decide_eq_false h1
    rcases List.mem_cons.mp ho with rfl | ho
    · exact decide_eq_true h2
    rcases List.mem_cons.mp ho with rfl | ho
    · exact decide_eq_false h1
    rcases List.mem_cons.mp ho with rfl | ho
    · exact decide_eq_true h2
    exact absurd ho List.not_mem_nil
theorem aj_way17n {xs : Nat → Int32} (h0 : (xs 0 &&& 31).toInt = 17) (h1 : (xs 1 < 0)) : aj_LTF 6 xs 18 aj_lv0 [] (aj_sH (aj_rho xs) aj_h0) 98 aj_k0 := by
  refine aj_path (kn := aj_q17n.1) aj_p17n (fun q hq => ?_) (fun o ho => ?_)
  · exact absurd hq List.not_mem_nil
  · rcases List.mem_cons.mp ho with rfl | ho
    · exact h0
    rcases List.mem_cons.mp ho with rfl | ho
    · exact decide_eq_true h1
    rcases List.mem_cons.mp ho with rfl | ho
    · exact decide_eq_true h1
    exact absurd ho List.not_mem_nil
theorem aj_way17p {xs : Nat → Int32} (h0 : (xs 0 &&& 31).toInt = 17) (h1 : ¬ (xs 1 < 0)) (h2 : ((0 : Int32) ≤ xs 1)) : aj_LTF 6 xs 18 aj_lv0 [] (aj_sH (aj_rho xs) aj_h0) 98 aj_k0 := by
  refine aj_path (kn := aj_q17p.1) aj_p17p (fun q hq => ?_) (fun o ho => ?_)
  · exact absurd hq List.not_mem_nil
  · rcases List.mem_cons.mp ho with rfl | ho
    · exact h0
    rcases List.mem_cons.mp ho with rfl | ho
    · exact decide_eq_false h1
    rcases List.mem_cons.mp ho with rfl | ho
    · exact decide_eq_true h2
    rcases List.mem_cons.mp ho with rfl | ho
    · exact decide_eq_false h1
    rcases List.mem_cons.mp ho with rfl | ho
    · exact decide_eq_true h2
    exact absurd ho List.not_mem_nil
theorem aj_way12nn {xs : Nat → Int32} (h0 : (xs 0 &&& 31).toInt = 12) (h1 : (xs 1 < 0)) (h2 : (xs 3 < 0)) : aj_LTF 6 xs 18 aj_lv0 [] (aj_sH (aj_rho xs) aj_h0) 98 aj_k0 := by
  refine aj_path (kn := aj_q12nn.1) aj_p12nn (fun q hq => ?_) (fun o ho => ?_)
  · exact absurd hq List.not_mem_nil
  · rcases List.mem_cons.mp ho with rfl | ho
    · exact h0
    rcases List.mem_cons.mp ho with rfl | ho
    · exact decide_eq_true h1
    rcases List.mem_cons.mp ho with rfl | ho
    · exact decide_eq_true h2
    rcases List.mem_cons.mp ho with rfl | ho
    · exact decide_eq_true h1
    exact absurd ho List.not_mem_nil
theorem aj_way12nb {xs : Nat → Int32} (h0 : (xs 0 &&& 31).toInt = 12) (h1 : (xs 1 < 0)) (h2 : ¬ (xs 3 < 0)) (h3 : ((1 : Int32) ≤ xs 3)) : aj_LTF 6 xs 18 aj_lv0 [] (aj_sH (aj_rho xs) aj_h0) 98 aj_k0 := by
  refine aj_path (kn := aj_q12nb.1) aj_p12nb (fun q hq => ?_) (fun o ho => ?_)
  · exact absurd hq List.not_mem_nil
  · rcases List.mem_cons.mp ho with rfl | ho
    · exact h0
    rcases List.mem_cons.mp ho with rfl | ho
    · exact decide_eq_true h1
    rcases List.mem_cons.mp ho with rfl | ho
    · exact decide_eq_false h2
    rcases List.mem_cons.mp ho with rfl | ho
    · exact decide_eq_true h3
    rcases List.mem_cons.mp ho with rfl | ho
    · exact decide_eq_true h1
    exact absurd ho List.not_mem_nil
theorem aj_way12nz {xs : Nat → Int32} (h0 : xs 3 = 0) (h1 : (xs 0 &&& 31).toInt = 12) (h2 : (xs 1 < 0)) : aj_LTF 6 xs 18 aj_lv0 [] (aj_sH (aj_rho xs) aj_h0) 98 aj_k0 := by
  refine aj_path (kn := aj_q12nz.1) aj_p12nz (fun q hq => ?_) (fun o ho => ?_)
  · rcases List.mem_cons.mp hq with rfl | hq
    · exact h0
    · exact absurd hq List.not_mem_nil
  · rcases List.mem_cons.mp ho with rfl | ho
    · exact h1
    rcases List.mem_cons.mp ho with rfl | ho
    · exact decide_eq_true h2
    rcases List.mem_cons.mp ho with rfl | ho
    · exact decide_eq_true h2
    exact absurd ho List.not_mem_nil
theorem aj_way12pn {xs : Nat → Int32} (h0 : (xs 0 &&& 31).toInt = 12) (h1 : ¬ (xs 1 < 0)) (h2 : ((0 : Int32) ≤ xs 1)) (h3 : (xs 3 < 0)) : aj_LTF 6 xs 18 aj_lv0 [] (aj_sH (aj_rho xs) aj_h0) 98 aj_k0 := by
  refine aj_path (kn := aj_q12pn.1) aj_p12pn (fun q hq => ?_) (fun o ho => ?_)
  · exact absurd hq List.not_mem_nil
  · rcases List.mem_cons.mp ho with rfl | ho
    · exact h0
    rcases List.mem_cons.mp ho with rfl | ho
    · exact decide_eq_false h1
    rcases List.mem_cons.mp ho with rfl | ho
    · exact decide_eq_true h2
    rcases List.mem_cons.mp ho with rfl | ho
    · exact decide_eq_true h3
    rcases List.mem_cons.mp ho with rfl | ho
    · exact decide_eq_false h1
    rcases List.mem_cons.mp ho with rfl | ho
    · exact decide_eq_true h2
    exact absurd ho List.not_mem_nil
theorem aj_way12pb {xs : Nat → Int32} (h0 : (xs 0 &&& 31).toInt = 12) (h1 : ¬ (xs 1 < 0)) (h2 : ((0 : Int32) ≤ xs 1)) (h3 : ¬ (xs 3 < 0)) (h4 : ((1 : Int32) ≤ xs 3)) : aj_LTF 6 xs 18 aj_lv0 [] (aj_sH (aj_rho xs) aj_h0) 98 aj_k0 := by
  refine aj_path (kn := aj_q12pb.1) aj_p12pb (fun q hq => ?_) (fun o ho => ?_)
  · exact absurd hq List.not_mem_nil
  · rcases List.mem_cons.mp ho with rfl | ho
    · exact h0
    rcases List.mem_cons.mp ho with rfl | ho
    · exact decide_eq_false h1
    rcases List.mem_cons.mp ho with rfl | ho
    · exact decide_eq_true h2
    rcases List.mem_cons.mp ho with rfl | ho
    · exact decide_eq_false h3
    rcases List.mem_cons.mp ho with rfl | ho
    · exact decide_eq_true h4
    rcases List.mem_cons.mp ho with rfl | ho
    · exact decide_eq_false h1
    rcases List.mem_cons.mp ho with rfl | ho
    · exact decide_eq_true h2
    exact absurd ho List.not_mem_nil
theorem aj_way12pz {xs : Nat → Int32} (h0 : xs 3 = 0) (h1 : (xs 0 &&& 31).toInt = 12) (h2 : ¬ (xs 1 < 0)) (h3 : ((0 : Int32) ≤ xs 1)) : aj_LTF 6 xs 18 aj_lv0 [] (aj_sH (aj_rho xs) aj_h0) 98 aj_k0 := by
  refine aj_path (kn := aj_q12pz.1) aj_p12pz (fun q hq => ?_) (fun o ho => ?_)
  · rcases List.mem_cons.mp hq with rfl | hq
    · exact h0
    · exact absurd hq List.not_mem_nil
  · rcases List.mem_cons.mp ho with rfl | ho
    · exact h1
    rcases List.mem_cons.mp ho with rfl | ho
    · exact decide_eq_false h2
    rcases List.mem_cons.mp ho with rfl | ho
    · exact decide_eq_true h3
    rcases List.mem_cons.mp ho with rfl | ho
    · exact decide_eq_false h2
    rcases List.mem_cons.mp ho with rfl | ho
    · exact decide_eq_true h3
    exact absurd ho List.not_mem_nil
theorem aj_way13nn {xs : Nat → Int32} (h0 : (xs 0 &&& 31).toInt = 13) (h1 : (xs 1 < 0)) (h2 : (xs 2 < 0)) : aj_LTF 6 xs 18 aj_lv0 [] (aj_sH (aj_rho xs) aj_h0) 98 aj_k0 := by
  refine aj_path (kn := aj_q13nn.1) aj_p13nn (fun q hq => ?_) (fun o ho => ?_)
  · exact absurd hq List.not_mem_nil
  · rcases List.mem_cons.mp ho with rfl | ho
    · exact h0
    rcases List.mem_cons.mp ho with rfl | ho
    · exact decide_eq_true h1
    rcases List.mem_cons.mp ho with rfl | ho
    · exact decide_eq_true h2
    rcases List.mem_cons.mp ho with rfl | ho
    · exact decide_eq_true h1
    exact absurd ho List.not_mem_nil
theorem aj_way13nb {xs : Nat → Int32} (h0 : (xs 0 &&& 31).toInt = 13) (h1 : (xs 1 < 0)) (h2 : ¬ (xs 2 < 0)) (h3 : ((1 : Int32) ≤ xs 2)) : aj_LTF 6 xs 18 aj_lv0 [] (aj_sH (aj_rho xs) aj_h0) 98 aj_k0 := by
  refine aj_path (kn := aj_q13nb.1) aj_p13nb (fun q hq => ?_) (fun o ho => ?_)
  · exact absurd hq List.not_mem_nil
  · rcases List.mem_cons.mp ho with rfl | ho
    · exact h0
    rcases List.mem_cons.mp ho with rfl | ho
    · exact decide_eq_true h1
    rcases List.mem_cons.mp ho with rfl | ho
    · exact decide_eq_false h2
    rcases List.mem_cons.mp ho with rfl | ho
    · exact decide_eq_true h3
    rcases List.mem_cons.mp ho with rfl | ho
    · exact decide_eq_true h1
    exact absurd ho List.not_mem_nil
theorem aj_way13nz {xs : Nat → Int32} (h0 : xs 2 = 0) (h1 : (xs 0 &&& 31).toInt = 13) (h2 : (xs 1 < 0)) : aj_LTF 6 xs 18 aj_lv0 [] (aj_sH (aj_rho xs) aj_h0) 98 aj_k0 := by
  refine aj_path (kn := aj_q13nz.1) aj_p13nz (fun q hq => ?_) (fun o ho => ?_)
  · rcases List.mem_cons.mp hq with rfl | hq
    · exact h0
    · exact absurd hq List.not_mem_nil
  · rcases List.mem_cons.mp ho with rfl | ho
    · exact h1
    rcases List.mem_cons.mp ho with rfl | ho
    · exact decide_eq_true h2
    rcases List.mem_cons.mp ho with rfl | ho
    · exact decide_eq_true h2
    exact absurd ho List.not_mem_nil
theorem aj_way13pn {xs : Nat → Int32} (h0 : (xs 0 &&& 31).toInt = 13) (h1 : ¬ (xs 1 < 0)) (h2 : ((0 : Int32) ≤ xs 1)) (h3 : (xs 2 < 0)) : aj_LTF 6 xs 18 aj_lv0 [] (aj_sH (aj_rho xs) aj_h0) 98 aj_k0 := by
  refine aj_path (kn := aj_q13pn.1) aj_p13pn (fun q hq => ?_) (fun o ho => ?_)
  · exact absurd hq List.not_mem_nil
  · rcases List.mem_cons.mp ho with rfl | ho
    · exact h0
    rcases List.mem_cons.mp ho with rfl | ho
    · exact decide_eq_false h1
    rcases List.mem_cons.mp ho with rfl | ho
    · exact decide_eq_true h2
    rcases List.mem_cons.mp ho with rfl | ho
    · exact decide_eq_true h3
    rcases List.mem_cons.mp ho with rfl | ho
    · exact decide_eq_false h1
    rcases List.mem_cons.mp ho with rfl | ho
    · exact decide_eq_true h2
    exact absurd ho List.not_mem_nil
theorem aj_way13pb {xs : Nat → Int32} (h0 : (xs 0 &&& 31).toInt = 13) (h1 : ¬ (xs 1 < 0)) (h2 : ((0 : Int32) ≤ xs 1)) (h3 : ¬ (xs 2 < 0)) (h4 : ((1 : Int32) ≤ xs 2)) : aj_LTF 6 xs 18 aj_lv0 [] (aj_sH (aj_rho xs) aj_h0) 98 aj_k0 := by
  refine aj_path (kn := aj_q13pb.1) aj_p13pb (fun q hq => ?_) (fun o ho => ?_)
  · exact absurd hq List.not_mem_nil
  · rcases List.mem_cons.mp ho with rfl | ho
    · exact h0
    rcases List.mem_cons.mp ho with rfl | ho
    · exact decide_eq_false h1
    rcases List.mem_cons.mp ho with rfl | ho
    · exact decide_eq_true h2
    rcases List.mem_cons.mp ho with rfl | ho
    · exact decide_eq_false h3
    rcases List.mem_cons.mp ho with rfl | ho
    · exact decide_eq_true h4
    rcases List.mem_cons.mp ho with rfl | ho
    · exact decide_eq_false h1
    rcases List.mem_cons.mp ho with rfl | ho
    · exact decide_eq_true h2
    exact absurd ho List.not_mem_nil
theorem aj_way13pz {xs : Nat → Int32} (h0 : xs 2 = 0) (h1 : (xs 0 &&& 31).toInt = 13) (h2 : ¬ (xs 1 < 0)) (h3 : ((0 : Int32) ≤ xs 1)) : aj_LTF 6 xs 18 aj_lv0 [] (aj_sH (aj_rho xs) aj_h0) 98 aj_k0 := by
  refine aj_path (kn := aj_q13pz.1) aj_p13pz (fun q hq => ?_) (fun o ho => ?_)
  · rcases List.mem_cons.mp hq with rfl | hq
    · exact h0
    · exact absurd hq List.not_mem_nil
  · rcases List.mem_cons.mp ho with rfl | ho
    · exact h1
    rcases List.mem_cons.mp ho with rfl | ho
    · exact decide_eq_false h2
    rcases List.mem_cons.mp ho with rfl | ho
    · exact decide_eq_true h3
    rcases List.mem_cons.mp ho with rfl | ho
    · exact decide_eq_false h2
    rcases List.mem_cons.mp ho with rfl | ho
    · exact decide_eq_true h3
    exact absurd ho List.not_mem_nil
theorem aj_way14nn {xs : Nat → Int32} (h0 : (xs 0 &&& 31).toInt = 14) (h1 : (xs 1 < 0)) (h2 : (xs 2 < 0)) : aj_LTF 6 xs 18 aj_lv0 [] (aj_sH (aj_rho xs) aj_h0) 98 aj_k0 := by
  refine aj_path (kn := aj_q14nn.1) aj_p14nn (fun q hq => ?_) (fun o ho => ?_)
  · exact absurd hq List.not_mem_nil
  · rcases List.mem_cons.mp ho with rfl | ho
    · exact h0
    rcases List.mem_cons.mp ho with rfl | ho
    · exact decide_eq_true h1
    rcases List.mem_cons.mp ho with rfl | ho
    · exact decide_eq_true h2
    rcases List.mem_cons.mp ho with rfl | ho
    · exact decide_eq_true h1
    exact absurd ho List.not_mem_nil
theorem aj_way14nb {xs : Nat → Int32} (h0 : (xs 0 &&& 31).toInt = 14) (h1 : (xs 1 < 0)) (h2 : ¬ (xs 2 < 0)) (h3 : ((1 : Int32) ≤ xs 2)) : aj_LTF 6 xs 18 aj_lv0 [] (aj_sH (aj_rho xs) aj_h0) 98 aj_k0 := by
  refine aj_path (kn := aj_q14nb.1) aj_p14nb (fun q hq => ?_) (fun o ho => ?_)
  · exact absurd hq List.not_mem_nil
  · rcases List.mem_cons.mp ho with rfl | ho
    · exact h0
    rcases List.mem_cons.mp ho with rfl | ho
    · exact decide_eq_true h1
    rcases List.mem_cons.mp ho with rfl | ho
    · exact decide_eq_false h2
    rcases List.mem_cons.mp ho with rfl | ho
    · exact decide_eq_true h3
    rcases List.mem_cons.mp ho with rfl | ho
    · exact decide_eq_true h1
    exact absurd ho List.not_mem_nil
theorem aj_way14nz {xs : Nat → Int32} (h0 : xs 2 = 0) (h1 : (xs 0 &&& 31).toInt = 14) (h2 : (xs 1 < 0)) : aj_LTF 6 xs 18 aj_lv0 [] (aj_sH (aj_rho xs) aj_h0) 98 aj_k0 := by
  refine aj_path (kn := aj_q14nz.1) aj_p14nz (fun q hq => ?_) (fun o ho => ?_)
  · rcases List.mem_cons.mp hq with rfl | hq
    · exact h0
    · exact absurd hq List.not_mem_nil
  · rcases List.mem_cons.mp ho with rfl | ho
    · exact h1
    rcases List.mem_cons.mp ho with rfl | ho
    · exact decide_eq_true h2
    rcases List.mem_cons.mp ho with rfl | ho
    · exact decide_eq_true h2
    exact absurd ho List.not_mem_nil
theorem aj_way14pn {xs : Nat → Int32} (h0 : (xs 0 &&& 31).toInt = 14) (h1 : ¬ (xs 1 < 0)) (h2 : ((0 : Int32) ≤ xs 1)) (h3 : (xs 2 < 0)) : aj_LTF 6 xs 18 aj_lv0 [] (aj_sH (aj_rho xs) aj_h0) 98 aj_k0 := by
  refine aj_path (kn := aj_q14pn.1) aj_p14pn (fun q hq => ?_) (fun o ho => ?_)
  · exact absurd hq List.not_mem_nil
  · rcases List.mem_cons.mp ho with rfl | ho
    · exact h0
    rcases List.mem_cons.mp ho with rfl | ho
    · exact decide_eq_false h1
    rcases List.mem_cons.mp ho with rfl | ho
    · exact decide_eq_true h2
    rcases List.mem_cons.mp ho with rfl | ho
    · exact decide_eq_true h3
    rcases List.mem_cons.mp ho with rfl | ho
    · exact decide_eq_false h1
    rcases List.mem_cons.mp ho with rfl | ho
    · exact decide_eq_true h2
    exact absurd ho List.not_mem_nil
theorem aj_way14pb {xs : Nat → Int32} (h0 : (xs 0 &&& 31).toInt = 14) (h1 : ¬ (xs 1 < 0)) (h2 : ((0 : Int32) ≤ xs 1)) (h3 : ¬ (xs 2 < 0)) (h4 : ((1 : Int32) ≤ xs 2)) : aj_LTF 6 xs 18 aj_lv0 [] (aj_sH (aj_rho xs) aj_h0) 98 aj_k0 := by
  refine aj_path (kn := aj_q14pb.1) aj_p14pb (fun q hq => ?_) (fun o ho => ?_)
  · exact absurd hq List.not_mem_nil
  · rcases List.mem_cons.mp ho with rfl | ho
    · exact h0
    rcases List.mem_cons.mp ho with rfl | ho
    · exact decide_eq_false h1
    rcases List.mem_cons.mp ho with rfl | ho
    · exact decide_eq_true h2
    rcases List.mem_cons.mp ho with rfl | ho
    · exact decide_eq_false h3
    rcases List.mem_cons.mp ho with rfl | ho
    · exact decide_eq_true h4
    rcases List.mem_cons.mp ho with rfl | ho
    · exact decide_eq_false h1
    rcases List.mem_cons.mp ho with rfl | ho
    · exact decide_eq_true h2
    exact absurd ho List.not_mem_nil
theorem aj_way14pz {xs : Nat → Int32} (h0 : xs 2 = 0) (h1 : (xs 0 &&& 31).toInt = 14) (h2 : ¬ (xs 1 < 0)) (h3 : ((0 : Int32) ≤ xs 1)) : aj_LTF 6 xs 18 aj_lv0 [] (aj_sH (aj_rho xs) aj_h0) 98 aj_k0 := by
  refine aj_path (kn := aj_q14pz.1) aj_p14pz (fun q hq => ?_) (fun o ho => ?_)
  · rcases List.mem_cons.mp hq with rfl | hq
    · exact h0
    · exact absurd hq List.not_mem_nil
  · rcases List.mem_cons.mp ho with rfl | ho
    · exact h1
    rcases List.mem_cons.mp ho with rfl | ho
    · exact decide_eq_false h2
    rcases List.mem_cons.mp ho with rfl | ho
    · exact decide_eq_true h3
    rcases List.mem_cons.mp ho with rfl | ho
    · exact decide_eq_false h2
    rcases List.mem_cons.mp ho with rfl | ho
    · exact decide_eq_true h3
    exact absurd ho List.not_mem_nil
theorem aj_way18nn {xs : Nat → Int32} (h0 : (xs 0 &&& 31).toInt = 18) (h1 : (xs 1 < 0)) (h2 : (xs 2 < 0)) : aj_LTF 6 xs 18 aj_lv0 [] (aj_sH (aj_rho xs) aj_h0) 98 aj_k0 := by
  refine aj_path (kn := aj_q18nn.1) aj_p18nn (fun q hq => ?_) (fun o ho => ?_)
  · exact absurd hq List.not_mem_nil
  · rcases List.mem_cons.mp ho with rfl | ho
    · exact h0
    rcases List.mem_cons.mp ho with rfl | ho
    · exact decide_eq_true h1
    rcases List.mem_cons.mp ho with rfl | ho
    · exact decide_eq_true h2
    rcases List.mem_cons.mp ho with rfl | ho
    · exact decide_eq_true h1
    exact absurd ho List.not_mem_nil
theorem aj_way18np {xs : Nat → Int32} (h0 : (xs 0 &&& 31).toInt = 18) (h1 : (xs 1 < 0)) (h2 : ¬ (xs 2 < 0)) (h3 : ((0 : Int32) ≤ xs 2)) : aj_LTF 6 xs 18 aj_lv0 [] (aj_sH (aj_rho xs) aj_h0) 98 aj_k0 := by
  refine aj_path (kn := aj_q18np.1) aj_p18np (fun q hq => ?_) (fun o ho => ?_)
  · exact absurd hq List.not_mem_nil
  · rcases List.mem_cons.mp ho with rfl | ho
    · exact h0
    rcases List.mem_cons.mp ho with rfl | ho
    · exact decide_eq_true h1
    rcases List.mem_cons.mp ho with rfl | ho
    · exact decide_eq_false h2
    rcases List.mem_cons.mp ho with rfl | ho
    · exact decide_eq_true h3
    rcases List.mem_cons.mp ho with rfl | ho
    · exact decide_eq_true h1
    exact absurd ho List.not_mem_nil
theorem aj_way18pn {xs : Nat → Int32} (h0 : (xs 0 &&& 31).toInt = 18) (h1 : ¬ (xs 1 < 0)) (h2 : ((0 : Int32) ≤ xs 1)) (h3 : (xs 2 < 0)) : aj_LTF 6 xs 18 aj_lv0 [] (aj_sH (aj_rho xs) aj_h0) 98 aj_k0 := by
  refine aj_path (kn := aj_q18pn.1) aj_p18pn (fun q hq => ?_) (fun o ho => ?_)
  · exact absurd hq List.not_mem_nil
  · rcases List.mem_cons.mp ho with rfl | ho
    · exact h0
    rcases List.mem_cons.mp ho with rfl | ho
    · exact decide_eq_false h1
    rcases List.mem_cons.mp ho with rfl | ho
    · exact decide_eq_true h2
    rcases List.mem_cons.mp ho with rfl | ho
    · exact decide_eq_true h3
    rcases List.mem_cons.mp ho with rfl | ho
    · exact decide_eq_false h1
    rcases List.mem_cons.mp ho with rfl | ho
    · exact decide_eq_true h2
    exact absurd ho List.not_mem_nil
theorem aj_way18pp {xs : Nat → Int32} (h0 : (xs 0 &&& 31).toInt = 18) (h1 : ¬ (xs 1 < 0)) (h2 : ((0 : Int32) ≤ xs 1)) (h3 : ¬ (xs 2 < 0)) (h4 : ((0 : Int32) ≤ xs 2)) : aj_LTF 6 xs 18 aj_lv0 [] (aj_sH (aj_rho xs) aj_h0) 98 aj_k0 := by
  refine aj_path (kn := aj_q18pp.1) aj_p18pp (fun q hq => ?_) (fun o ho => ?_)
  · exact absurd hq List.not_mem_nil
  · rcases List.mem_cons.mp ho with rfl | ho
    · exact h0
    rcases List.mem_cons.mp ho with rfl | ho
    · exact decide_eq_false h1
    rcases List.mem_cons.mp ho with rfl | ho
    · exact decide_eq_true h2
    rcases List.mem_cons.mp ho with rfl | ho
    · exact decide_eq_false h3
    rcases List.mem_cons.mp ho with rfl | ho
    · exact decide_eq_true h4
    rcases List.mem_cons.mp ho with rfl | ho
    · exact decide_eq_false h1
    rcases List.mem_cons.mp ho with rfl | ho
    · exact decide_eq_true h2
    exact absurd ho List.not_mem_nil
theorem aj_way19_0 {xs : Nat → Int32} (h0 : (xs 0 &&& 31).toInt = 19) (h1 : (xs 1).toInt = 0) : aj_LTF 6 xs 18 aj_lv0 [] (aj_sH (aj_rho xs) aj_h0) 98 aj_k0 := by
  refine aj_path (kn := aj_q19_0.1) aj_p19_0 (fun q hq => ?_) (fun o ho => ?_)
  · exact absurd hq List.not_mem_nil
  · rcases List.mem_cons.mp ho with rfl | ho
    · exact h0
    rcases List.mem_cons.mp ho with rfl | ho
    · exact h1
    rcases List.mem_cons.mp ho with rfl | ho
    · exact h1
    exact absurd ho List.not_mem_nil
theorem aj_way19_1 {xs : Nat → Int32} (h0 : (xs 0 &&& 31).toInt = 19) (h1 : (xs 1).toInt = 1) : aj_LTF 6 xs 18 aj_lv0 [] (aj_sH (aj_rho xs) aj_h0) 98 aj_k0 := by
  refine aj_path (kn := aj_q19_1.1) aj_p19_1 (fun q hq => ?_) (fun o ho => ?_)
  · exact absurd hq List.not_mem_nil
  · rcases List.mem_cons.mp ho with rfl | ho
    · exact h0
    rcases List.mem_cons.mp ho with rfl | ho
    · exact h1
    rcases List.mem_cons.mp ho with rfl | ho
    · exact h1
    exact absurd ho List.not_mem_nil
theorem aj_way19_2 {xs : Nat → Int32} (h0 : (xs 0 &&& 31).toInt = 19) (h1 : (xs 1).toInt = 2) : aj_LTF 6 xs 18 aj_lv0 [] (aj_sH (aj_rho xs) aj_h0) 98 aj_k0 := by
  refine aj_path (kn := aj_q19_2.1) aj_p19_2 (fun q hq => ?_) (fun o ho => ?_)
  · exact absurd hq List.not_mem_nil
  · rcases List.mem_cons.mp ho with rfl | ho
    · exact h0
    rcases List.mem_cons.mp ho with rfl | ho
    · exact h1
    rcases List.mem_cons.mp ho with rfl | ho
    · exact h1
    exact absurd ho List.not_mem_nil
theorem aj_way19_3 {xs : Nat → Int32} (h0 : (xs 0 &&& 31).toInt = 19) (h1 : (xs 1).toInt = 3) : aj_LTF 6 xs 18 aj_lv0 [] (aj_sH (aj_rho xs) aj_h0) 98 aj_k0 := by
  refine aj_path (kn := aj_q19_3.1) aj_p19_3 (fun q hq => ?_) (fun o ho => ?_)
  · exact absurd hq List.not_mem_nil
  · rcases List.mem_cons.mp ho with rfl | ho
    · exact h0
    rcases List.mem_cons.mp ho with rfl | ho
    · exact h1
    rcases List.mem_cons.mp ho with rfl | ho
    · exact h1
    exact absurd ho List.not_mem_nil
theorem aj_way19_4 {xs : Nat → Int32} (h0 : (xs 0 &&& 31).toInt = 19) (h1 : (xs 1).toInt = 4) : aj_LTF 6 xs 18 aj_lv0 [] (aj_sH (aj_rho xs) aj_h0) 98 aj_k0 := by
  refine aj_path (kn := aj_q19_4.1) aj_p19_4 (fun q hq => ?_) (fun o ho => ?_)
  · exact absurd hq List.not_mem_nil
  · rcases List.mem_cons.mp ho with rfl | ho
    · exact h0
    rcases List.mem_cons.mp ho with rfl | ho
    · exact h1
    rcases List.mem_cons.mp ho with rfl | ho
    · exact h1
    exact absurd ho List.not_mem_nil
theorem aj_way19_5 {xs : Nat → Int32} (h0 : (xs 0 &&& 31).toInt = 19) (h1 : (xs 1).toInt = 5) : aj_LTF 6 xs 18 aj_lv0 [] (aj_sH (aj_rho xs) aj_h0) 98 aj_k0 := by
  refine aj_path (kn := aj_q19_5.1) aj_p19_5 (fun q hq => ?_) (fun o ho => ?_)
  · exact absurd hq List.not_mem_nil
  · rcases List.mem_cons.mp ho with rfl | ho
    · exact h0
    rcases List.mem_cons.mp ho with rfl | ho
    · exact h1
    rcases List.mem_cons.mp ho with rfl | ho
    · exact h1
    exact absurd ho List.not_mem_nil
theorem aj_way19_6 {xs : Nat → Int32} (h0 : (xs 0 &&& 31).toInt = 19) (h1 : (xs 1).toInt = 6) : aj_LTF 6 xs 18 aj_lv0 [] (aj_sH (aj_rho xs) aj_h0) 98 aj_k0 := by
  refine aj_path (kn := aj_q19_6.1) aj_p19_6 (fun q hq => ?_) (fun o ho => ?_)
  · exact absurd hq List.not_mem_nil
  · rcases List.mem_cons.mp ho with rfl | ho
    · exact h0
    rcases List.mem_cons.mp ho with rfl | ho
    · exact h1
    rcases List.mem_cons.mp ho with rfl | ho
    · exact h1
    exact absurd ho List.not_mem_nil
theorem aj_way19o {xs : Nat → Int32} (h0 : (xs 0 &&& 31).toInt = 19) (h1 : (xs 1).toInt < 0 ∨ 6 < (xs 1).toInt) : aj_LTF 6 xs 18 aj_lv0 [] (aj_sH (aj_rho xs) aj_h0) 98 aj_k0 := by
  refine aj_path (kn := aj_q19o.1) aj_p19o (fun q hq => ?_) (fun o ho => ?_)
  · exact absurd hq List.not_mem_nil
  · rcases List.mem_cons.mp ho with rfl | ho
    · exact h0
    rcases List.mem_cons.mp ho with rfl | ho
    · exact h1
    rcases List.mem_cons.mp ho with rfl | ho
    · exact h1
    exact absurd ho List.not_mem_nil
theorem aj_way20 {xs : Nat → Int32} (h0 : (xs 0 &&& 31).toInt < 0 ∨ 19 < (xs 0 &&& 31).toInt) : aj_LTF 6 xs 18 aj_lv0 [] (aj_sH (aj_rho xs) aj_h0) 98 aj_k0 := by
  refine aj_path (kn := aj_q20.1) aj_p20 (fun q hq => ?_) (fun o ho => ?_)
  · exact absurd hq List.not_mem_nil
  · rcases List.mem_cons.mp ho with rfl | ho
    · exact h0
    exact absurd ho List.not_mem_nil
