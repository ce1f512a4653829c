/-! THE MODEL OF THE CHECKER, code by code (printed by wip/p7/gen_c18.py) -/
section MDK
variable {cn : Option Int} {T : md_T} {U : md_U} {cu : Option (Int64 × List Int32)} {TB : md_TB} {rw : Int × Int} {sk : List (List Int64)} {pk : List Int64} {fr : Int64} {near lead : Nat}
theorem md_k180 : md_ckg cn T (U, cu, TB, rw, sk, pk, fr) (180, near, lead) = ((if 0 ≤ md_ix (T.2 near) (U.map (·.1)) 0 then some none else if 8 ≤ U.length then none else md_k ((U, some (T.2 near, []), TB, rw, sk, pk, fr), 0)) : md_O (md_CS × Int)) := rfl
theorem md_k181 : md_ckg cn T (U, cu, TB, rw, sk, pk, fr) (181, near, lead) = ((match cu with
      | none => none
      | some (n, vs) => if md_it T near ∈ vs ∨ 64 ≤ vs.length then some none else md_k ((U, some (n, vs ++ [md_it T near]), TB, rw, sk, pk, fr), 0)) : md_O (md_CS × Int)) := rfl
theorem md_k182 : md_ckg cn T (U, cu, TB, rw, sk, pk, fr) (182, near, lead) = ((match cu with
      | some (n, [f]) => if f.toInt < -100000 ∨ 100000 < f.toInt then none else if (md_it T near).toInt < f.toInt ∨ f.toInt + 63 < (md_it T near).toInt then some none else md_k ((U, some (n, (List.range ((md_it T near).toInt - f.toInt + 1).toNat).map (fun i => f + Int32.ofNat i)), TB, rw, sk, pk, fr), 0)
      | _ => none) : md_O (md_CS × Int)) := rfl
theorem md_k183 : md_ckg cn T (U, cu, TB, rw, sk, pk, fr) (183, near, lead) = ((match cu with
      | none => none
      | some x => if 1024 < md_all U * x.2.length then some none else if 8 ≤ U.length then none else md_k ((U ++ [x], none, TB, rw, sk, pk, fr), 0)) : md_O (md_CS × Int)) := rfl
theorem md_k184 : md_ckg cn T (U, cu, TB, rw, sk, pk, fr) (184, near, lead) = ((if 0 ≤ md_ix (T.2 near) (TB.map (·.1)) 0 then some none else if 10 ≤ TB.length then none else md_k ((U, cu, TB ++ [(T.2 near, false, [])], rw, sk, pk, fr), 0)) : md_O (md_CS × Int)) := rfl
theorem md_k185 : md_ckg cn T (U, cu, TB, rw, sk, pk, fr) (185, near, lead) = ((match TB.getLast? with
      | none => none
      | some (n, b, cs) => if 6 ≤ cs.length ∨ T.2 near ∈ cs then some none else md_k ((U, cu, TB.dropLast ++ [(n, b, cs ++ [T.2 near])], rw, sk, pk, fr), 0)) : md_O (md_CS × Int)) := rfl
theorem md_k186 : md_ckg cn T (U, cu, TB, rw, sk, pk, fr) (186, near, lead) = ((if md_ix (T.2 near) (TB.map (·.1)) 0 < 0 then some none else match TB[(md_ix (T.2 near) (TB.map (·.1)) 0).toNat]? with
      | none => none
      | some (_, b, cs) => if b = true ∨ (cn ≠ none ∧ cn ≠ some (cs.length : Int)) then some none else md_k ((U, cu, TB, ((cs.length : Int), 0), sk, pk, fr), md_ix (T.2 near) (TB.map (·.1)) 0)) : md_O (md_CS × Int)) := rfl
theorem md_k187 : md_ckg cn T (U, cu, TB, rw, sk, pk, fr) (187, near, lead) = (md_k ((U, cu, TB, (rw.1, rw.2 + 1), sk, pk, fr), 0) : md_O (md_CS × Int)) := rfl
theorem md_k137 : md_ckg cn T (U, cu, TB, rw, sk, pk, fr) (137, near, lead) = ((if rw.1 = rw.2 then md_k ((U, cu, TB, rw, sk, pk, fr), 0) else some none) : md_O (md_CS × Int)) := rfl
theorem md_k191 : md_ckg cn T (U, cu, TB, rw, sk, pk, fr) (191, near, lead) = ((if 0 ≤ md_ix (T.2 near) (TB.map (·.1)) 0 then some none else md_k ((U, cu, TB, rw, sk, pk, fr), 0)) : md_O (md_CS × Int)) := rfl
theorem md_k192 : md_ckg cn T (U, cu, TB, rw, sk, pk, fr) (192, near, lead) = ((match sk with
      | [] => none
      | cs :: sk' => if 10 ≤ TB.length then none else md_k ((U, cu, TB ++ [(T.2 (lead + 1), true, cs)], rw, sk', pk, fr), (TB.length : Int))) : md_O (md_CS × Int)) := rfl
theorem md_k200 : md_ckg cn T (U, cu, TB, rw, sk, pk, fr) (200, near, lead) = (md_k ((U, cu, TB, rw, sk, pk, fr), (md_it T near).toInt) : md_O (md_CS × Int)) := rfl
theorem md_k201 : md_ckg cn T (U, cu, TB, rw, sk, pk, fr) (201, near, lead) = ((if md_ix (T.2 near) (U.map (·.1)) 0 < 0 then some none else md_k ((U, cu, TB, rw, sk, pk, fr), md_ix (T.2 near) (U.map (·.1)) 0)) : md_O (md_CS × Int)) := rfl
theorem md_k202 : md_ckg cn T (U, cu, TB, rw, sk, pk, fr) (202, near, lead) = ((match sk with
      | [] => none
      | cs :: _ => if md_ix (T.2 near) cs 0 < 0 then some none else md_k ((U, cu, TB, rw, sk, pk, fr), md_ix (T.2 near) cs 0)) : md_O (md_CS × Int)) := rfl
theorem md_k203 : md_ckg cn T (U, cu, TB, rw, sk, pk, fr) (203, near, lead) = (md_k ((U, cu, TB, rw, sk, pk, fr), T.1 near) : md_O (md_CS × Int)) := rfl
theorem md_k210 : md_ckg cn T (U, cu, TB, rw, sk, pk, fr) (210, near, lead) = ((if md_ix (T.2 near) (TB.map (·.1)) 0 < 0 then some none else match TB[(md_ix (T.2 near) (TB.map (·.1)) 0).toNat]? with
      | none => none
      | some (_, _, cs) => if 20 ≤ sk.length then none else md_k ((U, cu, TB, rw, cs :: sk, pk, fr), md_ix (T.2 near) (TB.map (·.1)) 0)) : md_O (md_CS × Int)) := rfl
theorem md_k211 : md_ckg cn T (U, cu, TB, rw, sk, pk, fr) (211, near, lead) = (md_pm U cu TB rw pk fr sk : md_O (md_CS × Int)) := rfl
theorem md_k212 : md_ckg cn T (U, cu, TB, rw, sk, pk, fr) (212, near, lead) = (md_pm U cu TB rw pk fr sk : md_O (md_CS × Int)) := rfl
theorem md_k213 : md_ckg cn T (U, cu, TB, rw, sk, pk, fr) (213, near, lead) = ((match sk with
      | y :: x :: sk' => if 6 < x.length + (md_new x y).length then some none else md_k ((U, cu, TB, rw, (x ++ md_new x y) :: sk', pk, fr), (md_map x y 0 : Int))
      | _ => none) : md_O (md_CS × Int)) := rfl
theorem md_k215 : md_ckg cn T (U, cu, TB, rw, sk, pk, fr) (215, near, lead) = (md_k ((U, cu, TB, rw, sk, [], fr), 0) : md_O (md_CS × Int)) := rfl
theorem md_k216 : md_ckg cn T (U, cu, TB, rw, sk, pk, fr) (216, near, lead) = ((match sk with
      | [] => none
      | cs :: _ => if md_ix (T.2 near) cs 0 < 0 then some none else if T.2 near ∈ pk then some none else if 6 ≤ pk.length then none else md_k ((U, cu, TB, rw, sk, pk ++ [T.2 near], fr), md_ix (T.2 near) cs 0)) : md_O (md_CS × Int)) := rfl
theorem md_k217 : md_ckg cn T (U, cu, TB, rw, sk, pk, fr) (217, near, lead) = ((match sk with
      | [] => none
      | _ :: sk' => md_k ((U, cu, TB, rw, pk :: sk', pk, fr), 0)) : md_O (md_CS × Int)) := rfl
theorem md_k218 : md_ckg cn T (U, cu, TB, rw, sk, pk, fr) (218, near, lead) = ((match sk with
      | [] => none
      | cs :: _ => if 0 ≤ md_ix (T.2 near) cs 0 then some none else md_k ((U, cu, TB, rw, sk, pk, T.2 near), 0)) : md_O (md_CS × Int)) := rfl
theorem md_k219 : md_ckg cn T (U, cu, TB, rw, sk, pk, fr) (219, near, lead) = ((match sk with
      | [] => none
      | cs :: sk' => if md_ix (T.2 near) cs 0 < 0 then some none else if fr ∈ cs then none else md_k ((U, cu, TB, rw, cs.set (md_ix (T.2 near) cs 0).toNat fr :: sk', pk, fr), md_ix (T.2 near) cs 0)) : md_O (md_CS × Int)) := rfl
theorem md_k220 : md_ckg cn T (U, cu, TB, rw, sk, pk, fr) (220, near, lead) = ((if 6 ≤ pk.length then some none else md_k ((U, cu, TB, rw, sk, pk, fr), 0)) : md_O (md_CS × Int)) := rfl
theorem md_k221 : md_ckg cn T (U, cu, TB, rw, sk, pk, fr) (221, near, lead) = (md_k ((U, cu, TB, rw, sk, pk, fr), T.1 near) : md_O (md_CS × Int)) := rfl
theorem md_k222 : md_ckg cn T (U, cu, TB, rw, sk, pk, fr) (222, near, lead) = ((match sk with
      | [] => none
      | cs :: _ => if md_ix (T.2 near) cs 0 < 0 then some none else md_k ((U, cu, TB, rw, sk, pk, fr), md_ix (T.2 near) cs 0)) : md_O (md_CS × Int)) := rfl
theorem md_k223 : md_ckg cn T (U, cu, TB, rw, sk, pk, fr) (223, near, lead) = ((match sk with
      | [] => none
      | _ :: sk' => if T.2 near ∈ pk then some none else if 6 ≤ pk.length then none else md_k ((U, cu, TB, rw, (pk ++ [T.2 near]) :: sk', pk, fr), 0)) : md_O (md_CS × Int)) := rfl
theorem md_k170 : md_ckg cn T (U, cu, TB, rw, sk, pk, fr) (170, near, lead) = md_k ((U, cu, TB, rw, sk, pk, fr), 0) := rfl
theorem md_k171 : md_ckg cn T (U, cu, TB, rw, sk, pk, fr) (171, near, lead) = md_k ((U, cu, TB, rw, sk, pk, fr), 0) := rfl
theorem md_k172 : md_ckg cn T (U, cu, TB, rw, sk, pk, fr) (172, near, lead) = md_k ((U, cu, TB, rw, sk, pk, fr), 0) := rfl
theorem md_k188 : md_ckg cn T (U, cu, TB, rw, sk, pk, fr) (188, near, lead) = md_k ((U, cu, TB, rw, sk, pk, fr), 0) := rfl
theorem md_k189 : md_ckg cn T (U, cu, TB, rw, sk, pk, fr) (189, near, lead) = md_k ((U, cu, TB, rw, sk, pk, fr), 0) := rfl
theorem md_k190 : md_ckg cn T (U, cu, TB, rw, sk, pk, fr) (190, near, lead) = md_k ((U, cu, TB, rw, sk, pk, fr), 0) := rfl
theorem md_k204 : md_ckg cn T (U, cu, TB, rw, sk, pk, fr) (204, near, lead) = md_k ((U, cu, TB, rw, sk, pk, fr), 0) := rfl
theorem md_k205 : md_ckg cn T (U, cu, TB, rw, sk, pk, fr) (205, near, lead) = md_k ((U, cu, TB, rw, sk, pk, fr), 0) := rfl
theorem md_k206 : md_ckg cn T (U, cu, TB, rw, sk, pk, fr) (206, near, lead) = md_k ((U, cu, TB, rw, sk, pk, fr), 0) := rfl
theorem md_k207 : md_ckg cn T (U, cu, TB, rw, sk, pk, fr) (207, near, lead) = md_k ((U, cu, TB, rw, sk, pk, fr), 0) := rfl
theorem md_k214 : md_ckg cn T (U, cu, TB, rw, sk, pk, fr) (214, near, lead) = md_k ((U, cu, TB, rw, sk, pk, fr), 0) := rfl
theorem md_kx {a : Int} (h : a ≠ 180 ∧ a ≠ 181 ∧ a ≠ 182 ∧ a ≠ 183 ∧ a ≠ 184 ∧ a ≠ 185 ∧ a ≠ 186 ∧ a ≠ 187 ∧ a ≠ 137 ∧ a ≠ 191 ∧ a ≠ 192 ∧ a ≠ 200 ∧ a ≠ 201 ∧ a ≠ 202 ∧ a ≠ 203 ∧ a ≠ 210 ∧ a ≠ 211 ∧ a ≠ 212 ∧ a ≠ 213 ∧ a ≠ 215 ∧ a ≠ 216 ∧ a ≠ 217 ∧ a ≠ 218 ∧ a ≠ 219 ∧ a ≠ 220 ∧ a ≠ 221 ∧ a ≠ 222 ∧ a ≠ 223) : md_ckg cn T (U, cu, TB, rw, sk, pk, fr) (a, near, lead) = md_k ((U, cu, TB, rw, sk, pk, fr), 0) := by
  obtain ⟨h180, h181, h182, h183, h184, h185, h186, h187, h137, h191, h192, h200, h201, h202, h203, h210, h211, h212, h213, h215, h216, h217, h218, h219, h220, h221, h222, h223⟩ := h
  unfold md_ckg
  dsimp only
  rw [if_neg h180, if_neg h181, if_neg h182, if_neg h183, if_neg h184, if_neg h185, if_neg h186, if_neg h187, if_neg h137, if_neg h191, if_neg h192, if_neg h200, if_neg h201, if_neg h202, if_neg h203, if_neg h210, if_neg (by omega), if_neg h213, if_neg h215, if_neg h216, if_neg h217, if_neg h218, if_neg h219, if_neg h220, if_neg h221, if_neg h222, if_neg h223]
end MDK
