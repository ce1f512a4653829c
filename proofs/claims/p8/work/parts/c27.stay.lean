/-! THE MODEL OF THE CHECKER: what stays (printed by wip/p7/gen_c27.py) -/
theorem md_ck_rw {cn : Option Int} {T : md_T} {s' : md_CS} {arg : Int} {U : md_U} {cu : Option (Int64 × List Int32)} {TB : md_TB} {rw : Int × Int} {sk : List (List Int64)} {pk : List Int64} {fr : Int64} {a : Int} {near lead : Nat} (h186 : a ≠ 186) (h187 : a ≠ 187) (h : md_ckg cn T (U, cu, TB, rw, sk, pk, fr) (a, near, lead) = some (some (s', arg))) : s'.2.2.2.1 = rw := by
  by_cases h180 : a = 180
  · subst h180; rw [md_k180] at h
    (repeat' split at h) <;> first | (cases h; done) | (cases md_k_inj h; rfl)
  by_cases h181 : a = 181
  · subst h181; rw [md_k181] at h
    (repeat' split at h) <;> first | (cases h; done) | (cases md_k_inj h; rfl)
  by_cases h182 : a = 182
  · subst h182; rw [md_k182] at h
    (repeat' split at h) <;> first | (cases h; done) | (cases md_k_inj h; rfl)
  by_cases h183 : a = 183
  · subst h183; rw [md_k183] at h
    (repeat' split at h) <;> first | (cases h; done) | (cases md_k_inj h; rfl)
  by_cases h184 : a = 184
  · subst h184; rw [md_k184] at h
    (repeat' split at h) <;> first | (cases h; done) | (cases md_k_inj h; rfl)
  by_cases h185 : a = 185
  · subst h185; rw [md_k185] at h
    (repeat' split at h) <;> first | (cases h; done) | (cases md_k_inj h; rfl)
  by_cases h137 : a = 137
  · subst h137; rw [md_k137] at h
    (repeat' split at h) <;> first | (cases h; done) | (cases md_k_inj h; rfl)
  by_cases h191 : a = 191
  · subst h191; rw [md_k191] at h
    (repeat' split at h) <;> first | (cases h; done) | (cases md_k_inj h; rfl)
  by_cases h192 : a = 192
  · subst h192; rw [md_k192] at h
    (repeat' split at h) <;> first | (cases h; done) | (cases md_k_inj h; rfl)
  by_cases h200 : a = 200
  · subst h200; rw [md_k200] at h
    (repeat' split at h) <;> first | (cases h; done) | (cases md_k_inj h; rfl)
  by_cases h201 : a = 201
  · subst h201; rw [md_k201] at h
    (repeat' split at h) <;> first | (cases h; done) | (cases md_k_inj h; rfl)
  by_cases h202 : a = 202
  · subst h202; rw [md_k202] at h
    (repeat' split at h) <;> first | (cases h; done) | (cases md_k_inj h; rfl)
  by_cases h203 : a = 203
  · subst h203; rw [md_k203] at h
    (repeat' split at h) <;> first | (cases h; done) | (cases md_k_inj h; rfl)
  by_cases h210 : a = 210
  · subst h210; rw [md_k210] at h
    (repeat' split at h) <;> first | (cases h; done) | (cases md_k_inj h; rfl)
  by_cases h211 : a = 211
  · subst h211; rw [md_k211] at h; unfold md_pm at h
    (repeat' split at h) <;> first | (cases h; done) | (cases md_k_inj h; rfl)
  by_cases h212 : a = 212
  · subst h212; rw [md_k212] at h; unfold md_pm at h
    (repeat' split at h) <;> first | (cases h; done) | (cases md_k_inj h; rfl)
  by_cases h213 : a = 213
  · subst h213; rw [md_k213] at h
    (repeat' split at h) <;> first | (cases h; done) | (cases md_k_inj h; rfl)
  by_cases h215 : a = 215
  · subst h215; rw [md_k215] at h
    (repeat' split at h) <;> first | (cases h; done) | (cases md_k_inj h; rfl)
  by_cases h216 : a = 216
  · subst h216; rw [md_k216] at h
    (repeat' split at h) <;> first | (cases h; done) | (cases md_k_inj h; rfl)
  by_cases h217 : a = 217
  · subst h217; rw [md_k217] at h
    (repeat' split at h) <;> first | (cases h; done) | (cases md_k_inj h; rfl)
  by_cases h218 : a = 218
  · subst h218; rw [md_k218] at h
    (repeat' split at h) <;> first | (cases h; done) | (cases md_k_inj h; rfl)
  by_cases h219 : a = 219
  · subst h219; rw [md_k219] at h
    (repeat' split at h) <;> first | (cases h; done) | (cases md_k_inj h; rfl)
  by_cases h220 : a = 220
  · subst h220; rw [md_k220] at h
    (repeat' split at h) <;> first | (cases h; done) | (cases md_k_inj h; rfl)
  by_cases h221 : a = 221
  · subst h221; rw [md_k221] at h
    (repeat' split at h) <;> first | (cases h; done) | (cases md_k_inj h; rfl)
  by_cases h222 : a = 222
  · subst h222; rw [md_k222] at h
    (repeat' split at h) <;> first | (cases h; done) | (cases md_k_inj h; rfl)
  by_cases h223 : a = 223
  · subst h223; rw [md_k223] at h
    (repeat' split at h) <;> first | (cases h; done) | (cases md_k_inj h; rfl)
  rw [md_kx ⟨h180, h181, h182, h183, h184, h185, h186, h187, h137, h191, h192, h200, h201, h202, h203, h210, h211, h212, h213, h215, h216, h217, h218, h219, h220, h221, h222, h223⟩] at h
  cases md_k_inj h; rfl
theorem md_ck_cn {cn cn' : Option Int} {T : md_T} {U : md_U} {cu : Option (Int64 × List Int32)} {TB : md_TB} {rw : Int × Int} {sk : List (List Int64)} {pk : List Int64} {fr : Int64} {a : Int} {near lead : Nat} (h186 : a ≠ 186) : md_ckg cn T (U, cu, TB, rw, sk, pk, fr) (a, near, lead) = md_ckg cn' T (U, cu, TB, rw, sk, pk, fr) (a, near, lead) := by
  by_cases h180 : a = 180
  · subst h180; rw [md_k180, md_k180]
  by_cases h181 : a = 181
  · subst h181; rw [md_k181, md_k181]
  by_cases h182 : a = 182
  · subst h182; rw [md_k182, md_k182]
  by_cases h183 : a = 183
  · subst h183; rw [md_k183, md_k183]
  by_cases h184 : a = 184
  · subst h184; rw [md_k184, md_k184]
  by_cases h185 : a = 185
  · subst h185; rw [md_k185, md_k185]
  by_cases h187 : a = 187
  · subst h187; rw [md_k187, md_k187]
  by_cases h137 : a = 137
  · subst h137; rw [md_k137, md_k137]
  by_cases h191 : a = 191
  · subst h191; rw [md_k191, md_k191]
  by_cases h192 : a = 192
  · subst h192; rw [md_k192, md_k192]
  by_cases h200 : a = 200
  · subst h200; rw [md_k200, md_k200]
  by_cases h201 : a = 201
  · subst h201; rw [md_k201, md_k201]
  by_cases h202 : a = 202
  · subst h202; rw [md_k202, md_k202]
  by_cases h203 : a = 203
  · subst h203; rw [md_k203, md_k203]
  by_cases h210 : a = 210
  · subst h210; rw [md_k210, md_k210]
  by_cases h211 : a = 211
  · subst h211; rw [md_k211, md_k211]
  by_cases h212 : a = 212
  · subst h212; rw [md_k212, md_k212]
  by_cases h213 : a = 213
  · subst h213; rw [md_k213, md_k213]
  by_cases h215 : a = 215
  · subst h215; rw [md_k215, md_k215]
  by_cases h216 : a = 216
  · subst h216; rw [md_k216, md_k216]
  by_cases h217 : a = 217
  · subst h217; rw [md_k217, md_k217]
  by_cases h218 : a = 218
  · subst h218; rw [md_k218, md_k218]
  by_cases h219 : a = 219
  · subst h219; rw [md_k219, md_k219]
  by_cases h220 : a = 220
  · subst h220; rw [md_k220, md_k220]
  by_cases h221 : a = 221
  · subst h221; rw [md_k221, md_k221]
  by_cases h222 : a = 222
  · subst h222; rw [md_k222, md_k222]
  by_cases h223 : a = 223
  · subst h223; rw [md_k223, md_k223]
  rw [md_kx ⟨h180, h181, h182, h183, h184, h185, h186, h187, h137, h191, h192, h200, h201, h202, h203, h210, h211, h212, h213, h215, h216, h217, h218, h219, h220, h221, h222, h223⟩, md_kx ⟨h180, h181, h182, h183, h184, h185, h186, h187, h137, h191, h192, h200, h201, h202, h203, h210, h211, h212, h213, h215, h216, h217, h218, h219, h220, h221, h222, h223⟩]
