theorem jn_hit {S : CS} {d o i : Nat} (h1 : c_see (jn S d o i).1 o i = true) (h2 : c_has (jn S d o i).1 d i = false) : jn S d o (i + 1) = (tk (jn S d o i).1 d i, (jn S d o i).2 + 1) := by
  simp only [jn, h1, h2, Bool.not_false, Bool.and_self, if_true]
theorem jn_m1 {S : CS} {d o i : Nat} (h1 : c_see (jn S d o i).1 o i = false) : jn S d o (i + 1) = jn S d o i := by
  simp [jn, h1]
theorem jn_m2 {S : CS} {d o i : Nat} (h2 : c_has (jn S d o i).1 d i = true) : jn S d o (i + 1) = jn S d o i := by
  simp [jn, h2]
theorem nI_n1 {z : Nat} (h : z < 2 ^ 31) : ¬ nI z = -1 := fun e => by
  have h1 := nI_pos h
  rw [e] at h1
  exact absurd (by decide) h1
