/-! THE REAL TIME: the reference's way and the class's way -/
theorem mu_all {ow : Nat → Int32} {x : Int32} {i : Nat} (h : ∀ j, j < i → ow j ≤ x) : mu ow x i = i := by
  induction i with
  | zero => rfl
  | succ i ih => exact mu_step (ih (fun j hj => h j (by omega))) (h i (by omega))
def RiseH (mk : Nat) (ow re : Nat → Int32) : Prop := (∀ j, j < mk → ∃ a b : Nat, a ≤ 1000000 ∧ b ≤ 1000000 ∧ ow j = nI a ∧ re j = nI b) ∧ (∀ j, j + 1 < mk → ow j < ow (j + 1) ∧ re j ≤ re (j + 1))
theorem rise_le {mk : Nat} {ow re : Nat → Int32} (h : RiseH mk ow re) {i j : Nat} (hij : i ≤ j) (hj : j < mk) : ow i ≤ ow j := by
  induction j with
  | zero => have : i = 0 := by omega
            subst this; exact Int32.le_refl _
  | succ j ih =>
    by_cases e : i = j + 1
    · subst e; exact Int32.le_refl _
    · exact Int32.le_trans (ih (by omega) (by omega)) (Int32.le_of_lt (h.2 j hj).1)
theorem i_asb (x a b : Int32) : x + a - b = x + (a - b) := by
  rw [Int32.sub_eq_add_neg, Int32.sub_eq_add_neg, Int32.add_assoc]
theorem i_sxx (x : Int32) : x - x = 0 := Int32.sub_self _
theorem i_xab (x a : Int32) : x + a - x = a := by rw [Int32.add_comm, i_asb, i_sxx, Int32.add_zero]
theorem rb_0 {ow re : Nat → Int32} {j : Nat} : rb ow re j (ow j) = re j := by
  unfold rb
  split
  · rw [i_sxx, show (0 : Int32).toInt64 = 0 from rfl, Int64.mul_zero, Int64.zero_div, show (0 : Int64).toInt32 = 0 from rfl, Int32.add_zero]
  · rfl
theorem rt_lo {mk : Nat} {ow re : Nat → Int32} {x : Int32} (h : RiseH mk ow re) (hm : 0 < mk) (hx : x ≤ ow 0) : x + re 0 - ow 0 = rt mk ow re x := by
  unfold rt
  rw [if_neg (by omega), i_asb]
  by_cases e : x = ow 0
  · by_cases h1 : mk = 1
    · have hmu : mu ow x mk = mk := mu_all (fun j hj => by
        have : j = 0 := by omega
        subst this; rw [e]; exact Int32.le_refl _)
      rw [hmu, if_neg (by omega), if_neg (by omega), h1]
    · have hmu : mu ow x mk = 1 := mu_stop (mu_all (fun j hj => by
        have : j = 0 := by omega
        subst this; rw [e]; exact Int32.le_refl _)) (by rw [e]; exact Int32.not_le.mpr (h.2 0 (by omega)).1) (by omega)
      rw [hmu, if_pos (by omega), e, show 1 - 1 = 0 from rfl, rb_0, ← i_asb, i_xab]
  · have hlt : x < ow 0 := Int32.lt_of_le_of_ne hx e
    have hmu : mu ow x mk = 0 := mu_stop rfl (Int32.not_le.mpr hlt) (by omega)
    rw [hmu, if_neg (by omega), if_pos rfl]
theorem rt_hi {mk : Nat} {ow re : Nat → Int32} {x : Int32} (h : RiseH mk ow re) (hm : 0 < mk) (hx : ow (mk - 1) ≤ x) : x + re (mk - 1) - ow (mk - 1) = rt mk ow re x := by
  unfold rt
  have hmu : mu ow x mk = mk := mu_all (fun j hj => Int32.le_trans (rise_le h (show j ≤ mk - 1 by omega) (by omega)) hx)
  rw [if_neg (by omega), i_asb, hmu, if_neg (by omega), if_neg (by omega)]
theorem rt_mid {mk b : Nat} {ow re : Nat → Int32} {x : Int32} (h : RiseH mk ow re) (hb0 : 0 < b) (hb : b < mk) (hall : ∀ j, j < b → ow j < x) (hx : x ≤ ow b) (hl : x < ow (mk - 1)) :
    re (b - 1) + ((re b - re (b - 1)).toInt64 * (x - ow (b - 1)).toInt64 / (ow b - ow (b - 1)).toInt64).toInt32 = rt mk ow re x := by
  obtain ⟨a, rfl⟩ : ∃ a, b = a + 1 := ⟨b - 1, by omega⟩
  rw [show a + 1 - 1 = a from rfl]
  obtain ⟨A, A', hA, hA', eA, eA'⟩ := h.1 a (by omega)
  obtain ⟨B, B', hB, hB', eB, eB'⟩ := h.1 (a + 1) hb
  obtain ⟨hr1, hr2⟩ := h.2 a hb
  have hAB : A < B := by rw [eA, eB] at hr1; exact (nI_ltI (by omega) (by omega)).mp hr1
  have hAB' : A' ≤ B' := by rw [eA', eB'] at hr2; exact (nI_leI (by omega) (by omega)).mp hr2
  have hsp : 0 < ow (a + 1) - ow a := by
    rw [eA, eB, pk_sub (by omega)]
    exact (nI_ltI (a := 0) (by omega) (by omega)).mpr (by omega)
  unfold rt
  rw [if_neg (by omega)]
  by_cases e : x = ow (a + 1)
  · have hne : a + 1 < mk - 1 := by
      rcases Nat.lt_or_ge (a + 1) (mk - 1) with q | q
      · exact q
      · have : a + 1 = mk - 1 := by omega
        rw [e, this] at hl; exact (Int32.lt_irrefl hl).elim
    have hmu : mu ow x mk = a + 2 := mu_stop (mu_all (fun j hj => by
      by_cases q : j = a + 1
      · subst q; rw [e]; exact Int32.le_refl _
      · exact Int32.le_of_lt (hall j (by omega)))) (by rw [e]; exact Int32.not_le.mpr (h.2 (a + 1) (by omega)).1) (by omega)
    rw [hmu, if_pos (by omega), show a + 2 - 1 = a + 1 from rfl, e, rb_0, eA, eB, eA', eB', pk_sub (by omega), pk_sub (by omega), nI_l (by omega), nI_l (by omega), lN_mul, pk_lDiv (by
      have : (B' - A') * (B - A) ≤ 1000000 * 1000000 := Nat.mul_le_mul (by omega) (by omega)
      omega) (by omega) (by omega), Nat.mul_div_cancel _ (by omega), lN_i, nI_add]
    congr 1; omega
  · have hlt : x < ow (a + 1) := Int32.lt_of_le_of_ne hx e
    have hmu : mu ow x mk = a + 1 := mu_stop (mu_all (fun j hj => Int32.le_of_lt (hall j (by omega)))) (Int32.not_le.mpr hlt) (by omega)
    rw [hmu, if_pos (by omega), show a + 1 - 1 = a from rfl]
    unfold rb
    rw [if_pos hsp]
