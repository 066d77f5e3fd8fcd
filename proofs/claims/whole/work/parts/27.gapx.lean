theorem gF_t {h : Nat → Bool} {i : Nat} (e : h i = true) : gF h (i + 1) = none := by simp [gF, e]
theorem gF_n {h : Nat → Bool} {i : Nat} (e : h i = false) (g : gF h i = none) : gF h (i + 1) = some i := by simp [gF, e, g]
theorem gF_s {h : Nat → Bool} {i y : Nat} (e : h i = false) (g : gF h i = some y) : gF h (i + 1) = gF h i := by simp [gF, e, g]
theorem gC_f {h : Nat → Bool} {i : Nat} (e : h i = false) : gC h (i + 1) = gC h i := by simp [gC, e]
theorem gC_n {h : Nat → Bool} {i : Nat} (g : gF h i = none) : gC h (i + 1) = gC h i := by simp [gC, g]
theorem gC_s {h : Nat → Bool} {i y : Nat} (e : h i = true) (g : gF h i = some y) : gC h (i + 1) = gC h i + 1 := by simp [gC, e, g]
theorem gapB_f {h : Nat → Bool} {q i : Nat} (e : h i = false) : gapB h q i = false := by simp [gapB, e]
theorem gapB_n {h : Nat → Bool} {q i : Nat} (g : gF h i = none) : gapB h q i = false := by simp [gapB, g]
theorem gapB_c {h : Nat → Bool} {q i : Nat} (g : ¬ gC h i = q) : gapB h q i = false := by simp [gapB, g]
theorem gapB_t {h : Nat → Bool} {q i y : Nat} (e : h i = true) (g : gF h i = some y) (c : gC h i = q) : gapB h q i = true := by simp [gapB, e, g, c]
theorem gF_congr {h g : Nat → Bool} {i : Nat} (e : ∀ j, j < i → h j = g j) : gF h i = gF g i := by
  induction i with
  | zero => rfl
  | succ i ih => simp only [gF]; rw [ih (fun j hj => e j (by omega)), e i (by omega)]
theorem gC_congr {h g : Nat → Bool} {i : Nat} (e : ∀ j, j < i → h j = g j) : gC h i = gC g i := by
  induction i with
  | zero => rfl
  | succ i ih => simp only [gC]; rw [ih (fun j hj => e j (by omega)), e i (by omega), gF_congr (fun j hj => e j (by omega))]
theorem gapR_congr {h g : Nat → Bool} {n q : Nat} (e : ∀ j, j < n → h j = g j) : gapR h n q = gapR g n q := by
  unfold gapR
  have h1 : fiB (gapB h q) n = fiB (gapB g q) n := fiB_congr (fun j hj => by
    unfold gapB; rw [e j hj, gF_congr (fun k hk => e k (by omega)), gC_congr (fun k hk => e k (by omega))])
  rw [h1]
  cases hf : fiB (gapB g q) n with
  | none => rfl
  | some i =>
    have := (fiB_spec hf).1
    simp only []
    rw [gF_congr (fun k hk => e k (by omega))]
theorem gap_none {h : Nat → Bool} {n q : Nat} (e : fiB (gapB h q) n = none) : gapR h n q = -1 := by unfold gapR; rw [e]
theorem gap_some {h : Nat → Bool} {n q i y : Nat} (e : fiB (gapB h q) n = some i) (g : gF h i = some y) : gapR h n q = nI (100 * y + i - 1) := by unfold gapR; rw [e]; simp only [g]; rfl
theorem gap_val {y i : Nat} (h : y < i) : (100 : Int32) * nI y + nI i - 1 = nI (100 * y + i - 1) := by
  obtain ⟨z, rfl⟩ : ∃ z, i = z + 1 := ⟨i - 1, by omega⟩
  rw [show (100 : Int32) = nI 100 from rfl, pk_mul, nI_add, show 100 * y + (z + 1) = (100 * y + z) + 1 from by omega, nI_pred]
  congr 1
